theorem dX12_job_79 : decode cX12_job 79 = .ok (.ireturn, 1) := by decide +kernel
theorem dX12_job_80 : decode cX12_job 80 = .ok (.aload_n 0, 1) := by decide +kernel
theorem dX12_job_81 : decode cX12_job 81 = .ok (.getfield 138, 3) := by decide +kernel
theorem dX12_job_84 : decode cX12_job 84 = .ok (.aload_n 0, 1) := by decide +kernel
theorem dX12_job_85 : decode cX12_job 85 = .ok (.getfield 313, 3) := by decide +kernel
theorem dX12_job_88 : decode cX12_job 88 = .ok (.iload_n 1, 1) := by decide +kernel
theorem dX12_job_89 : decode cX12_job 89 = .ok (.iastore, 1) := by decide +kernel
theorem dX12_job_90 : decode cX12_job 90 = .ok (.aload_n 0, 1) := by decide +kernel
theorem dX12_job_91 : decode cX12_job 91 = .ok (.dup, 1) := by decide +kernel
theorem dX12_job_92 : decode cX12_job 92 = .ok (.getfield 313, 3) := by decide +kernel
theorem dX12_job_95 : decode cX12_job 95 = .ok (.iconst 1, 1) := by decide +kernel
theorem dX12_job_96 : decode cX12_job 96 = .ok (.iadd, 1) := by decide +kernel
theorem dX12_job_97 : decode cX12_job 97 = .ok (.putfield 313, 3) := by decide +kernel
theorem dX12_job_100 : decode cX12_job 100 = .ok (.aload_n 0, 1) := by decide +kernel
theorem dX12_job_101 : decode cX12_job 101 = .ok (.getfield 313, 3) := by decide +kernel
theorem dX12_job_104 : decode cX12_job 104 = .ok (.ireturn, 1) := by decide +kernel
theorem dX12_mayBe_0 : decode cX12_mayBe 0 = .ok (.aload_n 0, 1) := by decide +kernel
theorem dX12_mayBe_1 : decode cX12_mayBe 1 = .ok (.getfield 31, 3) := by decide +kernel
theorem dX12_mayBe_4 : decode cX12_mayBe 4 = .ok (.aload_n 0, 1) := by decide +kernel
theorem dX12_mayBe_5 : decode cX12_mayBe 5 = .ok (.getfield 55, 3) := by decide +kernel
theorem dX12_mayBe_8 : decode cX12_mayBe 8 = .ok (.iload_n 1, 1) := by decide +kernel
theorem dX12_mayBe_9 : decode cX12_mayBe 9 = .ok (.iaload, 1) := by decide +kernel
theorem dX12_mayBe_10 : decode cX12_mayBe 10 = .ok (.iaload, 1) := by decide +kernel
theorem dX12_mayBe_11 : decode cX12_mayBe 11 = .ok (.iload_n 2, 1) := by decide +kernel
theorem dX12_mayBe_12 : decode cX12_mayBe 12 = .ok (.bipush 7, 2) := by decide +kernel
theorem dX12_mayBe_14 : decode cX12_mayBe 14 = .ok (.irem, 1) := by decide +kernel
theorem dX12_mayBe_15 : decode cX12_mayBe 15 = .ok (.ishr, 1) := by decide +kernel
theorem dX12_mayBe_16 : decode cX12_mayBe 16 = .ok (.iconst 1, 1) := by decide +kernel
theorem dX12_mayBe_17 : decode cX12_mayBe 17 = .ok (.iand, 1) := by decide +kernel
theorem dX12_mayBe_18 : decode cX12_mayBe 18 = .ok (.iconst 1, 1) := by decide +kernel
theorem dX12_mayBe_19 : decode cX12_mayBe 19 = .ok (.if_icmp .ne 26, 3) := by decide +kernel
theorem dX12_mayBe_22 : decode cX12_mayBe 22 = .ok (.aload_n 0, 1) := by decide +kernel
theorem dX12_mayBe_23 : decode cX12_mayBe 23 = .ok (.getfield 135, 3) := by decide +kernel
theorem dX12_mayBe_26 : decode cX12_mayBe 26 = .ok (.aload_n 0, 1) := by decide +kernel
theorem dX12_mayBe_27 : decode cX12_mayBe 27 = .ok (.getfield 46, 3) := by decide +kernel
theorem dX12_mayBe_30 : decode cX12_mayBe 30 = .ok (.aload_n 0, 1) := by decide +kernel
theorem dX12_mayBe_31 : decode cX12_mayBe 31 = .ok (.getfield 61, 3) := by decide +kernel
theorem dX12_mayBe_34 : decode cX12_mayBe 34 = .ok (.iload_n 1, 1) := by decide +kernel
theorem dX12_mayBe_35 : decode cX12_mayBe 35 = .ok (.iaload, 1) := by decide +kernel
theorem dX12_mayBe_36 : decode cX12_mayBe 36 = .ok (.iaload, 1) := by decide +kernel
theorem dX12_mayBe_37 : decode cX12_mayBe 37 = .ok (.iaload, 1) := by decide +kernel
theorem dX12_mayBe_38 : decode cX12_mayBe 38 = .ok (.ifCond .le 7, 3) := by decide +kernel
theorem dX12_mayBe_41 : decode cX12_mayBe 41 = .ok (.iconst 1, 1) := by decide +kernel
theorem dX12_mayBe_42 : decode cX12_mayBe 42 = .ok (.goto 4, 3) := by decide +kernel
theorem dX12_mayBe_45 : decode cX12_mayBe 45 = .ok (.iconst 0, 1) := by decide +kernel
theorem dX12_mayBe_46 : decode cX12_mayBe 46 = .ok (.ireturn, 1) := by decide +kernel
theorem dX12_lastDay_0 : decode cX12_lastDay 0 = .ok (.aload_n 0, 1) := by decide +kernel
theorem dX12_lastDay_1 : decode cX12_lastDay 1 = .ok (.getfield 190, 3) := by decide +kernel
theorem dX12_lastDay_4 : decode cX12_lastDay 4 = .ok (.aload_n 0, 1) := by decide +kernel
theorem dX12_lastDay_5 : decode cX12_lastDay 5 = .ok (.getfield 316, 3) := by decide +kernel
theorem dX12_lastDay_8 : decode cX12_lastDay 8 = .ok (.iadd, 1) := by decide +kernel
theorem dX12_lastDay_9 : decode cX12_lastDay 9 = .ok (.iconst 1, 1) := by decide +kernel
theorem dX12_lastDay_10 : decode cX12_lastDay 10 = .ok (.isub, 1) := by decide +kernel
theorem dX12_lastDay_11 : decode cX12_lastDay 11 = .ok (.sipush 9999, 3) := by decide +kernel
theorem dX12_lastDay_14 : decode cX12_lastDay 14 = .ok (.if_icmp .ge 17, 3) := by decide +kernel
theorem dX12_lastDay_17 : decode cX12_lastDay 17 = .ok (.aload_n 0, 1) := by decide +kernel
theorem dX12_lastDay_18 : decode cX12_lastDay 18 = .ok (.getfield 190, 3) := by decide +kernel
theorem dX12_lastDay_21 : decode cX12_lastDay 21 = .ok (.aload_n 0, 1) := by decide +kernel
theorem dX12_lastDay_22 : decode cX12_lastDay 22 = .ok (.getfield 316, 3) := by decide +kernel
theorem dX12_lastDay_25 : decode cX12_lastDay 25 = .ok (.iadd, 1) := by decide +kernel
theorem dX12_lastDay_26 : decode cX12_lastDay 26 = .ok (.iconst 1, 1) := by decide +kernel
theorem dX12_lastDay_27 : decode cX12_lastDay 27 = .ok (.isub, 1) := by decide +kernel
theorem dX12_lastDay_28 : decode cX12_lastDay 28 = .ok (.goto 6, 3) := by decide +kernel
theorem dX12_lastDay_31 : decode cX12_lastDay 31 = .ok (.sipush 9999, 3) := by decide +kernel
theorem dX12_lastDay_34 : decode cX12_lastDay 34 = .ok (.ireturn, 1) := by decide +kernel
theorem dX12_firstDay_0 : decode cX12_firstDay 0 = .ok (.iconst (-1), 1) := by decide +kernel
theorem dX12_firstDay_1 : decode cX12_firstDay 1 = .ok (.istore_n 2, 1) := by decide +kernel
theorem dX12_firstDay_2 : decode cX12_firstDay 2 = .ok (.aload_n 0, 1) := by decide +kernel
theorem dX12_firstDay_3 : decode cX12_firstDay 3 = .ok (.invokevirtual 319, 3) := by decide +kernel
theorem dX12_firstDay_6 : decode cX12_firstDay 6 = .ok (.istore_n 3, 1) := by decide +kernel
theorem dX12_firstDay_7 : decode cX12_firstDay 7 = .ok (.iload_n 3, 1) := by decide +kernel
theorem dX12_firstDay_8 : decode cX12_firstDay 8 = .ok (.aload_n 0, 1) := by decide +kernel
theorem dX12_firstDay_9 : decode cX12_firstDay 9 = .ok (.getfield 190, 3) := by decide +kernel
theorem dX12_firstDay_12 : decode cX12_firstDay 12 = .ok (.if_icmp .lt 24, 3) := by decide +kernel
theorem dX12_firstDay_15 : decode cX12_firstDay 15 = .ok (.aload_n 0, 1) := by decide +kernel
theorem dX12_firstDay_16 : decode cX12_firstDay 16 = .ok (.iload_n 1, 1) := by decide +kernel
theorem dX12_firstDay_17 : decode cX12_firstDay 17 = .ok (.iload_n 3, 1) := by decide +kernel
theorem dX12_firstDay_18 : decode cX12_firstDay 18 = .ok (.invokevirtual 323, 3) := by decide +kernel
theorem dX12_firstDay_21 : decode cX12_firstDay 21 = .ok (.ifCond .eq 7, 3) := by decide +kernel
theorem dX12_firstDay_24 : decode cX12_firstDay 24 = .ok (.iload_n 3, 1) := by decide +kernel
theorem dX12_firstDay_25 : decode cX12_firstDay 25 = .ok (.goto 4, 3) := by decide +kernel
theorem dX12_firstDay_28 : decode cX12_firstDay 28 = .ok (.iload_n 2, 1) := by decide +kernel
theorem dX12_firstDay_29 : decode cX12_firstDay 29 = .ok (.istore_n 2, 1) := by decide +kernel
theorem dX12_firstDay_30 : decode cX12_firstDay 30 = .ok (.iinc 3 (-1), 3) := by decide +kernel
theorem dX12_firstDay_33 : decode cX12_firstDay 33 = .ok (.goto (-26), 3) := by decide +kernel
theorem dX12_firstDay_36 : decode cX12_firstDay 36 = .ok (.iload_n 2, 1) := by decide +kernel
theorem dX12_firstDay_37 : decode cX12_firstDay 37 = .ok (.ireturn, 1) := by decide +kernel
theorem dX12_busy_0 : decode cX12_busy 0 = .ok (.iconst 0, 1) := by decide +kernel
theorem dX12_busy_1 : decode cX12_busy 1 = .ok (.istore 4, 2) := by decide +kernel
theorem dX12_busy_3 : decode cX12_busy 3 = .ok (.iconst 0, 1) := by decide +kernel
theorem dX12_busy_4 : decode cX12_busy 4 = .ok (.istore 5, 2) := by decide +kernel
theorem dX12_busy_6 : decode cX12_busy 6 = .ok (.iload 5, 2) := by decide +kernel
theorem dX12_busy_8 : decode cX12_busy 8 = .ok (.iload_n 3, 1) := by decide +kernel
theorem dX12_busy_9 : decode cX12_busy 9 = .ok (.if_icmp .ge 51, 3) := by decide +kernel
theorem dX12_busy_12 : decode cX12_busy 12 = .ok (.iload 4, 2) := by decide +kernel
theorem dX12_busy_14 : decode cX12_busy 14 = .ok (.aload_n 0, 1) := by decide +kernel
theorem dX12_busy_15 : decode cX12_busy 15 = .ok (.getfield 165, 3) := by decide +kernel
theorem dX12_busy_18 : decode cX12_busy 18 = .ok (.iload 5, 2) := by decide +kernel
theorem dX12_busy_20 : decode cX12_busy 20 = .ok (.iaload, 1) := by decide +kernel
theorem dX12_busy_21 : decode cX12_busy 21 = .ok (.iload_n 2, 1) := by decide +kernel
theorem dX12_busy_22 : decode cX12_busy 22 = .ok (.if_icmp .ne 28, 3) := by decide +kernel
theorem dX12_busy_25 : decode cX12_busy 25 = .ok (.aload_n 0, 1) := by decide +kernel
theorem dX12_busy_26 : decode cX12_busy 26 = .ok (.getfield 46, 3) := by decide +kernel
theorem dX12_busy_29 : decode cX12_busy 29 = .ok (.aload_n 0, 1) := by decide +kernel
theorem dX12_busy_30 : decode cX12_busy 30 = .ok (.getfield 61, 3) := by decide +kernel
theorem dX12_busy_33 : decode cX12_busy 33 = .ok (.aload_n 0, 1) := by decide +kernel
theorem dX12_busy_34 : decode cX12_busy 34 = .ok (.getfield 138, 3) := by decide +kernel
theorem dX12_busy_37 : decode cX12_busy 37 = .ok (.iload 5, 2) := by decide +kernel
theorem dX12_busy_39 : decode cX12_busy 39 = .ok (.iaload, 1) := by decide +kernel
theorem dX12_busy_40 : decode cX12_busy 40 = .ok (.iaload, 1) := by decide +kernel
theorem dX12_busy_41 : decode cX12_busy 41 = .ok (.iaload, 1) := by decide +kernel
theorem dX12_busy_42 : decode cX12_busy 42 = .ok (.iload_n 1, 1) := by decide +kernel
theorem dX12_busy_43 : decode cX12_busy 43 = .ok (.if_icmp .ne 7, 3) := by decide +kernel
theorem dX12_busy_46 : decode cX12_busy 46 = .ok (.iconst 1, 1) := by decide +kernel
theorem dX12_busy_47 : decode cX12_busy 47 = .ok (.goto 4, 3) := by decide +kernel
theorem dX12_busy_50 : decode cX12_busy 50 = .ok (.iconst 0, 1) := by decide +kernel
theorem dX12_busy_51 : decode cX12_busy 51 = .ok (.iadd, 1) := by decide +kernel
theorem dX12_busy_52 : decode cX12_busy 52 = .ok (.istore 4, 2) := by decide +kernel
theorem dX12_busy_54 : decode cX12_busy 54 = .ok (.iinc 5 1, 3) := by decide +kernel
theorem dX12_busy_57 : decode cX12_busy 57 = .ok (.goto (-51), 3) := by decide +kernel
theorem dX12_busy_60 : decode cX12_busy 60 = .ok (.iload 4, 2) := by decide +kernel
theorem dX12_busy_62 : decode cX12_busy 62 = .ok (.ireturn, 1) := by decide +kernel
theorem dX12_isLess_0 : decode cX12_isLess 0 = .ok (.aload_n 0, 1) := by decide +kernel
theorem dX12_isLess_1 : decode cX12_isLess 1 = .ok (.getfield 326, 3) := by decide +kernel
theorem dX12_isLess_4 : decode cX12_isLess 4 = .ok (.ifCond .lt 43, 3) := by decide +kernel
theorem dX12_isLess_7 : decode cX12_isLess 7 = .ok (.iload_n 1, 1) := by decide +kernel
theorem dX12_isLess_8 : decode cX12_isLess 8 = .ok (.aload_n 0, 1) := by decide +kernel
theorem dX12_isLess_9 : decode cX12_isLess 9 = .ok (.getfield 326, 3) := by decide +kernel
theorem dX12_isLess_12 : decode cX12_isLess 12 = .ok (.if_icmp .lt 35, 3) := by decide +kernel
theorem dX12_isLess_15 : decode cX12_isLess 15 = .ok (.iload_n 1, 1) := by decide +kernel
theorem dX12_isLess_16 : decode cX12_isLess 16 = .ok (.aload_n 0, 1) := by decide +kernel
theorem dX12_isLess_17 : decode cX12_isLess 17 = .ok (.getfield 326, 3) := by decide +kernel
theorem dX12_isLess_20 : decode cX12_isLess 20 = .ok (.if_icmp .ne 31, 3) := by decide +kernel
theorem dX12_isLess_23 : decode cX12_isLess 23 = .ok (.iload_n 2, 1) := by decide +kernel
theorem dX12_isLess_24 : decode cX12_isLess 24 = .ok (.aload_n 0, 1) := by decide +kernel
theorem dX12_isLess_25 : decode cX12_isLess 25 = .ok (.getfield 329, 3) := by decide +kernel
theorem dX12_isLess_28 : decode cX12_isLess 28 = .ok (.if_icmp .lt 19, 3) := by decide +kernel
theorem dX12_isLess_31 : decode cX12_isLess 31 = .ok (.iload_n 2, 1) := by decide +kernel
theorem dX12_isLess_32 : decode cX12_isLess 32 = .ok (.aload_n 0, 1) := by decide +kernel
theorem dX12_isLess_33 : decode cX12_isLess 33 = .ok (.getfield 329, 3) := by decide +kernel
theorem dX12_isLess_36 : decode cX12_isLess 36 = .ok (.if_icmp .ne 15, 3) := by decide +kernel
theorem dX12_isLess_39 : decode cX12_isLess 39 = .ok (.iload_n 3, 1) := by decide +kernel
theorem dX12_isLess_40 : decode cX12_isLess 40 = .ok (.aload_n 0, 1) := by decide +kernel
theorem dX12_isLess_41 : decode cX12_isLess 41 = .ok (.getfield 332, 3) := by decide +kernel
theorem dX12_isLess_44 : decode cX12_isLess 44 = .ok (.if_icmp .ge 7, 3) := by decide +kernel
theorem dX12_isLess_47 : decode cX12_isLess 47 = .ok (.iconst 1, 1) := by decide +kernel
theorem dX12_isLess_48 : decode cX12_isLess 48 = .ok (.goto 4, 3) := by decide +kernel
theorem dX12_isLess_51 : decode cX12_isLess 51 = .ok (.iconst 0, 1) := by decide +kernel
theorem dX12_isLess_52 : decode cX12_isLess 52 = .ok (.ireturn, 1) := by decide +kernel
theorem dX12_go_0 : decode cX12_go 0 = .ok (.iload_n 2, 1) := by decide +kernel
theorem dX12_go_1 : decode cX12_go 1 = .ok (.istore 5, 2) := by decide +kernel
theorem dX12_go_3 : decode cX12_go 3 = .ok (.iload_n 3, 1) := by decide +kernel
theorem dX12_go_4 : decode cX12_go 4 = .ok (.istore 6, 2) := by decide +kernel
theorem dX12_go_6 : decode cX12_go 6 = .ok (.iload 4, 2) := by decide +kernel
theorem dX12_go_8 : decode cX12_go 8 = .ok (.istore 7, 2) := by decide +kernel
theorem dX12_go_10 : decode cX12_go 10 = .ok (.iload_n 1, 1) := by decide +kernel
theorem dX12_go_11 : decode cX12_go 11 = .ok (.istore 8, 2) := by decide +kernel
theorem dX12_go_13 : decode cX12_go 13 = .ok (.iload 8, 2) := by decide +kernel
theorem dX12_go_15 : decode cX12_go 15 = .ok (.aload_n 0, 1) := by decide +kernel
theorem dX12_go_16 : decode cX12_go 16 = .ok (.getfield 313, 3) := by decide +kernel
theorem dX12_go_19 : decode cX12_go 19 = .ok (.if_icmp .ge 96, 3) := by decide +kernel
theorem dX12_go_22 : decode cX12_go 22 = .ok (.aload_n 0, 1) := by decide +kernel
theorem dX12_go_23 : decode cX12_go 23 = .ok (.aload_n 0, 1) := by decide +kernel
theorem dX12_go_24 : decode cX12_go 24 = .ok (.getfield 138, 3) := by decide +kernel
theorem dX12_go_27 : decode cX12_go 27 = .ok (.iload 8, 2) := by decide +kernel
theorem dX12_go_29 : decode cX12_go 29 = .ok (.iaload, 1) := by decide +kernel
theorem dX12_go_30 : decode cX12_go 30 = .ok (.invokevirtual 335, 3) := by decide +kernel
theorem dX12_go_33 : decode cX12_go 33 = .ok (.istore 9, 2) := by decide +kernel
theorem dX12_go_35 : decode cX12_go 35 = .ok (.iload 5, 2) := by decide +kernel
theorem dX12_go_37 : decode cX12_go 37 = .ok (.iload 9, 2) := by decide +kernel
theorem dX12_go_39 : decode cX12_go 39 = .ok (.ifCond .lt 20, 3) := by decide +kernel
theorem dX12_go_42 : decode cX12_go 42 = .ok (.iload 9, 2) := by decide +kernel
theorem dX12_go_44 : decode cX12_go 44 = .ok (.aload_n 0, 1) := by decide +kernel
theorem dX12_go_45 : decode cX12_go 45 = .ok (.getfield 95, 3) := by decide +kernel
theorem dX12_go_48 : decode cX12_go 48 = .ok (.aload_n 0, 1) := by decide +kernel
theorem dX12_go_49 : decode cX12_go 49 = .ok (.getfield 138, 3) := by decide +kernel
theorem dX12_go_52 : decode cX12_go 52 = .ok (.iload 8, 2) := by decide +kernel
theorem dX12_go_54 : decode cX12_go 54 = .ok (.iaload, 1) := by decide +kernel
theorem dX12_go_55 : decode cX12_go 55 = .ok (.iaload, 1) := by decide +kernel
theorem dX12_go_56 : decode cX12_go 56 = .ok (.if_icmp .le 18, 3) := by decide +kernel
theorem dX12_go_59 : decode cX12_go 59 = .ok (.aload_n 0, 1) := by decide +kernel
theorem dX12_go_60 : decode cX12_go 60 = .ok (.getfield 64, 3) := by decide +kernel
theorem dX12_go_63 : decode cX12_go 63 = .ok (.aload_n 0, 1) := by decide +kernel
theorem dX12_go_64 : decode cX12_go 64 = .ok (.getfield 138, 3) := by decide +kernel
theorem dX12_go_67 : decode cX12_go 67 = .ok (.iload 8, 2) := by decide +kernel
theorem dX12_go_69 : decode cX12_go 69 = .ok (.iaload, 1) := by decide +kernel
theorem dX12_go_70 : decode cX12_go 70 = .ok (.iaload, 1) := by decide +kernel
theorem dX12_go_71 : decode cX12_go 71 = .ok (.goto 4, 3) := by decide +kernel
theorem dX12_go_74 : decode cX12_go 74 = .ok (.iconst 0, 1) := by decide +kernel
theorem dX12_go_75 : decode cX12_go 75 = .ok (.iadd, 1) := by decide +kernel
theorem dX12_go_76 : decode cX12_go 76 = .ok (.istore 5, 2) := by decide +kernel
theorem dX12_go_78 : decode cX12_go 78 = .ok (.iload 6, 2) := by decide +kernel
theorem dX12_go_80 : decode cX12_go 80 = .ok (.iload 9, 2) := by decide +kernel
theorem dX12_go_82 : decode cX12_go 82 = .ok (.ifCond .ge 7, 3) := by decide +kernel
theorem dX12_go_85 : decode cX12_go 85 = .ok (.iconst 1, 1) := by decide +kernel
theorem dX12_go_86 : decode cX12_go 86 = .ok (.goto 4, 3) := by decide +kernel
theorem dX12_go_89 : decode cX12_go 89 = .ok (.iconst 0, 1) := by decide +kernel
theorem dX12_go_90 : decode cX12_go 90 = .ok (.iadd, 1) := by decide +kernel
theorem dX12_go_91 : decode cX12_go 91 = .ok (.istore 6, 2) := by decide +kernel
theorem dX12_go_93 : decode cX12_go 93 = .ok (.iload 7, 2) := by decide +kernel
theorem dX12_go_95 : decode cX12_go 95 = .ok (.iload 9, 2) := by decide +kernel
theorem dX12_go_97 : decode cX12_go 97 = .ok (.ifCond .ge 7, 3) := by decide +kernel
theorem dX12_go_100 : decode cX12_go 100 = .ok (.iconst 0, 1) := by decide +kernel
theorem dX12_go_101 : decode cX12_go 101 = .ok (.goto 5, 3) := by decide +kernel
theorem dX12_go_104 : decode cX12_go 104 = .ok (.iload 9, 2) := by decide +kernel
theorem dX12_go_106 : decode cX12_go 106 = .ok (.iadd, 1) := by decide +kernel
theorem dX12_go_107 : decode cX12_go 107 = .ok (.istore 7, 2) := by decide +kernel
theorem dX12_go_109 : decode cX12_go 109 = .ok (.iinc 8 1, 3) := by decide +kernel
theorem dX12_go_112 : decode cX12_go 112 = .ok (.goto (-99), 3) := by decide +kernel
theorem dX12_go_115 : decode cX12_go 115 = .ok (.aload_n 0, 1) := by decide +kernel
theorem dX12_go_116 : decode cX12_go 116 = .ok (.getfield 326, 3) := by decide +kernel
theorem dX12_go_119 : decode cX12_go 119 = .ok (.ifCond .lt 49, 3) := by decide +kernel
theorem dX12_go_122 : decode cX12_go 122 = .ok (.iload 5, 2) := by decide +kernel
theorem dX12_go_124 : decode cX12_go 124 = .ok (.aload_n 0, 1) := by decide +kernel
theorem dX12_go_125 : decode cX12_go 125 = .ok (.getfield 326, 3) := by decide +kernel
theorem dX12_go_128 : decode cX12_go 128 = .ok (.if_icmp .gt 39, 3) := by decide +kernel
theorem dX12_go_131 : decode cX12_go 131 = .ok (.iload 5, 2) := by decide +kernel
theorem dX12_go_133 : decode cX12_go 133 = .ok (.aload_n 0, 1) := by decide +kernel
theorem dX12_go_134 : decode cX12_go 134 = .ok (.getfield 326, 3) := by decide +kernel
theorem dX12_go_137 : decode cX12_go 137 = .ok (.if_icmp .ne 31, 3) := by decide +kernel
theorem dX12_go_140 : decode cX12_go 140 = .ok (.iload 6, 2) := by decide +kernel
theorem dX12_go_142 : decode cX12_go 142 = .ok (.aload_n 0, 1) := by decide +kernel
theorem dX12_go_143 : decode cX12_go 143 = .ok (.getfield 329, 3) := by decide +kernel
theorem dX12_go_146 : decode cX12_go 146 = .ok (.if_icmp .gt 21, 3) := by decide +kernel
theorem dX12_go_149 : decode cX12_go 149 = .ok (.iload 6, 2) := by decide +kernel
theorem dX12_go_151 : decode cX12_go 151 = .ok (.aload_n 0, 1) := by decide +kernel
theorem dX12_go_152 : decode cX12_go 152 = .ok (.getfield 329, 3) := by decide +kernel
theorem dX12_go_155 : decode cX12_go 155 = .ok (.if_icmp .ne 13, 3) := by decide +kernel
theorem dX12_go_158 : decode cX12_go 158 = .ok (.iload 7, 2) := by decide +kernel
theorem dX12_go_160 : decode cX12_go 160 = .ok (.aload_n 0, 1) := by decide +kernel
theorem dX12_go_161 : decode cX12_go 161 = .ok (.getfield 332, 3) := by decide +kernel
theorem dX12_go_164 : decode cX12_go 164 = .ok (.if_icmp .lt 4, 3) := by decide +kernel
theorem dX12_go_167 : decode cX12_go 167 = .ok (.return_, 1) := by decide +kernel
theorem dX12_go_168 : decode cX12_go 168 = .ok (.iload_n 1, 1) := by decide +kernel
theorem dX12_go_169 : decode cX12_go 169 = .ok (.aload_n 0, 1) := by decide +kernel
theorem dX12_go_170 : decode cX12_go 170 = .ok (.getfield 313, 3) := by decide +kernel
theorem dX12_go_173 : decode cX12_go 173 = .ok (.if_icmp .ne 63, 3) := by decide +kernel
theorem dX12_go_176 : decode cX12_go 176 = .ok (.aload_n 0, 1) := by decide +kernel
theorem dX12_go_177 : decode cX12_go 177 = .ok (.iload_n 2, 1) := by decide +kernel
theorem dX12_go_178 : decode cX12_go 178 = .ok (.iload_n 3, 1) := by decide +kernel
theorem dX12_go_179 : decode cX12_go 179 = .ok (.iload 4, 2) := by decide +kernel
theorem dX12_go_181 : decode cX12_go 181 = .ok (.invokevirtual 338, 3) := by decide +kernel
theorem dX12_go_184 : decode cX12_go 184 = .ok (.ifCond .eq 51, 3) := by decide +kernel
theorem dX12_go_187 : decode cX12_go 187 = .ok (.aload_n 0, 1) := by decide +kernel
theorem dX12_go_188 : decode cX12_go 188 = .ok (.iload_n 2, 1) := by decide +kernel
theorem dX12_go_189 : decode cX12_go 189 = .ok (.putfield 326, 3) := by decide +kernel
theorem dX12_go_192 : decode cX12_go 192 = .ok (.aload_n 0, 1) := by decide +kernel
theorem dX12_go_193 : decode cX12_go 193 = .ok (.iload_n 3, 1) := by decide +kernel
theorem dX12_go_194 : decode cX12_go 194 = .ok (.putfield 329, 3) := by decide +kernel
theorem dX12_go_197 : decode cX12_go 197 = .ok (.aload_n 0, 1) := by decide +kernel
theorem dX12_go_198 : decode cX12_go 198 = .ok (.iload 4, 2) := by decide +kernel
theorem dX12_go_200 : decode cX12_go 200 = .ok (.putfield 332, 3) := by decide +kernel
theorem dX12_go_203 : decode cX12_go 203 = .ok (.iconst 0, 1) := by decide +kernel
theorem dX12_go_204 : decode cX12_go 204 = .ok (.istore 8, 2) := by decide +kernel
theorem dX12_go_206 : decode cX12_go 206 = .ok (.iload 8, 2) := by decide +kernel
theorem dX12_go_208 : decode cX12_go 208 = .ok (.aload_n 0, 1) := by decide +kernel
theorem dX12_go_209 : decode cX12_go 209 = .ok (.getfield 313, 3) := by decide +kernel
theorem dX12_go_212 : decode cX12_go 212 = .ok (.if_icmp .ge 23, 3) := by decide +kernel
theorem dX12_go_215 : decode cX12_go 215 = .ok (.aload_n 0, 1) := by decide +kernel
theorem dX12_go_216 : decode cX12_go 216 = .ok (.getfield 168, 3) := by decide +kernel
theorem dX12_go_219 : decode cX12_go 219 = .ok (.iload 8, 2) := by decide +kernel
theorem dX12_go_221 : decode cX12_go 221 = .ok (.aload_n 0, 1) := by decide +kernel
theorem dX12_go_222 : decode cX12_go 222 = .ok (.getfield 165, 3) := by decide +kernel
theorem dX12_go_225 : decode cX12_go 225 = .ok (.iload 8, 2) := by decide +kernel
theorem dX12_go_227 : decode cX12_go 227 = .ok (.iaload, 1) := by decide +kernel
theorem dX12_go_228 : decode cX12_go 228 = .ok (.iastore, 1) := by decide +kernel
theorem dX12_go_229 : decode cX12_go 229 = .ok (.iinc 8 1, 3) := by decide +kernel
theorem dX12_go_232 : decode cX12_go 232 = .ok (.goto (-26), 3) := by decide +kernel
theorem dX12_go_235 : decode cX12_go 235 = .ok (.return_, 1) := by decide +kernel
theorem dX12_go_236 : decode cX12_go 236 = .ok (.aload_n 0, 1) := by decide +kernel
theorem dX12_go_237 : decode cX12_go 237 = .ok (.getfield 138, 3) := by decide +kernel
theorem dX12_go_240 : decode cX12_go 240 = .ok (.iload_n 1, 1) := by decide +kernel
theorem dX12_go_241 : decode cX12_go 241 = .ok (.iaload, 1) := by decide +kernel
theorem dX12_go_242 : decode cX12_go 242 = .ok (.istore 8, 2) := by decide +kernel
theorem dX12_go_244 : decode cX12_go 244 = .ok (.aload_n 0, 1) := by decide +kernel
theorem dX12_go_245 : decode cX12_go 245 = .ok (.getfield 46, 3) := by decide +kernel
theorem dX12_go_248 : decode cX12_go 248 = .ok (.aload_n 0, 1) := by decide +kernel
theorem dX12_go_249 : decode cX12_go 249 = .ok (.getfield 61, 3) := by decide +kernel
theorem dX12_go_252 : decode cX12_go 252 = .ok (.iload 8, 2) := by decide +kernel
theorem dX12_go_254 : decode cX12_go 254 = .ok (.iaload, 1) := by decide +kernel
theorem dX12_go_255 : decode cX12_go 255 = .ok (.iaload, 1) := by decide +kernel
theorem dX12_go_256 : decode cX12_go 256 = .ok (.istore 9, 2) := by decide +kernel
theorem dX12_go_258 : decode cX12_go 258 = .ok (.aload_n 0, 1) := by decide +kernel
theorem dX12_go_259 : decode cX12_go 259 = .ok (.getfield 190, 3) := by decide +kernel
theorem dX12_go_262 : decode cX12_go 262 = .ok (.istore 10, 2) := by decide +kernel
theorem dX12_go_264 : decode cX12_go 264 = .ok (.iload 10, 2) := by decide +kernel
theorem dX12_go_266 : decode cX12_go 266 = .ok (.aload_n 0, 1) := by decide +kernel
theorem dX12_go_267 : decode cX12_go 267 = .ok (.invokevirtual 319, 3) := by decide +kernel
theorem dX12_go_270 : decode cX12_go 270 = .ok (.if_icmp .gt 85, 3) := by decide +kernel
theorem dX12_go_273 : decode cX12_go 273 = .ok (.aload_n 0, 1) := by decide +kernel
theorem dX12_go_274 : decode cX12_go 274 = .ok (.iload 8, 2) := by decide +kernel
theorem dX12_go_276 : decode cX12_go 276 = .ok (.iload 10, 2) := by decide +kernel
theorem dX12_go_278 : decode cX12_go 278 = .ok (.invokevirtual 323, 3) := by decide +kernel
theorem dX12_go_281 : decode cX12_go 281 = .ok (.ifCond .eq 68, 3) := by decide +kernel
theorem dX12_go_284 : decode cX12_go 284 = .ok (.aload_n 0, 1) := by decide +kernel
theorem dX12_go_285 : decode cX12_go 285 = .ok (.iload 9, 2) := by decide +kernel
theorem dX12_go_287 : decode cX12_go 287 = .ok (.iload 10, 2) := by decide +kernel
theorem dX12_go_289 : decode cX12_go 289 = .ok (.iload_n 1, 1) := by decide +kernel
theorem dX12_go_290 : decode cX12_go 290 = .ok (.invokevirtual 341, 3) := by decide +kernel
theorem dX12_go_293 : decode cX12_go 293 = .ok (.aload_n 0, 1) := by decide +kernel
theorem dX12_go_294 : decode cX12_go 294 = .ok (.getfield 135, 3) := by decide +kernel
theorem dX12_go_297 : decode cX12_go 297 = .ok (.iload 9, 2) := by decide +kernel
theorem dX12_go_299 : decode cX12_go 299 = .ok (.iaload, 1) := by decide +kernel
theorem dX12_go_300 : decode cX12_go 300 = .ok (.if_icmp .ge 49, 3) := by decide +kernel
theorem dX12_go_303 : decode cX12_go 303 = .ok (.aload_n 0, 1) := by decide +kernel
theorem dX12_go_304 : decode cX12_go 304 = .ok (.getfield 165, 3) := by decide +kernel
theorem dX12_go_307 : decode cX12_go 307 = .ok (.iload_n 1, 1) := by decide +kernel
theorem dX12_go_308 : decode cX12_go 308 = .ok (.iload 10, 2) := by decide +kernel
theorem dX12_go_310 : decode cX12_go 310 = .ok (.iastore, 1) := by decide +kernel
theorem dX12_go_311 : decode cX12_go 311 = .ok (.aload_n 0, 1) := by decide +kernel
theorem dX12_go_312 : decode cX12_go 312 = .ok (.iload_n 1, 1) := by decide +kernel
theorem dX12_go_313 : decode cX12_go 313 = .ok (.iconst 1, 1) := by decide +kernel
theorem dX12_go_314 : decode cX12_go 314 = .ok (.iadd, 1) := by decide +kernel
theorem dX12_go_315 : decode cX12_go 315 = .ok (.iload_n 2, 1) := by decide +kernel
theorem dX12_go_316 : decode cX12_go 316 = .ok (.iload 10, 2) := by decide +kernel
theorem dX12_go_318 : decode cX12_go 318 = .ok (.aload_n 0, 1) := by decide +kernel
theorem dX12_go_319 : decode cX12_go 319 = .ok (.getfield 95, 3) := by decide +kernel
theorem dX12_go_322 : decode cX12_go 322 = .ok (.iload 8, 2) := by decide +kernel
theorem dX12_go_324 : decode cX12_go 324 = .ok (.iaload, 1) := by decide +kernel
theorem dX12_go_325 : decode cX12_go 325 = .ok (.if_icmp .le 13, 3) := by decide +kernel
theorem dX12_go_328 : decode cX12_go 328 = .ok (.aload_n 0, 1) := by decide +kernel
theorem dX12_go_329 : decode cX12_go 329 = .ok (.getfield 64, 3) := by decide +kernel
theorem dX12_go_332 : decode cX12_go 332 = .ok (.iload 8, 2) := by decide +kernel
theorem dX12_go_334 : decode cX12_go 334 = .ok (.iaload, 1) := by decide +kernel
theorem dX12_go_335 : decode cX12_go 335 = .ok (.goto 4, 3) := by decide +kernel
theorem dX12_go_338 : decode cX12_go 338 = .ok (.iconst 0, 1) := by decide +kernel
theorem dX12_go_339 : decode cX12_go 339 = .ok (.iadd, 1) := by decide +kernel
theorem dX12_go_340 : decode cX12_go 340 = .ok (.iload_n 3, 1) := by decide +kernel
theorem dX12_go_341 : decode cX12_go 341 = .ok (.iload 4, 2) := by decide +kernel
theorem dX12_go_343 : decode cX12_go 343 = .ok (.iload 10, 2) := by decide +kernel
theorem dX12_go_345 : decode cX12_go 345 = .ok (.iadd, 1) := by decide +kernel
theorem dX12_go_346 : decode cX12_go 346 = .ok (.invokevirtual 345, 3) := by decide +kernel
theorem dX12_go_349 : decode cX12_go 349 = .ok (.iinc 10 1, 3) := by decide +kernel
theorem dX12_go_352 : decode cX12_go 352 = .ok (.goto (-88), 3) := by decide +kernel
theorem dX12_go_355 : decode cX12_go 355 = .ok (.aload_n 0, 1) := by decide +kernel
theorem dX12_go_356 : decode cX12_go 356 = .ok (.getfield 165, 3) := by decide +kernel
theorem dX12_go_359 : decode cX12_go 359 = .ok (.iload_n 1, 1) := by decide +kernel
theorem dX12_go_360 : decode cX12_go 360 = .ok (.iconst (-1), 1) := by decide +kernel
theorem dX12_go_361 : decode cX12_go 361 = .ok (.iastore, 1) := by decide +kernel
theorem dX12_go_362 : decode cX12_go 362 = .ok (.aload_n 0, 1) := by decide +kernel
theorem dX12_go_363 : decode cX12_go 363 = .ok (.iload_n 1, 1) := by decide +kernel
theorem dX12_go_364 : decode cX12_go 364 = .ok (.iconst 1, 1) := by decide +kernel
theorem dX12_go_365 : decode cX12_go 365 = .ok (.iadd, 1) := by decide +kernel
theorem dX12_go_366 : decode cX12_go 366 = .ok (.iload_n 2, 1) := by decide +kernel
theorem dX12_go_367 : decode cX12_go 367 = .ok (.aload_n 0, 1) := by decide +kernel
theorem dX12_go_368 : decode cX12_go 368 = .ok (.getfield 64, 3) := by decide +kernel
theorem dX12_go_371 : decode cX12_go 371 = .ok (.iload 8, 2) := by decide +kernel
theorem dX12_go_373 : decode cX12_go 373 = .ok (.iaload, 1) := by decide +kernel
theorem dX12_go_374 : decode cX12_go 374 = .ok (.iadd, 1) := by decide +kernel
theorem dX12_go_375 : decode cX12_go 375 = .ok (.iload_n 3, 1) := by decide +kernel
theorem dX12_go_376 : decode cX12_go 376 = .ok (.iconst 1, 1) := by decide +kernel
theorem dX12_go_377 : decode cX12_go 377 = .ok (.iadd, 1) := by decide +kernel
theorem dX12_go_378 : decode cX12_go 378 = .ok (.iload 4, 2) := by decide +kernel
theorem dX12_go_380 : decode cX12_go 380 = .ok (.invokevirtual 345, 3) := by decide +kernel
theorem dX12_go_383 : decode cX12_go 383 = .ok (.return_, 1) := by decide +kernel
theorem dX12_plan_0 : decode cX12_plan 0 = .ok (.iload_n 1, 1) := by decide +kernel
theorem dX12_plan_1 : decode cX12_plan 1 = .ok (.iconst 1, 1) := by decide +kernel
theorem dX12_plan_2 : decode cX12_plan 2 = .ok (.bipush 14, 2) := by decide +kernel
theorem dX12_plan_4 : decode cX12_plan 4 = .ok (.invokestatic 177, 3) := by decide +kernel
theorem dX12_plan_7 : decode cX12_plan 7 = .ok (.ifCond .ne 5, 3) := by decide +kernel
theorem dX12_plan_10 : decode cX12_plan 10 = .ok (.iconst (-1), 1) := by decide +kernel
theorem dX12_plan_11 : decode cX12_plan 11 = .ok (.ireturn, 1) := by decide +kernel
theorem dX12_plan_12 : decode cX12_plan 12 = .ok (.aload_n 0, 1) := by decide +kernel
theorem dX12_plan_13 : decode cX12_plan 13 = .ok (.getfield 313, 3) := by decide +kernel
theorem dX12_plan_16 : decode cX12_plan 16 = .ok (.ifCond .ne 6, 3) := by decide +kernel
theorem dX12_plan_19 : decode cX12_plan 19 = .ok (.bipush (-3), 2) := by decide +kernel
theorem dX12_plan_21 : decode cX12_plan 21 = .ok (.ireturn, 1) := by decide +kernel
theorem dX12_plan_22 : decode cX12_plan 22 = .ok (.aload_n 0, 1) := by decide +kernel
theorem dX12_plan_23 : decode cX12_plan 23 = .ok (.iload_n 1, 1) := by decide +kernel
theorem dX12_plan_24 : decode cX12_plan 24 = .ok (.putfield 316, 3) := by decide +kernel
theorem dX12_plan_27 : decode cX12_plan 27 = .ok (.aload_n 0, 1) := by decide +kernel
theorem dX12_plan_28 : decode cX12_plan 28 = .ok (.iconst (-1), 1) := by decide +kernel
theorem dX12_plan_29 : decode cX12_plan 29 = .ok (.putfield 326, 3) := by decide +kernel
theorem dX12_plan_32 : decode cX12_plan 32 = .ok (.aload_n 0, 1) := by decide +kernel
theorem dX12_plan_33 : decode cX12_plan 33 = .ok (.iconst 0, 1) := by decide +kernel
theorem dX12_plan_34 : decode cX12_plan 34 = .ok (.iconst 0, 1) := by decide +kernel
theorem dX12_plan_35 : decode cX12_plan 35 = .ok (.iconst 0, 1) := by decide +kernel
theorem dX12_plan_36 : decode cX12_plan 36 = .ok (.iconst 0, 1) := by decide +kernel
theorem dX12_plan_37 : decode cX12_plan 37 = .ok (.invokevirtual 345, 3) := by decide +kernel
theorem dX12_plan_40 : decode cX12_plan 40 = .ok (.aload_n 0, 1) := by decide +kernel
theorem dX12_plan_41 : decode cX12_plan 41 = .ok (.aload_n 0, 1) := by decide +kernel
theorem dX12_plan_42 : decode cX12_plan 42 = .ok (.getfield 313, 3) := by decide +kernel
theorem dX12_plan_45 : decode cX12_plan 45 = .ok (.putfield 349, 3) := by decide +kernel
theorem dX12_plan_48 : decode cX12_plan 48 = .ok (.aload_n 0, 1) := by decide +kernel
theorem dX12_plan_49 : decode cX12_plan 49 = .ok (.iconst 0, 1) := by decide +kernel
theorem dX12_plan_50 : decode cX12_plan 50 = .ok (.putfield 313, 3) := by decide +kernel
theorem dX12_plan_53 : decode cX12_plan 53 = .ok (.aload_n 0, 1) := by decide +kernel
theorem dX12_plan_54 : decode cX12_plan 54 = .ok (.getfield 326, 3) := by decide +kernel
theorem dX12_plan_57 : decode cX12_plan 57 = .ok (.ireturn, 1) := by decide +kernel
theorem dX12_planned_0 : decode cX12_planned 0 = .ok (.iload_n 1, 1) := by decide +kernel
theorem dX12_planned_1 : decode cX12_planned 1 = .ok (.ifCond .lt 11, 3) := by decide +kernel
theorem dX12_planned_4 : decode cX12_planned 4 = .ok (.iload_n 1, 1) := by decide +kernel
theorem dX12_planned_5 : decode cX12_planned 5 = .ok (.aload_n 0, 1) := by decide +kernel
theorem dX12_planned_6 : decode cX12_planned 6 = .ok (.getfield 349, 3) := by decide +kernel
theorem dX12_planned_9 : decode cX12_planned 9 = .ok (.if_icmp .lt 5, 3) := by decide +kernel
theorem dX12_planned_12 : decode cX12_planned 12 = .ok (.iconst (-1), 1) := by decide +kernel
theorem dX12_planned_13 : decode cX12_planned 13 = .ok (.ireturn, 1) := by decide +kernel
theorem dX12_planned_14 : decode cX12_planned 14 = .ok (.aload_n 0, 1) := by decide +kernel
theorem dX12_planned_15 : decode cX12_planned 15 = .ok (.getfield 168, 3) := by decide +kernel
theorem dX12_planned_18 : decode cX12_planned 18 = .ok (.iload_n 1, 1) := by decide +kernel
theorem dX12_planned_19 : decode cX12_planned 19 = .ok (.iaload, 1) := by decide +kernel
theorem dX12_planned_20 : decode cX12_planned 20 = .ok (.ifCond .ge 8, 3) := by decide +kernel
theorem dX12_planned_23 : decode cX12_planned 23 = .ok (.bipush (-4), 2) := by decide +kernel
theorem dX12_planned_25 : decode cX12_planned 25 = .ok (.goto 9, 3) := by decide +kernel
theorem dX12_planned_28 : decode cX12_planned 28 = .ok (.aload_n 0, 1) := by decide +kernel
theorem dX12_planned_29 : decode cX12_planned 29 = .ok (.getfield 168, 3) := by decide +kernel
theorem dX12_planned_32 : decode cX12_planned 32 = .ok (.iload_n 1, 1) := by decide +kernel
theorem dX12_planned_33 : decode cX12_planned 33 = .ok (.iaload, 1) := by decide +kernel
theorem dX12_planned_34 : decode cX12_planned 34 = .ok (.ireturn, 1) := by decide +kernel
theorem dX12_feed_0 : decode cX12_feed 0 = .ok (.iload_n 1, 1) := by decide +kernel
theorem dX12_feed_1 : decode cX12_feed 1 = .ok (.iconst 1, 1) := by decide +kernel
theorem dX12_feed_2 : decode cX12_feed 2 = .ok (.iconst 4, 1) := by decide +kernel
theorem dX12_feed_3 : decode cX12_feed 3 = .ok (.invokestatic 177, 3) := by decide +kernel
theorem dX12_feed_6 : decode cX12_feed 6 = .ok (.ifCond .ne 5, 3) := by decide +kernel
theorem dX12_feed_9 : decode cX12_feed 9 = .ok (.iconst (-1), 1) := by decide +kernel
theorem dX12_feed_10 : decode cX12_feed 10 = .ok (.ireturn, 1) := by decide +kernel
theorem dX12_feed_11 : decode cX12_feed 11 = .ok (.aload_n 0, 1) := by decide +kernel
theorem dX12_feed_12 : decode cX12_feed 12 = .ok (.getfield 352, 3) := by decide +kernel
theorem dX12_feed_15 : decode cX12_feed 15 = .ok (.iload_n 1, 1) := by decide +kernel
theorem dX12_feed_16 : decode cX12_feed 16 = .ok (.iadd, 1) := by decide +kernel
theorem dX12_feed_17 : decode cX12_feed 17 = .ok (.sipush 160, 3) := by decide +kernel
theorem dX12_feed_20 : decode cX12_feed 20 = .ok (.if_icmp .le 6, 3) := by decide +kernel
theorem dX12_feed_23 : decode cX12_feed 23 = .ok (.bipush (-2), 2) := by decide +kernel
theorem dX12_feed_25 : decode cX12_feed 25 = .ok (.ireturn, 1) := by decide +kernel
theorem dX12_feed_26 : decode cX12_feed 26 = .ok (.iconst 0, 1) := by decide +kernel
theorem dX12_feed_27 : decode cX12_feed 27 = .ok (.istore_n 3, 1) := by decide +kernel
theorem dX12_feed_28 : decode cX12_feed 28 = .ok (.iload_n 3, 1) := by decide +kernel
theorem dX12_feed_29 : decode cX12_feed 29 = .ok (.iload_n 1, 1) := by decide +kernel
theorem dX12_feed_30 : decode cX12_feed 30 = .ok (.if_icmp .ge 38, 3) := by decide +kernel
theorem dX12_feed_33 : decode cX12_feed 33 = .ok (.aload_n 0, 1) := by decide +kernel
theorem dX12_feed_34 : decode cX12_feed 34 = .ok (.getfield 141, 3) := by decide +kernel
theorem dX12_feed_37 : decode cX12_feed 37 = .ok (.aload_n 0, 1) := by decide +kernel
theorem dX12_feed_38 : decode cX12_feed 38 = .ok (.getfield 352, 3) := by decide +kernel
theorem dX12_feed_41 : decode cX12_feed 41 = .ok (.iload_n 2, 1) := by decide +kernel
theorem dX12_feed_42 : decode cX12_feed 42 = .ok (.bipush 8, 2) := by decide +kernel
theorem dX12_feed_44 : decode cX12_feed 44 = .ok (.iload_n 3, 1) := by decide +kernel
theorem dX12_feed_45 : decode cX12_feed 45 = .ok (.imul, 1) := by decide +kernel
theorem dX12_feed_46 : decode cX12_feed 46 = .ok (.ishr, 1) := by decide +kernel
theorem dX12_feed_47 : decode cX12_feed 47 = .ok (.sipush 255, 3) := by decide +kernel
theorem dX12_feed_50 : decode cX12_feed 50 = .ok (.iand, 1) := by decide +kernel
theorem dX12_feed_51 : decode cX12_feed 51 = .ok (.iastore, 1) := by decide +kernel
theorem dX12_feed_52 : decode cX12_feed 52 = .ok (.aload_n 0, 1) := by decide +kernel
theorem dX12_feed_53 : decode cX12_feed 53 = .ok (.dup, 1) := by decide +kernel
theorem dX12_feed_54 : decode cX12_feed 54 = .ok (.getfield 352, 3) := by decide +kernel
theorem dX12_feed_57 : decode cX12_feed 57 = .ok (.iconst 1, 1) := by decide +kernel
theorem dX12_feed_58 : decode cX12_feed 58 = .ok (.iadd, 1) := by decide +kernel
theorem dX12_feed_59 : decode cX12_feed 59 = .ok (.putfield 352, 3) := by decide +kernel
theorem dX12_feed_62 : decode cX12_feed 62 = .ok (.iinc 3 1, 3) := by decide +kernel
theorem dX12_feed_65 : decode cX12_feed 65 = .ok (.goto (-37), 3) := by decide +kernel
theorem dX12_feed_68 : decode cX12_feed 68 = .ok (.aload_n 0, 1) := by decide +kernel
theorem dX12_feed_69 : decode cX12_feed 69 = .ok (.getfield 352, 3) := by decide +kernel
theorem dX12_feed_72 : decode cX12_feed 72 = .ok (.ireturn, 1) := by decide +kernel
theorem dX12_beginText_0 : decode cX12_beginText 0 = .ok (.aload_n 0, 1) := by decide +kernel
theorem dX12_beginText_1 : decode cX12_beginText 1 = .ok (.iload_n 1, 1) := by decide +kernel
theorem dX12_beginText_2 : decode cX12_beginText 2 = .ok (.putfield 355, 3) := by decide +kernel
theorem dX12_beginText_5 : decode cX12_beginText 5 = .ok (.aload_n 0, 1) := by decide +kernel
theorem dX12_beginText_6 : decode cX12_beginText 6 = .ok (.iconst 0, 1) := by decide +kernel
theorem dX12_beginText_7 : decode cX12_beginText 7 = .ok (.putfield 358, 3) := by decide +kernel
theorem dX12_beginText_10 : decode cX12_beginText 10 = .ok (.aload_n 0, 1) := by decide +kernel
theorem dX12_beginText_11 : decode cX12_beginText 11 = .ok (.iload_n 2, 1) := by decide +kernel
theorem dX12_beginText_12 : decode cX12_beginText 12 = .ok (.putfield 361, 3) := by decide +kernel
theorem dX12_beginText_15 : decode cX12_beginText 15 = .ok (.aload_n 0, 1) := by decide +kernel
theorem dX12_beginText_16 : decode cX12_beginText 16 = .ok (.iconst (-1), 1) := by decide +kernel
theorem dX12_beginText_17 : decode cX12_beginText 17 = .ok (.putfield 364, 3) := by decide +kernel
theorem dX12_beginText_20 : decode cX12_beginText 20 = .ok (.aload_n 0, 1) := by decide +kernel
theorem dX12_beginText_21 : decode cX12_beginText 21 = .ok (.iconst 0, 1) := by decide +kernel
theorem dX12_beginText_22 : decode cX12_beginText 22 = .ok (.putfield 367, 3) := by decide +kernel
theorem dX12_beginText_25 : decode cX12_beginText 25 = .ok (.return_, 1) := by decide +kernel
theorem dX12_byteAt_0 : decode cX12_byteAt 0 = .ok (.aload_n 0, 1) := by decide +kernel
theorem dX12_byteAt_1 : decode cX12_byteAt 1 = .ok (.getfield 358, 3) := by decide +kernel
theorem dX12_byteAt_4 : decode cX12_byteAt 4 = .ok (.aload_n 0, 1) := by decide +kernel
theorem dX12_byteAt_5 : decode cX12_byteAt 5 = .ok (.getfield 361, 3) := by decide +kernel
theorem dX12_byteAt_8 : decode cX12_byteAt 8 = .ok (.if_icmp .ge 39, 3) := by decide +kernel
theorem dX12_byteAt_11 : decode cX12_byteAt 11 = .ok (.aload_n 0, 1) := by decide +kernel
theorem dX12_byteAt_12 : decode cX12_byteAt 12 = .ok (.getfield 355, 3) := by decide +kernel
theorem dX12_byteAt_15 : decode cX12_byteAt 15 = .ok (.ifCond .ge 15, 3) := by decide +kernel
theorem dX12_byteAt_18 : decode cX12_byteAt 18 = .ok (.aload_n 0, 1) := by decide +kernel
theorem dX12_byteAt_19 : decode cX12_byteAt 19 = .ok (.getfield 141, 3) := by decide +kernel
theorem dX12_byteAt_22 : decode cX12_byteAt 22 = .ok (.aload_n 0, 1) := by decide +kernel
theorem dX12_byteAt_23 : decode cX12_byteAt 23 = .ok (.getfield 358, 3) := by decide +kernel
theorem dX12_byteAt_26 : decode cX12_byteAt 26 = .ok (.iaload, 1) := by decide +kernel
theorem dX12_byteAt_27 : decode cX12_byteAt 27 = .ok (.goto 21, 3) := by decide +kernel
theorem dX12_byteAt_30 : decode cX12_byteAt 30 = .ok (.aload_n 0, 1) := by decide +kernel
theorem dX12_byteAt_31 : decode cX12_byteAt 31 = .ok (.getfield 144, 3) := by decide +kernel
theorem dX12_byteAt_34 : decode cX12_byteAt 34 = .ok (.aload_n 0, 1) := by decide +kernel
theorem dX12_byteAt_35 : decode cX12_byteAt 35 = .ok (.getfield 355, 3) := by decide +kernel
theorem dX12_byteAt_38 : decode cX12_byteAt 38 = .ok (.aload_n 0, 1) := by decide +kernel
theorem dX12_byteAt_39 : decode cX12_byteAt 39 = .ok (.getfield 358, 3) := by decide +kernel
theorem dX12_byteAt_42 : decode cX12_byteAt 42 = .ok (.iadd, 1) := by decide +kernel
theorem dX12_byteAt_43 : decode cX12_byteAt 43 = .ok (.iaload, 1) := by decide +kernel
theorem dX12_byteAt_44 : decode cX12_byteAt 44 = .ok (.goto 4, 3) := by decide +kernel
theorem dX12_byteAt_47 : decode cX12_byteAt 47 = .ok (.iconst 0, 1) := by decide +kernel
theorem dX12_byteAt_48 : decode cX12_byteAt 48 = .ok (.ireturn, 1) := by decide +kernel
theorem dX12_wrong_0 : decode cX12_wrong 0 = .ok (.aload_n 0, 1) := by decide +kernel
theorem dX12_wrong_1 : decode cX12_wrong 1 = .ok (.aload_n 0, 1) := by decide +kernel
theorem dX12_wrong_2 : decode cX12_wrong 2 = .ok (.getfield 364, 3) := by decide +kernel
theorem dX12_wrong_5 : decode cX12_wrong 5 = .ok (.ifCond .ge 10, 3) := by decide +kernel
theorem dX12_wrong_8 : decode cX12_wrong 8 = .ok (.aload_n 0, 1) := by decide +kernel
theorem dX12_wrong_9 : decode cX12_wrong 9 = .ok (.getfield 358, 3) := by decide +kernel
theorem dX12_wrong_12 : decode cX12_wrong 12 = .ok (.goto 7, 3) := by decide +kernel
theorem dX12_wrong_15 : decode cX12_wrong 15 = .ok (.aload_n 0, 1) := by decide +kernel
theorem dX12_wrong_16 : decode cX12_wrong 16 = .ok (.getfield 364, 3) := by decide +kernel
theorem dX12_wrong_19 : decode cX12_wrong 19 = .ok (.putfield 364, 3) := by decide +kernel
theorem dX12_wrong_22 : decode cX12_wrong 22 = .ok (.iconst 0, 1) := by decide +kernel
theorem dX12_wrong_23 : decode cX12_wrong 23 = .ok (.ireturn, 1) := by decide +kernel
theorem dX12_figure_0 : decode cX12_figure 0 = .ok (.iconst 0, 1) := by decide +kernel
theorem dX12_figure_1 : decode cX12_figure 1 = .ok (.istore_n 2, 1) := by decide +kernel
theorem dX12_figure_2 : decode cX12_figure 2 = .ok (.iconst 0, 1) := by decide +kernel
theorem dX12_figure_3 : decode cX12_figure 3 = .ok (.istore_n 3, 1) := by decide +kernel
theorem dX12_figure_4 : decode cX12_figure 4 = .ok (.iload_n 3, 1) := by decide +kernel
theorem dX12_figure_5 : decode cX12_figure 5 = .ok (.iload_n 1, 1) := by decide +kernel
theorem dX12_figure_6 : decode cX12_figure 6 = .ok (.if_icmp .ge 50, 3) := by decide +kernel
theorem dX12_figure_9 : decode cX12_figure 9 = .ok (.aload_n 0, 1) := by decide +kernel
theorem dX12_figure_10 : decode cX12_figure 10 = .ok (.invokevirtual 370, 3) := by decide +kernel
theorem dX12_figure_13 : decode cX12_figure 13 = .ok (.bipush 48, 2) := by decide +kernel
theorem dX12_figure_15 : decode cX12_figure 15 = .ok (.if_icmp .lt 41, 3) := by decide +kernel
theorem dX12_figure_18 : decode cX12_figure 18 = .ok (.aload_n 0, 1) := by decide +kernel
theorem dX12_figure_19 : decode cX12_figure 19 = .ok (.invokevirtual 370, 3) := by decide +kernel
theorem dX12_figure_22 : decode cX12_figure 22 = .ok (.bipush 57, 2) := by decide +kernel
theorem dX12_figure_24 : decode cX12_figure 24 = .ok (.if_icmp .gt 32, 3) := by decide +kernel
theorem dX12_figure_27 : decode cX12_figure 27 = .ok (.bipush 10, 2) := by decide +kernel
theorem dX12_figure_29 : decode cX12_figure 29 = .ok (.iload_n 2, 1) := by decide +kernel
theorem dX12_figure_30 : decode cX12_figure 30 = .ok (.imul, 1) := by decide +kernel
theorem dX12_figure_31 : decode cX12_figure 31 = .ok (.aload_n 0, 1) := by decide +kernel
theorem dX12_figure_32 : decode cX12_figure 32 = .ok (.invokevirtual 370, 3) := by decide +kernel
theorem dX12_figure_35 : decode cX12_figure 35 = .ok (.iadd, 1) := by decide +kernel
theorem dX12_figure_36 : decode cX12_figure 36 = .ok (.bipush 48, 2) := by decide +kernel
theorem dX12_figure_38 : decode cX12_figure 38 = .ok (.isub, 1) := by decide +kernel
theorem dX12_figure_39 : decode cX12_figure 39 = .ok (.istore_n 2, 1) := by decide +kernel
theorem dX12_figure_40 : decode cX12_figure 40 = .ok (.iinc 3 1, 3) := by decide +kernel
theorem dX12_figure_43 : decode cX12_figure 43 = .ok (.aload_n 0, 1) := by decide +kernel
theorem dX12_figure_44 : decode cX12_figure 44 = .ok (.dup, 1) := by decide +kernel
theorem dX12_figure_45 : decode cX12_figure 45 = .ok (.getfield 358, 3) := by decide +kernel
theorem dX12_figure_48 : decode cX12_figure 48 = .ok (.iconst 1, 1) := by decide +kernel
theorem dX12_figure_49 : decode cX12_figure 49 = .ok (.iadd, 1) := by decide +kernel
theorem dX12_figure_50 : decode cX12_figure 50 = .ok (.putfield 358, 3) := by decide +kernel
theorem dX12_figure_53 : decode cX12_figure 53 = .ok (.goto (-49), 3) := by decide +kernel
theorem dX12_figure_56 : decode cX12_figure 56 = .ok (.iload_n 3, 1) := by decide +kernel
theorem dX12_figure_57 : decode cX12_figure 57 = .ok (.ifCond .ne 10, 3) := by decide +kernel
theorem dX12_figure_60 : decode cX12_figure 60 = .ok (.aload_n 0, 1) := by decide +kernel
theorem dX12_figure_61 : decode cX12_figure 61 = .ok (.invokevirtual 373, 3) := by decide +kernel
theorem dX12_figure_64 : decode cX12_figure 64 = .ok (.goto 4, 3) := by decide +kernel
theorem dX12_figure_67 : decode cX12_figure 67 = .ok (.iload_n 2, 1) := by decide +kernel
theorem dX12_figure_68 : decode cX12_figure 68 = .ok (.ireturn, 1) := by decide +kernel
theorem dX12_placeIn_0 : decode cX12_placeIn 0 = .ok (.iload_n 0, 1) := by decide +kernel
theorem dX12_placeIn_1 : decode cX12_placeIn 1 = .ok (.iload_n 1, 1) := by decide +kernel
theorem dX12_placeIn_2 : decode cX12_placeIn 2 = .ok (.if_icmp .ne 7, 3) := by decide +kernel
theorem dX12_placeIn_5 : decode cX12_placeIn 5 = .ok (.iconst 0, 1) := by decide +kernel
theorem dX12_placeIn_6 : decode cX12_placeIn 6 = .ok (.goto 42, 3) := by decide +kernel
theorem dX12_placeIn_9 : decode cX12_placeIn 9 = .ok (.iload_n 0, 1) := by decide +kernel
theorem dX12_placeIn_10 : decode cX12_placeIn 10 = .ok (.iload_n 2, 1) := by decide +kernel
theorem dX12_placeIn_11 : decode cX12_placeIn 11 = .ok (.if_icmp .ne 7, 3) := by decide +kernel
theorem dX12_placeIn_14 : decode cX12_placeIn 14 = .ok (.iconst 1, 1) := by decide +kernel
theorem dX12_placeIn_15 : decode cX12_placeIn 15 = .ok (.goto 33, 3) := by decide +kernel
theorem dX12_placeIn_18 : decode cX12_placeIn 18 = .ok (.iload_n 0, 1) := by decide +kernel
theorem dX12_placeIn_19 : decode cX12_placeIn 19 = .ok (.iload_n 3, 1) := by decide +kernel
theorem dX12_placeIn_20 : decode cX12_placeIn 20 = .ok (.if_icmp .ne 7, 3) := by decide +kernel
theorem dX12_placeIn_23 : decode cX12_placeIn 23 = .ok (.iconst 2, 1) := by decide +kernel
theorem dX12_placeIn_24 : decode cX12_placeIn 24 = .ok (.goto 24, 3) := by decide +kernel
theorem dX12_placeIn_27 : decode cX12_placeIn 27 = .ok (.iload_n 0, 1) := by decide +kernel
theorem dX12_placeIn_28 : decode cX12_placeIn 28 = .ok (.iload 4, 2) := by decide +kernel
theorem dX12_placeIn_30 : decode cX12_placeIn 30 = .ok (.if_icmp .ne 7, 3) := by decide +kernel
theorem dX12_placeIn_33 : decode cX12_placeIn 33 = .ok (.iconst 3, 1) := by decide +kernel
theorem dX12_placeIn_34 : decode cX12_placeIn 34 = .ok (.goto 14, 3) := by decide +kernel
theorem dX12_placeIn_37 : decode cX12_placeIn 37 = .ok (.iload_n 0, 1) := by decide +kernel
theorem dX12_placeIn_38 : decode cX12_placeIn 38 = .ok (.iload 5, 2) := by decide +kernel
theorem dX12_placeIn_40 : decode cX12_placeIn 40 = .ok (.if_icmp .ne 7, 3) := by decide +kernel
theorem dX12_placeIn_43 : decode cX12_placeIn 43 = .ok (.iconst 4, 1) := by decide +kernel
theorem dX12_placeIn_44 : decode cX12_placeIn 44 = .ok (.goto 4, 3) := by decide +kernel
theorem dX12_placeIn_47 : decode cX12_placeIn 47 = .ok (.iconst (-1), 1) := by decide +kernel
theorem dX12_placeIn_48 : decode cX12_placeIn 48 = .ok (.ireturn, 1) := by decide +kernel
theorem dX12_test_0 : decode cX12_test 0 = .ok (.aload_n 0, 1) := by decide +kernel
theorem dX12_test_1 : decode cX12_test 1 = .ok (.invokevirtual 370, 3) := by decide +kernel
theorem dX12_test_4 : decode cX12_test 4 = .ok (.istore_n 1, 1) := by decide +kernel
theorem dX12_test_5 : decode cX12_test 5 = .ok (.iload_n 1, 1) := by decide +kernel
theorem dX12_test_6 : decode cX12_test 6 = .ok (.bipush 121, 2) := by decide +kernel
theorem dX12_test_8 : decode cX12_test 8 = .ok (.bipush 107, 2) := by decide +kernel
theorem dX12_test_10 : decode cX12_test 10 = .ok (.bipush 116, 2) := by decide +kernel
theorem dX12_test_12 : decode cX12_test 12 = .ok (.bipush 115, 2) := by decide +kernel
theorem dX12_test_14 : decode cX12_test 14 = .ok (.bipush 110, 2) := by decide +kernel
theorem dX12_test_16 : decode cX12_test 16 = .ok (.invokestatic 376, 3) := by decide +kernel
theorem dX12_test_19 : decode cX12_test 19 = .ok (.istore_n 2, 1) := by decide +kernel
theorem dX12_test_20 : decode cX12_test 20 = .ok (.iload_n 1, 1) := by decide +kernel
theorem dX12_test_21 : decode cX12_test 21 = .ok (.bipush 111, 2) := by decide +kernel
theorem dX12_test_23 : decode cX12_test 23 = .ok (.bipush 103, 2) := by decide +kernel
theorem dX12_test_25 : decode cX12_test 25 = .ok (.bipush 100, 2) := by decide +kernel
theorem dX12_test_27 : decode cX12_test 27 = .ok (.bipush 102, 2) := by decide +kernel
theorem dX12_test_29 : decode cX12_test 29 = .ok (.bipush (-9), 2) := by decide +kernel
theorem dX12_test_31 : decode cX12_test 31 = .ok (.invokestatic 376, 3) := by decide +kernel
theorem dX12_test_34 : decode cX12_test 34 = .ok (.istore_n 3, 1) := by decide +kernel
theorem dX12_test_35 : decode cX12_test 35 = .ok (.iload_n 2, 1) := by decide +kernel
theorem dX12_test_36 : decode cX12_test 36 = .ok (.ifCond .ge 20, 3) := by decide +kernel
theorem dX12_test_39 : decode cX12_test 39 = .ok (.iload_n 3, 1) := by decide +kernel
theorem dX12_test_40 : decode cX12_test 40 = .ok (.ifCond .ge 16, 3) := by decide +kernel
theorem dX12_test_43 : decode cX12_test 43 = .ok (.aload_n 0, 1) := by decide +kernel
theorem dX12_test_44 : decode cX12_test 44 = .ok (.invokevirtual 373, 3) := by decide +kernel
theorem dX12_test_47 : decode cX12_test 47 = .ok (.ifCond .le 7, 3) := by decide +kernel
theorem dX12_test_50 : decode cX12_test 50 = .ok (.iconst 1, 1) := by decide +kernel
theorem dX12_test_51 : decode cX12_test 51 = .ok (.goto 4, 3) := by decide +kernel
theorem dX12_test_54 : decode cX12_test 54 = .ok (.iconst 0, 1) := by decide +kernel
theorem dX12_test_55 : decode cX12_test 55 = .ok (.ireturn, 1) := by decide +kernel
theorem dX12_test_56 : decode cX12_test 56 = .ok (.aload_n 0, 1) := by decide +kernel
theorem dX12_test_57 : decode cX12_test 57 = .ok (.dup, 1) := by decide +kernel
theorem dX12_test_58 : decode cX12_test 58 = .ok (.getfield 358, 3) := by decide +kernel
theorem dX12_test_61 : decode cX12_test 61 = .ok (.iconst 1, 1) := by decide +kernel
theorem dX12_test_62 : decode cX12_test 62 = .ok (.iadd, 1) := by decide +kernel
theorem dX12_test_63 : decode cX12_test 63 = .ok (.putfield 358, 3) := by decide +kernel
theorem dX12_test_66 : decode cX12_test 66 = .ok (.iload_n 2, 1) := by decide +kernel
theorem dX12_test_67 : decode cX12_test 67 = .ok (.ifCond .lt 12, 3) := by decide +kernel
theorem dX12_test_70 : decode cX12_test 70 = .ok (.aload_n 0, 1) := by decide +kernel
theorem dX12_test_71 : decode cX12_test 71 = .ok (.getfield 171, 3) := by decide +kernel
theorem dX12_test_74 : decode cX12_test 74 = .ok (.iload_n 2, 1) := by decide +kernel
theorem dX12_test_75 : decode cX12_test 75 = .ok (.iaload, 1) := by decide +kernel
theorem dX12_test_76 : decode cX12_test 76 = .ok (.goto 11, 3) := by decide +kernel
theorem dX12_test_79 : decode cX12_test 79 = .ok (.aload_n 0, 1) := by decide +kernel
theorem dX12_test_80 : decode cX12_test 80 = .ok (.getfield 171, 3) := by decide +kernel
theorem dX12_test_83 : decode cX12_test 83 = .ok (.iconst 5, 1) := by decide +kernel
theorem dX12_test_84 : decode cX12_test 84 = .ok (.iload_n 3, 1) := by decide +kernel
theorem dX12_test_85 : decode cX12_test 85 = .ok (.iadd, 1) := by decide +kernel
theorem dX12_test_86 : decode cX12_test 86 = .ok (.iaload, 1) := by decide +kernel
theorem dX12_test_87 : decode cX12_test 87 = .ok (.istore 4, 2) := by decide +kernel
theorem dX12_test_89 : decode cX12_test 89 = .ok (.aload_n 0, 1) := by decide +kernel
theorem dX12_test_90 : decode cX12_test 90 = .ok (.invokevirtual 370, 3) := by decide +kernel
theorem dX12_test_93 : decode cX12_test 93 = .ok (.bipush 60, 2) := by decide +kernel
theorem dX12_test_95 : decode cX12_test 95 = .ok (.bipush 61, 2) := by decide +kernel
theorem dX12_test_97 : decode cX12_test 97 = .ok (.bipush 33, 2) := by decide +kernel
theorem dX12_test_99 : decode cX12_test 99 = .ok (.bipush 43, 2) := by decide +kernel
theorem dX12_test_101 : decode cX12_test 101 = .ok (.bipush (-9), 2) := by decide +kernel
theorem dX12_test_103 : decode cX12_test 103 = .ok (.invokestatic 376, 3) := by decide +kernel
theorem dX12_test_106 : decode cX12_test 106 = .ok (.istore 5, 2) := by decide +kernel
theorem dX12_test_108 : decode cX12_test 108 = .ok (.iload 5, 2) := by decide +kernel
theorem dX12_test_110 : decode cX12_test 110 = .ok (.ifCond .ge 16, 3) := by decide +kernel
theorem dX12_test_113 : decode cX12_test 113 = .ok (.aload_n 0, 1) := by decide +kernel
theorem dX12_test_114 : decode cX12_test 114 = .ok (.invokevirtual 373, 3) := by decide +kernel
theorem dX12_test_117 : decode cX12_test 117 = .ok (.ifCond .le 7, 3) := by decide +kernel
theorem dX12_test_120 : decode cX12_test 120 = .ok (.iconst 1, 1) := by decide +kernel
theorem dX12_test_121 : decode cX12_test 121 = .ok (.goto 4, 3) := by decide +kernel
theorem dX12_test_124 : decode cX12_test 124 = .ok (.iconst 0, 1) := by decide +kernel
theorem dX12_test_125 : decode cX12_test 125 = .ok (.ireturn, 1) := by decide +kernel
theorem dX12_test_126 : decode cX12_test 126 = .ok (.aload_n 0, 1) := by decide +kernel
theorem dX12_test_127 : decode cX12_test 127 = .ok (.dup, 1) := by decide +kernel
theorem dX12_test_128 : decode cX12_test 128 = .ok (.getfield 358, 3) := by decide +kernel
theorem dX12_test_131 : decode cX12_test 131 = .ok (.iconst 1, 1) := by decide +kernel
theorem dX12_test_132 : decode cX12_test 132 = .ok (.iadd, 1) := by decide +kernel
theorem dX12_test_133 : decode cX12_test 133 = .ok (.putfield 358, 3) := by decide +kernel
theorem dX12_test_136 : decode cX12_test 136 = .ok (.aload_n 0, 1) := by decide +kernel
theorem dX12_test_137 : decode cX12_test 137 = .ok (.iconst 4, 1) := by decide +kernel
theorem dX12_test_138 : decode cX12_test 138 = .ok (.invokevirtual 380, 3) := by decide +kernel
theorem dX12_test_141 : decode cX12_test 141 = .ok (.istore 6, 2) := by decide +kernel
theorem dX12_test_143 : decode cX12_test 143 = .ok (.iload 5, 2) := by decide +kernel
theorem dX12_test_145 : decode cX12_test 145 = .ok (.ifCond .ne 18, 3) := by decide +kernel
theorem dX12_test_148 : decode cX12_test 148 = .ok (.iload 4, 2) := by decide +kernel
theorem dX12_test_150 : decode cX12_test 150 = .ok (.iload 6, 2) := by decide +kernel
theorem dX12_test_152 : decode cX12_test 152 = .ok (.if_icmp .ge 7, 3) := by decide +kernel
theorem dX12_test_155 : decode cX12_test 155 = .ok (.iconst 1, 1) := by decide +kernel
theorem dX12_test_156 : decode cX12_test 156 = .ok (.goto 61, 3) := by decide +kernel
theorem dX12_test_159 : decode cX12_test 159 = .ok (.iconst 0, 1) := by decide +kernel
theorem dX12_test_160 : decode cX12_test 160 = .ok (.goto 57, 3) := by decide +kernel
theorem dX12_test_163 : decode cX12_test 163 = .ok (.iload 5, 2) := by decide +kernel
theorem dX12_test_165 : decode cX12_test 165 = .ok (.iconst 1, 1) := by decide +kernel
theorem dX12_test_166 : decode cX12_test 166 = .ok (.if_icmp .ne 18, 3) := by decide +kernel
theorem dX12_test_169 : decode cX12_test 169 = .ok (.iload 4, 2) := by decide +kernel
theorem dX12_test_171 : decode cX12_test 171 = .ok (.iload 6, 2) := by decide +kernel
theorem dX12_test_173 : decode cX12_test 173 = .ok (.if_icmp .ne 7, 3) := by decide +kernel
theorem dX12_test_176 : decode cX12_test 176 = .ok (.iconst 1, 1) := by decide +kernel
theorem dX12_test_177 : decode cX12_test 177 = .ok (.goto 40, 3) := by decide +kernel
theorem dX12_test_180 : decode cX12_test 180 = .ok (.iconst 0, 1) := by decide +kernel
theorem dX12_test_181 : decode cX12_test 181 = .ok (.goto 36, 3) := by decide +kernel
theorem dX12_test_184 : decode cX12_test 184 = .ok (.iload 5, 2) := by decide +kernel
theorem dX12_test_186 : decode cX12_test 186 = .ok (.iconst 2, 1) := by decide +kernel
theorem dX12_test_187 : decode cX12_test 187 = .ok (.if_icmp .ne 18, 3) := by decide +kernel
theorem dX12_test_190 : decode cX12_test 190 = .ok (.iload 4, 2) := by decide +kernel
theorem dX12_test_192 : decode cX12_test 192 = .ok (.iload 6, 2) := by decide +kernel
theorem dX12_test_194 : decode cX12_test 194 = .ok (.if_icmp .eq 7, 3) := by decide +kernel
theorem dX12_test_197 : decode cX12_test 197 = .ok (.iconst 1, 1) := by decide +kernel
theorem dX12_test_198 : decode cX12_test 198 = .ok (.goto 19, 3) := by decide +kernel
theorem dX12_test_201 : decode cX12_test 201 = .ok (.iconst 0, 1) := by decide +kernel
theorem dX12_test_202 : decode cX12_test 202 = .ok (.goto 15, 3) := by decide +kernel
theorem dX12_test_205 : decode cX12_test 205 = .ok (.iload 4, 2) := by decide +kernel
theorem dX12_test_207 : decode cX12_test 207 = .ok (.iload 6, 2) := by decide +kernel
theorem dX12_test_209 : decode cX12_test 209 = .ok (.if_icmp .lt 7, 3) := by decide +kernel
theorem dX12_test_212 : decode cX12_test 212 = .ok (.iconst 1, 1) := by decide +kernel
theorem dX12_test_213 : decode cX12_test 213 = .ok (.goto 4, 3) := by decide +kernel
theorem dX12_test_216 : decode cX12_test 216 = .ok (.iconst 0, 1) := by decide +kernel
theorem dX12_test_217 : decode cX12_test 217 = .ok (.ireturn, 1) := by decide +kernel
theorem dX12_line_0 : decode cX12_line 0 = .ok (.iconst 1, 1) := by decide +kernel
theorem dX12_line_1 : decode cX12_line 1 = .ok (.istore_n 1, 1) := by decide +kernel
theorem dX12_line_2 : decode cX12_line 2 = .ok (.aload_n 0, 1) := by decide +kernel
theorem dX12_line_3 : decode cX12_line 3 = .ok (.invokevirtual 370, 3) := by decide +kernel
theorem dX12_line_6 : decode cX12_line 6 = .ok (.bipush 62, 2) := by decide +kernel
theorem dX12_line_8 : decode cX12_line 8 = .ok (.if_icmp .eq 71, 3) := by decide +kernel
theorem dX12_line_11 : decode cX12_line 11 = .ok (.iconst 1, 1) := by decide +kernel
theorem dX12_line_12 : decode cX12_line 12 = .ok (.istore_n 2, 1) := by decide +kernel
theorem dX12_line_13 : decode cX12_line 13 = .ok (.iload_n 2, 1) := by decide +kernel
theorem dX12_line_14 : decode cX12_line 14 = .ok (.ifCond .eq 65, 3) := by decide +kernel
theorem dX12_line_17 : decode cX12_line 17 = .ok (.aload_n 0, 1) := by decide +kernel
theorem dX12_line_18 : decode cX12_line 18 = .ok (.invokevirtual 383, 3) := by decide +kernel
theorem dX12_line_21 : decode cX12_line 21 = .ok (.istore_n 3, 1) := by decide +kernel
theorem dX12_line_22 : decode cX12_line 22 = .ok (.iload_n 1, 1) := by decide +kernel
theorem dX12_line_23 : decode cX12_line 23 = .ok (.ifCond .eq 11, 3) := by decide +kernel
theorem dX12_line_26 : decode cX12_line 26 = .ok (.iload_n 3, 1) := by decide +kernel
theorem dX12_line_27 : decode cX12_line 27 = .ok (.ifCond .eq 7, 3) := by decide +kernel
theorem dX12_line_30 : decode cX12_line 30 = .ok (.iconst 1, 1) := by decide +kernel
theorem dX12_line_31 : decode cX12_line 31 = .ok (.goto 4, 3) := by decide +kernel
theorem dX12_line_34 : decode cX12_line 34 = .ok (.iconst 0, 1) := by decide +kernel
theorem dX12_line_35 : decode cX12_line 35 = .ok (.istore_n 1, 1) := by decide +kernel
theorem dX12_line_36 : decode cX12_line 36 = .ok (.aload_n 0, 1) := by decide +kernel
theorem dX12_line_37 : decode cX12_line 37 = .ok (.getfield 364, 3) := by decide +kernel
theorem dX12_line_40 : decode cX12_line 40 = .ok (.ifCond .ge 16, 3) := by decide +kernel
theorem dX12_line_43 : decode cX12_line 43 = .ok (.aload_n 0, 1) := by decide +kernel
theorem dX12_line_44 : decode cX12_line 44 = .ok (.invokevirtual 370, 3) := by decide +kernel
theorem dX12_line_47 : decode cX12_line 47 = .ok (.bipush 38, 2) := by decide +kernel
theorem dX12_line_49 : decode cX12_line 49 = .ok (.if_icmp .ne 7, 3) := by decide +kernel
theorem dX12_line_52 : decode cX12_line 52 = .ok (.iconst 1, 1) := by decide +kernel
theorem dX12_line_53 : decode cX12_line 53 = .ok (.goto 4, 3) := by decide +kernel
theorem dX12_line_56 : decode cX12_line 56 = .ok (.iconst 0, 1) := by decide +kernel
theorem dX12_line_57 : decode cX12_line 57 = .ok (.istore_n 2, 1) := by decide +kernel
theorem dX12_line_58 : decode cX12_line 58 = .ok (.aload_n 0, 1) := by decide +kernel
theorem dX12_line_59 : decode cX12_line 59 = .ok (.dup, 1) := by decide +kernel
theorem dX12_line_60 : decode cX12_line 60 = .ok (.getfield 358, 3) := by decide +kernel
theorem dX12_line_63 : decode cX12_line 63 = .ok (.iload_n 2, 1) := by decide +kernel
theorem dX12_line_64 : decode cX12_line 64 = .ok (.ifCond .eq 7, 3) := by decide +kernel
theorem dX12_line_67 : decode cX12_line 67 = .ok (.iconst 1, 1) := by decide +kernel
theorem dX12_line_68 : decode cX12_line 68 = .ok (.goto 4, 3) := by decide +kernel
theorem dX12_line_71 : decode cX12_line 71 = .ok (.iconst 0, 1) := by decide +kernel
theorem dX12_line_72 : decode cX12_line 72 = .ok (.iadd, 1) := by decide +kernel
theorem dX12_line_73 : decode cX12_line 73 = .ok (.putfield 358, 3) := by decide +kernel
theorem dX12_line_76 : decode cX12_line 76 = .ok (.goto (-63), 3) := by decide +kernel
theorem dX12_line_79 : decode cX12_line 79 = .ok (.aload_n 0, 1) := by decide +kernel
theorem dX12_line_80 : decode cX12_line 80 = .ok (.getfield 364, 3) := by decide +kernel
theorem dX12_line_83 : decode cX12_line 83 = .ok (.ifCond .ge 25, 3) := by decide +kernel
theorem dX12_line_86 : decode cX12_line 86 = .ok (.aload_n 0, 1) := by decide +kernel
theorem dX12_line_87 : decode cX12_line 87 = .ok (.invokevirtual 370, 3) := by decide +kernel
theorem dX12_line_90 : decode cX12_line 90 = .ok (.bipush 62, 2) := by decide +kernel
theorem dX12_line_92 : decode cX12_line 92 = .ok (.if_icmp .eq 16, 3) := by decide +kernel
theorem dX12_line_95 : decode cX12_line 95 = .ok (.aload_n 0, 1) := by decide +kernel
theorem dX12_line_96 : decode cX12_line 96 = .ok (.invokevirtual 373, 3) := by decide +kernel
theorem dX12_line_99 : decode cX12_line 99 = .ok (.ifCond .le 7, 3) := by decide +kernel
theorem dX12_line_102 : decode cX12_line 102 = .ok (.iconst 1, 1) := by decide +kernel
theorem dX12_line_103 : decode cX12_line 103 = .ok (.goto 4, 3) := by decide +kernel
theorem dX12_line_106 : decode cX12_line 106 = .ok (.iconst 0, 1) := by decide +kernel
theorem dX12_line_107 : decode cX12_line 107 = .ok (.ireturn, 1) := by decide +kernel
theorem dX12_line_108 : decode cX12_line 108 = .ok (.aload_n 0, 1) := by decide +kernel
theorem dX12_line_109 : decode cX12_line 109 = .ok (.dup, 1) := by decide +kernel
theorem dX12_line_110 : decode cX12_line 110 = .ok (.getfield 358, 3) := by decide +kernel
theorem dX12_line_113 : decode cX12_line 113 = .ok (.aload_n 0, 1) := by decide +kernel
theorem dX12_line_114 : decode cX12_line 114 = .ok (.getfield 364, 3) := by decide +kernel
theorem dX12_line_117 : decode cX12_line 117 = .ok (.ifCond .ge 7, 3) := by decide +kernel
theorem dX12_line_120 : decode cX12_line 120 = .ok (.iconst 1, 1) := by decide +kernel
theorem dX12_line_121 : decode cX12_line 121 = .ok (.goto 4, 3) := by decide +kernel
theorem dX12_line_124 : decode cX12_line 124 = .ok (.iconst 0, 1) := by decide +kernel
theorem dX12_line_125 : decode cX12_line 125 = .ok (.iadd, 1) := by decide +kernel
theorem dX12_line_126 : decode cX12_line 126 = .ok (.putfield 358, 3) := by decide +kernel
theorem dX12_line_129 : decode cX12_line 129 = .ok (.aload_n 0, 1) := by decide +kernel
theorem dX12_line_130 : decode cX12_line 130 = .ok (.aload_n 0, 1) := by decide +kernel
theorem dX12_line_131 : decode cX12_line 131 = .ok (.invokevirtual 370, 3) := by decide +kernel
theorem dX12_line_134 : decode cX12_line 134 = .ok (.bipush 98, 2) := by decide +kernel
theorem dX12_line_136 : decode cX12_line 136 = .ok (.bipush 119, 2) := by decide +kernel
theorem dX12_line_138 : decode cX12_line 138 = .ok (.bipush 104, 2) := by decide +kernel
theorem dX12_line_140 : decode cX12_line 140 = .ok (.bipush 99, 2) := by decide +kernel
theorem dX12_line_142 : decode cX12_line 142 = .ok (.bipush 118, 2) := by decide +kernel
theorem dX12_line_144 : decode cX12_line 144 = .ok (.invokestatic 376, 3) := by decide +kernel
theorem dX12_line_147 : decode cX12_line 147 = .ok (.putfield 387, 3) := by decide +kernel
theorem dX12_line_150 : decode cX12_line 150 = .ok (.aload_n 0, 1) := by decide +kernel
theorem dX12_line_151 : decode cX12_line 151 = .ok (.getfield 364, 3) := by decide +kernel
theorem dX12_line_154 : decode cX12_line 154 = .ok (.ifCond .ge 10, 3) := by decide +kernel
theorem dX12_line_157 : decode cX12_line 157 = .ok (.aload_n 0, 1) := by decide +kernel
theorem dX12_line_158 : decode cX12_line 158 = .ok (.getfield 387, 3) := by decide +kernel
theorem dX12_line_161 : decode cX12_line 161 = .ok (.ifCond .ge 16, 3) := by decide +kernel
theorem dX12_line_164 : decode cX12_line 164 = .ok (.aload_n 0, 1) := by decide +kernel
theorem dX12_line_165 : decode cX12_line 165 = .ok (.invokevirtual 373, 3) := by decide +kernel
theorem dX12_line_168 : decode cX12_line 168 = .ok (.ifCond .le 7, 3) := by decide +kernel
theorem dX12_line_171 : decode cX12_line 171 = .ok (.iconst 1, 1) := by decide +kernel
theorem dX12_line_172 : decode cX12_line 172 = .ok (.goto 4, 3) := by decide +kernel
theorem dX12_line_175 : decode cX12_line 175 = .ok (.iconst 0, 1) := by decide +kernel
theorem dX12_line_176 : decode cX12_line 176 = .ok (.ireturn, 1) := by decide +kernel
theorem dX12_line_177 : decode cX12_line 177 = .ok (.aload_n 0, 1) := by decide +kernel
theorem dX12_line_178 : decode cX12_line 178 = .ok (.dup, 1) := by decide +kernel
theorem dX12_line_179 : decode cX12_line 179 = .ok (.getfield 358, 3) := by decide +kernel
theorem dX12_line_182 : decode cX12_line 182 = .ok (.iconst 1, 1) := by decide +kernel
theorem dX12_line_183 : decode cX12_line 183 = .ok (.iadd, 1) := by decide +kernel
theorem dX12_line_184 : decode cX12_line 184 = .ok (.putfield 358, 3) := by decide +kernel
theorem dX12_line_187 : decode cX12_line 187 = .ok (.aload_n 0, 1) := by decide +kernel
theorem dX12_line_188 : decode cX12_line 188 = .ok (.invokevirtual 370, 3) := by decide +kernel
theorem dX12_line_191 : decode cX12_line 191 = .ok (.bipush 48, 2) := by decide +kernel
theorem dX12_line_193 : decode cX12_line 193 = .ok (.if_icmp .lt 16, 3) := by decide +kernel
theorem dX12_line_196 : decode cX12_line 196 = .ok (.aload_n 0, 1) := by decide +kernel
theorem dX12_line_197 : decode cX12_line 197 = .ok (.invokevirtual 370, 3) := by decide +kernel
theorem dX12_line_200 : decode cX12_line 200 = .ok (.bipush 57, 2) := by decide +kernel
theorem dX12_line_202 : decode cX12_line 202 = .ok (.if_icmp .gt 7, 3) := by decide +kernel
theorem dX12_line_205 : decode cX12_line 205 = .ok (.iconst 1, 1) := by decide +kernel
theorem dX12_line_206 : decode cX12_line 206 = .ok (.goto 4, 3) := by decide +kernel
theorem dX12_line_209 : decode cX12_line 209 = .ok (.iconst 0, 1) := by decide +kernel
theorem dX12_line_210 : decode cX12_line 210 = .ok (.istore_n 2, 1) := by decide +kernel
theorem dX12_line_211 : decode cX12_line 211 = .ok (.aload_n 0, 1) := by decide +kernel
theorem dX12_line_212 : decode cX12_line 212 = .ok (.iload_n 2, 1) := by decide +kernel
theorem dX12_line_213 : decode cX12_line 213 = .ok (.ifCond .eq 11, 3) := by decide +kernel
theorem dX12_line_216 : decode cX12_line 216 = .ok (.aload_n 0, 1) := by decide +kernel
theorem dX12_line_217 : decode cX12_line 217 = .ok (.iconst 4, 1) := by decide +kernel
theorem dX12_line_218 : decode cX12_line 218 = .ok (.invokevirtual 380, 3) := by decide +kernel
theorem dX12_line_221 : decode cX12_line 221 = .ok (.goto 4, 3) := by decide +kernel
theorem dX12_line_224 : decode cX12_line 224 = .ok (.iconst 0, 1) := by decide +kernel
theorem dX12_line_225 : decode cX12_line 225 = .ok (.putfield 390, 3) := by decide +kernel
theorem dX12_line_228 : decode cX12_line 228 = .ok (.aload_n 0, 1) := by decide +kernel
theorem dX12_line_229 : decode cX12_line 229 = .ok (.getfield 364, 3) := by decide +kernel
theorem dX12_line_232 : decode cX12_line 232 = .ok (.ifCond .ge 25, 3) := by decide +kernel
theorem dX12_line_235 : decode cX12_line 235 = .ok (.aload_n 0, 1) := by decide +kernel
theorem dX12_line_236 : decode cX12_line 236 = .ok (.invokevirtual 370, 3) := by decide +kernel
theorem dX12_line_239 : decode cX12_line 239 = .ok (.bipush 59, 2) := by decide +kernel
theorem dX12_line_241 : decode cX12_line 241 = .ok (.if_icmp .eq 16, 3) := by decide +kernel
theorem dX12_line_244 : decode cX12_line 244 = .ok (.aload_n 0, 1) := by decide +kernel
theorem dX12_line_245 : decode cX12_line 245 = .ok (.invokevirtual 373, 3) := by decide +kernel
theorem dX12_line_248 : decode cX12_line 248 = .ok (.ifCond .le 7, 3) := by decide +kernel
theorem dX12_line_251 : decode cX12_line 251 = .ok (.iconst 1, 1) := by decide +kernel
theorem dX12_line_252 : decode cX12_line 252 = .ok (.goto 4, 3) := by decide +kernel
theorem dX12_line_255 : decode cX12_line 255 = .ok (.iconst 0, 1) := by decide +kernel
theorem dX12_line_256 : decode cX12_line 256 = .ok (.ireturn, 1) := by decide +kernel
theorem dX12_line_257 : decode cX12_line 257 = .ok (.aload_n 0, 1) := by decide +kernel
theorem dX12_line_258 : decode cX12_line 258 = .ok (.dup, 1) := by decide +kernel
theorem dX12_line_259 : decode cX12_line 259 = .ok (.getfield 358, 3) := by decide +kernel
theorem dX12_line_262 : decode cX12_line 262 = .ok (.aload_n 0, 1) := by decide +kernel
theorem dX12_line_263 : decode cX12_line 263 = .ok (.getfield 364, 3) := by decide +kernel
theorem dX12_line_266 : decode cX12_line 266 = .ok (.ifCond .ge 7, 3) := by decide +kernel
theorem dX12_line_269 : decode cX12_line 269 = .ok (.iconst 1, 1) := by decide +kernel
theorem dX12_line_270 : decode cX12_line 270 = .ok (.goto 4, 3) := by decide +kernel
theorem dX12_line_273 : decode cX12_line 273 = .ok (.iconst 0, 1) := by decide +kernel
theorem dX12_line_274 : decode cX12_line 274 = .ok (.iadd, 1) := by decide +kernel
theorem dX12_line_275 : decode cX12_line 275 = .ok (.putfield 358, 3) := by decide +kernel
theorem dX12_line_278 : decode cX12_line 278 = .ok (.iload_n 1, 1) := by decide +kernel
theorem dX12_line_279 : decode cX12_line 279 = .ok (.ireturn, 1) := by decide +kernel
theorem dX12_readWarranty_0 : decode cX12_readWarranty 0 = .ok (.aload_n 0, 1) := by decide +kernel
theorem dX12_readWarranty_1 : decode cX12_readWarranty 1 = .ok (.iload_n 1, 1) := by decide +kernel
theorem dX12_readWarranty_2 : decode cX12_readWarranty 2 = .ok (.iload_n 2, 1) := by decide +kernel
theorem dX12_readWarranty_3 : decode cX12_readWarranty 3 = .ok (.invokevirtual 393, 3) := by decide +kernel
theorem dX12_readWarranty_6 : decode cX12_readWarranty 6 = .ok (.aload_n 0, 1) := by decide +kernel
theorem dX12_readWarranty_7 : decode cX12_readWarranty 7 = .ok (.iconst (-1), 1) := by decide +kernel
theorem dX12_readWarranty_8 : decode cX12_readWarranty 8 = .ok (.putfield 396, 3) := by decide +kernel
theorem dX12_readWarranty_11 : decode cX12_readWarranty 11 = .ok (.iconst 0, 1) := by decide +kernel
theorem dX12_readWarranty_12 : decode cX12_readWarranty 12 = .ok (.istore_n 3, 1) := by decide +kernel
theorem dX12_readWarranty_13 : decode cX12_readWarranty 13 = .ok (.iconst 1, 1) := by decide +kernel
theorem dX12_readWarranty_14 : decode cX12_readWarranty 14 = .ok (.istore 4, 2) := by decide +kernel
theorem dX12_readWarranty_16 : decode cX12_readWarranty 16 = .ok (.iload 4, 2) := by decide +kernel
theorem dX12_readWarranty_18 : decode cX12_readWarranty 18 = .ok (.ifCond .eq 80, 3) := by decide +kernel
theorem dX12_readWarranty_21 : decode cX12_readWarranty 21 = .ok (.aload_n 0, 1) := by decide +kernel
theorem dX12_readWarranty_22 : decode cX12_readWarranty 22 = .ok (.invokevirtual 399, 3) := by decide +kernel
theorem dX12_readWarranty_25 : decode cX12_readWarranty 25 = .ok (.istore 5, 2) := by decide +kernel
theorem dX12_readWarranty_27 : decode cX12_readWarranty 27 = .ok (.aload_n 0, 1) := by decide +kernel
theorem dX12_readWarranty_28 : decode cX12_readWarranty 28 = .ok (.getfield 364, 3) := by decide +kernel
theorem dX12_readWarranty_31 : decode cX12_readWarranty 31 = .ok (.ifCond .ge 36, 3) := by decide +kernel
theorem dX12_readWarranty_34 : decode cX12_readWarranty 34 = .ok (.iload 5, 2) := by decide +kernel
theorem dX12_readWarranty_36 : decode cX12_readWarranty 36 = .ok (.ifCond .eq 31, 3) := by decide +kernel
theorem dX12_readWarranty_39 : decode cX12_readWarranty 39 = .ok (.aload_n 0, 1) := by decide +kernel
theorem dX12_readWarranty_40 : decode cX12_readWarranty 40 = .ok (.getfield 396, 3) := by decide +kernel
theorem dX12_readWarranty_43 : decode cX12_readWarranty 43 = .ok (.ifCond .ge 24, 3) := by decide +kernel
theorem dX12_readWarranty_46 : decode cX12_readWarranty 46 = .ok (.aload_n 0, 1) := by decide +kernel
theorem dX12_readWarranty_47 : decode cX12_readWarranty 47 = .ok (.iload_n 3, 1) := by decide +kernel
theorem dX12_readWarranty_48 : decode cX12_readWarranty 48 = .ok (.putfield 396, 3) := by decide +kernel
theorem dX12_readWarranty_51 : decode cX12_readWarranty 51 = .ok (.aload_n 0, 1) := by decide +kernel
theorem dX12_readWarranty_52 : decode cX12_readWarranty 52 = .ok (.aload_n 0, 1) := by decide +kernel
theorem dX12_readWarranty_53 : decode cX12_readWarranty 53 = .ok (.getfield 387, 3) := by decide +kernel
theorem dX12_readWarranty_56 : decode cX12_readWarranty 56 = .ok (.putfield 402, 3) := by decide +kernel
theorem dX12_readWarranty_59 : decode cX12_readWarranty 59 = .ok (.aload_n 0, 1) := by decide +kernel
theorem dX12_readWarranty_60 : decode cX12_readWarranty 60 = .ok (.aload_n 0, 1) := by decide +kernel
theorem dX12_readWarranty_61 : decode cX12_readWarranty 61 = .ok (.getfield 390, 3) := by decide +kernel
theorem dX12_readWarranty_64 : decode cX12_readWarranty 64 = .ok (.putfield 405, 3) := by decide +kernel
theorem dX12_readWarranty_67 : decode cX12_readWarranty 67 = .ok (.iinc 3 1, 3) := by decide +kernel
theorem dX12_readWarranty_70 : decode cX12_readWarranty 70 = .ok (.aload_n 0, 1) := by decide +kernel
theorem dX12_readWarranty_71 : decode cX12_readWarranty 71 = .ok (.getfield 364, 3) := by decide +kernel
theorem dX12_readWarranty_74 : decode cX12_readWarranty 74 = .ok (.ifCond .ge 18, 3) := by decide +kernel
theorem dX12_readWarranty_77 : decode cX12_readWarranty 77 = .ok (.aload_n 0, 1) := by decide +kernel
theorem dX12_readWarranty_78 : decode cX12_readWarranty 78 = .ok (.getfield 358, 3) := by decide +kernel
theorem dX12_readWarranty_81 : decode cX12_readWarranty 81 = .ok (.aload_n 0, 1) := by decide +kernel
theorem dX12_readWarranty_82 : decode cX12_readWarranty 82 = .ok (.getfield 361, 3) := by decide +kernel
theorem dX12_readWarranty_85 : decode cX12_readWarranty 85 = .ok (.if_icmp .ge 7, 3) := by decide +kernel
theorem dX12_readWarranty_88 : decode cX12_readWarranty 88 = .ok (.iconst 1, 1) := by decide +kernel
theorem dX12_readWarranty_89 : decode cX12_readWarranty 89 = .ok (.goto 4, 3) := by decide +kernel
theorem dX12_readWarranty_92 : decode cX12_readWarranty 92 = .ok (.iconst 0, 1) := by decide +kernel
theorem dX12_readWarranty_93 : decode cX12_readWarranty 93 = .ok (.istore 4, 2) := by decide +kernel
theorem dX12_readWarranty_95 : decode cX12_readWarranty 95 = .ok (.goto (-79), 3) := by decide +kernel
theorem dX12_readWarranty_98 : decode cX12_readWarranty 98 = .ok (.return_, 1) := by decide +kernel
theorem dX12_sum_0 : decode cX12_sum 0 = .ok (.aload_n 0, 1) := by decide +kernel
theorem dX12_sum_1 : decode cX12_sum 1 = .ok (.invokevirtual 408, 3) := by decide +kernel
theorem dX12_sum_4 : decode cX12_sum 4 = .ok (.istore_n 1, 1) := by decide +kernel
theorem dX12_sum_5 : decode cX12_sum 5 = .ok (.aload_n 0, 1) := by decide +kernel
theorem dX12_sum_6 : decode cX12_sum 6 = .ok (.invokevirtual 370, 3) := by decide +kernel
theorem dX12_sum_9 : decode cX12_sum 9 = .ok (.bipush 43, 2) := by decide +kernel
theorem dX12_sum_11 : decode cX12_sum 11 = .ok (.bipush 45, 2) := by decide +kernel
theorem dX12_sum_13 : decode cX12_sum 13 = .ok (.bipush 42, 2) := by decide +kernel
theorem dX12_sum_15 : decode cX12_sum 15 = .ok (.bipush 47, 2) := by decide +kernel
theorem dX12_sum_17 : decode cX12_sum 17 = .ok (.bipush (-9), 2) := by decide +kernel
theorem dX12_sum_19 : decode cX12_sum 19 = .ok (.invokestatic 376, 3) := by decide +kernel
theorem dX12_sum_22 : decode cX12_sum 22 = .ok (.istore_n 2, 1) := by decide +kernel
theorem dX12_sum_23 : decode cX12_sum 23 = .ok (.aload_n 0, 1) := by decide +kernel
theorem dX12_sum_24 : decode cX12_sum 24 = .ok (.getfield 364, 3) := by decide +kernel
theorem dX12_sum_27 : decode cX12_sum 27 = .ok (.ifCond .ge 87, 3) := by decide +kernel
theorem dX12_sum_30 : decode cX12_sum 30 = .ok (.iload_n 2, 1) := by decide +kernel
theorem dX12_sum_31 : decode cX12_sum 31 = .ok (.ifCond .lt 83, 3) := by decide +kernel
theorem dX12_sum_34 : decode cX12_sum 34 = .ok (.aload_n 0, 1) := by decide +kernel
theorem dX12_sum_35 : decode cX12_sum 35 = .ok (.dup, 1) := by decide +kernel
theorem dX12_sum_36 : decode cX12_sum 36 = .ok (.getfield 358, 3) := by decide +kernel
theorem dX12_sum_39 : decode cX12_sum 39 = .ok (.iconst 1, 1) := by decide +kernel
theorem dX12_sum_40 : decode cX12_sum 40 = .ok (.iadd, 1) := by decide +kernel
theorem dX12_sum_41 : decode cX12_sum 41 = .ok (.putfield 358, 3) := by decide +kernel
theorem dX12_sum_44 : decode cX12_sum 44 = .ok (.aload_n 0, 1) := by decide +kernel
theorem dX12_sum_45 : decode cX12_sum 45 = .ok (.invokevirtual 408, 3) := by decide +kernel
theorem dX12_sum_48 : decode cX12_sum 48 = .ok (.istore_n 3, 1) := by decide +kernel
theorem dX12_sum_49 : decode cX12_sum 49 = .ok (.iload_n 2, 1) := by decide +kernel
theorem dX12_sum_50 : decode cX12_sum 50 = .ok (.ifCond .ne 9, 3) := by decide +kernel
theorem dX12_sum_53 : decode cX12_sum 53 = .ok (.iload_n 1, 1) := by decide +kernel
theorem dX12_sum_54 : decode cX12_sum 54 = .ok (.iload_n 3, 1) := by decide +kernel
theorem dX12_sum_55 : decode cX12_sum 55 = .ok (.iadd, 1) := by decide +kernel
theorem dX12_sum_56 : decode cX12_sum 56 = .ok (.goto 36, 3) := by decide +kernel
theorem dX12_sum_59 : decode cX12_sum 59 = .ok (.iload_n 2, 1) := by decide +kernel
theorem dX12_sum_60 : decode cX12_sum 60 = .ok (.iconst 1, 1) := by decide +kernel
theorem dX12_sum_61 : decode cX12_sum 61 = .ok (.if_icmp .ne 9, 3) := by decide +kernel
theorem dX12_sum_64 : decode cX12_sum 64 = .ok (.iload_n 1, 1) := by decide +kernel
theorem dX12_sum_65 : decode cX12_sum 65 = .ok (.iload_n 3, 1) := by decide +kernel
theorem dX12_sum_66 : decode cX12_sum 66 = .ok (.isub, 1) := by decide +kernel
theorem dX12_sum_67 : decode cX12_sum 67 = .ok (.goto 25, 3) := by decide +kernel
theorem dX12_sum_70 : decode cX12_sum 70 = .ok (.iload_n 2, 1) := by decide +kernel
theorem dX12_sum_71 : decode cX12_sum 71 = .ok (.iconst 2, 1) := by decide +kernel
theorem dX12_sum_72 : decode cX12_sum 72 = .ok (.if_icmp .ne 9, 3) := by decide +kernel
theorem dX12_sum_75 : decode cX12_sum 75 = .ok (.iload_n 1, 1) := by decide +kernel
theorem dX12_sum_76 : decode cX12_sum 76 = .ok (.iload_n 3, 1) := by decide +kernel
theorem dX12_sum_77 : decode cX12_sum 77 = .ok (.imul, 1) := by decide +kernel
theorem dX12_sum_78 : decode cX12_sum 78 = .ok (.goto 14, 3) := by decide +kernel
theorem dX12_sum_81 : decode cX12_sum 81 = .ok (.iload_n 3, 1) := by decide +kernel
theorem dX12_sum_82 : decode cX12_sum 82 = .ok (.ifCond .ne 7, 3) := by decide +kernel
theorem dX12_sum_85 : decode cX12_sum 85 = .ok (.iconst 0, 1) := by decide +kernel
theorem dX12_sum_86 : decode cX12_sum 86 = .ok (.goto 6, 3) := by decide +kernel
theorem dX12_sum_89 : decode cX12_sum 89 = .ok (.iload_n 1, 1) := by decide +kernel
theorem dX12_sum_90 : decode cX12_sum 90 = .ok (.iload_n 3, 1) := by decide +kernel
theorem dX12_sum_91 : decode cX12_sum 91 = .ok (.idiv, 1) := by decide +kernel
theorem dX12_sum_92 : decode cX12_sum 92 = .ok (.istore_n 1, 1) := by decide +kernel
theorem dX12_sum_93 : decode cX12_sum 93 = .ok (.aload_n 0, 1) := by decide +kernel
theorem dX12_sum_94 : decode cX12_sum 94 = .ok (.invokevirtual 370, 3) := by decide +kernel
theorem dX12_sum_97 : decode cX12_sum 97 = .ok (.bipush 43, 2) := by decide +kernel
theorem dX12_sum_99 : decode cX12_sum 99 = .ok (.bipush 45, 2) := by decide +kernel
theorem dX12_sum_101 : decode cX12_sum 101 = .ok (.bipush 42, 2) := by decide +kernel
theorem dX12_sum_103 : decode cX12_sum 103 = .ok (.bipush 47, 2) := by decide +kernel
theorem dX12_sum_105 : decode cX12_sum 105 = .ok (.bipush (-9), 2) := by decide +kernel
theorem dX12_sum_107 : decode cX12_sum 107 = .ok (.invokestatic 376, 3) := by decide +kernel
theorem dX12_sum_110 : decode cX12_sum 110 = .ok (.istore_n 2, 1) := by decide +kernel
theorem dX12_sum_111 : decode cX12_sum 111 = .ok (.goto (-88), 3) := by decide +kernel
theorem dX12_sum_114 : decode cX12_sum 114 = .ok (.iload_n 1, 1) := by decide +kernel
theorem dX12_sum_115 : decode cX12_sum 115 = .ok (.ireturn, 1) := by decide +kernel
theorem dX12_one_0 : decode cX12_one 0 = .ok (.aload_n 0, 1) := by decide +kernel
theorem dX12_one_1 : decode cX12_one 1 = .ok (.getfield 364, 3) := by decide +kernel
theorem dX12_one_4 : decode cX12_one 4 = .ok (.ifCond .lt 5, 3) := by decide +kernel
theorem dX12_one_7 : decode cX12_one 7 = .ok (.iconst 0, 1) := by decide +kernel
theorem dX12_one_8 : decode cX12_one 8 = .ok (.ireturn, 1) := by decide +kernel
theorem dX12_one_9 : decode cX12_one 9 = .ok (.aload_n 0, 1) := by decide +kernel
theorem dX12_one_10 : decode cX12_one 10 = .ok (.invokevirtual 370, 3) := by decide +kernel
theorem dX12_one_13 : decode cX12_one 13 = .ok (.istore_n 1, 1) := by decide +kernel
theorem dX12_one_14 : decode cX12_one 14 = .ok (.iload_n 1, 1) := by decide +kernel
theorem dX12_one_15 : decode cX12_one 15 = .ok (.bipush 40, 2) := by decide +kernel
theorem dX12_one_17 : decode cX12_one 17 = .ok (.if_icmp .ne 85, 3) := by decide +kernel
theorem dX12_one_20 : decode cX12_one 20 = .ok (.aload_n 0, 1) := by decide +kernel
theorem dX12_one_21 : decode cX12_one 21 = .ok (.getfield 367, 3) := by decide +kernel
theorem dX12_one_24 : decode cX12_one 24 = .ok (.bipush 6, 2) := by decide +kernel
theorem dX12_one_26 : decode cX12_one 26 = .ok (.if_icmp .ne 8, 3) := by decide +kernel
theorem dX12_one_29 : decode cX12_one 29 = .ok (.aload_n 0, 1) := by decide +kernel
theorem dX12_one_30 : decode cX12_one 30 = .ok (.invokevirtual 373, 3) := by decide +kernel
theorem dX12_one_33 : decode cX12_one 33 = .ok (.ireturn, 1) := by decide +kernel
theorem dX12_one_34 : decode cX12_one 34 = .ok (.aload_n 0, 1) := by decide +kernel
theorem dX12_one_35 : decode cX12_one 35 = .ok (.dup, 1) := by decide +kernel
theorem dX12_one_36 : decode cX12_one 36 = .ok (.getfield 367, 3) := by decide +kernel
theorem dX12_one_39 : decode cX12_one 39 = .ok (.iconst 1, 1) := by decide +kernel
theorem dX12_one_40 : decode cX12_one 40 = .ok (.iadd, 1) := by decide +kernel
theorem dX12_one_41 : decode cX12_one 41 = .ok (.putfield 367, 3) := by decide +kernel
theorem dX12_one_44 : decode cX12_one 44 = .ok (.aload_n 0, 1) := by decide +kernel
theorem dX12_one_45 : decode cX12_one 45 = .ok (.dup, 1) := by decide +kernel
theorem dX12_one_46 : decode cX12_one 46 = .ok (.getfield 358, 3) := by decide +kernel
theorem dX12_one_49 : decode cX12_one 49 = .ok (.iconst 1, 1) := by decide +kernel
theorem dX12_one_50 : decode cX12_one 50 = .ok (.iadd, 1) := by decide +kernel
theorem dX12_one_51 : decode cX12_one 51 = .ok (.putfield 358, 3) := by decide +kernel
theorem dX12_one_54 : decode cX12_one 54 = .ok (.aload_n 0, 1) := by decide +kernel
theorem dX12_one_55 : decode cX12_one 55 = .ok (.invokevirtual 411, 3) := by decide +kernel
theorem dX12_one_58 : decode cX12_one 58 = .ok (.istore_n 2, 1) := by decide +kernel
theorem dX12_one_59 : decode cX12_one 59 = .ok (.aload_n 0, 1) := by decide +kernel
theorem dX12_one_60 : decode cX12_one 60 = .ok (.getfield 364, 3) := by decide +kernel
theorem dX12_one_63 : decode cX12_one 63 = .ok (.ifCond .ge 17, 3) := by decide +kernel
theorem dX12_one_66 : decode cX12_one 66 = .ok (.aload_n 0, 1) := by decide +kernel
theorem dX12_one_67 : decode cX12_one 67 = .ok (.invokevirtual 370, 3) := by decide +kernel
theorem dX12_one_70 : decode cX12_one 70 = .ok (.bipush 41, 2) := by decide +kernel
theorem dX12_one_72 : decode cX12_one 72 = .ok (.if_icmp .eq 8, 3) := by decide +kernel
theorem dX12_one_75 : decode cX12_one 75 = .ok (.aload_n 0, 1) := by decide +kernel
theorem dX12_one_76 : decode cX12_one 76 = .ok (.invokevirtual 373, 3) := by decide +kernel
theorem dX12_one_79 : decode cX12_one 79 = .ok (.ireturn, 1) := by decide +kernel
theorem dX12_one_80 : decode cX12_one 80 = .ok (.aload_n 0, 1) := by decide +kernel
theorem dX12_one_81 : decode cX12_one 81 = .ok (.dup, 1) := by decide +kernel
theorem dX12_one_82 : decode cX12_one 82 = .ok (.getfield 358, 3) := by decide +kernel
theorem dX12_one_85 : decode cX12_one 85 = .ok (.iconst 1, 1) := by decide +kernel
theorem dX12_one_86 : decode cX12_one 86 = .ok (.iadd, 1) := by decide +kernel
theorem dX12_one_87 : decode cX12_one 87 = .ok (.putfield 358, 3) := by decide +kernel
theorem dX12_one_90 : decode cX12_one 90 = .ok (.aload_n 0, 1) := by decide +kernel
theorem dX12_one_91 : decode cX12_one 91 = .ok (.dup, 1) := by decide +kernel
theorem dX12_one_92 : decode cX12_one 92 = .ok (.getfield 367, 3) := by decide +kernel
theorem dX12_one_95 : decode cX12_one 95 = .ok (.iconst 1, 1) := by decide +kernel
theorem dX12_one_96 : decode cX12_one 96 = .ok (.isub, 1) := by decide +kernel
theorem dX12_one_97 : decode cX12_one 97 = .ok (.putfield 367, 3) := by decide +kernel
theorem dX12_one_100 : decode cX12_one 100 = .ok (.iload_n 2, 1) := by decide +kernel
theorem dX12_one_101 : decode cX12_one 101 = .ok (.ireturn, 1) := by decide +kernel
theorem dX12_one_102 : decode cX12_one 102 = .ok (.iload_n 1, 1) := by decide +kernel
theorem dX12_one_103 : decode cX12_one 103 = .ok (.bipush 113, 2) := by decide +kernel
theorem dX12_one_105 : decode cX12_one 105 = .ok (.bipush 121, 2) := by decide +kernel
theorem dX12_one_107 : decode cX12_one 107 = .ok (.bipush 120, 2) := by decide +kernel
theorem dX12_one_109 : decode cX12_one 109 = .ok (.bipush 98, 2) := by decide +kernel
theorem dX12_one_111 : decode cX12_one 111 = .ok (.bipush 114, 2) := by decide +kernel
theorem dX12_one_113 : decode cX12_one 113 = .ok (.invokestatic 376, 3) := by decide +kernel
theorem dX12_one_116 : decode cX12_one 116 = .ok (.istore_n 2, 1) := by decide +kernel
theorem dX12_one_117 : decode cX12_one 117 = .ok (.iload_n 2, 1) := by decide +kernel
theorem dX12_one_118 : decode cX12_one 118 = .ok (.ifCond .lt 20, 3) := by decide +kernel
theorem dX12_one_121 : decode cX12_one 121 = .ok (.aload_n 0, 1) := by decide +kernel
theorem dX12_one_122 : decode cX12_one 122 = .ok (.dup, 1) := by decide +kernel
theorem dX12_one_123 : decode cX12_one 123 = .ok (.getfield 358, 3) := by decide +kernel
theorem dX12_one_126 : decode cX12_one 126 = .ok (.iconst 1, 1) := by decide +kernel
theorem dX12_one_127 : decode cX12_one 127 = .ok (.iadd, 1) := by decide +kernel
theorem dX12_one_128 : decode cX12_one 128 = .ok (.putfield 358, 3) := by decide +kernel
theorem dX12_one_131 : decode cX12_one 131 = .ok (.aload_n 0, 1) := by decide +kernel
theorem dX12_one_132 : decode cX12_one 132 = .ok (.getfield 174, 3) := by decide +kernel
theorem dX12_one_135 : decode cX12_one 135 = .ok (.iload_n 2, 1) := by decide +kernel
theorem dX12_one_136 : decode cX12_one 136 = .ok (.iaload, 1) := by decide +kernel
theorem dX12_one_137 : decode cX12_one 137 = .ok (.ireturn, 1) := by decide +kernel
theorem dX12_one_138 : decode cX12_one 138 = .ok (.aload_n 0, 1) := by decide +kernel
theorem dX12_one_139 : decode cX12_one 139 = .ok (.iconst 5, 1) := by decide +kernel
theorem dX12_one_140 : decode cX12_one 140 = .ok (.invokevirtual 380, 3) := by decide +kernel
theorem dX12_one_143 : decode cX12_one 143 = .ok (.ireturn, 1) := by decide +kernel
theorem dX12_readFreeing_0 : decode cX12_readFreeing 0 = .ok (.aload_n 0, 1) := by decide +kernel
theorem dX12_readFreeing_1 : decode cX12_readFreeing 1 = .ok (.iload_n 1, 1) := by decide +kernel
theorem dX12_readFreeing_2 : decode cX12_readFreeing 2 = .ok (.iload_n 2, 1) := by decide +kernel
theorem dX12_readFreeing_3 : decode cX12_readFreeing 3 = .ok (.invokevirtual 393, 3) := by decide +kernel
theorem dX12_readFreeing_6 : decode cX12_readFreeing 6 = .ok (.iconst 0, 1) := by decide +kernel
theorem dX12_readFreeing_7 : decode cX12_readFreeing 7 = .ok (.istore_n 3, 1) := by decide +kernel
theorem dX12_readFreeing_8 : decode cX12_readFreeing 8 = .ok (.iconst 0, 1) := by decide +kernel
theorem dX12_readFreeing_9 : decode cX12_readFreeing 9 = .ok (.istore 4, 2) := by decide +kernel
theorem dX12_readFreeing_11 : decode cX12_readFreeing 11 = .ok (.iconst 1, 1) := by decide +kernel
theorem dX12_readFreeing_12 : decode cX12_readFreeing 12 = .ok (.istore 5, 2) := by decide +kernel
theorem dX12_readFreeing_14 : decode cX12_readFreeing 14 = .ok (.iload 5, 2) := by decide +kernel
theorem dX12_readFreeing_16 : decode cX12_readFreeing 16 = .ok (.ifCond .eq 124, 3) := by decide +kernel
theorem dX12_readFreeing_19 : decode cX12_readFreeing 19 = .ok (.aload_n 0, 1) := by decide +kernel
theorem dX12_readFreeing_20 : decode cX12_readFreeing 20 = .ok (.invokevirtual 411, 3) := by decide +kernel
theorem dX12_readFreeing_23 : decode cX12_readFreeing 23 = .ok (.istore 6, 2) := by decide +kernel
theorem dX12_readFreeing_25 : decode cX12_readFreeing 25 = .ok (.iconst 1, 1) := by decide +kernel
theorem dX12_readFreeing_26 : decode cX12_readFreeing 26 = .ok (.istore 7, 2) := by decide +kernel
theorem dX12_readFreeing_28 : decode cX12_readFreeing 28 = .ok (.aload_n 0, 1) := by decide +kernel
theorem dX12_readFreeing_29 : decode cX12_readFreeing 29 = .ok (.getfield 364, 3) := by decide +kernel
theorem dX12_readFreeing_32 : decode cX12_readFreeing 32 = .ok (.ifCond .ge 40, 3) := by decide +kernel
theorem dX12_readFreeing_35 : decode cX12_readFreeing 35 = .ok (.aload_n 0, 1) := by decide +kernel
theorem dX12_readFreeing_36 : decode cX12_readFreeing 36 = .ok (.invokevirtual 370, 3) := by decide +kernel
theorem dX12_readFreeing_39 : decode cX12_readFreeing 39 = .ok (.bipush 58, 2) := by decide +kernel
theorem dX12_readFreeing_41 : decode cX12_readFreeing 41 = .ok (.if_icmp .ne 31, 3) := by decide +kernel
theorem dX12_readFreeing_44 : decode cX12_readFreeing 44 = .ok (.aload_n 0, 1) := by decide +kernel
theorem dX12_readFreeing_45 : decode cX12_readFreeing 45 = .ok (.dup, 1) := by decide +kernel
theorem dX12_readFreeing_46 : decode cX12_readFreeing 46 = .ok (.getfield 358, 3) := by decide +kernel
theorem dX12_readFreeing_49 : decode cX12_readFreeing 49 = .ok (.iconst 1, 1) := by decide +kernel
theorem dX12_readFreeing_50 : decode cX12_readFreeing 50 = .ok (.iadd, 1) := by decide +kernel
theorem dX12_readFreeing_51 : decode cX12_readFreeing 51 = .ok (.putfield 358, 3) := by decide +kernel
theorem dX12_readFreeing_54 : decode cX12_readFreeing 54 = .ok (.iload 6, 2) := by decide +kernel
theorem dX12_readFreeing_56 : decode cX12_readFreeing 56 = .ok (.ifCond .eq 7, 3) := by decide +kernel
theorem dX12_readFreeing_59 : decode cX12_readFreeing 59 = .ok (.iconst 1, 1) := by decide +kernel
theorem dX12_readFreeing_60 : decode cX12_readFreeing 60 = .ok (.goto 4, 3) := by decide +kernel
theorem dX12_readFreeing_63 : decode cX12_readFreeing 63 = .ok (.iconst 0, 1) := by decide +kernel
theorem dX12_readFreeing_64 : decode cX12_readFreeing 64 = .ok (.istore 7, 2) := by decide +kernel
theorem dX12_readFreeing_66 : decode cX12_readFreeing 66 = .ok (.aload_n 0, 1) := by decide +kernel
theorem dX12_readFreeing_67 : decode cX12_readFreeing 67 = .ok (.invokevirtual 411, 3) := by decide +kernel
theorem dX12_readFreeing_70 : decode cX12_readFreeing 70 = .ok (.istore 6, 2) := by decide +kernel
theorem dX12_readFreeing_72 : decode cX12_readFreeing 72 = .ok (.aload_n 0, 1) := by decide +kernel
theorem dX12_readFreeing_73 : decode cX12_readFreeing 73 = .ok (.getfield 364, 3) := by decide +kernel
theorem dX12_readFreeing_76 : decode cX12_readFreeing 76 = .ok (.ifCond .ge 19, 3) := by decide +kernel
theorem dX12_readFreeing_79 : decode cX12_readFreeing 79 = .ok (.iload 7, 2) := by decide +kernel
theorem dX12_readFreeing_81 : decode cX12_readFreeing 81 = .ok (.ifCond .eq 14, 3) := by decide +kernel
theorem dX12_readFreeing_84 : decode cX12_readFreeing 84 = .ok (.iload 4, 2) := by decide +kernel
theorem dX12_readFreeing_86 : decode cX12_readFreeing 86 = .ok (.ifCond .ne 9, 3) := by decide +kernel
theorem dX12_readFreeing_89 : decode cX12_readFreeing 89 = .ok (.iload 6, 2) := by decide +kernel
theorem dX12_readFreeing_91 : decode cX12_readFreeing 91 = .ok (.istore_n 3, 1) := by decide +kernel
theorem dX12_readFreeing_92 : decode cX12_readFreeing 92 = .ok (.iconst 1, 1) := by decide +kernel
theorem dX12_readFreeing_93 : decode cX12_readFreeing 93 = .ok (.istore 4, 2) := by decide +kernel
theorem dX12_readFreeing_95 : decode cX12_readFreeing 95 = .ok (.aload_n 0, 1) := by decide +kernel
theorem dX12_readFreeing_96 : decode cX12_readFreeing 96 = .ok (.getfield 364, 3) := by decide +kernel
theorem dX12_readFreeing_99 : decode cX12_readFreeing 99 = .ok (.ifCond .ge 16, 3) := by decide +kernel
theorem dX12_readFreeing_102 : decode cX12_readFreeing 102 = .ok (.aload_n 0, 1) := by decide +kernel
theorem dX12_readFreeing_103 : decode cX12_readFreeing 103 = .ok (.invokevirtual 370, 3) := by decide +kernel
theorem dX12_readFreeing_106 : decode cX12_readFreeing 106 = .ok (.bipush 59, 2) := by decide +kernel
theorem dX12_readFreeing_108 : decode cX12_readFreeing 108 = .ok (.if_icmp .ne 7, 3) := by decide +kernel
theorem dX12_readFreeing_111 : decode cX12_readFreeing 111 = .ok (.iconst 1, 1) := by decide +kernel
theorem dX12_readFreeing_112 : decode cX12_readFreeing 112 = .ok (.goto 4, 3) := by decide +kernel
theorem dX12_readFreeing_115 : decode cX12_readFreeing 115 = .ok (.iconst 0, 1) := by decide +kernel
theorem dX12_readFreeing_116 : decode cX12_readFreeing 116 = .ok (.istore 5, 2) := by decide +kernel
theorem dX12_readFreeing_118 : decode cX12_readFreeing 118 = .ok (.aload_n 0, 1) := by decide +kernel
theorem dX12_readFreeing_119 : decode cX12_readFreeing 119 = .ok (.dup, 1) := by decide +kernel
theorem dX12_readFreeing_120 : decode cX12_readFreeing 120 = .ok (.getfield 358, 3) := by decide +kernel
theorem dX12_readFreeing_123 : decode cX12_readFreeing 123 = .ok (.iload 5, 2) := by decide +kernel
theorem dX12_readFreeing_125 : decode cX12_readFreeing 125 = .ok (.ifCond .eq 7, 3) := by decide +kernel
theorem dX12_readFreeing_128 : decode cX12_readFreeing 128 = .ok (.iconst 1, 1) := by decide +kernel
theorem dX12_readFreeing_129 : decode cX12_readFreeing 129 = .ok (.goto 4, 3) := by decide +kernel
theorem dX12_readFreeing_132 : decode cX12_readFreeing 132 = .ok (.iconst 0, 1) := by decide +kernel
theorem dX12_readFreeing_133 : decode cX12_readFreeing 133 = .ok (.iadd, 1) := by decide +kernel
theorem dX12_readFreeing_134 : decode cX12_readFreeing 134 = .ok (.putfield 358, 3) := by decide +kernel
theorem dX12_readFreeing_137 : decode cX12_readFreeing 137 = .ok (.goto (-123), 3) := by decide +kernel
theorem dX12_readFreeing_140 : decode cX12_readFreeing 140 = .ok (.aload_n 0, 1) := by decide +kernel
theorem dX12_readFreeing_141 : decode cX12_readFreeing 141 = .ok (.getfield 364, 3) := by decide +kernel
theorem dX12_readFreeing_144 : decode cX12_readFreeing 144 = .ok (.ifCond .ge 19, 3) := by decide +kernel
theorem dX12_readFreeing_147 : decode cX12_readFreeing 147 = .ok (.aload_n 0, 1) := by decide +kernel
theorem dX12_readFreeing_148 : decode cX12_readFreeing 148 = .ok (.getfield 358, 3) := by decide +kernel
theorem dX12_readFreeing_151 : decode cX12_readFreeing 151 = .ok (.aload_n 0, 1) := by decide +kernel
theorem dX12_readFreeing_152 : decode cX12_readFreeing 152 = .ok (.getfield 361, 3) := by decide +kernel
theorem dX12_readFreeing_155 : decode cX12_readFreeing 155 = .ok (.if_icmp .ge 8, 3) := by decide +kernel
theorem dX12_readFreeing_158 : decode cX12_readFreeing 158 = .ok (.aload_n 0, 1) := by decide +kernel
theorem dX12_readFreeing_159 : decode cX12_readFreeing 159 = .ok (.invokevirtual 373, 3) := by decide +kernel
theorem dX12_readFreeing_162 : decode cX12_readFreeing 162 = .ok (.ireturn, 1) := by decide +kernel
theorem dX12_readFreeing_163 : decode cX12_readFreeing 163 = .ok (.iload_n 3, 1) := by decide +kernel
theorem dX12_readFreeing_164 : decode cX12_readFreeing 164 = .ok (.ireturn, 1) := by decide +kernel
theorem dX12_text_0 : decode cX12_text 0 = .ok (.iload_n 1, 1) := by decide +kernel
theorem dX12_text_1 : decode cX12_text 1 = .ok (.iconst 0, 1) := by decide +kernel
theorem dX12_text_2 : decode cX12_text 2 = .ok (.iconst 1, 1) := by decide +kernel
theorem dX12_text_3 : decode cX12_text 3 = .ok (.invokestatic 177, 3) := by decide +kernel
theorem dX12_text_6 : decode cX12_text 6 = .ok (.ifCond .eq 10, 3) := by decide +kernel
theorem dX12_text_9 : decode cX12_text 9 = .ok (.iload_n 2, 1) := by decide +kernel
theorem dX12_text_10 : decode cX12_text 10 = .ok (.invokestatic 249, 3) := by decide +kernel
theorem dX12_text_13 : decode cX12_text 13 = .ok (.ifCond .ne 5, 3) := by decide +kernel
theorem dX12_text_16 : decode cX12_text 16 = .ok (.iconst (-1), 1) := by decide +kernel
theorem dX12_text_17 : decode cX12_text 17 = .ok (.ireturn, 1) := by decide +kernel
theorem dX12_text_18 : decode cX12_text 18 = .ok (.aload_n 0, 1) := by decide +kernel
theorem dX12_text_19 : decode cX12_text 19 = .ok (.getfield 156, 3) := by decide +kernel
theorem dX12_text_22 : decode cX12_text 22 = .ok (.iload_n 1, 1) := by decide +kernel
theorem dX12_text_23 : decode cX12_text 23 = .ok (.iaload, 1) := by decide +kernel
theorem dX12_text_24 : decode cX12_text 24 = .ok (.bipush 10, 2) := by decide +kernel
theorem dX12_text_26 : decode cX12_text 26 = .ok (.if_icmp .ne 6, 3) := by decide +kernel
theorem dX12_text_29 : decode cX12_text 29 = .ok (.bipush (-2), 2) := by decide +kernel
theorem dX12_text_31 : decode cX12_text 31 = .ok (.ireturn, 1) := by decide +kernel
theorem dX12_text_32 : decode cX12_text 32 = .ok (.iload_n 1, 1) := by decide +kernel
theorem dX12_text_33 : decode cX12_text 33 = .ok (.ifCond .ne 15, 3) := by decide +kernel
theorem dX12_text_36 : decode cX12_text 36 = .ok (.aload_n 0, 1) := by decide +kernel
theorem dX12_text_37 : decode cX12_text 37 = .ok (.iconst (-1), 1) := by decide +kernel
theorem dX12_text_38 : decode cX12_text 38 = .ok (.aload_n 0, 1) := by decide +kernel
theorem dX12_text_39 : decode cX12_text 39 = .ok (.getfield 352, 3) := by decide +kernel
theorem dX12_text_42 : decode cX12_text 42 = .ok (.invokevirtual 414, 3) := by decide +kernel
theorem dX12_text_45 : decode cX12_text 45 = .ok (.goto 13, 3) := by decide +kernel
theorem dX12_text_48 : decode cX12_text 48 = .ok (.aload_n 0, 1) := by decide +kernel
theorem dX12_text_49 : decode cX12_text 49 = .ok (.iconst (-1), 1) := by decide +kernel
theorem dX12_text_50 : decode cX12_text 50 = .ok (.aload_n 0, 1) := by decide +kernel
theorem dX12_text_51 : decode cX12_text 51 = .ok (.getfield 352, 3) := by decide +kernel
theorem dX12_text_54 : decode cX12_text 54 = .ok (.invokevirtual 417, 3) := by decide +kernel
theorem dX12_text_57 : decode cX12_text 57 = .ok (.istore_n 3, 1) := by decide +kernel
theorem dX12_text_58 : decode cX12_text 58 = .ok (.aload_n 0, 1) := by decide +kernel
theorem dX12_text_59 : decode cX12_text 59 = .ok (.getfield 352, 3) := by decide +kernel
theorem dX12_text_62 : decode cX12_text 62 = .ok (.istore_n 3, 1) := by decide +kernel
theorem dX12_text_63 : decode cX12_text 63 = .ok (.aload_n 0, 1) := by decide +kernel
theorem dX12_text_64 : decode cX12_text 64 = .ok (.iconst 0, 1) := by decide +kernel
theorem dX12_text_65 : decode cX12_text 65 = .ok (.putfield 352, 3) := by decide +kernel
theorem dX12_text_68 : decode cX12_text 68 = .ok (.aload_n 0, 1) := by decide +kernel
theorem dX12_text_69 : decode cX12_text 69 = .ok (.getfield 364, 3) := by decide +kernel
theorem dX12_text_72 : decode cX12_text 72 = .ok (.ifCond .lt 11, 3) := by decide +kernel
theorem dX12_text_75 : decode cX12_text 75 = .ok (.bipush (-100), 2) := by decide +kernel
theorem dX12_text_77 : decode cX12_text 77 = .ok (.aload_n 0, 1) := by decide +kernel
theorem dX12_text_78 : decode cX12_text 78 = .ok (.getfield 364, 3) := by decide +kernel
theorem dX12_text_81 : decode cX12_text 81 = .ok (.isub, 1) := by decide +kernel
theorem dX12_text_82 : decode cX12_text 82 = .ok (.ireturn, 1) := by decide +kernel
theorem dX12_text_83 : decode cX12_text 83 = .ok (.bipush 10, 2) := by decide +kernel
theorem dX12_text_85 : decode cX12_text 85 = .ok (.iload_n 1, 1) := by decide +kernel
theorem dX12_text_86 : decode cX12_text 86 = .ok (.imul, 1) := by decide +kernel
theorem dX12_text_87 : decode cX12_text 87 = .ok (.aload_n 0, 1) := by decide +kernel
theorem dX12_text_88 : decode cX12_text 88 = .ok (.getfield 156, 3) := by decide +kernel
theorem dX12_text_91 : decode cX12_text 91 = .ok (.iload_n 1, 1) := by decide +kernel
theorem dX12_text_92 : decode cX12_text 92 = .ok (.iaload, 1) := by decide +kernel
theorem dX12_text_93 : decode cX12_text 93 = .ok (.iadd, 1) := by decide +kernel
theorem dX12_text_94 : decode cX12_text 94 = .ok (.istore 4, 2) := by decide +kernel
theorem dX12_text_96 : decode cX12_text 96 = .ok (.iconst 0, 1) := by decide +kernel
theorem dX12_text_97 : decode cX12_text 97 = .ok (.istore 5, 2) := by decide +kernel
theorem dX12_text_99 : decode cX12_text 99 = .ok (.iload 5, 2) := by decide +kernel
theorem dX12_text_101 : decode cX12_text 101 = .ok (.iload_n 3, 1) := by decide +kernel
theorem dX12_text_102 : decode cX12_text 102 = .ok (.if_icmp .ge 30, 3) := by decide +kernel
theorem dX12_text_105 : decode cX12_text 105 = .ok (.aload_n 0, 1) := by decide +kernel
theorem dX12_text_106 : decode cX12_text 106 = .ok (.getfield 144, 3) := by decide +kernel
theorem dX12_text_109 : decode cX12_text 109 = .ok (.sipush 160, 3) := by decide +kernel
theorem dX12_text_112 : decode cX12_text 112 = .ok (.iload 4, 2) := by decide +kernel
theorem dX12_text_114 : decode cX12_text 114 = .ok (.imul, 1) := by decide +kernel
theorem dX12_text_115 : decode cX12_text 115 = .ok (.iload 5, 2) := by decide +kernel
theorem dX12_text_117 : decode cX12_text 117 = .ok (.iadd, 1) := by decide +kernel
theorem dX12_text_118 : decode cX12_text 118 = .ok (.aload_n 0, 1) := by decide +kernel
theorem dX12_text_119 : decode cX12_text 119 = .ok (.getfield 141, 3) := by decide +kernel
theorem dX12_text_122 : decode cX12_text 122 = .ok (.iload 5, 2) := by decide +kernel
theorem dX12_text_124 : decode cX12_text 124 = .ok (.iaload, 1) := by decide +kernel
theorem dX12_text_125 : decode cX12_text 125 = .ok (.iastore, 1) := by decide +kernel
theorem dX12_text_126 : decode cX12_text 126 = .ok (.iinc 5 1, 3) := by decide +kernel
theorem dX12_text_129 : decode cX12_text 129 = .ok (.goto (-30), 3) := by decide +kernel
theorem dX12_text_132 : decode cX12_text 132 = .ok (.aload_n 0, 1) := by decide +kernel
theorem dX12_text_133 : decode cX12_text 133 = .ok (.getfield 147, 3) := by decide +kernel
theorem dX12_text_136 : decode cX12_text 136 = .ok (.iload 4, 2) := by decide +kernel
theorem dX12_text_138 : decode cX12_text 138 = .ok (.iload_n 3, 1) := by decide +kernel
theorem dX12_text_139 : decode cX12_text 139 = .ok (.iastore, 1) := by decide +kernel
theorem dX12_text_140 : decode cX12_text 140 = .ok (.aload_n 0, 1) := by decide +kernel
theorem dX12_text_141 : decode cX12_text 141 = .ok (.getfield 150, 3) := by decide +kernel
theorem dX12_text_144 : decode cX12_text 144 = .ok (.iload 4, 2) := by decide +kernel
theorem dX12_text_146 : decode cX12_text 146 = .ok (.iload_n 2, 1) := by decide +kernel
theorem dX12_text_147 : decode cX12_text 147 = .ok (.iastore, 1) := by decide +kernel
theorem dX12_text_148 : decode cX12_text 148 = .ok (.aload_n 0, 1) := by decide +kernel
theorem dX12_text_149 : decode cX12_text 149 = .ok (.getfield 153, 3) := by decide +kernel
theorem dX12_text_152 : decode cX12_text 152 = .ok (.iload 4, 2) := by decide +kernel
theorem dX12_text_154 : decode cX12_text 154 = .ok (.aload_n 0, 1) := by decide +kernel
theorem dX12_text_155 : decode cX12_text 155 = .ok (.getfield 190, 3) := by decide +kernel
theorem dX12_text_158 : decode cX12_text 158 = .ok (.iastore, 1) := by decide +kernel
theorem dX12_text_159 : decode cX12_text 159 = .ok (.aload_n 0, 1) := by decide +kernel
theorem dX12_text_160 : decode cX12_text 160 = .ok (.getfield 156, 3) := by decide +kernel
theorem dX12_text_163 : decode cX12_text 163 = .ok (.iload_n 1, 1) := by decide +kernel
theorem dX12_text_164 : decode cX12_text 164 = .ok (.dup2, 1) := by decide +kernel
theorem dX12_text_165 : decode cX12_text 165 = .ok (.iaload, 1) := by decide +kernel
theorem dX12_text_166 : decode cX12_text 166 = .ok (.iconst 1, 1) := by decide +kernel
theorem dX12_text_167 : decode cX12_text 167 = .ok (.iadd, 1) := by decide +kernel
theorem dX12_text_168 : decode cX12_text 168 = .ok (.iastore, 1) := by decide +kernel
theorem dX12_text_169 : decode cX12_text 169 = .ok (.aload_n 0, 1) := by decide +kernel
theorem dX12_text_170 : decode cX12_text 170 = .ok (.getfield 156, 3) := by decide +kernel
theorem dX12_text_173 : decode cX12_text 173 = .ok (.iload_n 1, 1) := by decide +kernel
theorem dX12_text_174 : decode cX12_text 174 = .ok (.iaload, 1) := by decide +kernel
theorem dX12_text_175 : decode cX12_text 175 = .ok (.iconst 1, 1) := by decide +kernel
theorem dX12_text_176 : decode cX12_text 176 = .ok (.isub, 1) := by decide +kernel
theorem dX12_text_177 : decode cX12_text 177 = .ok (.ireturn, 1) := by decide +kernel
theorem dX12_force_0 : decode cX12_force 0 = .ok (.iconst (-1), 1) := by decide +kernel
theorem dX12_force_1 : decode cX12_force 1 = .ok (.istore 4, 2) := by decide +kernel
theorem dX12_force_3 : decode cX12_force 3 = .ok (.iconst 0, 1) := by decide +kernel
theorem dX12_force_4 : decode cX12_force 4 = .ok (.istore 5, 2) := by decide +kernel
theorem dX12_force_6 : decode cX12_force 6 = .ok (.iload 5, 2) := by decide +kernel
theorem dX12_force_8 : decode cX12_force 8 = .ok (.aload_n 0, 1) := by decide +kernel
theorem dX12_force_9 : decode cX12_force 9 = .ok (.getfield 156, 3) := by decide +kernel
theorem dX12_force_12 : decode cX12_force 12 = .ok (.iload_n 1, 1) := by decide +kernel
theorem dX12_force_13 : decode cX12_force 13 = .ok (.iaload, 1) := by decide +kernel
theorem dX12_force_14 : decode cX12_force 14 = .ok (.if_icmp .ge 54, 3) := by decide +kernel
theorem dX12_force_17 : decode cX12_force 17 = .ok (.bipush 10, 2) := by decide +kernel
theorem dX12_force_19 : decode cX12_force 19 = .ok (.iload_n 1, 1) := by decide +kernel
theorem dX12_force_20 : decode cX12_force 20 = .ok (.imul, 1) := by decide +kernel
theorem dX12_force_21 : decode cX12_force 21 = .ok (.iload 5, 2) := by decide +kernel
theorem dX12_force_23 : decode cX12_force 23 = .ok (.iadd, 1) := by decide +kernel
theorem dX12_force_24 : decode cX12_force 24 = .ok (.istore 6, 2) := by decide +kernel
theorem dX12_force_26 : decode cX12_force 26 = .ok (.aload_n 0, 1) := by decide +kernel
theorem dX12_force_27 : decode cX12_force 27 = .ok (.getfield 153, 3) := by decide +kernel
theorem dX12_force_30 : decode cX12_force 30 = .ok (.iload 6, 2) := by decide +kernel
theorem dX12_force_32 : decode cX12_force 32 = .ok (.iaload, 1) := by decide +kernel
theorem dX12_force_33 : decode cX12_force 33 = .ok (.iload_n 3, 1) := by decide +kernel
theorem dX12_force_34 : decode cX12_force 34 = .ok (.if_icmp .gt 24, 3) := by decide +kernel
theorem dX12_force_37 : decode cX12_force 37 = .ok (.aload_n 0, 1) := by decide +kernel
theorem dX12_force_38 : decode cX12_force 38 = .ok (.getfield 150, 3) := by decide +kernel
theorem dX12_force_41 : decode cX12_force 41 = .ok (.iload 6, 2) := by decide +kernel
theorem dX12_force_43 : decode cX12_force 43 = .ok (.iaload, 1) := by decide +kernel
theorem dX12_force_44 : decode cX12_force 44 = .ok (.aload_n 0, 1) := by decide +kernel
theorem dX12_force_45 : decode cX12_force 45 = .ok (.getfield 22, 3) := by decide +kernel
theorem dX12_force_48 : decode cX12_force 48 = .ok (.iload_n 2, 1) := by decide +kernel
theorem dX12_force_49 : decode cX12_force 49 = .ok (.iaload, 1) := by decide +kernel
theorem dX12_force_50 : decode cX12_force 50 = .ok (.if_icmp .gt 8, 3) := by decide +kernel
theorem dX12_force_53 : decode cX12_force 53 = .ok (.iload 5, 2) := by decide +kernel
theorem dX12_force_55 : decode cX12_force 55 = .ok (.goto 5, 3) := by decide +kernel
theorem dX12_force_58 : decode cX12_force 58 = .ok (.iload 4, 2) := by decide +kernel
theorem dX12_force_60 : decode cX12_force 60 = .ok (.istore 4, 2) := by decide +kernel
theorem dX12_force_62 : decode cX12_force 62 = .ok (.iinc 5 1, 3) := by decide +kernel
theorem dX12_force_65 : decode cX12_force 65 = .ok (.goto (-59), 3) := by decide +kernel
theorem dX12_force_68 : decode cX12_force 68 = .ok (.iload 4, 2) := by decide +kernel
theorem dX12_force_70 : decode cX12_force 70 = .ok (.ireturn, 1) := by decide +kernel
theorem dX12_inForce_0 : decode cX12_inForce 0 = .ok (.iload_n 1, 1) := by decide +kernel
theorem dX12_inForce_1 : decode cX12_inForce 1 = .ok (.iconst 0, 1) := by decide +kernel
theorem dX12_inForce_2 : decode cX12_inForce 2 = .ok (.iconst 1, 1) := by decide +kernel
theorem dX12_inForce_3 : decode cX12_inForce 3 = .ok (.invokestatic 177, 3) := by decide +kernel
theorem dX12_inForce_6 : decode cX12_inForce 6 = .ok (.ifCond .eq 27, 3) := by decide +kernel
theorem dX12_inForce_9 : decode cX12_inForce 9 = .ok (.aload_n 0, 1) := by decide +kernel
theorem dX12_inForce_10 : decode cX12_inForce 10 = .ok (.iload_n 2, 1) := by decide +kernel
theorem dX12_inForce_11 : decode cX12_inForce 11 = .ok (.invokevirtual 193, 3) := by decide +kernel
theorem dX12_inForce_14 : decode cX12_inForce 14 = .ok (.ifCond .eq 19, 3) := by decide +kernel
theorem dX12_inForce_17 : decode cX12_inForce 17 = .ok (.aload_n 0, 1) := by decide +kernel
theorem dX12_inForce_18 : decode cX12_inForce 18 = .ok (.getfield 22, 3) := by decide +kernel
theorem dX12_inForce_21 : decode cX12_inForce 21 = .ok (.iload_n 2, 1) := by decide +kernel
theorem dX12_inForce_22 : decode cX12_inForce 22 = .ok (.iaload, 1) := by decide +kernel
theorem dX12_inForce_23 : decode cX12_inForce 23 = .ok (.ifCond .lt 10, 3) := by decide +kernel
theorem dX12_inForce_26 : decode cX12_inForce 26 = .ok (.iload_n 3, 1) := by decide +kernel
theorem dX12_inForce_27 : decode cX12_inForce 27 = .ok (.invokestatic 249, 3) := by decide +kernel
theorem dX12_inForce_30 : decode cX12_inForce 30 = .ok (.ifCond .ne 5, 3) := by decide +kernel
theorem dX12_inForce_33 : decode cX12_inForce 33 = .ok (.iconst (-1), 1) := by decide +kernel
theorem dX12_inForce_34 : decode cX12_inForce 34 = .ok (.ireturn, 1) := by decide +kernel
theorem dX12_inForce_35 : decode cX12_inForce 35 = .ok (.aload_n 0, 1) := by decide +kernel
theorem dX12_inForce_36 : decode cX12_inForce 36 = .ok (.iload_n 1, 1) := by decide +kernel
theorem dX12_inForce_37 : decode cX12_inForce 37 = .ok (.iload_n 2, 1) := by decide +kernel
theorem dX12_inForce_38 : decode cX12_inForce 38 = .ok (.iload_n 3, 1) := by decide +kernel
theorem dX12_inForce_39 : decode cX12_inForce 39 = .ok (.invokevirtual 420, 3) := by decide +kernel
theorem dX12_inForce_42 : decode cX12_inForce 42 = .ok (.istore 4, 2) := by decide +kernel
theorem dX12_inForce_44 : decode cX12_inForce 44 = .ok (.iload 4, 2) := by decide +kernel
theorem dX12_inForce_46 : decode cX12_inForce 46 = .ok (.ifCond .ge 8, 3) := by decide +kernel
theorem dX12_inForce_49 : decode cX12_inForce 49 = .ok (.bipush (-4), 2) := by decide +kernel
theorem dX12_inForce_51 : decode cX12_inForce 51 = .ok (.goto 5, 3) := by decide +kernel
theorem dX12_inForce_54 : decode cX12_inForce 54 = .ok (.iload 4, 2) := by decide +kernel
theorem dX12_inForce_56 : decode cX12_inForce 56 = .ok (.ireturn, 1) := by decide +kernel
theorem dX12_judged_0 : decode cX12_judged 0 = .ok (.aload_n 0, 1) := by decide +kernel
theorem dX12_judged_1 : decode cX12_judged 1 = .ok (.getfield 55, 3) := by decide +kernel
theorem dX12_judged_4 : decode cX12_judged 4 = .ok (.iload_n 1, 1) := by decide +kernel
theorem dX12_judged_5 : decode cX12_judged 5 = .ok (.iaload, 1) := by decide +kernel
theorem dX12_judged_6 : decode cX12_judged 6 = .ok (.istore_n 2, 1) := by decide +kernel
theorem dX12_judged_7 : decode cX12_judged 7 = .ok (.aload_n 0, 1) := by decide +kernel
theorem dX12_judged_8 : decode cX12_judged 8 = .ok (.iload_n 1, 1) := by decide +kernel
theorem dX12_judged_9 : decode cX12_judged 9 = .ok (.invokevirtual 252, 3) := by decide +kernel
theorem dX12_judged_12 : decode cX12_judged 12 = .ok (.istore_n 3, 1) := by decide +kernel
theorem dX12_judged_13 : decode cX12_judged 13 = .ok (.aload_n 0, 1) := by decide +kernel
theorem dX12_judged_14 : decode cX12_judged 14 = .ok (.iconst 0, 1) := by decide +kernel
theorem dX12_judged_15 : decode cX12_judged 15 = .ok (.putfield 423, 3) := by decide +kernel
theorem dX12_judged_18 : decode cX12_judged 18 = .ok (.aload_n 0, 1) := by decide +kernel
theorem dX12_judged_19 : decode cX12_judged 19 = .ok (.iconst 0, 1) := by decide +kernel
theorem dX12_judged_20 : decode cX12_judged 20 = .ok (.putfield 426, 3) := by decide +kernel
theorem dX12_judged_23 : decode cX12_judged 23 = .ok (.aload_n 0, 1) := by decide +kernel
theorem dX12_judged_24 : decode cX12_judged 24 = .ok (.iload_n 3, 1) := by decide +kernel
theorem dX12_judged_25 : decode cX12_judged 25 = .ok (.putfield 429, 3) := by decide +kernel
theorem dX12_judged_28 : decode cX12_judged 28 = .ok (.aload_n 0, 1) := by decide +kernel
theorem dX12_judged_29 : decode cX12_judged 29 = .ok (.iconst (-1), 1) := by decide +kernel
theorem dX12_judged_30 : decode cX12_judged 30 = .ok (.putfield 432, 3) := by decide +kernel
theorem dX12_judged_33 : decode cX12_judged 33 = .ok (.aload_n 0, 1) := by decide +kernel
theorem dX12_judged_34 : decode cX12_judged 34 = .ok (.getfield 22, 3) := by decide +kernel
theorem dX12_judged_37 : decode cX12_judged 37 = .ok (.iload_n 2, 1) := by decide +kernel
theorem dX12_judged_38 : decode cX12_judged 38 = .ok (.iaload, 1) := by decide +kernel
theorem dX12_judged_39 : decode cX12_judged 39 = .ok (.ifCond .lt 18, 3) := by decide +kernel
theorem dX12_judged_42 : decode cX12_judged 42 = .ok (.aload_n 0, 1) := by decide +kernel
theorem dX12_judged_43 : decode cX12_judged 43 = .ok (.getfield 67, 3) := by decide +kernel
theorem dX12_judged_46 : decode cX12_judged 46 = .ok (.iload_n 1, 1) := by decide +kernel
theorem dX12_judged_47 : decode cX12_judged 47 = .ok (.iaload, 1) := by decide +kernel
theorem dX12_judged_48 : decode cX12_judged 48 = .ok (.aload_n 0, 1) := by decide +kernel
theorem dX12_judged_49 : decode cX12_judged 49 = .ok (.getfield 22, 3) := by decide +kernel
theorem dX12_judged_52 : decode cX12_judged 52 = .ok (.iload_n 2, 1) := by decide +kernel
theorem dX12_judged_53 : decode cX12_judged 53 = .ok (.iaload, 1) := by decide +kernel
theorem dX12_judged_54 : decode cX12_judged 54 = .ok (.if_icmp .ge 4, 3) := by decide +kernel
theorem dX12_judged_57 : decode cX12_judged 57 = .ok (.return_, 1) := by decide +kernel
theorem dX12_judged_58 : decode cX12_judged 58 = .ok (.aload_n 0, 1) := by decide +kernel
theorem dX12_judged_59 : decode cX12_judged 59 = .ok (.iconst 0, 1) := by decide +kernel
theorem dX12_judged_60 : decode cX12_judged 60 = .ok (.iload_n 2, 1) := by decide +kernel
theorem dX12_judged_61 : decode cX12_judged 61 = .ok (.aload_n 0, 1) := by decide +kernel
theorem dX12_judged_62 : decode cX12_judged 62 = .ok (.getfield 190, 3) := by decide +kernel
theorem dX12_judged_65 : decode cX12_judged 65 = .ok (.invokevirtual 420, 3) := by decide +kernel
theorem dX12_judged_68 : decode cX12_judged 68 = .ok (.istore 4, 2) := by decide +kernel
theorem dX12_judged_70 : decode cX12_judged 70 = .ok (.aload_n 0, 1) := by decide +kernel
theorem dX12_judged_71 : decode cX12_judged 71 = .ok (.iload_n 1, 1) := by decide +kernel
theorem dX12_judged_72 : decode cX12_judged 72 = .ok (.invokevirtual 264, 3) := by decide +kernel
theorem dX12_judged_75 : decode cX12_judged 75 = .ok (.istore 5, 2) := by decide +kernel
theorem dX12_judged_77 : decode cX12_judged 77 = .ok (.iload 4, 2) := by decide +kernel
theorem dX12_judged_79 : decode cX12_judged 79 = .ok (.ifCond .lt 27, 3) := by decide +kernel
theorem dX12_judged_82 : decode cX12_judged 82 = .ok (.aload_n 0, 1) := by decide +kernel
theorem dX12_judged_83 : decode cX12_judged 83 = .ok (.iload_n 1, 1) := by decide +kernel
theorem dX12_judged_84 : decode cX12_judged 84 = .ok (.iload 5, 2) := by decide +kernel
theorem dX12_judged_86 : decode cX12_judged 86 = .ok (.invokevirtual 435, 3) := by decide +kernel
theorem dX12_judged_89 : decode cX12_judged 89 = .ok (.aload_n 0, 1) := by decide +kernel
theorem dX12_judged_90 : decode cX12_judged 90 = .ok (.sipush 160, 3) := by decide +kernel
theorem dX12_judged_93 : decode cX12_judged 93 = .ok (.iload 4, 2) := by decide +kernel
theorem dX12_judged_95 : decode cX12_judged 95 = .ok (.imul, 1) := by decide +kernel
theorem dX12_judged_96 : decode cX12_judged 96 = .ok (.aload_n 0, 1) := by decide +kernel
theorem dX12_judged_97 : decode cX12_judged 97 = .ok (.getfield 147, 3) := by decide +kernel
theorem dX12_judged_100 : decode cX12_judged 100 = .ok (.iload 4, 2) := by decide +kernel
theorem dX12_judged_102 : decode cX12_judged 102 = .ok (.iaload, 1) := by decide +kernel
theorem dX12_judged_103 : decode cX12_judged 103 = .ok (.invokevirtual 414, 3) := by decide +kernel
theorem dX12_judged_106 : decode cX12_judged 106 = .ok (.iload 4, 2) := by decide +kernel
theorem dX12_judged_108 : decode cX12_judged 108 = .ok (.ifCond .lt 10, 3) := by decide +kernel
theorem dX12_judged_111 : decode cX12_judged 111 = .ok (.aload_n 0, 1) := by decide +kernel
theorem dX12_judged_112 : decode cX12_judged 112 = .ok (.getfield 396, 3) := by decide +kernel
theorem dX12_judged_115 : decode cX12_judged 115 = .ok (.ifCond .ge 19, 3) := by decide +kernel
theorem dX12_judged_118 : decode cX12_judged 118 = .ok (.aload_n 0, 1) := by decide +kernel
theorem dX12_judged_119 : decode cX12_judged 119 = .ok (.iconst 2, 1) := by decide +kernel
theorem dX12_judged_120 : decode cX12_judged 120 = .ok (.putfield 423, 3) := by decide +kernel
theorem dX12_judged_123 : decode cX12_judged 123 = .ok (.aload_n 0, 1) := by decide +kernel
theorem dX12_judged_124 : decode cX12_judged 124 = .ok (.iload_n 3, 1) := by decide +kernel
theorem dX12_judged_125 : decode cX12_judged 125 = .ok (.putfield 426, 3) := by decide +kernel
theorem dX12_judged_128 : decode cX12_judged 128 = .ok (.aload_n 0, 1) := by decide +kernel
theorem dX12_judged_129 : decode cX12_judged 129 = .ok (.iconst 0, 1) := by decide +kernel
theorem dX12_judged_130 : decode cX12_judged 130 = .ok (.putfield 429, 3) := by decide +kernel
theorem dX12_judged_133 : decode cX12_judged 133 = .ok (.return_, 1) := by decide +kernel
theorem dX12_judged_134 : decode cX12_judged 134 = .ok (.aload_n 0, 1) := by decide +kernel
theorem dX12_judged_135 : decode cX12_judged 135 = .ok (.aload_n 0, 1) := by decide +kernel
theorem dX12_judged_136 : decode cX12_judged 136 = .ok (.getfield 396, 3) := by decide +kernel
theorem dX12_judged_139 : decode cX12_judged 139 = .ok (.putfield 432, 3) := by decide +kernel
theorem dX12_judged_142 : decode cX12_judged 142 = .ok (.aload_n 0, 1) := by decide +kernel
theorem dX12_judged_143 : decode cX12_judged 143 = .ok (.getfield 405, 3) := by decide +kernel
theorem dX12_judged_146 : decode cX12_judged 146 = .ok (.iload_n 3, 1) := by decide +kernel
theorem dX12_judged_147 : decode cX12_judged 147 = .ok (.if_icmp .ge 10, 3) := by decide +kernel
theorem dX12_judged_150 : decode cX12_judged 150 = .ok (.aload_n 0, 1) := by decide +kernel
theorem dX12_judged_151 : decode cX12_judged 151 = .ok (.getfield 405, 3) := by decide +kernel
theorem dX12_judged_154 : decode cX12_judged 154 = .ok (.goto 4, 3) := by decide +kernel
theorem dX12_judged_157 : decode cX12_judged 157 = .ok (.iload_n 3, 1) := by decide +kernel
theorem dX12_judged_158 : decode cX12_judged 158 = .ok (.istore 6, 2) := by decide +kernel
theorem dX12_judged_160 : decode cX12_judged 160 = .ok (.iload 5, 2) := by decide +kernel
theorem dX12_judged_162 : decode cX12_judged 162 = .ok (.ifCond .lt 10, 3) := by decide +kernel
theorem dX12_judged_165 : decode cX12_judged 165 = .ok (.aload_n 0, 1) := by decide +kernel
theorem dX12_judged_166 : decode cX12_judged 166 = .ok (.getfield 261, 3) := by decide +kernel
theorem dX12_judged_169 : decode cX12_judged 169 = .ok (.goto 24, 3) := by decide +kernel
theorem dX12_judged_172 : decode cX12_judged 172 = .ok (.aload_n 0, 1) := by decide +kernel
theorem dX12_judged_173 : decode cX12_judged 173 = .ok (.getfield 34, 3) := by decide +kernel
theorem dX12_judged_176 : decode cX12_judged 176 = .ok (.bipush 10, 2) := by decide +kernel
theorem dX12_judged_178 : decode cX12_judged 178 = .ok (.iload_n 2, 1) := by decide +kernel
theorem dX12_judged_179 : decode cX12_judged 179 = .ok (.imul, 1) := by decide +kernel
theorem dX12_judged_180 : decode cX12_judged 180 = .ok (.aload_n 0, 1) := by decide +kernel
theorem dX12_judged_181 : decode cX12_judged 181 = .ok (.getfield 46, 3) := by decide +kernel
theorem dX12_judged_184 : decode cX12_judged 184 = .ok (.aload_n 0, 1) := by decide +kernel
theorem dX12_judged_185 : decode cX12_judged 185 = .ok (.getfield 61, 3) := by decide +kernel
theorem dX12_judged_188 : decode cX12_judged 188 = .ok (.iload_n 1, 1) := by decide +kernel
theorem dX12_judged_189 : decode cX12_judged 189 = .ok (.iaload, 1) := by decide +kernel
theorem dX12_judged_190 : decode cX12_judged 190 = .ok (.iaload, 1) := by decide +kernel
theorem dX12_judged_191 : decode cX12_judged 191 = .ok (.iadd, 1) := by decide +kernel
theorem dX12_judged_192 : decode cX12_judged 192 = .ok (.iaload, 1) := by decide +kernel
theorem dX12_judged_193 : decode cX12_judged 193 = .ok (.istore 7, 2) := by decide +kernel
theorem dX12_judged_195 : decode cX12_judged 195 = .ok (.aload_n 0, 1) := by decide +kernel
theorem dX12_judged_196 : decode cX12_judged 196 = .ok (.aload_n 0, 1) := by decide +kernel
theorem dX12_judged_197 : decode cX12_judged 197 = .ok (.getfield 402, 3) := by decide +kernel
theorem dX12_judged_200 : decode cX12_judged 200 = .ok (.ifCond .eq 16, 3) := by decide +kernel
theorem dX12_judged_203 : decode cX12_judged 203 = .ok (.aload_n 0, 1) := by decide +kernel
theorem dX12_judged_204 : decode cX12_judged 204 = .ok (.getfield 402, 3) := by decide +kernel
theorem dX12_judged_207 : decode cX12_judged 207 = .ok (.iconst 3, 1) := by decide +kernel
theorem dX12_judged_208 : decode cX12_judged 208 = .ok (.if_icmp .ne 12, 3) := by decide +kernel
theorem dX12_judged_211 : decode cX12_judged 211 = .ok (.iload 7, 2) := by decide +kernel
theorem dX12_judged_213 : decode cX12_judged 213 = .ok (.ifCond .ge 7, 3) := by decide +kernel
theorem dX12_judged_216 : decode cX12_judged 216 = .ok (.iconst 0, 1) := by decide +kernel
theorem dX12_judged_217 : decode cX12_judged 217 = .ok (.goto 44, 3) := by decide +kernel
theorem dX12_judged_220 : decode cX12_judged 220 = .ok (.aload_n 0, 1) := by decide +kernel
theorem dX12_judged_221 : decode cX12_judged 221 = .ok (.getfield 402, 3) := by decide +kernel
theorem dX12_judged_224 : decode cX12_judged 224 = .ok (.iconst 1, 1) := by decide +kernel
theorem dX12_judged_225 : decode cX12_judged 225 = .ok (.if_icmp .ne 7, 3) := by decide +kernel
theorem dX12_judged_228 : decode cX12_judged 228 = .ok (.iconst 1, 1) := by decide +kernel
theorem dX12_judged_229 : decode cX12_judged 229 = .ok (.goto 32, 3) := by decide +kernel
theorem dX12_judged_232 : decode cX12_judged 232 = .ok (.aload_n 0, 1) := by decide +kernel
theorem dX12_judged_233 : decode cX12_judged 233 = .ok (.getfield 402, 3) := by decide +kernel
theorem dX12_judged_236 : decode cX12_judged 236 = .ok (.iconst 2, 1) := by decide +kernel
theorem dX12_judged_237 : decode cX12_judged 237 = .ok (.if_icmp .ne 7, 3) := by decide +kernel
theorem dX12_judged_240 : decode cX12_judged 240 = .ok (.iconst 2, 1) := by decide +kernel
theorem dX12_judged_241 : decode cX12_judged 241 = .ok (.goto 20, 3) := by decide +kernel
theorem dX12_judged_244 : decode cX12_judged 244 = .ok (.aload_n 0, 1) := by decide +kernel
theorem dX12_judged_245 : decode cX12_judged 245 = .ok (.getfield 402, 3) := by decide +kernel
theorem dX12_judged_248 : decode cX12_judged 248 = .ok (.iconst 4, 1) := by decide +kernel
theorem dX12_judged_249 : decode cX12_judged 249 = .ok (.if_icmp .ne 7, 3) := by decide +kernel
theorem dX12_judged_252 : decode cX12_judged 252 = .ok (.iconst 3, 1) := by decide +kernel
theorem dX12_judged_253 : decode cX12_judged 253 = .ok (.goto 8, 3) := by decide +kernel
theorem dX12_judged_256 : decode cX12_judged 256 = .ok (.bipush 10, 2) := by decide +kernel
theorem dX12_judged_258 : decode cX12_judged 258 = .ok (.iload 7, 2) := by decide +kernel
theorem dX12_judged_260 : decode cX12_judged 260 = .ok (.iadd, 1) := by decide +kernel
theorem dX12_judged_261 : decode cX12_judged 261 = .ok (.putfield 423, 3) := by decide +kernel
theorem dX12_judged_264 : decode cX12_judged 264 = .ok (.aload_n 0, 1) := by decide +kernel
theorem dX12_judged_265 : decode cX12_judged 265 = .ok (.aload_n 0, 1) := by decide +kernel
theorem dX12_judged_266 : decode cX12_judged 266 = .ok (.getfield 423, 3) := by decide +kernel
theorem dX12_judged_269 : decode cX12_judged 269 = .ok (.iconst 3, 1) := by decide +kernel
theorem dX12_judged_270 : decode cX12_judged 270 = .ok (.if_icmp .ne 7, 3) := by decide +kernel
theorem dX12_judged_273 : decode cX12_judged 273 = .ok (.iconst 0, 1) := by decide +kernel
theorem dX12_judged_274 : decode cX12_judged 274 = .ok (.goto 17, 3) := by decide +kernel
theorem dX12_judged_277 : decode cX12_judged 277 = .ok (.aload_n 0, 1) := by decide +kernel
theorem dX12_judged_278 : decode cX12_judged 278 = .ok (.getfield 423, 3) := by decide +kernel
theorem dX12_judged_281 : decode cX12_judged 281 = .ok (.iconst 2, 1) := by decide +kernel
theorem dX12_judged_282 : decode cX12_judged 282 = .ok (.if_icmp .ne 7, 3) := by decide +kernel
theorem dX12_judged_285 : decode cX12_judged 285 = .ok (.iload_n 3, 1) := by decide +kernel
theorem dX12_judged_286 : decode cX12_judged 286 = .ok (.goto 5, 3) := by decide +kernel
theorem dX12_judged_289 : decode cX12_judged 289 = .ok (.iload 6, 2) := by decide +kernel
theorem dX12_judged_291 : decode cX12_judged 291 = .ok (.putfield 426, 3) := by decide +kernel
theorem dX12_judged_294 : decode cX12_judged 294 = .ok (.aload_n 0, 1) := by decide +kernel
theorem dX12_judged_295 : decode cX12_judged 295 = .ok (.aload_n 0, 1) := by decide +kernel
theorem dX12_judged_296 : decode cX12_judged 296 = .ok (.getfield 423, 3) := by decide +kernel
theorem dX12_judged_299 : decode cX12_judged 299 = .ok (.iconst 3, 1) := by decide +kernel
theorem dX12_judged_300 : decode cX12_judged 300 = .ok (.if_icmp .eq 11, 3) := by decide +kernel
theorem dX12_judged_303 : decode cX12_judged 303 = .ok (.aload_n 0, 1) := by decide +kernel
theorem dX12_judged_304 : decode cX12_judged 304 = .ok (.getfield 423, 3) := by decide +kernel
theorem dX12_judged_307 : decode cX12_judged 307 = .ok (.iconst 2, 1) := by decide +kernel
theorem dX12_judged_308 : decode cX12_judged 308 = .ok (.if_icmp .ne 7, 3) := by decide +kernel
theorem dX12_judged_311 : decode cX12_judged 311 = .ok (.iconst 0, 1) := by decide +kernel
theorem dX12_judged_312 : decode cX12_judged 312 = .ok (.goto 7, 3) := by decide +kernel
theorem dX12_judged_315 : decode cX12_judged 315 = .ok (.iload_n 3, 1) := by decide +kernel
theorem dX12_judged_316 : decode cX12_judged 316 = .ok (.iload 6, 2) := by decide +kernel
theorem dX12_judged_318 : decode cX12_judged 318 = .ok (.isub, 1) := by decide +kernel
theorem dX12_judged_319 : decode cX12_judged 319 = .ok (.putfield 429, 3) := by decide +kernel
theorem dX12_judged_322 : decode cX12_judged 322 = .ok (.return_, 1) := by decide +kernel
theorem dX12_nameFault_0 : decode cX12_nameFault 0 = .ok (.aload_n 0, 1) := by decide +kernel
theorem dX12_nameFault_1 : decode cX12_nameFault 1 = .ok (.getfield 55, 3) := by decide +kernel
theorem dX12_nameFault_4 : decode cX12_nameFault 4 = .ok (.iload_n 1, 1) := by decide +kernel
theorem dX12_nameFault_5 : decode cX12_nameFault 5 = .ok (.iaload, 1) := by decide +kernel
theorem dX12_nameFault_6 : decode cX12_nameFault 6 = .ok (.istore_n 3, 1) := by decide +kernel
theorem dX12_nameFault_7 : decode cX12_nameFault 7 = .ok (.aload_n 0, 1) := by decide +kernel
theorem dX12_nameFault_8 : decode cX12_nameFault 8 = .ok (.getfield 171, 3) := by decide +kernel
theorem dX12_nameFault_11 : decode cX12_nameFault 11 = .ok (.iconst 0, 1) := by decide +kernel
theorem dX12_nameFault_12 : decode cX12_nameFault 12 = .ok (.aload_n 0, 1) := by decide +kernel
theorem dX12_nameFault_13 : decode cX12_nameFault 13 = .ok (.getfield 67, 3) := by decide +kernel
theorem dX12_nameFault_16 : decode cX12_nameFault 16 = .ok (.iload_n 1, 1) := by decide +kernel
theorem dX12_nameFault_17 : decode cX12_nameFault 17 = .ok (.iaload, 1) := by decide +kernel
theorem dX12_nameFault_18 : decode cX12_nameFault 18 = .ok (.aload_n 0, 1) := by decide +kernel
theorem dX12_nameFault_19 : decode cX12_nameFault 19 = .ok (.getfield 22, 3) := by decide +kernel
theorem dX12_nameFault_22 : decode cX12_nameFault 22 = .ok (.iload_n 3, 1) := by decide +kernel
theorem dX12_nameFault_23 : decode cX12_nameFault 23 = .ok (.iaload, 1) := by decide +kernel
theorem dX12_nameFault_24 : decode cX12_nameFault 24 = .ok (.isub, 1) := by decide +kernel
theorem dX12_nameFault_25 : decode cX12_nameFault 25 = .ok (.sipush 360, 3) := by decide +kernel
theorem dX12_nameFault_28 : decode cX12_nameFault 28 = .ok (.idiv, 1) := by decide +kernel
theorem dX12_nameFault_29 : decode cX12_nameFault 29 = .ok (.iastore, 1) := by decide +kernel
theorem dX12_nameFault_30 : decode cX12_nameFault 30 = .ok (.aload_n 0, 1) := by decide +kernel
theorem dX12_nameFault_31 : decode cX12_nameFault 31 = .ok (.getfield 171, 3) := by decide +kernel
theorem dX12_nameFault_34 : decode cX12_nameFault 34 = .ok (.iconst 1, 1) := by decide +kernel
theorem dX12_nameFault_35 : decode cX12_nameFault 35 = .ok (.aload_n 0, 1) := by decide +kernel
theorem dX12_nameFault_36 : decode cX12_nameFault 36 = .ok (.getfield 61, 3) := by decide +kernel
theorem dX12_nameFault_39 : decode cX12_nameFault 39 = .ok (.iload_n 1, 1) := by decide +kernel
theorem dX12_nameFault_40 : decode cX12_nameFault 40 = .ok (.iaload, 1) := by decide +kernel
theorem dX12_nameFault_41 : decode cX12_nameFault 41 = .ok (.iastore, 1) := by decide +kernel
theorem dX12_nameFault_42 : decode cX12_nameFault 42 = .ok (.aload_n 0, 1) := by decide +kernel
theorem dX12_nameFault_43 : decode cX12_nameFault 43 = .ok (.getfield 171, 3) := by decide +kernel
theorem dX12_nameFault_46 : decode cX12_nameFault 46 = .ok (.iconst 2, 1) := by decide +kernel
theorem dX12_nameFault_47 : decode cX12_nameFault 47 = .ok (.aload_n 0, 1) := by decide +kernel
theorem dX12_nameFault_48 : decode cX12_nameFault 48 = .ok (.getfield 46, 3) := by decide +kernel
theorem dX12_nameFault_51 : decode cX12_nameFault 51 = .ok (.aload_n 0, 1) := by decide +kernel
theorem dX12_nameFault_52 : decode cX12_nameFault 52 = .ok (.getfield 61, 3) := by decide +kernel
theorem dX12_nameFault_55 : decode cX12_nameFault 55 = .ok (.iload_n 1, 1) := by decide +kernel
theorem dX12_nameFault_56 : decode cX12_nameFault 56 = .ok (.iaload, 1) := by decide +kernel
theorem dX12_nameFault_57 : decode cX12_nameFault 57 = .ok (.iaload, 1) := by decide +kernel
theorem dX12_nameFault_58 : decode cX12_nameFault 58 = .ok (.iastore, 1) := by decide +kernel
theorem dX12_nameFault_59 : decode cX12_nameFault 59 = .ok (.aload_n 0, 1) := by decide +kernel
theorem dX12_nameFault_60 : decode cX12_nameFault 60 = .ok (.getfield 171, 3) := by decide +kernel
theorem dX12_nameFault_63 : decode cX12_nameFault 63 = .ok (.iconst 3, 1) := by decide +kernel
theorem dX12_nameFault_64 : decode cX12_nameFault 64 = .ok (.aload_n 0, 1) := by decide +kernel
theorem dX12_nameFault_65 : decode cX12_nameFault 65 = .ok (.getfield 64, 3) := by decide +kernel
theorem dX12_nameFault_68 : decode cX12_nameFault 68 = .ok (.iload_n 1, 1) := by decide +kernel
theorem dX12_nameFault_69 : decode cX12_nameFault 69 = .ok (.iaload, 1) := by decide +kernel
theorem dX12_nameFault_70 : decode cX12_nameFault 70 = .ok (.iastore, 1) := by decide +kernel
theorem dX12_nameFault_71 : decode cX12_nameFault 71 = .ok (.aload_n 0, 1) := by decide +kernel
theorem dX12_nameFault_72 : decode cX12_nameFault 72 = .ok (.getfield 171, 3) := by decide +kernel
theorem dX12_nameFault_75 : decode cX12_nameFault 75 = .ok (.iconst 4, 1) := by decide +kernel
theorem dX12_nameFault_76 : decode cX12_nameFault 76 = .ok (.aload_n 0, 1) := by decide +kernel
theorem dX12_nameFault_77 : decode cX12_nameFault 77 = .ok (.getfield 77, 3) := by decide +kernel
theorem dX12_nameFault_80 : decode cX12_nameFault 80 = .ok (.iload_n 1, 1) := by decide +kernel
theorem dX12_nameFault_81 : decode cX12_nameFault 81 = .ok (.baload, 1) := by decide +kernel
theorem dX12_nameFault_82 : decode cX12_nameFault 82 = .ok (.ifCond .eq 7, 3) := by decide +kernel
theorem dX12_nameFault_85 : decode cX12_nameFault 85 = .ok (.iconst 1, 1) := by decide +kernel
theorem dX12_nameFault_86 : decode cX12_nameFault 86 = .ok (.goto 4, 3) := by decide +kernel
theorem dX12_nameFault_89 : decode cX12_nameFault 89 = .ok (.iconst 0, 1) := by decide +kernel
theorem dX12_nameFault_90 : decode cX12_nameFault 90 = .ok (.iastore, 1) := by decide +kernel
theorem dX12_nameFault_91 : decode cX12_nameFault 91 = .ok (.aload_n 0, 1) := by decide +kernel
theorem dX12_nameFault_92 : decode cX12_nameFault 92 = .ok (.getfield 171, 3) := by decide +kernel
theorem dX12_nameFault_95 : decode cX12_nameFault 95 = .ok (.iconst 5, 1) := by decide +kernel
theorem dX12_nameFault_96 : decode cX12_nameFault 96 = .ok (.iconst 0, 1) := by decide +kernel
theorem dX12_nameFault_97 : decode cX12_nameFault 97 = .ok (.iastore, 1) := by decide +kernel
theorem dX12_nameFault_98 : decode cX12_nameFault 98 = .ok (.bipush 20, 2) := by decide +kernel
theorem dX12_nameFault_100 : decode cX12_nameFault 100 = .ok (.iload_n 3, 1) := by decide +kernel
theorem dX12_nameFault_101 : decode cX12_nameFault 101 = .ok (.imul, 1) := by decide +kernel
theorem dX12_nameFault_102 : decode cX12_nameFault 102 = .ok (.istore 4, 2) := by decide +kernel
theorem dX12_nameFault_104 : decode cX12_nameFault 104 = .ok (.iload 4, 2) := by decide +kernel
theorem dX12_nameFault_106 : decode cX12_nameFault 106 = .ok (.bipush 20, 2) := by decide +kernel
theorem dX12_nameFault_108 : decode cX12_nameFault 108 = .ok (.iload_n 3, 1) := by decide +kernel
theorem dX12_nameFault_109 : decode cX12_nameFault 109 = .ok (.imul, 1) := by decide +kernel
theorem dX12_nameFault_110 : decode cX12_nameFault 110 = .ok (.aload_n 0, 1) := by decide +kernel
theorem dX12_nameFault_111 : decode cX12_nameFault 111 = .ok (.getfield 28, 3) := by decide +kernel
theorem dX12_nameFault_114 : decode cX12_nameFault 114 = .ok (.iload_n 3, 1) := by decide +kernel
theorem dX12_nameFault_115 : decode cX12_nameFault 115 = .ok (.iaload, 1) := by decide +kernel
theorem dX12_nameFault_116 : decode cX12_nameFault 116 = .ok (.iadd, 1) := by decide +kernel
theorem dX12_nameFault_117 : decode cX12_nameFault 117 = .ok (.if_icmp .ge 39, 3) := by decide +kernel
theorem dX12_nameFault_120 : decode cX12_nameFault 120 = .ok (.aload_n 0, 1) := by decide +kernel
theorem dX12_nameFault_121 : decode cX12_nameFault 121 = .ok (.getfield 171, 3) := by decide +kernel
theorem dX12_nameFault_124 : decode cX12_nameFault 124 = .ok (.iconst 5, 1) := by decide +kernel
theorem dX12_nameFault_125 : decode cX12_nameFault 125 = .ok (.dup2, 1) := by decide +kernel
theorem dX12_nameFault_126 : decode cX12_nameFault 126 = .ok (.iaload, 1) := by decide +kernel
theorem dX12_nameFault_127 : decode cX12_nameFault 127 = .ok (.aload_n 0, 1) := by decide +kernel
theorem dX12_nameFault_128 : decode cX12_nameFault 128 = .ok (.getfield 25, 3) := by decide +kernel
theorem dX12_nameFault_131 : decode cX12_nameFault 131 = .ok (.iload 4, 2) := by decide +kernel
theorem dX12_nameFault_133 : decode cX12_nameFault 133 = .ok (.iaload, 1) := by decide +kernel
theorem dX12_nameFault_134 : decode cX12_nameFault 134 = .ok (.aload_n 0, 1) := by decide +kernel
theorem dX12_nameFault_135 : decode cX12_nameFault 135 = .ok (.getfield 67, 3) := by decide +kernel
theorem dX12_nameFault_138 : decode cX12_nameFault 138 = .ok (.iload_n 1, 1) := by decide +kernel
theorem dX12_nameFault_139 : decode cX12_nameFault 139 = .ok (.iaload, 1) := by decide +kernel
theorem dX12_nameFault_140 : decode cX12_nameFault 140 = .ok (.if_icmp .gt 7, 3) := by decide +kernel
theorem dX12_nameFault_143 : decode cX12_nameFault 143 = .ok (.iconst 1, 1) := by decide +kernel
theorem dX12_nameFault_144 : decode cX12_nameFault 144 = .ok (.goto 4, 3) := by decide +kernel
theorem dX12_nameFault_147 : decode cX12_nameFault 147 = .ok (.iconst 0, 1) := by decide +kernel
theorem dX12_nameFault_148 : decode cX12_nameFault 148 = .ok (.iadd, 1) := by decide +kernel
theorem dX12_nameFault_149 : decode cX12_nameFault 149 = .ok (.iastore, 1) := by decide +kernel
theorem dX12_nameFault_150 : decode cX12_nameFault 150 = .ok (.iinc 4 1, 3) := by decide +kernel
theorem dX12_nameFault_153 : decode cX12_nameFault 153 = .ok (.goto (-49), 3) := by decide +kernel
theorem dX12_nameFault_156 : decode cX12_nameFault 156 = .ok (.aload_n 0, 1) := by decide +kernel
theorem dX12_nameFault_157 : decode cX12_nameFault 157 = .ok (.getfield 171, 3) := by decide +kernel
theorem dX12_nameFault_160 : decode cX12_nameFault 160 = .ok (.bipush 6, 2) := by decide +kernel
theorem dX12_nameFault_162 : decode cX12_nameFault 162 = .ok (.aload_n 0, 1) := by decide +kernel
theorem dX12_nameFault_163 : decode cX12_nameFault 163 = .ok (.iload_n 1, 1) := by decide +kernel
theorem dX12_nameFault_164 : decode cX12_nameFault 164 = .ok (.aload_n 0, 1) := by decide +kernel
theorem dX12_nameFault_165 : decode cX12_nameFault 165 = .ok (.getfield 190, 3) := by decide +kernel
theorem dX12_nameFault_168 : decode cX12_nameFault 168 = .ok (.invokevirtual 307, 3) := by decide +kernel
theorem dX12_nameFault_171 : decode cX12_nameFault 171 = .ok (.iastore, 1) := by decide +kernel
theorem dX12_nameFault_172 : decode cX12_nameFault 172 = .ok (.aload_n 0, 1) := by decide +kernel
theorem dX12_nameFault_173 : decode cX12_nameFault 173 = .ok (.getfield 171, 3) := by decide +kernel
theorem dX12_nameFault_176 : decode cX12_nameFault 176 = .ok (.bipush 7, 2) := by decide +kernel
theorem dX12_nameFault_178 : decode cX12_nameFault 178 = .ok (.iload_n 2, 1) := by decide +kernel
theorem dX12_nameFault_179 : decode cX12_nameFault 179 = .ok (.ifCond .lt 7, 3) := by decide +kernel
theorem dX12_nameFault_182 : decode cX12_nameFault 182 = .ok (.iconst 1, 1) := by decide +kernel
theorem dX12_nameFault_183 : decode cX12_nameFault 183 = .ok (.goto 4, 3) := by decide +kernel
theorem dX12_nameFault_186 : decode cX12_nameFault 186 = .ok (.iconst 0, 1) := by decide +kernel
theorem dX12_nameFault_187 : decode cX12_nameFault 187 = .ok (.iastore, 1) := by decide +kernel
theorem dX12_nameFault_188 : decode cX12_nameFault 188 = .ok (.aload_n 0, 1) := by decide +kernel
theorem dX12_nameFault_189 : decode cX12_nameFault 189 = .ok (.getfield 171, 3) := by decide +kernel
theorem dX12_nameFault_192 : decode cX12_nameFault 192 = .ok (.bipush 8, 2) := by decide +kernel
theorem dX12_nameFault_194 : decode cX12_nameFault 194 = .ok (.aload_n 0, 1) := by decide +kernel
theorem dX12_nameFault_195 : decode cX12_nameFault 195 = .ok (.getfield 58, 3) := by decide +kernel
theorem dX12_nameFault_198 : decode cX12_nameFault 198 = .ok (.iload_n 1, 1) := by decide +kernel
theorem dX12_nameFault_199 : decode cX12_nameFault 199 = .ok (.iaload, 1) := by decide +kernel
theorem dX12_nameFault_200 : decode cX12_nameFault 200 = .ok (.iconst 4, 1) := by decide +kernel
theorem dX12_nameFault_201 : decode cX12_nameFault 201 = .ok (.idiv, 1) := by decide +kernel
theorem dX12_nameFault_202 : decode cX12_nameFault 202 = .ok (.iastore, 1) := by decide +kernel
theorem dX12_nameFault_203 : decode cX12_nameFault 203 = .ok (.return_, 1) := by decide +kernel
theorem dX12_judge_0 : decode cX12_judge 0 = .ok (.aload_n 0, 1) := by decide +kernel
theorem dX12_judge_1 : decode cX12_judge 1 = .ok (.iload_n 1, 1) := by decide +kernel
theorem dX12_judge_2 : decode cX12_judge 2 = .ok (.invokevirtual 233, 3) := by decide +kernel
theorem dX12_judge_5 : decode cX12_judge 5 = .ok (.ifCond .eq 12, 3) := by decide +kernel
theorem dX12_judge_8 : decode cX12_judge 8 = .ok (.iload_n 2, 1) := by decide +kernel
theorem dX12_judge_9 : decode cX12_judge 9 = .ok (.iconst 0, 1) := by decide +kernel
theorem dX12_judge_10 : decode cX12_judge 10 = .ok (.iconst 3, 1) := by decide +kernel
theorem dX12_judge_11 : decode cX12_judge 11 = .ok (.invokestatic 177, 3) := by decide +kernel
theorem dX12_judge_14 : decode cX12_judge 14 = .ok (.ifCond .ne 5, 3) := by decide +kernel
theorem dX12_judge_17 : decode cX12_judge 17 = .ok (.iconst (-1), 1) := by decide +kernel
theorem dX12_judge_18 : decode cX12_judge 18 = .ok (.ireturn, 1) := by decide +kernel
theorem dX12_judge_19 : decode cX12_judge 19 = .ok (.aload_n 0, 1) := by decide +kernel
theorem dX12_judge_20 : decode cX12_judge 20 = .ok (.iload_n 1, 1) := by decide +kernel
theorem dX12_judge_21 : decode cX12_judge 21 = .ok (.invokevirtual 438, 3) := by decide +kernel
theorem dX12_judge_24 : decode cX12_judge 24 = .ok (.iload_n 2, 1) := by decide +kernel
theorem dX12_judge_25 : decode cX12_judge 25 = .ok (.ifCond .ne 10, 3) := by decide +kernel
theorem dX12_judge_28 : decode cX12_judge 28 = .ok (.aload_n 0, 1) := by decide +kernel
theorem dX12_judge_29 : decode cX12_judge 29 = .ok (.getfield 423, 3) := by decide +kernel
theorem dX12_judge_32 : decode cX12_judge 32 = .ok (.goto 31, 3) := by decide +kernel
theorem dX12_judge_35 : decode cX12_judge 35 = .ok (.iload_n 2, 1) := by decide +kernel
theorem dX12_judge_36 : decode cX12_judge 36 = .ok (.iconst 1, 1) := by decide +kernel
theorem dX12_judge_37 : decode cX12_judge 37 = .ok (.if_icmp .ne 10, 3) := by decide +kernel
theorem dX12_judge_40 : decode cX12_judge 40 = .ok (.aload_n 0, 1) := by decide +kernel
theorem dX12_judge_41 : decode cX12_judge 41 = .ok (.getfield 426, 3) := by decide +kernel
theorem dX12_judge_44 : decode cX12_judge 44 = .ok (.goto 19, 3) := by decide +kernel
theorem dX12_judge_47 : decode cX12_judge 47 = .ok (.iload_n 2, 1) := by decide +kernel
theorem dX12_judge_48 : decode cX12_judge 48 = .ok (.iconst 2, 1) := by decide +kernel
theorem dX12_judge_49 : decode cX12_judge 49 = .ok (.if_icmp .ne 10, 3) := by decide +kernel
theorem dX12_judge_52 : decode cX12_judge 52 = .ok (.aload_n 0, 1) := by decide +kernel
theorem dX12_judge_53 : decode cX12_judge 53 = .ok (.getfield 429, 3) := by decide +kernel
theorem dX12_judge_56 : decode cX12_judge 56 = .ok (.goto 7, 3) := by decide +kernel
theorem dX12_judge_59 : decode cX12_judge 59 = .ok (.aload_n 0, 1) := by decide +kernel
theorem dX12_judge_60 : decode cX12_judge 60 = .ok (.getfield 432, 3) := by decide +kernel
theorem dX12_judge_63 : decode cX12_judge 63 = .ok (.ireturn, 1) := by decide +kernel
theorem dX12_free_0 : decode cX12_free 0 = .ok (.aload_n 0, 1) := by decide +kernel
theorem dX12_free_1 : decode cX12_free 1 = .ok (.iload_n 1, 1) := by decide +kernel
theorem dX12_free_2 : decode cX12_free 2 = .ok (.invokevirtual 193, 3) := by decide +kernel
theorem dX12_free_5 : decode cX12_free 5 = .ok (.ifCond .ne 5, 3) := by decide +kernel
theorem dX12_free_8 : decode cX12_free 8 = .ok (.iconst (-1), 1) := by decide +kernel
theorem dX12_free_9 : decode cX12_free 9 = .ok (.ireturn, 1) := by decide +kernel
theorem dX12_free_10 : decode cX12_free 10 = .ok (.aload_n 0, 1) := by decide +kernel
theorem dX12_free_11 : decode cX12_free 11 = .ok (.getfield 22, 3) := by decide +kernel
theorem dX12_free_14 : decode cX12_free 14 = .ok (.iload_n 1, 1) := by decide +kernel
theorem dX12_free_15 : decode cX12_free 15 = .ok (.iaload, 1) := by decide +kernel
theorem dX12_free_16 : decode cX12_free 16 = .ok (.ifCond .ge 6, 3) := by decide +kernel
theorem dX12_free_19 : decode cX12_free 19 = .ok (.bipush (-3), 2) := by decide +kernel
theorem dX12_free_21 : decode cX12_free 21 = .ok (.ireturn, 1) := by decide +kernel
theorem dX12_free_22 : decode cX12_free 22 = .ok (.aload_n 0, 1) := by decide +kernel
theorem dX12_free_23 : decode cX12_free 23 = .ok (.iconst 1, 1) := by decide +kernel
theorem dX12_free_24 : decode cX12_free 24 = .ok (.iload_n 1, 1) := by decide +kernel
theorem dX12_free_25 : decode cX12_free 25 = .ok (.aload_n 0, 1) := by decide +kernel
theorem dX12_free_26 : decode cX12_free 26 = .ok (.getfield 190, 3) := by decide +kernel
theorem dX12_free_29 : decode cX12_free 29 = .ok (.invokevirtual 420, 3) := by decide +kernel
theorem dX12_free_32 : decode cX12_free 32 = .ok (.istore_n 2, 1) := by decide +kernel
theorem dX12_free_33 : decode cX12_free 33 = .ok (.aload_n 0, 1) := by decide +kernel
theorem dX12_free_34 : decode cX12_free 34 = .ok (.getfield 174, 3) := by decide +kernel
theorem dX12_free_37 : decode cX12_free 37 = .ok (.iconst 0, 1) := by decide +kernel
theorem dX12_free_38 : decode cX12_free 38 = .ok (.aload_n 0, 1) := by decide +kernel
theorem dX12_free_39 : decode cX12_free 39 = .ok (.iload_n 1, 1) := by decide +kernel
theorem dX12_free_40 : decode cX12_free 40 = .ok (.invokevirtual 214, 3) := by decide +kernel
theorem dX12_free_43 : decode cX12_free 43 = .ok (.iastore, 1) := by decide +kernel
theorem dX12_free_44 : decode cX12_free 44 = .ok (.aload_n 0, 1) := by decide +kernel
theorem dX12_free_45 : decode cX12_free 45 = .ok (.getfield 174, 3) := by decide +kernel
theorem dX12_free_48 : decode cX12_free 48 = .ok (.iconst 1, 1) := by decide +kernel
theorem dX12_free_49 : decode cX12_free 49 = .ok (.aload_n 0, 1) := by decide +kernel
theorem dX12_free_50 : decode cX12_free 50 = .ok (.getfield 190, 3) := by decide +kernel
theorem dX12_free_53 : decode cX12_free 53 = .ok (.aload_n 0, 1) := by decide +kernel
theorem dX12_free_54 : decode cX12_free 54 = .ok (.getfield 22, 3) := by decide +kernel
theorem dX12_free_57 : decode cX12_free 57 = .ok (.iload_n 1, 1) := by decide +kernel
theorem dX12_free_58 : decode cX12_free 58 = .ok (.iaload, 1) := by decide +kernel
theorem dX12_free_59 : decode cX12_free 59 = .ok (.isub, 1) := by decide +kernel
theorem dX12_free_60 : decode cX12_free 60 = .ok (.iastore, 1) := by decide +kernel
theorem dX12_free_61 : decode cX12_free 61 = .ok (.aload_n 0, 1) := by decide +kernel
theorem dX12_free_62 : decode cX12_free 62 = .ok (.getfield 174, 3) := by decide +kernel
theorem dX12_free_65 : decode cX12_free 65 = .ok (.iconst 2, 1) := by decide +kernel
theorem dX12_free_66 : decode cX12_free 66 = .ok (.aload_n 0, 1) := by decide +kernel
theorem dX12_free_67 : decode cX12_free 67 = .ok (.iload_n 1, 1) := by decide +kernel
theorem dX12_free_68 : decode cX12_free 68 = .ok (.invokevirtual 217, 3) := by decide +kernel
theorem dX12_free_71 : decode cX12_free 71 = .ok (.iastore, 1) := by decide +kernel
theorem dX12_free_72 : decode cX12_free 72 = .ok (.aload_n 0, 1) := by decide +kernel
theorem dX12_free_73 : decode cX12_free 73 = .ok (.getfield 174, 3) := by decide +kernel
theorem dX12_free_76 : decode cX12_free 76 = .ok (.iconst 3, 1) := by decide +kernel
theorem dX12_free_77 : decode cX12_free 77 = .ok (.aload_n 0, 1) := by decide +kernel
theorem dX12_free_78 : decode cX12_free 78 = .ok (.iload_n 1, 1) := by decide +kernel
theorem dX12_free_79 : decode cX12_free 79 = .ok (.invokevirtual 220, 3) := by decide +kernel
theorem dX12_free_82 : decode cX12_free 82 = .ok (.iastore, 1) := by decide +kernel
theorem dX12_free_83 : decode cX12_free 83 = .ok (.aload_n 0, 1) := by decide +kernel
theorem dX12_free_84 : decode cX12_free 84 = .ok (.getfield 174, 3) := by decide +kernel
theorem dX12_free_87 : decode cX12_free 87 = .ok (.iconst 4, 1) := by decide +kernel
theorem dX12_free_88 : decode cX12_free 88 = .ok (.aload_n 0, 1) := by decide +kernel
theorem dX12_free_89 : decode cX12_free 89 = .ok (.getfield 37, 3) := by decide +kernel
theorem dX12_free_92 : decode cX12_free 92 = .ok (.iload_n 1, 1) := by decide +kernel
theorem dX12_free_93 : decode cX12_free 93 = .ok (.iaload, 1) := by decide +kernel
theorem dX12_free_94 : decode cX12_free 94 = .ok (.iastore, 1) := by decide +kernel
theorem dX12_free_95 : decode cX12_free 95 = .ok (.iload_n 2, 1) := by decide +kernel
theorem dX12_free_96 : decode cX12_free 96 = .ok (.ifCond .ge 7, 3) := by decide +kernel
theorem dX12_free_99 : decode cX12_free 99 = .ok (.iconst 0, 1) := by decide +kernel
theorem dX12_free_100 : decode cX12_free 100 = .ok (.goto 24, 3) := by decide +kernel
theorem dX12_free_103 : decode cX12_free 103 = .ok (.aload_n 0, 1) := by decide +kernel
theorem dX12_free_104 : decode cX12_free 104 = .ok (.sipush 160, 3) := by decide +kernel
theorem dX12_free_107 : decode cX12_free 107 = .ok (.bipush 10, 2) := by decide +kernel
theorem dX12_free_109 : decode cX12_free 109 = .ok (.iload_n 2, 1) := by decide +kernel
theorem dX12_free_110 : decode cX12_free 110 = .ok (.iadd, 1) := by decide +kernel
theorem dX12_free_111 : decode cX12_free 111 = .ok (.imul, 1) := by decide +kernel
theorem dX12_free_112 : decode cX12_free 112 = .ok (.aload_n 0, 1) := by decide +kernel
theorem dX12_free_113 : decode cX12_free 113 = .ok (.getfield 147, 3) := by decide +kernel
theorem dX12_free_116 : decode cX12_free 116 = .ok (.bipush 10, 2) := by decide +kernel
theorem dX12_free_118 : decode cX12_free 118 = .ok (.iload_n 2, 1) := by decide +kernel
theorem dX12_free_119 : decode cX12_free 119 = .ok (.iadd, 1) := by decide +kernel
theorem dX12_free_120 : decode cX12_free 120 = .ok (.iaload, 1) := by decide +kernel
theorem dX12_free_121 : decode cX12_free 121 = .ok (.invokevirtual 417, 3) := by decide +kernel
theorem dX12_free_124 : decode cX12_free 124 = .ok (.istore_n 3, 1) := by decide +kernel
theorem dX12_free_125 : decode cX12_free 125 = .ok (.iload_n 3, 1) := by decide +kernel
theorem dX12_free_126 : decode cX12_free 126 = .ok (.ifCond .ge 7, 3) := by decide +kernel
theorem dX12_free_129 : decode cX12_free 129 = .ok (.iconst 0, 1) := by decide +kernel
theorem dX12_free_130 : decode cX12_free 130 = .ok (.goto 23, 3) := by decide +kernel
theorem dX12_free_133 : decode cX12_free 133 = .ok (.iload_n 3, 1) := by decide +kernel
theorem dX12_free_134 : decode cX12_free 134 = .ok (.aload_n 0, 1) := by decide +kernel
theorem dX12_free_135 : decode cX12_free 135 = .ok (.getfield 37, 3) := by decide +kernel
theorem dX12_free_138 : decode cX12_free 138 = .ok (.iload_n 1, 1) := by decide +kernel
theorem dX12_free_139 : decode cX12_free 139 = .ok (.iaload, 1) := by decide +kernel
theorem dX12_free_140 : decode cX12_free 140 = .ok (.if_icmp .le 12, 3) := by decide +kernel
theorem dX12_free_143 : decode cX12_free 143 = .ok (.aload_n 0, 1) := by decide +kernel
theorem dX12_free_144 : decode cX12_free 144 = .ok (.getfield 37, 3) := by decide +kernel
theorem dX12_free_147 : decode cX12_free 147 = .ok (.iload_n 1, 1) := by decide +kernel
theorem dX12_free_148 : decode cX12_free 148 = .ok (.iaload, 1) := by decide +kernel
theorem dX12_free_149 : decode cX12_free 149 = .ok (.goto 4, 3) := by decide +kernel
theorem dX12_free_152 : decode cX12_free 152 = .ok (.iload_n 3, 1) := by decide +kernel
theorem dX12_free_153 : decode cX12_free 153 = .ok (.istore_n 3, 1) := by decide +kernel
theorem dX12_free_154 : decode cX12_free 154 = .ok (.aload_n 0, 1) := by decide +kernel
theorem dX12_free_155 : decode cX12_free 155 = .ok (.getfield 37, 3) := by decide +kernel
theorem dX12_free_158 : decode cX12_free 158 = .ok (.iload_n 1, 1) := by decide +kernel
theorem dX12_free_159 : decode cX12_free 159 = .ok (.dup2, 1) := by decide +kernel
theorem dX12_free_160 : decode cX12_free 160 = .ok (.iaload, 1) := by decide +kernel
theorem dX12_free_161 : decode cX12_free 161 = .ok (.iload_n 3, 1) := by decide +kernel
theorem dX12_free_162 : decode cX12_free 162 = .ok (.isub, 1) := by decide +kernel
theorem dX12_free_163 : decode cX12_free 163 = .ok (.iastore, 1) := by decide +kernel
theorem dX12_free_164 : decode cX12_free 164 = .ok (.aload_n 0, 1) := by decide +kernel
theorem dX12_free_165 : decode cX12_free 165 = .ok (.getfield 40, 3) := by decide +kernel
theorem dX12_free_168 : decode cX12_free 168 = .ok (.iload_n 1, 1) := by decide +kernel
theorem dX12_free_169 : decode cX12_free 169 = .ok (.dup2, 1) := by decide +kernel
theorem dX12_free_170 : decode cX12_free 170 = .ok (.iaload, 1) := by decide +kernel
theorem dX12_free_171 : decode cX12_free 171 = .ok (.iload_n 3, 1) := by decide +kernel
theorem dX12_free_172 : decode cX12_free 172 = .ok (.iadd, 1) := by decide +kernel
theorem dX12_free_173 : decode cX12_free 173 = .ok (.iastore, 1) := by decide +kernel
theorem dX12_free_174 : decode cX12_free 174 = .ok (.iload_n 3, 1) := by decide +kernel
theorem dX12_free_175 : decode cX12_free 175 = .ok (.ireturn, 1) := by decide +kernel
theorem dX12_take_0 : decode cX12_take 0 = .ok (.aload_n 0, 1) := by decide +kernel
theorem dX12_take_1 : decode cX12_take 1 = .ok (.iload_n 1, 1) := by decide +kernel
theorem dX12_take_2 : decode cX12_take 2 = .ok (.invokevirtual 233, 3) := by decide +kernel
theorem dX12_take_5 : decode cX12_take 5 = .ok (.ifCond .ne 5, 3) := by decide +kernel
theorem dX12_take_8 : decode cX12_take 8 = .ok (.iconst (-1), 1) := by decide +kernel
theorem dX12_take_9 : decode cX12_take 9 = .ok (.ireturn, 1) := by decide +kernel
theorem dX12_take_10 : decode cX12_take 10 = .ok (.aload_n 0, 1) := by decide +kernel
theorem dX12_take_11 : decode cX12_take 11 = .ok (.iload_n 1, 1) := by decide +kernel
theorem dX12_take_12 : decode cX12_take 12 = .ok (.invokevirtual 438, 3) := by decide +kernel
theorem dX12_take_15 : decode cX12_take 15 = .ok (.aload_n 0, 1) := by decide +kernel
theorem dX12_take_16 : decode cX12_take 16 = .ok (.getfield 55, 3) := by decide +kernel
theorem dX12_take_19 : decode cX12_take 19 = .ok (.iload_n 1, 1) := by decide +kernel
theorem dX12_take_20 : decode cX12_take 20 = .ok (.iaload, 1) := by decide +kernel
theorem dX12_take_21 : decode cX12_take 21 = .ok (.istore_n 2, 1) := by decide +kernel
theorem dX12_take_22 : decode cX12_take 22 = .ok (.aload_n 0, 1) := by decide +kernel
theorem dX12_take_23 : decode cX12_take 23 = .ok (.iload_n 1, 1) := by decide +kernel
theorem dX12_take_24 : decode cX12_take 24 = .ok (.invokevirtual 236, 3) := by decide +kernel
theorem dX12_take_27 : decode cX12_take 27 = .ok (.ifCond .eq 34, 3) := by decide +kernel
theorem dX12_take_30 : decode cX12_take 30 = .ok (.aload_n 0, 1) := by decide +kernel
theorem dX12_take_31 : decode cX12_take 31 = .ok (.getfield 423, 3) := by decide +kernel
theorem dX12_take_34 : decode cX12_take 34 = .ok (.ifCond .ne 27, 3) := by decide +kernel
theorem dX12_take_37 : decode cX12_take 37 = .ok (.aload_n 0, 1) := by decide +kernel
theorem dX12_take_38 : decode cX12_take 38 = .ok (.getfield 429, 3) := by decide +kernel
theorem dX12_take_41 : decode cX12_take 41 = .ok (.aload_n 0, 1) := by decide +kernel
theorem dX12_take_42 : decode cX12_take 42 = .ok (.getfield 37, 3) := by decide +kernel
theorem dX12_take_45 : decode cX12_take 45 = .ok (.iload_n 2, 1) := by decide +kernel
theorem dX12_take_46 : decode cX12_take 46 = .ok (.iaload, 1) := by decide +kernel
theorem dX12_take_47 : decode cX12_take 47 = .ok (.if_icmp .gt 14, 3) := by decide +kernel
theorem dX12_take_50 : decode cX12_take 50 = .ok (.aload_n 0, 1) := by decide +kernel
theorem dX12_take_51 : decode cX12_take 51 = .ok (.getfield 89, 3) := by decide +kernel
theorem dX12_take_54 : decode cX12_take 54 = .ok (.iload_n 1, 1) := by decide +kernel
theorem dX12_take_55 : decode cX12_take 55 = .ok (.iaload, 1) := by decide +kernel
theorem dX12_take_56 : decode cX12_take 56 = .ok (.bipush 30, 2) := by decide +kernel
theorem dX12_take_58 : decode cX12_take 58 = .ok (.if_icmp .ne 6, 3) := by decide +kernel
theorem dX12_take_61 : decode cX12_take 61 = .ok (.bipush (-3), 2) := by decide +kernel
theorem dX12_take_63 : decode cX12_take 63 = .ok (.ireturn, 1) := by decide +kernel
theorem dX12_take_64 : decode cX12_take 64 = .ok (.aload_n 0, 1) := by decide +kernel
theorem dX12_take_65 : decode cX12_take 65 = .ok (.getfield 37, 3) := by decide +kernel
theorem dX12_take_68 : decode cX12_take 68 = .ok (.iload_n 2, 1) := by decide +kernel
theorem dX12_take_69 : decode cX12_take 69 = .ok (.dup2, 1) := by decide +kernel
theorem dX12_take_70 : decode cX12_take 70 = .ok (.iaload, 1) := by decide +kernel
theorem dX12_take_71 : decode cX12_take 71 = .ok (.aload_n 0, 1) := by decide +kernel
theorem dX12_take_72 : decode cX12_take 72 = .ok (.getfield 429, 3) := by decide +kernel
theorem dX12_take_75 : decode cX12_take 75 = .ok (.isub, 1) := by decide +kernel
theorem dX12_take_76 : decode cX12_take 76 = .ok (.iastore, 1) := by decide +kernel
theorem dX12_take_77 : decode cX12_take 77 = .ok (.aload_n 0, 1) := by decide +kernel
theorem dX12_take_78 : decode cX12_take 78 = .ok (.getfield 43, 3) := by decide +kernel
theorem dX12_take_81 : decode cX12_take 81 = .ok (.iload_n 2, 1) := by decide +kernel
theorem dX12_take_82 : decode cX12_take 82 = .ok (.dup2, 1) := by decide +kernel
theorem dX12_take_83 : decode cX12_take 83 = .ok (.iaload, 1) := by decide +kernel
theorem dX12_take_84 : decode cX12_take 84 = .ok (.aload_n 0, 1) := by decide +kernel
theorem dX12_take_85 : decode cX12_take 85 = .ok (.getfield 429, 3) := by decide +kernel
theorem dX12_take_88 : decode cX12_take 88 = .ok (.iadd, 1) := by decide +kernel
theorem dX12_take_89 : decode cX12_take 89 = .ok (.iastore, 1) := by decide +kernel
theorem dX12_take_90 : decode cX12_take 90 = .ok (.aload_n 0, 1) := by decide +kernel
theorem dX12_take_91 : decode cX12_take 91 = .ok (.iload_n 1, 1) := by decide +kernel
theorem dX12_take_92 : decode cX12_take 92 = .ok (.invokevirtual 245, 3) := by decide +kernel
theorem dX12_take_95 : decode cX12_take 95 = .ok (.aload_n 0, 1) := by decide +kernel
theorem dX12_take_96 : decode cX12_take 96 = .ok (.iload_n 1, 1) := by decide +kernel
theorem dX12_take_97 : decode cX12_take 97 = .ok (.iconst 3, 1) := by decide +kernel
theorem dX12_take_98 : decode cX12_take 98 = .ok (.iconst (-1), 1) := by decide +kernel
theorem dX12_take_99 : decode cX12_take 99 = .ok (.invokevirtual 229, 3) := by decide +kernel
theorem dX12_take_102 : decode cX12_take 102 = .ok (.aload_n 0, 1) := by decide +kernel
theorem dX12_take_103 : decode cX12_take 103 = .ok (.getfield 429, 3) := by decide +kernel
theorem dX12_take_106 : decode cX12_take 106 = .ok (.ireturn, 1) := by decide +kernel
theorem dX12_isEyeIn_0 : decode cX12_isEyeIn 0 = .ok (.iconst 0, 1) := by decide +kernel
theorem dX12_isEyeIn_1 : decode cX12_isEyeIn 1 = .ok (.istore_n 3, 1) := by decide +kernel
theorem dX12_isEyeIn_2 : decode cX12_isEyeIn 2 = .ok (.iconst 0, 1) := by decide +kernel
theorem dX12_isEyeIn_3 : decode cX12_isEyeIn 3 = .ok (.istore 4, 2) := by decide +kernel
theorem dX12_isEyeIn_5 : decode cX12_isEyeIn 5 = .ok (.iload 4, 2) := by decide +kernel
theorem dX12_isEyeIn_7 : decode cX12_isEyeIn 7 = .ok (.aload_n 0, 1) := by decide +kernel
theorem dX12_isEyeIn_8 : decode cX12_isEyeIn 8 = .ok (.getfield 187, 3) := by decide +kernel
theorem dX12_isEyeIn_11 : decode cX12_isEyeIn 11 = .ok (.if_icmp .ge 51, 3) := by decide +kernel
theorem dX12_isEyeIn_14 : decode cX12_isEyeIn 14 = .ok (.iload_n 3, 1) := by decide +kernel
theorem dX12_isEyeIn_15 : decode cX12_isEyeIn 15 = .ok (.ifCond .ne 35, 3) := by decide +kernel
theorem dX12_isEyeIn_18 : decode cX12_isEyeIn 18 = .ok (.aload_n 0, 1) := by decide +kernel
theorem dX12_isEyeIn_19 : decode cX12_isEyeIn 19 = .ok (.getfield 73, 3) := by decide +kernel
theorem dX12_isEyeIn_22 : decode cX12_isEyeIn 22 = .ok (.iload 4, 2) := by decide +kernel
theorem dX12_isEyeIn_24 : decode cX12_isEyeIn 24 = .ok (.baload, 1) := by decide +kernel
theorem dX12_isEyeIn_25 : decode cX12_isEyeIn 25 = .ok (.ifCond .eq 29, 3) := by decide +kernel
theorem dX12_isEyeIn_28 : decode cX12_isEyeIn 28 = .ok (.aload_n 0, 1) := by decide +kernel
theorem dX12_isEyeIn_29 : decode cX12_isEyeIn 29 = .ok (.getfield 70, 3) := by decide +kernel
theorem dX12_isEyeIn_32 : decode cX12_isEyeIn 32 = .ok (.iload 4, 2) := by decide +kernel
theorem dX12_isEyeIn_34 : decode cX12_isEyeIn 34 = .ok (.iaload, 1) := by decide +kernel
theorem dX12_isEyeIn_35 : decode cX12_isEyeIn 35 = .ok (.iload_n 1, 1) := by decide +kernel
theorem dX12_isEyeIn_36 : decode cX12_isEyeIn 36 = .ok (.if_icmp .ne 18, 3) := by decide +kernel
theorem dX12_isEyeIn_39 : decode cX12_isEyeIn 39 = .ok (.aload_n 0, 1) := by decide +kernel
theorem dX12_isEyeIn_40 : decode cX12_isEyeIn 40 = .ok (.getfield 55, 3) := by decide +kernel
theorem dX12_isEyeIn_43 : decode cX12_isEyeIn 43 = .ok (.iload 4, 2) := by decide +kernel
theorem dX12_isEyeIn_45 : decode cX12_isEyeIn 45 = .ok (.iaload, 1) := by decide +kernel
theorem dX12_isEyeIn_46 : decode cX12_isEyeIn 46 = .ok (.iload_n 2, 1) := by decide +kernel
theorem dX12_isEyeIn_47 : decode cX12_isEyeIn 47 = .ok (.if_icmp .ne 7, 3) := by decide +kernel
theorem dX12_isEyeIn_50 : decode cX12_isEyeIn 50 = .ok (.iconst 1, 1) := by decide +kernel
theorem dX12_isEyeIn_51 : decode cX12_isEyeIn 51 = .ok (.goto 4, 3) := by decide +kernel
theorem dX12_isEyeIn_54 : decode cX12_isEyeIn 54 = .ok (.iconst 0, 1) := by decide +kernel
theorem dX12_isEyeIn_55 : decode cX12_isEyeIn 55 = .ok (.istore_n 3, 1) := by decide +kernel
theorem dX12_isEyeIn_56 : decode cX12_isEyeIn 56 = .ok (.iinc 4 1, 3) := by decide +kernel
theorem dX12_isEyeIn_59 : decode cX12_isEyeIn 59 = .ok (.goto (-54), 3) := by decide +kernel
theorem dX12_isEyeIn_62 : decode cX12_isEyeIn 62 = .ok (.iload_n 3, 1) := by decide +kernel
theorem dX12_isEyeIn_63 : decode cX12_isEyeIn 63 = .ok (.ireturn, 1) := by decide +kernel
theorem dX12_firstTold_0 : decode cX12_firstTold 0 = .ok (.iconst 0, 1) := by decide +kernel
theorem dX12_firstTold_1 : decode cX12_firstTold 1 = .ok (.istore 5, 2) := by decide +kernel
theorem dX12_firstTold_3 : decode cX12_firstTold 3 = .ok (.iload 5, 2) := by decide +kernel
theorem dX12_firstTold_5 : decode cX12_firstTold 5 = .ok (.aload_n 0, 1) := by decide +kernel
theorem dX12_firstTold_6 : decode cX12_firstTold 6 = .ok (.getfield 187, 3) := by decide +kernel
theorem dX12_firstTold_9 : decode cX12_firstTold 9 = .ok (.if_icmp .ge 67, 3) := by decide +kernel
theorem dX12_firstTold_12 : decode cX12_firstTold 12 = .ok (.aload_n 0, 1) := by decide +kernel
theorem dX12_firstTold_13 : decode cX12_firstTold 13 = .ok (.getfield 73, 3) := by decide +kernel
theorem dX12_firstTold_16 : decode cX12_firstTold 16 = .ok (.iload 5, 2) := by decide +kernel
theorem dX12_firstTold_18 : decode cX12_firstTold 18 = .ok (.baload, 1) := by decide +kernel
theorem dX12_firstTold_19 : decode cX12_firstTold 19 = .ok (.ifCond .eq 51, 3) := by decide +kernel
theorem dX12_firstTold_22 : decode cX12_firstTold 22 = .ok (.aload_n 0, 1) := by decide +kernel
theorem dX12_firstTold_23 : decode cX12_firstTold 23 = .ok (.getfield 70, 3) := by decide +kernel
theorem dX12_firstTold_26 : decode cX12_firstTold 26 = .ok (.iload 5, 2) := by decide +kernel
theorem dX12_firstTold_28 : decode cX12_firstTold 28 = .ok (.iaload, 1) := by decide +kernel
theorem dX12_firstTold_29 : decode cX12_firstTold 29 = .ok (.iload_n 1, 1) := by decide +kernel
theorem dX12_firstTold_30 : decode cX12_firstTold 30 = .ok (.if_icmp .ne 40, 3) := by decide +kernel
theorem dX12_firstTold_33 : decode cX12_firstTold 33 = .ok (.aload_n 0, 1) := by decide +kernel
theorem dX12_firstTold_34 : decode cX12_firstTold 34 = .ok (.getfield 55, 3) := by decide +kernel
theorem dX12_firstTold_37 : decode cX12_firstTold 37 = .ok (.iload 5, 2) := by decide +kernel
theorem dX12_firstTold_39 : decode cX12_firstTold 39 = .ok (.iaload, 1) := by decide +kernel
theorem dX12_firstTold_40 : decode cX12_firstTold 40 = .ok (.iload_n 2, 1) := by decide +kernel
theorem dX12_firstTold_41 : decode cX12_firstTold 41 = .ok (.if_icmp .ne 29, 3) := by decide +kernel
theorem dX12_firstTold_44 : decode cX12_firstTold 44 = .ok (.aload_n 0, 1) := by decide +kernel
theorem dX12_firstTold_45 : decode cX12_firstTold 45 = .ok (.getfield 58, 3) := by decide +kernel
theorem dX12_firstTold_48 : decode cX12_firstTold 48 = .ok (.iload 5, 2) := by decide +kernel
theorem dX12_firstTold_50 : decode cX12_firstTold 50 = .ok (.iaload, 1) := by decide +kernel
theorem dX12_firstTold_51 : decode cX12_firstTold 51 = .ok (.iload_n 3, 1) := by decide +kernel
theorem dX12_firstTold_52 : decode cX12_firstTold 52 = .ok (.if_icmp .ne 18, 3) := by decide +kernel
theorem dX12_firstTold_55 : decode cX12_firstTold 55 = .ok (.aload_n 0, 1) := by decide +kernel
theorem dX12_firstTold_56 : decode cX12_firstTold 56 = .ok (.getfield 61, 3) := by decide +kernel
theorem dX12_firstTold_59 : decode cX12_firstTold 59 = .ok (.iload 5, 2) := by decide +kernel
theorem dX12_firstTold_61 : decode cX12_firstTold 61 = .ok (.iaload, 1) := by decide +kernel
theorem dX12_firstTold_62 : decode cX12_firstTold 62 = .ok (.iload 4, 2) := by decide +kernel
theorem dX12_firstTold_64 : decode cX12_firstTold 64 = .ok (.if_icmp .ne 6, 3) := by decide +kernel
theorem dX12_firstTold_67 : decode cX12_firstTold 67 = .ok (.iload 5, 2) := by decide +kernel
theorem dX12_firstTold_69 : decode cX12_firstTold 69 = .ok (.ireturn, 1) := by decide +kernel
theorem dX12_firstTold_70 : decode cX12_firstTold 70 = .ok (.iinc 5 1, 3) := by decide +kernel
theorem dX12_firstTold_73 : decode cX12_firstTold 73 = .ok (.goto (-70), 3) := by decide +kernel
theorem dX12_firstTold_76 : decode cX12_firstTold 76 = .ok (.iconst (-1), 1) := by decide +kernel
theorem dX12_firstTold_77 : decode cX12_firstTold 77 = .ok (.ireturn, 1) := by decide +kernel
theorem dX12_doubles_0 : decode cX12_doubles 0 = .ok (.iload_n 1, 1) := by decide +kernel
theorem dX12_doubles_1 : decode cX12_doubles 1 = .ok (.iconst 0, 1) := by decide +kernel
theorem dX12_doubles_2 : decode cX12_doubles 2 = .ok (.bipush 9, 2) := by decide +kernel
theorem dX12_doubles_4 : decode cX12_doubles 4 = .ok (.invokestatic 177, 3) := by decide +kernel
theorem dX12_doubles_7 : decode cX12_doubles 7 = .ok (.ifCond .eq 27, 3) := by decide +kernel
theorem dX12_doubles_10 : decode cX12_doubles 10 = .ok (.iload_n 2, 1) := by decide +kernel
theorem dX12_doubles_11 : decode cX12_doubles 11 = .ok (.iconst 0, 1) := by decide +kernel
theorem dX12_doubles_12 : decode cX12_doubles 12 = .ok (.bipush 9, 2) := by decide +kernel
theorem dX12_doubles_14 : decode cX12_doubles 14 = .ok (.invokestatic 177, 3) := by decide +kernel
theorem dX12_doubles_17 : decode cX12_doubles 17 = .ok (.ifCond .eq 17, 3) := by decide +kernel
theorem dX12_doubles_20 : decode cX12_doubles 20 = .ok (.iload_n 1, 1) := by decide +kernel
theorem dX12_doubles_21 : decode cX12_doubles 21 = .ok (.iload_n 2, 1) := by decide +kernel
theorem dX12_doubles_22 : decode cX12_doubles 22 = .ok (.if_icmp .eq 12, 3) := by decide +kernel
theorem dX12_doubles_25 : decode cX12_doubles 25 = .ok (.iload_n 3, 1) := by decide +kernel
theorem dX12_doubles_26 : decode cX12_doubles 26 = .ok (.iconst 0, 1) := by decide +kernel
theorem dX12_doubles_27 : decode cX12_doubles 27 = .ok (.iconst 5, 1) := by decide +kernel
theorem dX12_doubles_28 : decode cX12_doubles 28 = .ok (.invokestatic 177, 3) := by decide +kernel
theorem dX12_doubles_31 : decode cX12_doubles 31 = .ok (.ifCond .ne 6, 3) := by decide +kernel
theorem dX12_doubles_34 : decode cX12_doubles 34 = .ok (.ldc 201, 2) := by decide +kernel
theorem dX12_doubles_36 : decode cX12_doubles 36 = .ok (.ireturn, 1) := by decide +kernel
theorem dX12_doubles_37 : decode cX12_doubles 37 = .ok (.iconst 0, 1) := by decide +kernel
theorem dX12_doubles_38 : decode cX12_doubles 38 = .ok (.istore 4, 2) := by decide +kernel
theorem dX12_doubles_40 : decode cX12_doubles 40 = .ok (.iconst 0, 1) := by decide +kernel
theorem dX12_doubles_41 : decode cX12_doubles 41 = .ok (.istore 5, 2) := by decide +kernel
theorem dX12_doubles_43 : decode cX12_doubles 43 = .ok (.iconst 0, 1) := by decide +kernel
theorem dX12_doubles_44 : decode cX12_doubles 44 = .ok (.istore 6, 2) := by decide +kernel
theorem dX12_doubles_46 : decode cX12_doubles 46 = .ok (.iconst 0, 1) := by decide +kernel
theorem dX12_doubles_47 : decode cX12_doubles 47 = .ok (.istore 7, 2) := by decide +kernel
theorem dX12_doubles_49 : decode cX12_doubles 49 = .ok (.iconst 0, 1) := by decide +kernel
theorem dX12_doubles_50 : decode cX12_doubles 50 = .ok (.istore 8, 2) := by decide +kernel
theorem dX12_doubles_52 : decode cX12_doubles 52 = .ok (.iconst 0, 1) := by decide +kernel
theorem dX12_doubles_53 : decode cX12_doubles 53 = .ok (.istore 9, 2) := by decide +kernel
theorem dX12_doubles_55 : decode cX12_doubles 55 = .ok (.iload 9, 2) := by decide +kernel
theorem dX12_doubles_57 : decode cX12_doubles 57 = .ok (.aload_n 0, 1) := by decide +kernel
theorem dX12_doubles_58 : decode cX12_doubles 58 = .ok (.getfield 181, 3) := by decide +kernel
theorem dX12_doubles_61 : decode cX12_doubles 61 = .ok (.if_icmp .ge 210, 3) := by decide +kernel
theorem dX12_doubles_64 : decode cX12_doubles 64 = .ok (.aload_n 0, 1) := by decide +kernel
theorem dX12_doubles_65 : decode cX12_doubles 65 = .ok (.iload_n 1, 1) := by decide +kernel
theorem dX12_doubles_66 : decode cX12_doubles 66 = .ok (.iload 9, 2) := by decide +kernel
theorem dX12_doubles_68 : decode cX12_doubles 68 = .ok (.invokevirtual 441, 3) := by decide +kernel
theorem dX12_doubles_71 : decode cX12_doubles 71 = .ok (.ifCond .eq 17, 3) := by decide +kernel
theorem dX12_doubles_74 : decode cX12_doubles 74 = .ok (.aload_n 0, 1) := by decide +kernel
theorem dX12_doubles_75 : decode cX12_doubles 75 = .ok (.iload_n 2, 1) := by decide +kernel
theorem dX12_doubles_76 : decode cX12_doubles 76 = .ok (.iload 9, 2) := by decide +kernel
theorem dX12_doubles_78 : decode cX12_doubles 78 = .ok (.invokevirtual 441, 3) := by decide +kernel
theorem dX12_doubles_81 : decode cX12_doubles 81 = .ok (.ifCond .eq 7, 3) := by decide +kernel
theorem dX12_doubles_84 : decode cX12_doubles 84 = .ok (.iconst 1, 1) := by decide +kernel
theorem dX12_doubles_85 : decode cX12_doubles 85 = .ok (.goto 4, 3) := by decide +kernel
theorem dX12_doubles_88 : decode cX12_doubles 88 = .ok (.iconst 0, 1) := by decide +kernel
theorem dX12_doubles_89 : decode cX12_doubles 89 = .ok (.istore 10, 2) := by decide +kernel
theorem dX12_doubles_91 : decode cX12_doubles 91 = .ok (.iload 4, 2) := by decide +kernel
theorem dX12_doubles_93 : decode cX12_doubles 93 = .ok (.iload 10, 2) := by decide +kernel
theorem dX12_doubles_95 : decode cX12_doubles 95 = .ok (.ifCond .eq 7, 3) := by decide +kernel
theorem dX12_doubles_98 : decode cX12_doubles 98 = .ok (.iconst 1, 1) := by decide +kernel
theorem dX12_doubles_99 : decode cX12_doubles 99 = .ok (.goto 4, 3) := by decide +kernel
theorem dX12_doubles_102 : decode cX12_doubles 102 = .ok (.iconst 0, 1) := by decide +kernel
theorem dX12_doubles_103 : decode cX12_doubles 103 = .ok (.iadd, 1) := by decide +kernel
theorem dX12_doubles_104 : decode cX12_doubles 104 = .ok (.istore 4, 2) := by decide +kernel
theorem dX12_doubles_106 : decode cX12_doubles 106 = .ok (.iconst 0, 1) := by decide +kernel
theorem dX12_doubles_107 : decode cX12_doubles 107 = .ok (.istore 11, 2) := by decide +kernel
theorem dX12_doubles_109 : decode cX12_doubles 109 = .ok (.iload 11, 2) := by decide +kernel
theorem dX12_doubles_111 : decode cX12_doubles 111 = .ok (.bipush 12, 2) := by decide +kernel
theorem dX12_doubles_113 : decode cX12_doubles 113 = .ok (.if_icmp .ge 152, 3) := by decide +kernel
theorem dX12_doubles_116 : decode cX12_doubles 116 = .ok (.iload 10, 2) := by decide +kernel
theorem dX12_doubles_118 : decode cX12_doubles 118 = .ok (.ifCond .eq 147, 3) := by decide +kernel
theorem dX12_doubles_121 : decode cX12_doubles 121 = .ok (.iconst 0, 1) := by decide +kernel
theorem dX12_doubles_122 : decode cX12_doubles 122 = .ok (.istore 12, 2) := by decide +kernel
theorem dX12_doubles_124 : decode cX12_doubles 124 = .ok (.iload 12, 2) := by decide +kernel
theorem dX12_doubles_126 : decode cX12_doubles 126 = .ok (.aload_n 0, 1) := by decide +kernel
theorem dX12_doubles_127 : decode cX12_doubles 127 = .ok (.getfield 184, 3) := by decide +kernel
theorem dX12_doubles_130 : decode cX12_doubles 130 = .ok (.if_icmp .ge 129, 3) := by decide +kernel
theorem dX12_doubles_133 : decode cX12_doubles 133 = .ok (.aload_n 0, 1) := by decide +kernel
theorem dX12_doubles_134 : decode cX12_doubles 134 = .ok (.iload_n 1, 1) := by decide +kernel
theorem dX12_doubles_135 : decode cX12_doubles 135 = .ok (.iload 9, 2) := by decide +kernel
theorem dX12_doubles_137 : decode cX12_doubles 137 = .ok (.iload 11, 2) := by decide +kernel
theorem dX12_doubles_139 : decode cX12_doubles 139 = .ok (.iload 12, 2) := by decide +kernel
theorem dX12_doubles_141 : decode cX12_doubles 141 = .ok (.invokevirtual 444, 3) := by decide +kernel
theorem dX12_doubles_144 : decode cX12_doubles 144 = .ok (.istore 13, 2) := by decide +kernel
theorem dX12_doubles_146 : decode cX12_doubles 146 = .ok (.aload_n 0, 1) := by decide +kernel
theorem dX12_doubles_147 : decode cX12_doubles 147 = .ok (.iload_n 2, 1) := by decide +kernel
theorem dX12_doubles_148 : decode cX12_doubles 148 = .ok (.iload 9, 2) := by decide +kernel
theorem dX12_doubles_150 : decode cX12_doubles 150 = .ok (.iload 11, 2) := by decide +kernel
theorem dX12_doubles_152 : decode cX12_doubles 152 = .ok (.iload 12, 2) := by decide +kernel
theorem dX12_doubles_154 : decode cX12_doubles 154 = .ok (.invokevirtual 444, 3) := by decide +kernel
theorem dX12_doubles_157 : decode cX12_doubles 157 = .ok (.istore 14, 2) := by decide +kernel
theorem dX12_doubles_159 : decode cX12_doubles 159 = .ok (.iload 5, 2) := by decide +kernel
theorem dX12_doubles_161 : decode cX12_doubles 161 = .ok (.iload 13, 2) := by decide +kernel
theorem dX12_doubles_163 : decode cX12_doubles 163 = .ok (.ifCond .lt 12, 3) := by decide +kernel
theorem dX12_doubles_166 : decode cX12_doubles 166 = .ok (.iload 14, 2) := by decide +kernel
theorem dX12_doubles_168 : decode cX12_doubles 168 = .ok (.ifCond .lt 7, 3) := by decide +kernel
theorem dX12_doubles_171 : decode cX12_doubles 171 = .ok (.iconst 1, 1) := by decide +kernel
theorem dX12_doubles_172 : decode cX12_doubles 172 = .ok (.goto 4, 3) := by decide +kernel
theorem dX12_doubles_175 : decode cX12_doubles 175 = .ok (.iconst 0, 1) := by decide +kernel
theorem dX12_doubles_176 : decode cX12_doubles 176 = .ok (.iadd, 1) := by decide +kernel
theorem dX12_doubles_177 : decode cX12_doubles 177 = .ok (.istore 5, 2) := by decide +kernel
theorem dX12_doubles_179 : decode cX12_doubles 179 = .ok (.iload 6, 2) := by decide +kernel
theorem dX12_doubles_181 : decode cX12_doubles 181 = .ok (.iload 13, 2) := by decide +kernel
theorem dX12_doubles_183 : decode cX12_doubles 183 = .ok (.ifCond .lt 12, 3) := by decide +kernel
theorem dX12_doubles_186 : decode cX12_doubles 186 = .ok (.iload 14, 2) := by decide +kernel
theorem dX12_doubles_188 : decode cX12_doubles 188 = .ok (.ifCond .ge 7, 3) := by decide +kernel
theorem dX12_doubles_191 : decode cX12_doubles 191 = .ok (.iconst 1, 1) := by decide +kernel
theorem dX12_doubles_192 : decode cX12_doubles 192 = .ok (.goto 4, 3) := by decide +kernel
theorem dX12_doubles_195 : decode cX12_doubles 195 = .ok (.iconst 0, 1) := by decide +kernel
theorem dX12_doubles_196 : decode cX12_doubles 196 = .ok (.iadd, 1) := by decide +kernel
theorem dX12_doubles_197 : decode cX12_doubles 197 = .ok (.istore 6, 2) := by decide +kernel
theorem dX12_doubles_199 : decode cX12_doubles 199 = .ok (.iload 7, 2) := by decide +kernel
theorem dX12_doubles_201 : decode cX12_doubles 201 = .ok (.iload 13, 2) := by decide +kernel
theorem dX12_doubles_203 : decode cX12_doubles 203 = .ok (.ifCond .ge 12, 3) := by decide +kernel
theorem dX12_doubles_206 : decode cX12_doubles 206 = .ok (.iload 14, 2) := by decide +kernel
theorem dX12_doubles_208 : decode cX12_doubles 208 = .ok (.ifCond .lt 7, 3) := by decide +kernel
theorem dX12_doubles_211 : decode cX12_doubles 211 = .ok (.iconst 1, 1) := by decide +kernel
theorem dX12_doubles_212 : decode cX12_doubles 212 = .ok (.goto 4, 3) := by decide +kernel
theorem dX12_doubles_215 : decode cX12_doubles 215 = .ok (.iconst 0, 1) := by decide +kernel
theorem dX12_doubles_216 : decode cX12_doubles 216 = .ok (.iadd, 1) := by decide +kernel
theorem dX12_doubles_217 : decode cX12_doubles 217 = .ok (.istore 7, 2) := by decide +kernel
theorem dX12_doubles_219 : decode cX12_doubles 219 = .ok (.iload 8, 2) := by decide +kernel
theorem dX12_doubles_221 : decode cX12_doubles 221 = .ok (.iload 13, 2) := by decide +kernel
theorem dX12_doubles_223 : decode cX12_doubles 223 = .ok (.ifCond .lt 26, 3) := by decide +kernel
theorem dX12_doubles_226 : decode cX12_doubles 226 = .ok (.iload 14, 2) := by decide +kernel
theorem dX12_doubles_228 : decode cX12_doubles 228 = .ok (.ifCond .lt 21, 3) := by decide +kernel
theorem dX12_doubles_231 : decode cX12_doubles 231 = .ok (.aload_n 0, 1) := by decide +kernel
theorem dX12_doubles_232 : decode cX12_doubles 232 = .ok (.getfield 64, 3) := by decide +kernel
theorem dX12_doubles_235 : decode cX12_doubles 235 = .ok (.iload 13, 2) := by decide +kernel
theorem dX12_doubles_237 : decode cX12_doubles 237 = .ok (.iaload, 1) := by decide +kernel
theorem dX12_doubles_238 : decode cX12_doubles 238 = .ok (.aload_n 0, 1) := by decide +kernel
theorem dX12_doubles_239 : decode cX12_doubles 239 = .ok (.getfield 64, 3) := by decide +kernel
theorem dX12_doubles_242 : decode cX12_doubles 242 = .ok (.iload 14, 2) := by decide +kernel
theorem dX12_doubles_244 : decode cX12_doubles 244 = .ok (.iaload, 1) := by decide +kernel
theorem dX12_doubles_245 : decode cX12_doubles 245 = .ok (.isub, 1) := by decide +kernel
theorem dX12_doubles_246 : decode cX12_doubles 246 = .ok (.goto 4, 3) := by decide +kernel
theorem dX12_doubles_249 : decode cX12_doubles 249 = .ok (.iconst 0, 1) := by decide +kernel
theorem dX12_doubles_250 : decode cX12_doubles 250 = .ok (.iadd, 1) := by decide +kernel
theorem dX12_doubles_251 : decode cX12_doubles 251 = .ok (.istore 8, 2) := by decide +kernel
theorem dX12_doubles_253 : decode cX12_doubles 253 = .ok (.iinc 12 1, 3) := by decide +kernel
theorem dX12_doubles_256 : decode cX12_doubles 256 = .ok (.goto (-132), 3) := by decide +kernel
theorem dX12_doubles_259 : decode cX12_doubles 259 = .ok (.iinc 11 1, 3) := by decide +kernel
theorem dX12_doubles_262 : decode cX12_doubles 262 = .ok (.goto (-153), 3) := by decide +kernel
theorem dX12_doubles_265 : decode cX12_doubles 265 = .ok (.iinc 9 1, 3) := by decide +kernel
theorem dX12_doubles_268 : decode cX12_doubles 268 = .ok (.goto (-213), 3) := by decide +kernel
theorem dX12_doubles_271 : decode cX12_doubles 271 = .ok (.iload 5, 2) := by decide +kernel
theorem dX12_doubles_273 : decode cX12_doubles 273 = .ok (.iload 7, 2) := by decide +kernel
theorem dX12_doubles_275 : decode cX12_doubles 275 = .ok (.iadd, 1) := by decide +kernel
theorem dX12_doubles_276 : decode cX12_doubles 276 = .ok (.ifCond .ne 7, 3) := by decide +kernel
theorem dX12_doubles_279 : decode cX12_doubles 279 = .ok (.iconst 0, 1) := by decide +kernel
theorem dX12_doubles_280 : decode cX12_doubles 280 = .ok (.goto 15, 3) := by decide +kernel
theorem dX12_doubles_283 : decode cX12_doubles 283 = .ok (.sipush 10000, 3) := by decide +kernel
theorem dX12_doubles_286 : decode cX12_doubles 286 = .ok (.iload 7, 2) := by decide +kernel
theorem dX12_doubles_288 : decode cX12_doubles 288 = .ok (.imul, 1) := by decide +kernel
theorem dX12_doubles_289 : decode cX12_doubles 289 = .ok (.iload 5, 2) := by decide +kernel
theorem dX12_doubles_291 : decode cX12_doubles 291 = .ok (.iload 7, 2) := by decide +kernel
theorem dX12_doubles_293 : decode cX12_doubles 293 = .ok (.iadd, 1) := by decide +kernel
theorem dX12_doubles_294 : decode cX12_doubles 294 = .ok (.idiv, 1) := by decide +kernel
theorem dX12_doubles_295 : decode cX12_doubles 295 = .ok (.istore 9, 2) := by decide +kernel
theorem dX12_doubles_297 : decode cX12_doubles 297 = .ok (.iload_n 3, 1) := by decide +kernel
theorem dX12_doubles_298 : decode cX12_doubles 298 = .ok (.ifCond .ne 8, 3) := by decide +kernel
theorem dX12_doubles_301 : decode cX12_doubles 301 = .ok (.iload 4, 2) := by decide +kernel
theorem dX12_doubles_303 : decode cX12_doubles 303 = .ok (.goto 45, 3) := by decide +kernel
theorem dX12_doubles_306 : decode cX12_doubles 306 = .ok (.iload_n 3, 1) := by decide +kernel
theorem dX12_doubles_307 : decode cX12_doubles 307 = .ok (.iconst 1, 1) := by decide +kernel
theorem dX12_doubles_308 : decode cX12_doubles 308 = .ok (.if_icmp .ne 8, 3) := by decide +kernel
theorem dX12_doubles_311 : decode cX12_doubles 311 = .ok (.iload 5, 2) := by decide +kernel
theorem dX12_doubles_313 : decode cX12_doubles 313 = .ok (.goto 35, 3) := by decide +kernel
theorem dX12_doubles_316 : decode cX12_doubles 316 = .ok (.iload_n 3, 1) := by decide +kernel
theorem dX12_doubles_317 : decode cX12_doubles 317 = .ok (.iconst 2, 1) := by decide +kernel
theorem dX12_doubles_318 : decode cX12_doubles 318 = .ok (.if_icmp .ne 8, 3) := by decide +kernel
theorem dX12_doubles_321 : decode cX12_doubles 321 = .ok (.iload 6, 2) := by decide +kernel
theorem dX12_doubles_323 : decode cX12_doubles 323 = .ok (.goto 25, 3) := by decide +kernel
theorem dX12_doubles_326 : decode cX12_doubles 326 = .ok (.iload_n 3, 1) := by decide +kernel
theorem dX12_doubles_327 : decode cX12_doubles 327 = .ok (.iconst 3, 1) := by decide +kernel
theorem dX12_doubles_328 : decode cX12_doubles 328 = .ok (.if_icmp .ne 8, 3) := by decide +kernel
theorem dX12_doubles_331 : decode cX12_doubles 331 = .ok (.iload 7, 2) := by decide +kernel
theorem dX12_doubles_333 : decode cX12_doubles 333 = .ok (.goto 15, 3) := by decide +kernel
theorem dX12_doubles_336 : decode cX12_doubles 336 = .ok (.iload_n 3, 1) := by decide +kernel
theorem dX12_doubles_337 : decode cX12_doubles 337 = .ok (.iconst 4, 1) := by decide +kernel
theorem dX12_doubles_338 : decode cX12_doubles 338 = .ok (.if_icmp .ne 8, 3) := by decide +kernel
theorem dX12_doubles_341 : decode cX12_doubles 341 = .ok (.iload 9, 2) := by decide +kernel
theorem dX12_doubles_343 : decode cX12_doubles 343 = .ok (.goto 5, 3) := by decide +kernel
theorem dX12_doubles_346 : decode cX12_doubles 346 = .ok (.iload 8, 2) := by decide +kernel
theorem dX12_doubles_348 : decode cX12_doubles 348 = .ok (.ireturn, 1) := by decide +kernel
theorem dX12_lots_0 : decode cX12_lots 0 = .ok (.aload_n 0, 1) := by decide +kernel
theorem dX12_lots_1 : decode cX12_lots 1 = .ok (.iload_n 1, 1) := by decide +kernel
theorem dX12_lots_2 : decode cX12_lots 2 = .ok (.putfield 159, 3) := by decide +kernel
theorem dX12_lots_5 : decode cX12_lots 5 = .ok (.iconst 1, 1) := by decide +kernel
theorem dX12_lots_6 : decode cX12_lots 6 = .ok (.ireturn, 1) := by decide +kernel
theorem dX12_isSaidBy_0 : decode cX12_isSaidBy 0 = .ok (.aload_n 0, 1) := by decide +kernel
theorem dX12_isSaidBy_1 : decode cX12_isSaidBy 1 = .ok (.iload_n 1, 1) := by decide +kernel
theorem dX12_isSaidBy_2 : decode cX12_isSaidBy 2 = .ok (.invokevirtual 226, 3) := by decide +kernel
theorem dX12_isSaidBy_5 : decode cX12_isSaidBy 5 = .ok (.iconst 2, 1) := by decide +kernel
theorem dX12_isSaidBy_6 : decode cX12_isSaidBy 6 = .ok (.if_icmp .ne 16, 3) := by decide +kernel
theorem dX12_isSaidBy_9 : decode cX12_isSaidBy 9 = .ok (.aload_n 0, 1) := by decide +kernel
theorem dX12_isSaidBy_10 : decode cX12_isSaidBy 10 = .ok (.iload_n 1, 1) := by decide +kernel
theorem dX12_isSaidBy_11 : decode cX12_isSaidBy 11 = .ok (.invokevirtual 242, 3) := by decide +kernel
theorem dX12_isSaidBy_14 : decode cX12_isSaidBy 14 = .ok (.iload_n 2, 1) := by decide +kernel
theorem dX12_isSaidBy_15 : decode cX12_isSaidBy 15 = .ok (.if_icmp .ne 7, 3) := by decide +kernel
theorem dX12_isSaidBy_18 : decode cX12_isSaidBy 18 = .ok (.iconst 1, 1) := by decide +kernel
theorem dX12_isSaidBy_19 : decode cX12_isSaidBy 19 = .ok (.goto 4, 3) := by decide +kernel
theorem dX12_isSaidBy_22 : decode cX12_isSaidBy 22 = .ok (.iconst 0, 1) := by decide +kernel
theorem dX12_isSaidBy_23 : decode cX12_isSaidBy 23 = .ok (.ireturn, 1) := by decide +kernel
theorem dX12_draw_0 : decode cX12_draw 0 = .ok (.iload_n 1, 1) := by decide +kernel
theorem dX12_draw_1 : decode cX12_draw 1 = .ok (.invokestatic 239, 3) := by decide +kernel
theorem dX12_draw_4 : decode cX12_draw 4 = .ok (.ifCond .ne 5, 3) := by decide +kernel
theorem dX12_draw_7 : decode cX12_draw 7 = .ok (.iconst (-1), 1) := by decide +kernel
theorem dX12_draw_8 : decode cX12_draw 8 = .ok (.ireturn, 1) := by decide +kernel
theorem dX12_draw_9 : decode cX12_draw 9 = .ok (.iconst 0, 1) := by decide +kernel
theorem dX12_draw_10 : decode cX12_draw 10 = .ok (.istore_n 2, 1) := by decide +kernel
theorem dX12_draw_11 : decode cX12_draw 11 = .ok (.iconst 0, 1) := by decide +kernel
theorem dX12_draw_12 : decode cX12_draw 12 = .ok (.istore_n 3, 1) := by decide +kernel
theorem dX12_draw_13 : decode cX12_draw 13 = .ok (.iload_n 3, 1) := by decide +kernel
theorem dX12_draw_14 : decode cX12_draw 14 = .ok (.aload_n 0, 1) := by decide +kernel
theorem dX12_draw_15 : decode cX12_draw 15 = .ok (.getfield 187, 3) := by decide +kernel
theorem dX12_draw_18 : decode cX12_draw 18 = .ok (.if_icmp .ge 26, 3) := by decide +kernel
theorem dX12_draw_21 : decode cX12_draw 21 = .ok (.iload_n 2, 1) := by decide +kernel
theorem dX12_draw_22 : decode cX12_draw 22 = .ok (.aload_n 0, 1) := by decide +kernel
theorem dX12_draw_23 : decode cX12_draw 23 = .ok (.iload_n 3, 1) := by decide +kernel
theorem dX12_draw_24 : decode cX12_draw 24 = .ok (.iload_n 1, 1) := by decide +kernel
theorem dX12_draw_25 : decode cX12_draw 25 = .ok (.invokevirtual 448, 3) := by decide +kernel
theorem dX12_draw_28 : decode cX12_draw 28 = .ok (.ifCond .eq 7, 3) := by decide +kernel
theorem dX12_draw_31 : decode cX12_draw 31 = .ok (.iconst 1, 1) := by decide +kernel
theorem dX12_draw_32 : decode cX12_draw 32 = .ok (.goto 4, 3) := by decide +kernel
theorem dX12_draw_35 : decode cX12_draw 35 = .ok (.iconst 0, 1) := by decide +kernel
theorem dX12_draw_36 : decode cX12_draw 36 = .ok (.iadd, 1) := by decide +kernel
theorem dX12_draw_37 : decode cX12_draw 37 = .ok (.istore_n 2, 1) := by decide +kernel
theorem dX12_draw_38 : decode cX12_draw 38 = .ok (.iinc 3 1, 3) := by decide +kernel
theorem dX12_draw_41 : decode cX12_draw 41 = .ok (.goto (-28), 3) := by decide +kernel
theorem dX12_draw_44 : decode cX12_draw 44 = .ok (.iload_n 2, 1) := by decide +kernel
theorem dX12_draw_45 : decode cX12_draw 45 = .ok (.ifCond .ne 6, 3) := by decide +kernel
theorem dX12_draw_48 : decode cX12_draw 48 = .ok (.bipush (-4), 2) := by decide +kernel
theorem dX12_draw_50 : decode cX12_draw 50 = .ok (.ireturn, 1) := by decide +kernel
theorem dX12_draw_51 : decode cX12_draw 51 = .ok (.aload_n 0, 1) := by decide +kernel
theorem dX12_draw_52 : decode cX12_draw 52 = .ok (.aload_n 0, 1) := by decide +kernel
theorem dX12_draw_53 : decode cX12_draw 53 = .ok (.getfield 159, 3) := by decide +kernel
theorem dX12_draw_56 : decode cX12_draw 56 = .ok (.ldc_w 451, 3) := by decide +kernel
theorem dX12_draw_59 : decode cX12_draw 59 = .ok (.imul, 1) := by decide +kernel
theorem dX12_draw_60 : decode cX12_draw 60 = .ok (.sipush 12345, 3) := by decide +kernel
theorem dX12_draw_63 : decode cX12_draw 63 = .ok (.iadd, 1) := by decide +kernel
theorem dX12_draw_64 : decode cX12_draw 64 = .ok (.putfield 159, 3) := by decide +kernel
theorem dX12_draw_67 : decode cX12_draw 67 = .ok (.aload_n 0, 1) := by decide +kernel
theorem dX12_draw_68 : decode cX12_draw 68 = .ok (.getfield 159, 3) := by decide +kernel
theorem dX12_draw_71 : decode cX12_draw 71 = .ok (.bipush 8, 2) := by decide +kernel
theorem dX12_draw_73 : decode cX12_draw 73 = .ok (.iushr, 1) := by decide +kernel
theorem dX12_draw_74 : decode cX12_draw 74 = .ok (.iload_n 2, 1) := by decide +kernel
theorem dX12_draw_75 : decode cX12_draw 75 = .ok (.irem, 1) := by decide +kernel
theorem dX12_draw_76 : decode cX12_draw 76 = .ok (.istore_n 3, 1) := by decide +kernel
theorem dX12_draw_77 : decode cX12_draw 77 = .ok (.iconst 0, 1) := by decide +kernel
theorem dX12_draw_78 : decode cX12_draw 78 = .ok (.istore 4, 2) := by decide +kernel
theorem dX12_draw_80 : decode cX12_draw 80 = .ok (.aload_n 0, 1) := by decide +kernel
theorem dX12_draw_81 : decode cX12_draw 81 = .ok (.iload 4, 2) := by decide +kernel
theorem dX12_draw_83 : decode cX12_draw 83 = .ok (.iload_n 1, 1) := by decide +kernel
theorem dX12_draw_84 : decode cX12_draw 84 = .ok (.invokevirtual 448, 3) := by decide +kernel
theorem dX12_draw_87 : decode cX12_draw 87 = .ok (.ifCond .eq 7, 3) := by decide +kernel
theorem dX12_draw_90 : decode cX12_draw 90 = .ok (.iload_n 3, 1) := by decide +kernel
theorem dX12_draw_91 : decode cX12_draw 91 = .ok (.ifCond .le 27, 3) := by decide +kernel
theorem dX12_draw_94 : decode cX12_draw 94 = .ok (.iload_n 3, 1) := by decide +kernel
theorem dX12_draw_95 : decode cX12_draw 95 = .ok (.aload_n 0, 1) := by decide +kernel
theorem dX12_draw_96 : decode cX12_draw 96 = .ok (.iload 4, 2) := by decide +kernel
theorem dX12_draw_98 : decode cX12_draw 98 = .ok (.iload_n 1, 1) := by decide +kernel
theorem dX12_draw_99 : decode cX12_draw 99 = .ok (.invokevirtual 448, 3) := by decide +kernel
theorem dX12_draw_102 : decode cX12_draw 102 = .ok (.ifCond .eq 7, 3) := by decide +kernel
theorem dX12_draw_105 : decode cX12_draw 105 = .ok (.iconst 1, 1) := by decide +kernel
theorem dX12_draw_106 : decode cX12_draw 106 = .ok (.goto 4, 3) := by decide +kernel
theorem dX12_draw_109 : decode cX12_draw 109 = .ok (.iconst 0, 1) := by decide +kernel
theorem dX12_draw_110 : decode cX12_draw 110 = .ok (.isub, 1) := by decide +kernel
theorem dX12_draw_111 : decode cX12_draw 111 = .ok (.istore_n 3, 1) := by decide +kernel
theorem dX12_draw_112 : decode cX12_draw 112 = .ok (.iinc 4 1, 3) := by decide +kernel
theorem dX12_draw_115 : decode cX12_draw 115 = .ok (.goto (-35), 3) := by decide +kernel
theorem dX12_draw_118 : decode cX12_draw 118 = .ok (.iload 4, 2) := by decide +kernel
theorem dX12_draw_120 : decode cX12_draw 120 = .ok (.ireturn, 1) := by decide +kernel
theorem dX12_ofCrew_0 : decode cX12_ofCrew 0 = .ok (.iload_n 1, 1) := by decide +kernel
theorem dX12_ofCrew_1 : decode cX12_ofCrew 1 = .ok (.invokestatic 239, 3) := by decide +kernel
theorem dX12_ofCrew_4 : decode cX12_ofCrew 4 = .ok (.ifCond .eq 12, 3) := by decide +kernel
theorem dX12_ofCrew_7 : decode cX12_ofCrew 7 = .ok (.iload_n 2, 1) := by decide +kernel
theorem dX12_ofCrew_8 : decode cX12_ofCrew 8 = .ok (.iconst 0, 1) := by decide +kernel
theorem dX12_ofCrew_9 : decode cX12_ofCrew 9 = .ok (.iconst 3, 1) := by decide +kernel
theorem dX12_ofCrew_10 : decode cX12_ofCrew 10 = .ok (.invokestatic 177, 3) := by decide +kernel
theorem dX12_ofCrew_13 : decode cX12_ofCrew 13 = .ok (.ifCond .ne 5, 3) := by decide +kernel
theorem dX12_ofCrew_16 : decode cX12_ofCrew 16 = .ok (.iconst (-1), 1) := by decide +kernel
theorem dX12_ofCrew_17 : decode cX12_ofCrew 17 = .ok (.ireturn, 1) := by decide +kernel
theorem dX12_ofCrew_18 : decode cX12_ofCrew 18 = .ok (.iload_n 2, 1) := by decide +kernel
theorem dX12_ofCrew_19 : decode cX12_ofCrew 19 = .ok (.iconst 3, 1) := by decide +kernel
theorem dX12_ofCrew_20 : decode cX12_ofCrew 20 = .ok (.if_icmp .ge 37, 3) := by decide +kernel
theorem dX12_ofCrew_23 : decode cX12_ofCrew 23 = .ok (.iload_n 2, 1) := by decide +kernel
theorem dX12_ofCrew_24 : decode cX12_ofCrew 24 = .ok (.ifCond .ne 12, 3) := by decide +kernel
theorem dX12_ofCrew_27 : decode cX12_ofCrew 27 = .ok (.aload_n 0, 1) := by decide +kernel
theorem dX12_ofCrew_28 : decode cX12_ofCrew 28 = .ok (.getfield 116, 3) := by decide +kernel
theorem dX12_ofCrew_31 : decode cX12_ofCrew 31 = .ok (.iload_n 1, 1) := by decide +kernel
theorem dX12_ofCrew_32 : decode cX12_ofCrew 32 = .ok (.iaload, 1) := by decide +kernel
theorem dX12_ofCrew_33 : decode cX12_ofCrew 33 = .ok (.goto 23, 3) := by decide +kernel
theorem dX12_ofCrew_36 : decode cX12_ofCrew 36 = .ok (.iload_n 2, 1) := by decide +kernel
theorem dX12_ofCrew_37 : decode cX12_ofCrew 37 = .ok (.iconst 1, 1) := by decide +kernel
theorem dX12_ofCrew_38 : decode cX12_ofCrew 38 = .ok (.if_icmp .ne 12, 3) := by decide +kernel
theorem dX12_ofCrew_41 : decode cX12_ofCrew 41 = .ok (.aload_n 0, 1) := by decide +kernel
theorem dX12_ofCrew_42 : decode cX12_ofCrew 42 = .ok (.getfield 110, 3) := by decide +kernel
theorem dX12_ofCrew_45 : decode cX12_ofCrew 45 = .ok (.iload_n 1, 1) := by decide +kernel
theorem dX12_ofCrew_46 : decode cX12_ofCrew 46 = .ok (.iaload, 1) := by decide +kernel
theorem dX12_ofCrew_47 : decode cX12_ofCrew 47 = .ok (.goto 9, 3) := by decide +kernel
theorem dX12_ofCrew_50 : decode cX12_ofCrew 50 = .ok (.aload_n 0, 1) := by decide +kernel
theorem dX12_ofCrew_51 : decode cX12_ofCrew 51 = .ok (.getfield 113, 3) := by decide +kernel
theorem dX12_ofCrew_54 : decode cX12_ofCrew 54 = .ok (.iload_n 1, 1) := by decide +kernel
theorem dX12_ofCrew_55 : decode cX12_ofCrew 55 = .ok (.iaload, 1) := by decide +kernel
theorem dX12_ofCrew_56 : decode cX12_ofCrew 56 = .ok (.ireturn, 1) := by decide +kernel
theorem dX12_ofCrew_57 : decode cX12_ofCrew 57 = .ok (.iconst 0, 1) := by decide +kernel
theorem dX12_ofCrew_58 : decode cX12_ofCrew 58 = .ok (.istore_n 3, 1) := by decide +kernel
theorem dX12_ofCrew_59 : decode cX12_ofCrew 59 = .ok (.iconst 0, 1) := by decide +kernel
theorem dX12_ofCrew_60 : decode cX12_ofCrew 60 = .ok (.istore 4, 2) := by decide +kernel
theorem dX12_ofCrew_62 : decode cX12_ofCrew 62 = .ok (.iload 4, 2) := by decide +kernel
theorem dX12_ofCrew_64 : decode cX12_ofCrew 64 = .ok (.aload_n 0, 1) := by decide +kernel
theorem dX12_ofCrew_65 : decode cX12_ofCrew 65 = .ok (.getfield 187, 3) := by decide +kernel
theorem dX12_ofCrew_68 : decode cX12_ofCrew 68 = .ok (.if_icmp .ge 34, 3) := by decide +kernel
theorem dX12_ofCrew_71 : decode cX12_ofCrew 71 = .ok (.iload_n 3, 1) := by decide +kernel
theorem dX12_ofCrew_72 : decode cX12_ofCrew 72 = .ok (.aload_n 0, 1) := by decide +kernel
theorem dX12_ofCrew_73 : decode cX12_ofCrew 73 = .ok (.iload 4, 2) := by decide +kernel
theorem dX12_ofCrew_75 : decode cX12_ofCrew 75 = .ok (.invokevirtual 264, 3) := by decide +kernel
theorem dX12_ofCrew_78 : decode cX12_ofCrew 78 = .ok (.ifCond .lt 15, 3) := by decide +kernel
theorem dX12_ofCrew_81 : decode cX12_ofCrew 81 = .ok (.aload_n 0, 1) := by decide +kernel
theorem dX12_ofCrew_82 : decode cX12_ofCrew 82 = .ok (.getfield 261, 3) := by decide +kernel
theorem dX12_ofCrew_85 : decode cX12_ofCrew 85 = .ok (.iload_n 1, 1) := by decide +kernel
theorem dX12_ofCrew_86 : decode cX12_ofCrew 86 = .ok (.if_icmp .ne 7, 3) := by decide +kernel
theorem dX12_ofCrew_89 : decode cX12_ofCrew 89 = .ok (.iconst 1, 1) := by decide +kernel
theorem dX12_ofCrew_90 : decode cX12_ofCrew 90 = .ok (.goto 4, 3) := by decide +kernel
theorem dX12_ofCrew_93 : decode cX12_ofCrew 93 = .ok (.iconst 0, 1) := by decide +kernel
theorem dX12_ofCrew_94 : decode cX12_ofCrew 94 = .ok (.iadd, 1) := by decide +kernel
theorem dX12_ofCrew_95 : decode cX12_ofCrew 95 = .ok (.istore_n 3, 1) := by decide +kernel
theorem dX12_ofCrew_96 : decode cX12_ofCrew 96 = .ok (.iinc 4 1, 3) := by decide +kernel
theorem dX12_ofCrew_99 : decode cX12_ofCrew 99 = .ok (.goto (-37), 3) := by decide +kernel
theorem dX12_ofCrew_102 : decode cX12_ofCrew 102 = .ok (.iload_n 3, 1) := by decide +kernel
theorem dX12_ofCrew_103 : decode cX12_ofCrew 103 = .ok (.ireturn, 1) := by decide +kernel
theorem dX12_ways_0 : decode cX12_ways 0 = .ok (.lconst 0, 1) := by decide +kernel
theorem dX12_ways_1 : decode cX12_ways 1 = .ok (.lstore 5, 2) := by decide +kernel
theorem dX12_ways_3 : decode cX12_ways 3 = .ok (.iload 4, 2) := by decide +kernel
theorem dX12_ways_5 : decode cX12_ways 5 = .ok (.ifCond .eq 7, 3) := by decide +kernel
theorem dX12_ways_8 : decode cX12_ways 8 = .ok (.iload_n 3, 1) := by decide +kernel
theorem dX12_ways_9 : decode cX12_ways 9 = .ok (.goto 4, 3) := by decide +kernel
theorem dX12_ways_12 : decode cX12_ways 12 = .ok (.iconst 0, 1) := by decide +kernel
theorem dX12_ways_13 : decode cX12_ways 13 = .ok (.istore 7, 2) := by decide +kernel
theorem dX12_ways_15 : decode cX12_ways 15 = .ok (.iload 7, 2) := by decide +kernel
theorem dX12_ways_17 : decode cX12_ways 17 = .ok (.iload 4, 2) := by decide +kernel
theorem dX12_ways_19 : decode cX12_ways 19 = .ok (.ifCond .eq 7, 3) := by decide +kernel
theorem dX12_ways_22 : decode cX12_ways 22 = .ok (.iload_n 2, 1) := by decide +kernel
theorem dX12_ways_23 : decode cX12_ways 23 = .ok (.goto 4, 3) := by decide +kernel
theorem dX12_ways_26 : decode cX12_ways 26 = .ok (.iload_n 3, 1) := by decide +kernel
theorem dX12_ways_27 : decode cX12_ways 27 = .ok (.if_icmp .gt 31, 3) := by decide +kernel
theorem dX12_ways_30 : decode cX12_ways 30 = .ok (.lload 5, 2) := by decide +kernel
theorem dX12_ways_32 : decode cX12_ways 32 = .ok (.iload_n 1, 1) := by decide +kernel
theorem dX12_ways_33 : decode cX12_ways 33 = .ok (.iload 7, 2) := by decide +kernel
theorem dX12_ways_35 : decode cX12_ways 35 = .ok (.invokestatic 287, 3) := by decide +kernel
theorem dX12_ways_38 : decode cX12_ways 38 = .ok (.iload_n 0, 1) := by decide +kernel
theorem dX12_ways_39 : decode cX12_ways 39 = .ok (.iload_n 1, 1) := by decide +kernel
theorem dX12_ways_40 : decode cX12_ways 40 = .ok (.isub, 1) := by decide +kernel
theorem dX12_ways_41 : decode cX12_ways 41 = .ok (.iload_n 2, 1) := by decide +kernel
theorem dX12_ways_42 : decode cX12_ways 42 = .ok (.iload 7, 2) := by decide +kernel
theorem dX12_ways_44 : decode cX12_ways 44 = .ok (.isub, 1) := by decide +kernel
theorem dX12_ways_45 : decode cX12_ways 45 = .ok (.invokestatic 287, 3) := by decide +kernel
theorem dX12_ways_48 : decode cX12_ways 48 = .ok (.lmul, 1) := by decide +kernel
theorem dX12_ways_49 : decode cX12_ways 49 = .ok (.ladd, 1) := by decide +kernel
theorem dX12_ways_50 : decode cX12_ways 50 = .ok (.lstore 5, 2) := by decide +kernel
theorem dX12_ways_52 : decode cX12_ways 52 = .ok (.iinc 7 1, 3) := by decide +kernel
theorem dX12_ways_55 : decode cX12_ways 55 = .ok (.goto (-40), 3) := by decide +kernel
theorem dX12_ways_58 : decode cX12_ways 58 = .ok (.lload 5, 2) := by decide +kernel
theorem dX12_ways_60 : decode cX12_ways 60 = .ok (.lreturn, 1) := by decide +kernel
theorem dX12_bounds_0 : decode cX12_bounds 0 = .ok (.iload_n 1, 1) := by decide +kernel
theorem dX12_bounds_1 : decode cX12_bounds 1 = .ok (.invokestatic 239, 3) := by decide +kernel
theorem dX12_bounds_4 : decode cX12_bounds 4 = .ok (.ifCond .eq 22, 3) := by decide +kernel
theorem dX12_bounds_7 : decode cX12_bounds 7 = .ok (.iload_n 2, 1) := by decide +kernel
theorem dX12_bounds_8 : decode cX12_bounds 8 = .ok (.iconst 1, 1) := by decide +kernel
theorem dX12_bounds_9 : decode cX12_bounds 9 = .ok (.bipush 49, 2) := by decide +kernel
theorem dX12_bounds_11 : decode cX12_bounds 11 = .ok (.invokestatic 177, 3) := by decide +kernel
theorem dX12_bounds_14 : decode cX12_bounds 14 = .ok (.ifCond .eq 12, 3) := by decide +kernel
theorem dX12_bounds_17 : decode cX12_bounds 17 = .ok (.iload_n 3, 1) := by decide +kernel
theorem dX12_bounds_18 : decode cX12_bounds 18 = .ok (.iconst 0, 1) := by decide +kernel
theorem dX12_bounds_19 : decode cX12_bounds 19 = .ok (.iconst 1, 1) := by decide +kernel
theorem dX12_bounds_20 : decode cX12_bounds 20 = .ok (.invokestatic 177, 3) := by decide +kernel
theorem dX12_bounds_23 : decode cX12_bounds 23 = .ok (.ifCond .ne 5, 3) := by decide +kernel
theorem dX12_bounds_26 : decode cX12_bounds 26 = .ok (.iconst (-1), 1) := by decide +kernel
theorem dX12_bounds_27 : decode cX12_bounds 27 = .ok (.ireturn, 1) := by decide +kernel
theorem dX12_bounds_28 : decode cX12_bounds 28 = .ok (.aload_n 0, 1) := by decide +kernel
theorem dX12_bounds_29 : decode cX12_bounds 29 = .ok (.getfield 116, 3) := by decide +kernel
theorem dX12_bounds_32 : decode cX12_bounds 32 = .ok (.iload_n 1, 1) := by decide +kernel
theorem dX12_bounds_33 : decode cX12_bounds 33 = .ok (.iaload, 1) := by decide +kernel
theorem dX12_bounds_34 : decode cX12_bounds 34 = .ok (.istore 4, 2) := by decide +kernel
theorem dX12_bounds_36 : decode cX12_bounds 36 = .ok (.aload_n 0, 1) := by decide +kernel
theorem dX12_bounds_37 : decode cX12_bounds 37 = .ok (.getfield 110, 3) := by decide +kernel
theorem dX12_bounds_40 : decode cX12_bounds 40 = .ok (.iload_n 1, 1) := by decide +kernel
theorem dX12_bounds_41 : decode cX12_bounds 41 = .ok (.iaload, 1) := by decide +kernel
theorem dX12_bounds_42 : decode cX12_bounds 42 = .ok (.istore 5, 2) := by decide +kernel
theorem dX12_bounds_44 : decode cX12_bounds 44 = .ok (.aload_n 0, 1) := by decide +kernel
theorem dX12_bounds_45 : decode cX12_bounds 45 = .ok (.getfield 113, 3) := by decide +kernel
theorem dX12_bounds_48 : decode cX12_bounds 48 = .ok (.iload_n 1, 1) := by decide +kernel
theorem dX12_bounds_49 : decode cX12_bounds 49 = .ok (.iaload, 1) := by decide +kernel
theorem dX12_bounds_50 : decode cX12_bounds 50 = .ok (.istore 6, 2) := by decide +kernel
theorem dX12_bounds_52 : decode cX12_bounds 52 = .ok (.iload 4, 2) := by decide +kernel
theorem dX12_bounds_54 : decode cX12_bounds 54 = .ok (.bipush 40, 2) := by decide +kernel
theorem dX12_bounds_56 : decode cX12_bounds 56 = .ok (.if_icmp .le 6, 3) := by decide +kernel
theorem dX12_bounds_59 : decode cX12_bounds 59 = .ok (.bipush (-5), 2) := by decide +kernel
theorem dX12_bounds_61 : decode cX12_bounds 61 = .ok (.ireturn, 1) := by decide +kernel
theorem dX12_bounds_62 : decode cX12_bounds 62 = .ok (.iload 5, 2) := by decide +kernel
theorem dX12_bounds_64 : decode cX12_bounds 64 = .ok (.ifCond .ne 14, 3) := by decide +kernel
theorem dX12_bounds_67 : decode cX12_bounds 67 = .ok (.iload_n 3, 1) := by decide +kernel
theorem dX12_bounds_68 : decode cX12_bounds 68 = .ok (.ifCond .ne 7, 3) := by decide +kernel
theorem dX12_bounds_71 : decode cX12_bounds 71 = .ok (.iconst 0, 1) := by decide +kernel
theorem dX12_bounds_72 : decode cX12_bounds 72 = .ok (.goto 5, 3) := by decide +kernel
theorem dX12_bounds_75 : decode cX12_bounds 75 = .ok (.iload 4, 2) := by decide +kernel
theorem dX12_bounds_77 : decode cX12_bounds 77 = .ok (.ireturn, 1) := by decide +kernel
theorem dX12_bounds_78 : decode cX12_bounds 78 = .ok (.iload 4, 2) := by decide +kernel
theorem dX12_bounds_80 : decode cX12_bounds 80 = .ok (.iload 5, 2) := by decide +kernel
theorem dX12_bounds_82 : decode cX12_bounds 82 = .ok (.invokestatic 287, 3) := by decide +kernel
theorem dX12_bounds_85 : decode cX12_bounds 85 = .ok (.lstore 7, 2) := by decide +kernel
theorem dX12_bounds_87 : decode cX12_bounds 87 = .ok (.iload_n 3, 1) := by decide +kernel
theorem dX12_bounds_88 : decode cX12_bounds 88 = .ok (.ifCond .ne 8, 3) := by decide +kernel
theorem dX12_bounds_91 : decode cX12_bounds 91 = .ok (.iload 6, 2) := by decide +kernel
theorem dX12_bounds_93 : decode cX12_bounds 93 = .ok (.goto 11, 3) := by decide +kernel
theorem dX12_bounds_96 : decode cX12_bounds 96 = .ok (.iload 4, 2) := by decide +kernel
theorem dX12_bounds_98 : decode cX12_bounds 98 = .ok (.iload 5, 2) := by decide +kernel
theorem dX12_bounds_100 : decode cX12_bounds 100 = .ok (.isub, 1) := by decide +kernel
theorem dX12_bounds_101 : decode cX12_bounds 101 = .ok (.iload 6, 2) := by decide +kernel
theorem dX12_bounds_103 : decode cX12_bounds 103 = .ok (.iadd, 1) := by decide +kernel
theorem dX12_bounds_104 : decode cX12_bounds 104 = .ok (.istore 9, 2) := by decide +kernel
theorem dX12_bounds_106 : decode cX12_bounds 106 = .ok (.iload 4, 2) := by decide +kernel
theorem dX12_bounds_108 : decode cX12_bounds 108 = .ok (.iload 9, 2) := by decide +kernel
theorem dX12_bounds_110 : decode cX12_bounds 110 = .ok (.iload 5, 2) := by decide +kernel
theorem dX12_bounds_112 : decode cX12_bounds 112 = .ok (.iload 6, 2) := by decide +kernel
theorem dX12_bounds_114 : decode cX12_bounds 114 = .ok (.iload_n 3, 1) := by decide +kernel
theorem dX12_bounds_115 : decode cX12_bounds 115 = .ok (.ifCond .ne 7, 3) := by decide +kernel
theorem dX12_bounds_118 : decode cX12_bounds 118 = .ok (.iconst 1, 1) := by decide +kernel
theorem dX12_bounds_119 : decode cX12_bounds 119 = .ok (.goto 4, 3) := by decide +kernel
theorem dX12_bounds_122 : decode cX12_bounds 122 = .ok (.iconst 0, 1) := by decide +kernel
theorem dX12_bounds_123 : decode cX12_bounds 123 = .ok (.invokestatic 452, 3) := by decide +kernel
theorem dX12_bounds_126 : decode cX12_bounds 126 = .ok (.ldc2_w 456, 3) := by decide +kernel
theorem dX12_bounds_129 : decode cX12_bounds 129 = .ok (.lmul, 1) := by decide +kernel
theorem dX12_bounds_130 : decode cX12_bounds 130 = .ok (.iload_n 2, 1) := by decide +kernel
theorem dX12_bounds_131 : decode cX12_bounds 131 = .ok (.i2l, 1) := by decide +kernel
theorem dX12_bounds_132 : decode cX12_bounds 132 = .ok (.lload 7, 2) := by decide +kernel
theorem dX12_bounds_134 : decode cX12_bounds 134 = .ok (.lmul, 1) := by decide +kernel
theorem dX12_bounds_135 : decode cX12_bounds 135 = .ok (.lcmp, 1) := by decide +kernel
theorem dX12_bounds_136 : decode cX12_bounds 136 = .ok (.ifCond .ge 20, 3) := by decide +kernel
theorem dX12_bounds_139 : decode cX12_bounds 139 = .ok (.iload 9, 2) := by decide +kernel
theorem dX12_bounds_141 : decode cX12_bounds 141 = .ok (.iload_n 3, 1) := by decide +kernel
theorem dX12_bounds_142 : decode cX12_bounds 142 = .ok (.ifCond .ne 7, 3) := by decide +kernel
theorem dX12_bounds_145 : decode cX12_bounds 145 = .ok (.iconst 1, 1) := by decide +kernel
theorem dX12_bounds_146 : decode cX12_bounds 146 = .ok (.goto 4, 3) := by decide +kernel
theorem dX12_bounds_149 : decode cX12_bounds 149 = .ok (.iconst (-1), 1) := by decide +kernel
theorem dX12_bounds_150 : decode cX12_bounds 150 = .ok (.iadd, 1) := by decide +kernel
theorem dX12_bounds_151 : decode cX12_bounds 151 = .ok (.istore 9, 2) := by decide +kernel
theorem dX12_bounds_153 : decode cX12_bounds 153 = .ok (.goto (-47), 3) := by decide +kernel
theorem dX12_bounds_156 : decode cX12_bounds 156 = .ok (.iload 9, 2) := by decide +kernel
theorem dX12_bounds_158 : decode cX12_bounds 158 = .ok (.ireturn, 1) := by decide +kernel
theorem dX12_weightOf_0 : decode cX12_weightOf 0 = .ok (.iconst 0, 1) := by decide +kernel
theorem dX12_weightOf_1 : decode cX12_weightOf 1 = .ok (.istore_n 3, 1) := by decide +kernel
theorem dX12_weightOf_2 : decode cX12_weightOf 2 = .ok (.iconst 0, 1) := by decide +kernel
theorem dX12_weightOf_3 : decode cX12_weightOf 3 = .ok (.istore 4, 2) := by decide +kernel
theorem dX12_weightOf_5 : decode cX12_weightOf 5 = .ok (.iload 4, 2) := by decide +kernel
theorem dX12_weightOf_7 : decode cX12_weightOf 7 = .ok (.aload_n 0, 1) := by decide +kernel
theorem dX12_weightOf_8 : decode cX12_weightOf 8 = .ok (.getfield 187, 3) := by decide +kernel
theorem dX12_weightOf_11 : decode cX12_weightOf 11 = .ok (.if_icmp .ge 49, 3) := by decide +kernel
theorem dX12_weightOf_14 : decode cX12_weightOf 14 = .ok (.iload_n 3, 1) := by decide +kernel
theorem dX12_weightOf_15 : decode cX12_weightOf 15 = .ok (.aload_n 0, 1) := by decide +kernel
theorem dX12_weightOf_16 : decode cX12_weightOf 16 = .ok (.getfield 9, 3) := by decide +kernel
theorem dX12_weightOf_19 : decode cX12_weightOf 19 = .ok (.aload_n 0, 1) := by decide +kernel
theorem dX12_weightOf_20 : decode cX12_weightOf 20 = .ok (.getfield 55, 3) := by decide +kernel
theorem dX12_weightOf_23 : decode cX12_weightOf 23 = .ok (.iload 4, 2) := by decide +kernel
theorem dX12_weightOf_25 : decode cX12_weightOf 25 = .ok (.iaload, 1) := by decide +kernel
theorem dX12_weightOf_26 : decode cX12_weightOf 26 = .ok (.iaload, 1) := by decide +kernel
theorem dX12_weightOf_27 : decode cX12_weightOf 27 = .ok (.iload_n 1, 1) := by decide +kernel
theorem dX12_weightOf_28 : decode cX12_weightOf 28 = .ok (.if_icmp .ne 23, 3) := by decide +kernel
theorem dX12_weightOf_31 : decode cX12_weightOf 31 = .ok (.aload_n 0, 1) := by decide +kernel
theorem dX12_weightOf_32 : decode cX12_weightOf 32 = .ok (.iload 4, 2) := by decide +kernel
theorem dX12_weightOf_34 : decode cX12_weightOf 34 = .ok (.iload_n 2, 1) := by decide +kernel
theorem dX12_weightOf_35 : decode cX12_weightOf 35 = .ok (.invokevirtual 206, 3) := by decide +kernel
theorem dX12_weightOf_38 : decode cX12_weightOf 38 = .ok (.ifCond .eq 13, 3) := by decide +kernel
theorem dX12_weightOf_41 : decode cX12_weightOf 41 = .ok (.aload_n 0, 1) := by decide +kernel
theorem dX12_weightOf_42 : decode cX12_weightOf 42 = .ok (.getfield 64, 3) := by decide +kernel
theorem dX12_weightOf_45 : decode cX12_weightOf 45 = .ok (.iload 4, 2) := by decide +kernel
theorem dX12_weightOf_47 : decode cX12_weightOf 47 = .ok (.iaload, 1) := by decide +kernel
theorem dX12_weightOf_48 : decode cX12_weightOf 48 = .ok (.goto 4, 3) := by decide +kernel
theorem dX12_weightOf_51 : decode cX12_weightOf 51 = .ok (.iconst 0, 1) := by decide +kernel
theorem dX12_weightOf_52 : decode cX12_weightOf 52 = .ok (.iadd, 1) := by decide +kernel
theorem dX12_weightOf_53 : decode cX12_weightOf 53 = .ok (.istore_n 3, 1) := by decide +kernel
theorem dX12_weightOf_54 : decode cX12_weightOf 54 = .ok (.iinc 4 1, 3) := by decide +kernel
theorem dX12_weightOf_57 : decode cX12_weightOf 57 = .ok (.goto (-52), 3) := by decide +kernel
theorem dX12_weightOf_60 : decode cX12_weightOf 60 = .ok (.iload_n 3, 1) := by decide +kernel
theorem dX12_weightOf_61 : decode cX12_weightOf 61 = .ok (.ireturn, 1) := by decide +kernel
theorem dX12_weight_0 : decode cX12_weight 0 = .ok (.iload_n 1, 1) := by decide +kernel
theorem dX12_weight_1 : decode cX12_weight 1 = .ok (.iconst 0, 1) := by decide +kernel
theorem dX12_weight_2 : decode cX12_weight 2 = .ok (.bipush 7, 2) := by decide +kernel
theorem dX12_weight_4 : decode cX12_weight 4 = .ok (.invokestatic 177, 3) := by decide +kernel
theorem dX12_weight_7 : decode cX12_weight 7 = .ok (.ifCond .eq 19, 3) := by decide +kernel
theorem dX12_weight_10 : decode cX12_weight 10 = .ok (.iload_n 2, 1) := by decide +kernel
theorem dX12_weight_11 : decode cX12_weight 11 = .ok (.invokestatic 249, 3) := by decide +kernel
theorem dX12_weight_14 : decode cX12_weight 14 = .ok (.ifCond .eq 12, 3) := by decide +kernel
theorem dX12_weight_17 : decode cX12_weight 17 = .ok (.aload_n 0, 1) := by decide +kernel
theorem dX12_weight_18 : decode cX12_weight 18 = .ok (.iload_n 1, 1) := by decide +kernel
theorem dX12_weight_19 : decode cX12_weight 19 = .ok (.iload_n 2, 1) := by decide +kernel
theorem dX12_weight_20 : decode cX12_weight 20 = .ok (.invokevirtual 458, 3) := by decide +kernel
theorem dX12_weight_23 : decode cX12_weight 23 = .ok (.goto 4, 3) := by decide +kernel
theorem dX12_weight_26 : decode cX12_weight 26 = .ok (.iconst (-1), 1) := by decide +kernel
theorem dX12_weight_27 : decode cX12_weight 27 = .ok (.ireturn, 1) := by decide +kernel
theorem dX12_worst_0 : decode cX12_worst 0 = .ok (.iload_n 1, 1) := by decide +kernel
theorem dX12_worst_1 : decode cX12_worst 1 = .ok (.iconst 0, 1) := by decide +kernel
theorem dX12_worst_2 : decode cX12_worst 2 = .ok (.bipush 7, 2) := by decide +kernel
theorem dX12_worst_4 : decode cX12_worst 4 = .ok (.invokestatic 177, 3) := by decide +kernel
theorem dX12_worst_7 : decode cX12_worst 7 = .ok (.ifCond .eq 10, 3) := by decide +kernel
theorem dX12_worst_10 : decode cX12_worst 10 = .ok (.iload_n 2, 1) := by decide +kernel
theorem dX12_worst_11 : decode cX12_worst 11 = .ok (.invokestatic 249, 3) := by decide +kernel
theorem dX12_worst_14 : decode cX12_worst 14 = .ok (.ifCond .ne 5, 3) := by decide +kernel
theorem dX12_worst_17 : decode cX12_worst 17 = .ok (.iconst (-1), 1) := by decide +kernel
theorem dX12_worst_18 : decode cX12_worst 18 = .ok (.ireturn, 1) := by decide +kernel
theorem dX12_worst_19 : decode cX12_worst 19 = .ok (.iconst 0, 1) := by decide +kernel
theorem dX12_worst_20 : decode cX12_worst 20 = .ok (.istore_n 3, 1) := by decide +kernel
theorem dX12_worst_21 : decode cX12_worst 21 = .ok (.iload_n 3, 1) := by decide +kernel
theorem dX12_worst_22 : decode cX12_worst 22 = .ok (.bipush 8, 2) := by decide +kernel
theorem dX12_worst_24 : decode cX12_worst 24 = .ok (.if_icmp .ge 78, 3) := by decide +kernel
theorem dX12_worst_27 : decode cX12_worst 27 = .ok (.iconst 0, 1) := by decide +kernel
theorem dX12_worst_28 : decode cX12_worst 28 = .ok (.istore 4, 2) := by decide +kernel
theorem dX12_worst_30 : decode cX12_worst 30 = .ok (.iconst 0, 1) := by decide +kernel
theorem dX12_worst_31 : decode cX12_worst 31 = .ok (.istore 5, 2) := by decide +kernel
theorem dX12_worst_33 : decode cX12_worst 33 = .ok (.iload 5, 2) := by decide +kernel
theorem dX12_worst_35 : decode cX12_worst 35 = .ok (.bipush 8, 2) := by decide +kernel
theorem dX12_worst_37 : decode cX12_worst 37 = .ok (.if_icmp .ge 51, 3) := by decide +kernel
theorem dX12_worst_40 : decode cX12_worst 40 = .ok (.aload_n 0, 1) := by decide +kernel
theorem dX12_worst_41 : decode cX12_worst 41 = .ok (.iload 5, 2) := by decide +kernel
theorem dX12_worst_43 : decode cX12_worst 43 = .ok (.iload_n 2, 1) := by decide +kernel
theorem dX12_worst_44 : decode cX12_worst 44 = .ok (.invokevirtual 458, 3) := by decide +kernel
theorem dX12_worst_47 : decode cX12_worst 47 = .ok (.aload_n 0, 1) := by decide +kernel
theorem dX12_worst_48 : decode cX12_worst 48 = .ok (.iload_n 3, 1) := by decide +kernel
theorem dX12_worst_49 : decode cX12_worst 49 = .ok (.iload_n 2, 1) := by decide +kernel
theorem dX12_worst_50 : decode cX12_worst 50 = .ok (.invokevirtual 458, 3) := by decide +kernel
theorem dX12_worst_53 : decode cX12_worst 53 = .ok (.isub, 1) := by decide +kernel
theorem dX12_worst_54 : decode cX12_worst 54 = .ok (.istore 6, 2) := by decide +kernel
theorem dX12_worst_56 : decode cX12_worst 56 = .ok (.iload 4, 2) := by decide +kernel
theorem dX12_worst_58 : decode cX12_worst 58 = .ok (.iload 6, 2) := by decide +kernel
theorem dX12_worst_60 : decode cX12_worst 60 = .ok (.ifCond .gt 14, 3) := by decide +kernel
theorem dX12_worst_63 : decode cX12_worst 63 = .ok (.iload 6, 2) := by decide +kernel
theorem dX12_worst_65 : decode cX12_worst 65 = .ok (.ifCond .ne 13, 3) := by decide +kernel
theorem dX12_worst_68 : decode cX12_worst 68 = .ok (.iload 5, 2) := by decide +kernel
theorem dX12_worst_70 : decode cX12_worst 70 = .ok (.iload_n 3, 1) := by decide +kernel
theorem dX12_worst_71 : decode cX12_worst 71 = .ok (.if_icmp .ge 7, 3) := by decide +kernel
theorem dX12_worst_74 : decode cX12_worst 74 = .ok (.iconst 1, 1) := by decide +kernel
theorem dX12_worst_75 : decode cX12_worst 75 = .ok (.goto 4, 3) := by decide +kernel
theorem dX12_worst_78 : decode cX12_worst 78 = .ok (.iconst 0, 1) := by decide +kernel
theorem dX12_worst_79 : decode cX12_worst 79 = .ok (.iadd, 1) := by decide +kernel
theorem dX12_worst_80 : decode cX12_worst 80 = .ok (.istore 4, 2) := by decide +kernel
theorem dX12_worst_82 : decode cX12_worst 82 = .ok (.iinc 5 1, 3) := by decide +kernel
theorem dX12_worst_85 : decode cX12_worst 85 = .ok (.goto (-52), 3) := by decide +kernel
theorem dX12_worst_88 : decode cX12_worst 88 = .ok (.iload 4, 2) := by decide +kernel
theorem dX12_worst_90 : decode cX12_worst 90 = .ok (.iload_n 1, 1) := by decide +kernel
theorem dX12_worst_91 : decode cX12_worst 91 = .ok (.if_icmp .ne 5, 3) := by decide +kernel
theorem dX12_worst_94 : decode cX12_worst 94 = .ok (.iload_n 3, 1) := by decide +kernel
theorem dX12_worst_95 : decode cX12_worst 95 = .ok (.ireturn, 1) := by decide +kernel
theorem dX12_worst_96 : decode cX12_worst 96 = .ok (.iinc 3 1, 3) := by decide +kernel
theorem dX12_worst_99 : decode cX12_worst 99 = .ok (.goto (-78), 3) := by decide +kernel
theorem dX12_worst_102 : decode cX12_worst 102 = .ok (.iconst (-1), 1) := by decide +kernel
theorem dX12_worst_103 : decode cX12_worst 103 = .ok (.ireturn, 1) := by decide +kernel
theorem dX12_count_0 : decode cX12_count 0 = .ok (.iconst 0, 1) := by decide +kernel
theorem dX12_count_1 : decode cX12_count 1 = .ok (.istore_n 2, 1) := by decide +kernel
theorem dX12_count_2 : decode cX12_count 2 = .ok (.iconst 0, 1) := by decide +kernel
theorem dX12_count_3 : decode cX12_count 3 = .ok (.istore_n 3, 1) := by decide +kernel
theorem dX12_count_4 : decode cX12_count 4 = .ok (.iconst 0, 1) := by decide +kernel
theorem dX12_count_5 : decode cX12_count 5 = .ok (.istore 4, 2) := by decide +kernel
theorem dX12_count_7 : decode cX12_count 7 = .ok (.iconst 0, 1) := by decide +kernel
theorem dX12_count_8 : decode cX12_count 8 = .ok (.istore 5, 2) := by decide +kernel
theorem dX12_count_10 : decode cX12_count 10 = .ok (.iconst 0, 1) := by decide +kernel
theorem dX12_count_11 : decode cX12_count 11 = .ok (.istore 6, 2) := by decide +kernel
theorem dX12_count_13 : decode cX12_count 13 = .ok (.iload 6, 2) := by decide +kernel
theorem dX12_count_15 : decode cX12_count 15 = .ok (.aload_n 0, 1) := by decide +kernel
theorem dX12_count_16 : decode cX12_count 16 = .ok (.getfield 181, 3) := by decide +kernel
theorem dX12_count_19 : decode cX12_count 19 = .ok (.if_icmp .ge 61, 3) := by decide +kernel
theorem dX12_count_22 : decode cX12_count 22 = .ok (.iload_n 2, 1) := by decide +kernel
theorem dX12_count_23 : decode cX12_count 23 = .ok (.aload_n 0, 1) := by decide +kernel
theorem dX12_count_24 : decode cX12_count 24 = .ok (.getfield 37, 3) := by decide +kernel
theorem dX12_count_27 : decode cX12_count 27 = .ok (.iload 6, 2) := by decide +kernel
theorem dX12_count_29 : decode cX12_count 29 = .ok (.iaload, 1) := by decide +kernel
theorem dX12_count_30 : decode cX12_count 30 = .ok (.iadd, 1) := by decide +kernel
theorem dX12_count_31 : decode cX12_count 31 = .ok (.istore_n 2, 1) := by decide +kernel
theorem dX12_count_32 : decode cX12_count 32 = .ok (.iload_n 3, 1) := by decide +kernel
theorem dX12_count_33 : decode cX12_count 33 = .ok (.aload_n 0, 1) := by decide +kernel
theorem dX12_count_34 : decode cX12_count 34 = .ok (.getfield 40, 3) := by decide +kernel
theorem dX12_count_37 : decode cX12_count 37 = .ok (.iload 6, 2) := by decide +kernel
theorem dX12_count_39 : decode cX12_count 39 = .ok (.iaload, 1) := by decide +kernel
theorem dX12_count_40 : decode cX12_count 40 = .ok (.iadd, 1) := by decide +kernel
theorem dX12_count_41 : decode cX12_count 41 = .ok (.istore_n 3, 1) := by decide +kernel
theorem dX12_count_42 : decode cX12_count 42 = .ok (.iload 4, 2) := by decide +kernel
theorem dX12_count_44 : decode cX12_count 44 = .ok (.aload_n 0, 1) := by decide +kernel
theorem dX12_count_45 : decode cX12_count 45 = .ok (.getfield 43, 3) := by decide +kernel
theorem dX12_count_48 : decode cX12_count 48 = .ok (.iload 6, 2) := by decide +kernel
theorem dX12_count_50 : decode cX12_count 50 = .ok (.iaload, 1) := by decide +kernel
theorem dX12_count_51 : decode cX12_count 51 = .ok (.iadd, 1) := by decide +kernel
theorem dX12_count_52 : decode cX12_count 52 = .ok (.istore 4, 2) := by decide +kernel
theorem dX12_count_54 : decode cX12_count 54 = .ok (.iload 5, 2) := by decide +kernel
theorem dX12_count_56 : decode cX12_count 56 = .ok (.aload_n 0, 1) := by decide +kernel
theorem dX12_count_57 : decode cX12_count 57 = .ok (.getfield 22, 3) := by decide +kernel
theorem dX12_count_60 : decode cX12_count 60 = .ok (.iload 6, 2) := by decide +kernel
theorem dX12_count_62 : decode cX12_count 62 = .ok (.iaload, 1) := by decide +kernel
theorem dX12_count_63 : decode cX12_count 63 = .ok (.ifCond .lt 7, 3) := by decide +kernel
theorem dX12_count_66 : decode cX12_count 66 = .ok (.iconst 1, 1) := by decide +kernel
theorem dX12_count_67 : decode cX12_count 67 = .ok (.goto 4, 3) := by decide +kernel
theorem dX12_count_70 : decode cX12_count 70 = .ok (.iconst 0, 1) := by decide +kernel
theorem dX12_count_71 : decode cX12_count 71 = .ok (.iadd, 1) := by decide +kernel
theorem dX12_count_72 : decode cX12_count 72 = .ok (.istore 5, 2) := by decide +kernel
theorem dX12_count_74 : decode cX12_count 74 = .ok (.iinc 6 1, 3) := by decide +kernel
theorem dX12_count_77 : decode cX12_count 77 = .ok (.goto (-64), 3) := by decide +kernel
theorem dX12_count_80 : decode cX12_count 80 = .ok (.iload_n 1, 1) := by decide +kernel
theorem dX12_count_81 : decode cX12_count 81 = .ok (.tableswitch 117 0 11 #[63, 68, 73, 78, 83, 90, 97, 102, 107, 109, 111, 114], 63) := by decide +kernel
theorem dX12_count_144 : decode cX12_count 144 = .ok (.aload_n 0, 1) := by decide +kernel
theorem dX12_count_145 : decode cX12_count 145 = .ok (.getfield 181, 3) := by decide +kernel
theorem dX12_count_148 : decode cX12_count 148 = .ok (.ireturn, 1) := by decide +kernel
theorem dX12_count_149 : decode cX12_count 149 = .ok (.aload_n 0, 1) := by decide +kernel
theorem dX12_count_150 : decode cX12_count 150 = .ok (.getfield 184, 3) := by decide +kernel
theorem dX12_count_153 : decode cX12_count 153 = .ok (.ireturn, 1) := by decide +kernel
theorem dX12_count_154 : decode cX12_count 154 = .ok (.aload_n 0, 1) := by decide +kernel
theorem dX12_count_155 : decode cX12_count 155 = .ok (.getfield 187, 3) := by decide +kernel
theorem dX12_count_158 : decode cX12_count 158 = .ok (.ireturn, 1) := by decide +kernel
theorem dX12_count_159 : decode cX12_count 159 = .ok (.aload_n 0, 1) := by decide +kernel
theorem dX12_count_160 : decode cX12_count 160 = .ok (.getfield 190, 3) := by decide +kernel
theorem dX12_count_163 : decode cX12_count 163 = .ok (.ireturn, 1) := by decide +kernel
theorem dX12_count_164 : decode cX12_count 164 = .ok (.aload_n 0, 1) := by decide +kernel
theorem dX12_count_165 : decode cX12_count 165 = .ok (.getfield 156, 3) := by decide +kernel
theorem dX12_count_168 : decode cX12_count 168 = .ok (.iconst 0, 1) := by decide +kernel
theorem dX12_count_169 : decode cX12_count 169 = .ok (.iaload, 1) := by decide +kernel
theorem dX12_count_170 : decode cX12_count 170 = .ok (.ireturn, 1) := by decide +kernel
theorem dX12_count_171 : decode cX12_count 171 = .ok (.aload_n 0, 1) := by decide +kernel
theorem dX12_count_172 : decode cX12_count 172 = .ok (.getfield 156, 3) := by decide +kernel
theorem dX12_count_175 : decode cX12_count 175 = .ok (.iconst 1, 1) := by decide +kernel
theorem dX12_count_176 : decode cX12_count 176 = .ok (.iaload, 1) := by decide +kernel
theorem dX12_count_177 : decode cX12_count 177 = .ok (.ireturn, 1) := by decide +kernel
theorem dX12_count_178 : decode cX12_count 178 = .ok (.aload_n 0, 1) := by decide +kernel
theorem dX12_count_179 : decode cX12_count 179 = .ok (.getfield 352, 3) := by decide +kernel
theorem dX12_count_182 : decode cX12_count 182 = .ok (.ireturn, 1) := by decide +kernel
theorem dX12_count_183 : decode cX12_count 183 = .ok (.aload_n 0, 1) := by decide +kernel
theorem dX12_count_184 : decode cX12_count 184 = .ok (.getfield 313, 3) := by decide +kernel
theorem dX12_count_187 : decode cX12_count 187 = .ok (.ireturn, 1) := by decide +kernel
theorem dX12_count_188 : decode cX12_count 188 = .ok (.iload_n 2, 1) := by decide +kernel
theorem dX12_count_189 : decode cX12_count 189 = .ok (.ireturn, 1) := by decide +kernel
theorem dX12_count_190 : decode cX12_count 190 = .ok (.iload_n 3, 1) := by decide +kernel
theorem dX12_count_191 : decode cX12_count 191 = .ok (.ireturn, 1) := by decide +kernel
theorem dX12_count_192 : decode cX12_count 192 = .ok (.iload 4, 2) := by decide +kernel
theorem dX12_count_194 : decode cX12_count 194 = .ok (.ireturn, 1) := by decide +kernel
theorem dX12_count_195 : decode cX12_count 195 = .ok (.iload 5, 2) := by decide +kernel
theorem dX12_count_197 : decode cX12_count 197 = .ok (.ireturn, 1) := by decide +kernel
theorem dX12_count_198 : decode cX12_count 198 = .ok (.iconst (-1), 1) := by decide +kernel
theorem dX12_count_199 : decode cX12_count 199 = .ok (.ireturn, 1) := by decide +kernel
theorem dJ9_max_7cf53_0 : decode cJ9_max_7cf53 0 = .ok (.iload_n 0, 1) := by decide +kernel
theorem dJ9_max_7cf53_1 : decode cJ9_max_7cf53 1 = .ok (.iload_n 1, 1) := by decide +kernel
theorem dJ9_max_7cf53_2 : decode cJ9_max_7cf53 2 = .ok (.if_icmp .lt 7, 3) := by decide +kernel
theorem dJ9_max_7cf53_5 : decode cJ9_max_7cf53 5 = .ok (.iload_n 0, 1) := by decide +kernel
theorem dJ9_max_7cf53_6 : decode cJ9_max_7cf53 6 = .ok (.goto 4, 3) := by decide +kernel
theorem dJ9_max_7cf53_9 : decode cJ9_max_7cf53 9 = .ok (.iload_n 1, 1) := by decide +kernel
theorem dJ9_max_7cf53_10 : decode cJ9_max_7cf53 10 = .ok (.ireturn, 1) := by decide +kernel
theorem dJ9_min_7cf53_0 : decode cJ9_min_7cf53 0 = .ok (.iload_n 0, 1) := by decide +kernel
theorem dJ9_min_7cf53_1 : decode cJ9_min_7cf53 1 = .ok (.iload_n 1, 1) := by decide +kernel
theorem dJ9_min_7cf53_2 : decode cJ9_min_7cf53 2 = .ok (.if_icmp .gt 7, 3) := by decide +kernel
theorem dJ9_min_7cf53_5 : decode cJ9_min_7cf53 5 = .ok (.iload_n 0, 1) := by decide +kernel
theorem dJ9_min_7cf53_6 : decode cJ9_min_7cf53 6 = .ok (.goto 4, 3) := by decide +kernel
theorem dJ9_min_7cf53_9 : decode cJ9_min_7cf53 9 = .ok (.iload_n 1, 1) := by decide +kernel
theorem dJ9_min_7cf53_10 : decode cJ9_min_7cf53 10 = .ok (.ireturn, 1) := by decide +kernel
theorem dJ9_min_f86c9_0 : decode cJ9_min_f86c9 0 = .ok (.lload_n 0, 1) := by decide +kernel
theorem dJ9_min_f86c9_1 : decode cJ9_min_f86c9 1 = .ok (.lload_n 2, 1) := by decide +kernel
theorem dJ9_min_f86c9_2 : decode cJ9_min_f86c9 2 = .ok (.lcmp, 1) := by decide +kernel
theorem dJ9_min_f86c9_3 : decode cJ9_min_f86c9 3 = .ok (.ifCond .gt 7, 3) := by decide +kernel
theorem dJ9_min_f86c9_6 : decode cJ9_min_f86c9 6 = .ok (.lload_n 0, 1) := by decide +kernel
theorem dJ9_min_f86c9_7 : decode cJ9_min_f86c9 7 = .ok (.goto 4, 3) := by decide +kernel
theorem dJ9_min_f86c9_10 : decode cJ9_min_f86c9 10 = .ok (.lload_n 2, 1) := by decide +kernel
theorem dJ9_min_f86c9_11 : decode cJ9_min_f86c9 11 = .ok (.lreturn, 1) := by decide +kernel
theorem dJ0_length_8abf5_0 : decode cJ0_length_8abf5 0 = .ok (.aload_n 0, 1) := by decide +kernel
theorem dJ0_length_8abf5_1 : decode cJ0_length_8abf5 1 = .ok (.getfield 9, 3) := by decide +kernel
theorem dJ0_length_8abf5_4 : decode cJ0_length_8abf5 4 = .ok (.arraylength, 1) := by decide +kernel
theorem dJ0_length_8abf5_5 : decode cJ0_length_8abf5 5 = .ok (.aload_n 0, 1) := by decide +kernel
theorem dJ0_length_8abf5_6 : decode cJ0_length_8abf5 6 = .ok (.invokevirtual 335, 3) := by decide +kernel
theorem dJ0_length_8abf5_9 : decode cJ0_length_8abf5 9 = .ok (.ishr, 1) := by decide +kernel
theorem dJ0_length_8abf5_10 : decode cJ0_length_8abf5 10 = .ok (.ireturn, 1) := by decide +kernel
theorem dJ0_indexOf_0f7a4_0 : decode cJ0_indexOf_0f7a4 0 = .ok (.aload_n 0, 1) := by decide +kernel
theorem dJ0_indexOf_0f7a4_1 : decode cJ0_indexOf_0f7a4 1 = .ok (.iload_n 1, 1) := by decide +kernel
theorem dJ0_indexOf_0f7a4_2 : decode cJ0_indexOf_0f7a4 2 = .ok (.iconst 0, 1) := by decide +kernel
theorem dJ0_indexOf_0f7a4_3 : decode cJ0_indexOf_0f7a4 3 = .ok (.invokevirtual 633, 3) := by decide +kernel
theorem dJ0_indexOf_0f7a4_6 : decode cJ0_indexOf_0f7a4 6 = .ok (.ireturn, 1) := by decide +kernel
theorem dJ0_indexOf_7cf53_0 : decode cJ0_indexOf_7cf53 0 = .ok (.aload_n 0, 1) := by decide +kernel
theorem dJ0_indexOf_7cf53_1 : decode cJ0_indexOf_7cf53 1 = .ok (.invokevirtual 492, 3) := by decide +kernel
theorem dJ0_indexOf_7cf53_4 : decode cJ0_indexOf_7cf53 4 = .ok (.ifCond .eq 19, 3) := by decide +kernel
theorem dJ0_indexOf_7cf53_7 : decode cJ0_indexOf_7cf53 7 = .ok (.aload_n 0, 1) := by decide +kernel
theorem dJ0_indexOf_7cf53_8 : decode cJ0_indexOf_7cf53 8 = .ok (.getfield 9, 3) := by decide +kernel
theorem dJ0_indexOf_7cf53_11 : decode cJ0_indexOf_7cf53 11 = .ok (.iload_n 1, 1) := by decide +kernel
theorem dJ0_indexOf_7cf53_12 : decode cJ0_indexOf_7cf53 12 = .ok (.iload_n 2, 1) := by decide +kernel
theorem dJ0_indexOf_7cf53_13 : decode cJ0_indexOf_7cf53 13 = .ok (.aload_n 0, 1) := by decide +kernel
theorem dJ0_indexOf_7cf53_14 : decode cJ0_indexOf_7cf53 14 = .ok (.invokevirtual 505, 3) := by decide +kernel
theorem dJ0_indexOf_7cf53_17 : decode cJ0_indexOf_7cf53 17 = .ok (.invokestatic 637, 3) := by decide +kernel
theorem dJ0_indexOf_7cf53_20 : decode cJ0_indexOf_7cf53 20 = .ok (.goto 16, 3) := by decide +kernel
theorem dJ0_indexOf_7cf53_23 : decode cJ0_indexOf_7cf53 23 = .ok (.aload_n 0, 1) := by decide +kernel
theorem dJ0_indexOf_7cf53_24 : decode cJ0_indexOf_7cf53 24 = .ok (.getfield 9, 3) := by decide +kernel
theorem dJ0_indexOf_7cf53_27 : decode cJ0_indexOf_7cf53 27 = .ok (.iload_n 1, 1) := by decide +kernel
theorem dJ0_indexOf_7cf53_28 : decode cJ0_indexOf_7cf53 28 = .ok (.iload_n 2, 1) := by decide +kernel
theorem dJ0_indexOf_7cf53_29 : decode cJ0_indexOf_7cf53 29 = .ok (.aload_n 0, 1) := by decide +kernel
theorem dJ0_indexOf_7cf53_30 : decode cJ0_indexOf_7cf53 30 = .ok (.invokevirtual 505, 3) := by decide +kernel
theorem dJ0_indexOf_7cf53_33 : decode cJ0_indexOf_7cf53 33 = .ok (.invokestatic 640, 3) := by decide +kernel
theorem dJ0_indexOf_7cf53_36 : decode cJ0_indexOf_7cf53 36 = .ok (.ireturn, 1) := by decide +kernel
theorem dJ0_coder_7d493_0 : decode cJ0_coder_7d493 0 = .ok (.getstatic 38, 3) := by decide +kernel
theorem dJ0_coder_7d493_3 : decode cJ0_coder_7d493 3 = .ok (.ifCond .eq 10, 3) := by decide +kernel
theorem dJ0_coder_7d493_6 : decode cJ0_coder_7d493 6 = .ok (.aload_n 0, 1) := by decide +kernel
theorem dJ0_coder_7d493_7 : decode cJ0_coder_7d493 7 = .ok (.getfield 15, 3) := by decide +kernel
theorem dJ0_coder_7d493_10 : decode cJ0_coder_7d493 10 = .ok (.goto 4, 3) := by decide +kernel
theorem dJ0_coder_7d493_13 : decode cJ0_coder_7d493 13 = .ok (.iconst 1, 1) := by decide +kernel
theorem dJ0_coder_7d493_14 : decode cJ0_coder_7d493 14 = .ok (.ireturn, 1) := by decide +kernel
theorem dJ0_isLatin1_aae02_0 : decode cJ0_isLatin1_aae02 0 = .ok (.getstatic 38, 3) := by decide +kernel
theorem dJ0_isLatin1_aae02_3 : decode cJ0_isLatin1_aae02 3 = .ok (.ifCond .eq 14, 3) := by decide +kernel
theorem dJ0_isLatin1_aae02_6 : decode cJ0_isLatin1_aae02 6 = .ok (.aload_n 0, 1) := by decide +kernel
theorem dJ0_isLatin1_aae02_7 : decode cJ0_isLatin1_aae02 7 = .ok (.getfield 15, 3) := by decide +kernel
theorem dJ0_isLatin1_aae02_10 : decode cJ0_isLatin1_aae02 10 = .ok (.ifCond .ne 7, 3) := by decide +kernel
theorem dJ0_isLatin1_aae02_13 : decode cJ0_isLatin1_aae02 13 = .ok (.iconst 1, 1) := by decide +kernel
theorem dJ0_isLatin1_aae02_14 : decode cJ0_isLatin1_aae02 14 = .ok (.goto 4, 3) := by decide +kernel
theorem dJ0_isLatin1_aae02_17 : decode cJ0_isLatin1_aae02 17 = .ok (.iconst 0, 1) := by decide +kernel
theorem dJ0_isLatin1_aae02_18 : decode cJ0_isLatin1_aae02 18 = .ok (.ireturn, 1) := by decide +kernel
theorem dJ0_checkBoundsBeginEnd_23922_0 : decode cJ0_checkBoundsBeginEnd_23922 0 = .ok (.iload_n 0, 1) := by decide +kernel
theorem dJ0_checkBoundsBeginEnd_23922_1 : decode cJ0_checkBoundsBeginEnd_23922 1 = .ok (.iload_n 1, 1) := by decide +kernel
theorem dJ0_checkBoundsBeginEnd_23922_2 : decode cJ0_checkBoundsBeginEnd_23922 2 = .ok (.iload_n 2, 1) := by decide +kernel
theorem dJ0_checkBoundsBeginEnd_23922_3 : decode cJ0_checkBoundsBeginEnd_23922 3 = .ok (.getstatic 1053, 3) := by decide +kernel
theorem dJ0_checkBoundsBeginEnd_23922_6 : decode cJ0_checkBoundsBeginEnd_23922 6 = .ok (.invokestatic 1062, 3) := by decide +kernel
theorem dJ0_checkBoundsBeginEnd_23922_9 : decode cJ0_checkBoundsBeginEnd_23922 9 = .ok (.pop, 1) := by decide +kernel
theorem dJ0_checkBoundsBeginEnd_23922_10 : decode cJ0_checkBoundsBeginEnd_23922 10 = .ok (.return_, 1) := by decide +kernel
theorem dJ1_canEncode_9a6ad_0 : decode cJ1_canEncode_9a6ad 0 = .ok (.iload_n 0, 1) := by decide +kernel
theorem dJ1_canEncode_9a6ad_1 : decode cJ1_canEncode_9a6ad 1 = .ok (.ifCond .lt 14, 3) := by decide +kernel
theorem dJ1_canEncode_9a6ad_4 : decode cJ1_canEncode_9a6ad 4 = .ok (.iload_n 0, 1) := by decide +kernel
theorem dJ1_canEncode_9a6ad_5 : decode cJ1_canEncode_9a6ad 5 = .ok (.sipush 255, 3) := by decide +kernel
theorem dJ1_canEncode_9a6ad_8 : decode cJ1_canEncode_9a6ad 8 = .ok (.if_icmp .gt 7, 3) := by decide +kernel
theorem dJ1_canEncode_9a6ad_11 : decode cJ1_canEncode_9a6ad 11 = .ok (.iconst 1, 1) := by decide +kernel
theorem dJ1_canEncode_9a6ad_12 : decode cJ1_canEncode_9a6ad 12 = .ok (.goto 4, 3) := by decide +kernel
theorem dJ1_canEncode_9a6ad_15 : decode cJ1_canEncode_9a6ad 15 = .ok (.iconst 0, 1) := by decide +kernel
theorem dJ1_canEncode_9a6ad_16 : decode cJ1_canEncode_9a6ad 16 = .ok (.ireturn, 1) := by decide +kernel
theorem dJ1_indexOf_4cfef_0 : decode cJ1_indexOf_4cfef 0 = .ok (.iload_n 1, 1) := by decide +kernel
theorem dJ1_indexOf_4cfef_1 : decode cJ1_indexOf_4cfef 1 = .ok (.invokestatic 88, 3) := by decide +kernel
theorem dJ1_indexOf_4cfef_4 : decode cJ1_indexOf_4cfef 4 = .ok (.ifCond .ne 5, 3) := by decide +kernel
theorem dJ1_indexOf_4cfef_7 : decode cJ1_indexOf_4cfef 7 = .ok (.iconst (-1), 1) := by decide +kernel
theorem dJ1_indexOf_4cfef_8 : decode cJ1_indexOf_4cfef 8 = .ok (.ireturn, 1) := by decide +kernel
theorem dJ1_indexOf_4cfef_9 : decode cJ1_indexOf_4cfef 9 = .ok (.iload_n 2, 1) := by decide +kernel
theorem dJ1_indexOf_4cfef_10 : decode cJ1_indexOf_4cfef 10 = .ok (.iconst 0, 1) := by decide +kernel
theorem dJ1_indexOf_4cfef_11 : decode cJ1_indexOf_4cfef 11 = .ok (.invokestatic 92, 3) := by decide +kernel
theorem dJ1_indexOf_4cfef_14 : decode cJ1_indexOf_4cfef 14 = .ok (.istore_n 2, 1) := by decide +kernel
theorem dJ1_indexOf_4cfef_15 : decode cJ1_indexOf_4cfef 15 = .ok (.iload_n 3, 1) := by decide +kernel
theorem dJ1_indexOf_4cfef_16 : decode cJ1_indexOf_4cfef 16 = .ok (.aload_n 0, 1) := by decide +kernel
theorem dJ1_indexOf_4cfef_17 : decode cJ1_indexOf_4cfef 17 = .ok (.arraylength, 1) := by decide +kernel
theorem dJ1_indexOf_4cfef_18 : decode cJ1_indexOf_4cfef 18 = .ok (.invokestatic 38, 3) := by decide +kernel
theorem dJ1_indexOf_4cfef_21 : decode cJ1_indexOf_4cfef 21 = .ok (.istore_n 3, 1) := by decide +kernel
theorem dJ1_indexOf_4cfef_22 : decode cJ1_indexOf_4cfef 22 = .ok (.iload_n 2, 1) := by decide +kernel
theorem dJ1_indexOf_4cfef_23 : decode cJ1_indexOf_4cfef 23 = .ok (.iload_n 3, 1) := by decide +kernel
theorem dJ1_indexOf_4cfef_24 : decode cJ1_indexOf_4cfef 24 = .ok (.if_icmp .lt 5, 3) := by decide +kernel
theorem dJ1_indexOf_4cfef_27 : decode cJ1_indexOf_4cfef 27 = .ok (.iconst (-1), 1) := by decide +kernel
theorem dJ1_indexOf_4cfef_28 : decode cJ1_indexOf_4cfef 28 = .ok (.ireturn, 1) := by decide +kernel
theorem dJ1_indexOf_4cfef_29 : decode cJ1_indexOf_4cfef 29 = .ok (.aload_n 0, 1) := by decide +kernel
theorem dJ1_indexOf_4cfef_30 : decode cJ1_indexOf_4cfef 30 = .ok (.iload_n 1, 1) := by decide +kernel
theorem dJ1_indexOf_4cfef_31 : decode cJ1_indexOf_4cfef 31 = .ok (.iload_n 2, 1) := by decide +kernel
theorem dJ1_indexOf_4cfef_32 : decode cJ1_indexOf_4cfef 32 = .ok (.iload_n 3, 1) := by decide +kernel
theorem dJ1_indexOf_4cfef_33 : decode cJ1_indexOf_4cfef 33 = .ok (.invokestatic 95, 3) := by decide +kernel
theorem dJ1_indexOf_4cfef_36 : decode cJ1_indexOf_4cfef 36 = .ok (.ireturn, 1) := by decide +kernel
theorem dJ1_indexOfChar_4cfef_0 : decode cJ1_indexOfChar_4cfef 0 = .ok (.iload_n 1, 1) := by decide +kernel
theorem dJ1_indexOfChar_4cfef_1 : decode cJ1_indexOfChar_4cfef 1 = .ok (.i2b, 1) := by decide +kernel
theorem dJ1_indexOfChar_4cfef_2 : decode cJ1_indexOfChar_4cfef 2 = .ok (.istore 4, 2) := by decide +kernel
theorem dJ1_indexOfChar_4cfef_4 : decode cJ1_indexOfChar_4cfef 4 = .ok (.iload_n 2, 1) := by decide +kernel
theorem dJ1_indexOfChar_4cfef_5 : decode cJ1_indexOfChar_4cfef 5 = .ok (.istore 5, 2) := by decide +kernel
theorem dJ1_indexOfChar_4cfef_7 : decode cJ1_indexOfChar_4cfef 7 = .ok (.iload 5, 2) := by decide +kernel
theorem dJ1_indexOfChar_4cfef_9 : decode cJ1_indexOfChar_4cfef 9 = .ok (.iload_n 3, 1) := by decide +kernel
theorem dJ1_indexOfChar_4cfef_10 : decode cJ1_indexOfChar_4cfef 10 = .ok (.if_icmp .ge 21, 3) := by decide +kernel
theorem dJ1_indexOfChar_4cfef_13 : decode cJ1_indexOfChar_4cfef 13 = .ok (.aload_n 0, 1) := by decide +kernel
theorem dJ1_indexOfChar_4cfef_14 : decode cJ1_indexOfChar_4cfef 14 = .ok (.iload 5, 2) := by decide +kernel
theorem dJ1_indexOfChar_4cfef_16 : decode cJ1_indexOfChar_4cfef 16 = .ok (.baload, 1) := by decide +kernel
theorem dJ1_indexOfChar_4cfef_17 : decode cJ1_indexOfChar_4cfef 17 = .ok (.iload 4, 2) := by decide +kernel
theorem dJ1_indexOfChar_4cfef_19 : decode cJ1_indexOfChar_4cfef 19 = .ok (.if_icmp .ne 6, 3) := by decide +kernel
theorem dJ1_indexOfChar_4cfef_22 : decode cJ1_indexOfChar_4cfef 22 = .ok (.iload 5, 2) := by decide +kernel
theorem dJ1_indexOfChar_4cfef_24 : decode cJ1_indexOfChar_4cfef 24 = .ok (.ireturn, 1) := by decide +kernel
theorem dJ1_indexOfChar_4cfef_25 : decode cJ1_indexOfChar_4cfef 25 = .ok (.iinc 5 1, 3) := by decide +kernel
theorem dJ1_indexOfChar_4cfef_28 : decode cJ1_indexOfChar_4cfef 28 = .ok (.goto (-21), 3) := by decide +kernel
theorem dJ1_indexOfChar_4cfef_31 : decode cJ1_indexOfChar_4cfef 31 = .ok (.iconst (-1), 1) := by decide +kernel
theorem dJ1_indexOfChar_4cfef_32 : decode cJ1_indexOfChar_4cfef 32 = .ok (.ireturn, 1) := by decide +kernel
theorem dJ7_fill_53178_0 : decode cJ7_fill_53178 0 = .ok (.iconst 0, 1) := by decide +kernel
theorem dJ7_fill_53178_1 : decode cJ7_fill_53178 1 = .ok (.istore_n 2, 1) := by decide +kernel
theorem dJ7_fill_53178_2 : decode cJ7_fill_53178 2 = .ok (.aload_n 0, 1) := by decide +kernel
theorem dJ7_fill_53178_3 : decode cJ7_fill_53178 3 = .ok (.arraylength, 1) := by decide +kernel
theorem dJ7_fill_53178_4 : decode cJ7_fill_53178 4 = .ok (.istore_n 3, 1) := by decide +kernel
theorem dJ7_fill_53178_5 : decode cJ7_fill_53178 5 = .ok (.iload_n 2, 1) := by decide +kernel
theorem dJ7_fill_53178_6 : decode cJ7_fill_53178 6 = .ok (.iload_n 3, 1) := by decide +kernel
theorem dJ7_fill_53178_7 : decode cJ7_fill_53178 7 = .ok (.if_icmp .ge 13, 3) := by decide +kernel
theorem dJ7_fill_53178_10 : decode cJ7_fill_53178 10 = .ok (.aload_n 0, 1) := by decide +kernel
theorem dJ7_fill_53178_11 : decode cJ7_fill_53178 11 = .ok (.iload_n 2, 1) := by decide +kernel
theorem dJ7_fill_53178_12 : decode cJ7_fill_53178 12 = .ok (.iload_n 1, 1) := by decide +kernel
theorem dJ7_fill_53178_13 : decode cJ7_fill_53178 13 = .ok (.iastore, 1) := by decide +kernel
theorem dJ7_fill_53178_14 : decode cJ7_fill_53178 14 = .ok (.iinc 2 1, 3) := by decide +kernel
theorem dJ7_fill_53178_17 : decode cJ7_fill_53178 17 = .ok (.goto (-12), 3) := by decide +kernel
theorem dJ7_fill_53178_20 : decode cJ7_fill_53178 20 = .ok (.return_, 1) := by decide +kernel
theorem dJ7_copyOf_59c91_0 : decode cJ7_copyOf_59c91 0 = .ok (.iload_n 1, 1) := by decide +kernel
theorem dJ7_copyOf_59c91_1 : decode cJ7_copyOf_59c91 1 = .ok (.aload_n 0, 1) := by decide +kernel
theorem dJ7_copyOf_59c91_2 : decode cJ7_copyOf_59c91 2 = .ok (.arraylength, 1) := by decide +kernel
theorem dJ7_copyOf_59c91_3 : decode cJ7_copyOf_59c91 3 = .ok (.if_icmp .ne 11, 3) := by decide +kernel
theorem dJ7_copyOf_59c91_6 : decode cJ7_copyOf_59c91 6 = .ok (.aload_n 0, 1) := by decide +kernel
theorem dJ7_copyOf_59c91_7 : decode cJ7_copyOf_59c91 7 = .ok (.invokevirtual 316, 3) := by decide +kernel
theorem dJ7_copyOf_59c91_10 : decode cJ7_copyOf_59c91 10 = .ok (.checkcast 317, 3) := by decide +kernel
theorem dJ7_copyOf_59c91_13 : decode cJ7_copyOf_59c91 13 = .ok (.areturn, 1) := by decide +kernel
theorem dJ7_copyOf_59c91_14 : decode cJ7_copyOf_59c91 14 = .ok (.iload_n 1, 1) := by decide +kernel
theorem dJ7_copyOf_59c91_15 : decode cJ7_copyOf_59c91 15 = .ok (.newarray .int, 2) := by decide +kernel
theorem dJ7_copyOf_59c91_17 : decode cJ7_copyOf_59c91 17 = .ok (.astore_n 2, 1) := by decide +kernel
theorem dJ7_copyOf_59c91_18 : decode cJ7_copyOf_59c91 18 = .ok (.aload_n 0, 1) := by decide +kernel
theorem dJ7_copyOf_59c91_19 : decode cJ7_copyOf_59c91 19 = .ok (.iconst 0, 1) := by decide +kernel
theorem dJ7_copyOf_59c91_20 : decode cJ7_copyOf_59c91 20 = .ok (.aload_n 2, 1) := by decide +kernel
theorem dJ7_copyOf_59c91_21 : decode cJ7_copyOf_59c91 21 = .ok (.iconst 0, 1) := by decide +kernel
theorem dJ7_copyOf_59c91_22 : decode cJ7_copyOf_59c91 22 = .ok (.aload_n 0, 1) := by decide +kernel
theorem dJ7_copyOf_59c91_23 : decode cJ7_copyOf_59c91 23 = .ok (.arraylength, 1) := by decide +kernel
theorem dJ7_copyOf_59c91_24 : decode cJ7_copyOf_59c91 24 = .ok (.iload_n 1, 1) := by decide +kernel
theorem dJ7_copyOf_59c91_25 : decode cJ7_copyOf_59c91 25 = .ok (.invokestatic 304, 3) := by decide +kernel
theorem dJ7_copyOf_59c91_28 : decode cJ7_copyOf_59c91 28 = .ok (.invokestatic 150, 3) := by decide +kernel
theorem dJ7_copyOf_59c91_31 : decode cJ7_copyOf_59c91 31 = .ok (.aload_n 2, 1) := by decide +kernel
theorem dJ7_copyOf_59c91_32 : decode cJ7_copyOf_59c91 32 = .ok (.areturn, 1) := by decide +kernel

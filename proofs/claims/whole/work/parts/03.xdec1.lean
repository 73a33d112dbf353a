theorem dX11_ofHome_7 : decode cX11_ofHome 7 = .ok (.ifnonnull 5, 3) := by decide +kernel
theorem dX11_ofHome_10 : decode cX11_ofHome 10 = .ok (.iconst (-1), 1) := by decide +kernel
theorem dX11_ofHome_11 : decode cX11_ofHome 11 = .ok (.ireturn, 1) := by decide +kernel
theorem dX11_ofHome_12 : decode cX11_ofHome 12 = .ok (.iload_n 2, 1) := by decide +kernel
theorem dX11_ofHome_13 : decode cX11_ofHome 13 = .ok (.tableswitch 136 0 12 #[67, 72, 77, 82, 87, 92, 97, 103, 109, 115, 121, 126, 131], 67) := by decide +kernel
theorem dX11_ofHome_80 : decode cX11_ofHome 80 = .ok (.aload_n 3, 1) := by decide +kernel
theorem dX11_ofHome_81 : decode cX11_ofHome 81 = .ok (.getfield 125, 3) := by decide +kernel
theorem dX11_ofHome_84 : decode cX11_ofHome 84 = .ok (.ireturn, 1) := by decide +kernel
theorem dX11_ofHome_85 : decode cX11_ofHome 85 = .ok (.aload_n 3, 1) := by decide +kernel
theorem dX11_ofHome_86 : decode cX11_ofHome 86 = .ok (.getfield 128, 3) := by decide +kernel
theorem dX11_ofHome_89 : decode cX11_ofHome 89 = .ok (.ireturn, 1) := by decide +kernel
theorem dX11_ofHome_90 : decode cX11_ofHome 90 = .ok (.aload_n 3, 1) := by decide +kernel
theorem dX11_ofHome_91 : decode cX11_ofHome 91 = .ok (.getfield 131, 3) := by decide +kernel
theorem dX11_ofHome_94 : decode cX11_ofHome 94 = .ok (.ireturn, 1) := by decide +kernel
theorem dX11_ofHome_95 : decode cX11_ofHome 95 = .ok (.aload_n 3, 1) := by decide +kernel
theorem dX11_ofHome_96 : decode cX11_ofHome 96 = .ok (.getfield 134, 3) := by decide +kernel
theorem dX11_ofHome_99 : decode cX11_ofHome 99 = .ok (.ireturn, 1) := by decide +kernel
theorem dX11_ofHome_100 : decode cX11_ofHome 100 = .ok (.aload_n 3, 1) := by decide +kernel
theorem dX11_ofHome_101 : decode cX11_ofHome 101 = .ok (.getfield 101, 3) := by decide +kernel
theorem dX11_ofHome_104 : decode cX11_ofHome 104 = .ok (.ireturn, 1) := by decide +kernel
theorem dX11_ofHome_105 : decode cX11_ofHome 105 = .ok (.aload_n 3, 1) := by decide +kernel
theorem dX11_ofHome_106 : decode cX11_ofHome 106 = .ok (.getfield 111, 3) := by decide +kernel
theorem dX11_ofHome_109 : decode cX11_ofHome 109 = .ok (.ireturn, 1) := by decide +kernel
theorem dX11_ofHome_110 : decode cX11_ofHome 110 = .ok (.aload_n 0, 1) := by decide +kernel
theorem dX11_ofHome_111 : decode cX11_ofHome 111 = .ok (.aload_n 3, 1) := by decide +kernel
theorem dX11_ofHome_112 : decode cX11_ofHome 112 = .ok (.invokevirtual 137, 3) := by decide +kernel
theorem dX11_ofHome_115 : decode cX11_ofHome 115 = .ok (.ireturn, 1) := by decide +kernel
theorem dX11_ofHome_116 : decode cX11_ofHome 116 = .ok (.aload_n 0, 1) := by decide +kernel
theorem dX11_ofHome_117 : decode cX11_ofHome 117 = .ok (.aload_n 3, 1) := by decide +kernel
theorem dX11_ofHome_118 : decode cX11_ofHome 118 = .ok (.invokevirtual 141, 3) := by decide +kernel
theorem dX11_ofHome_121 : decode cX11_ofHome 121 = .ok (.ireturn, 1) := by decide +kernel
theorem dX11_ofHome_122 : decode cX11_ofHome 122 = .ok (.aload_n 0, 1) := by decide +kernel
theorem dX11_ofHome_123 : decode cX11_ofHome 123 = .ok (.aload_n 3, 1) := by decide +kernel
theorem dX11_ofHome_124 : decode cX11_ofHome 124 = .ok (.invokevirtual 144, 3) := by decide +kernel
theorem dX11_ofHome_127 : decode cX11_ofHome 127 = .ok (.ireturn, 1) := by decide +kernel
theorem dX11_ofHome_128 : decode cX11_ofHome 128 = .ok (.aload_n 0, 1) := by decide +kernel
theorem dX11_ofHome_129 : decode cX11_ofHome 129 = .ok (.aload_n 3, 1) := by decide +kernel
theorem dX11_ofHome_130 : decode cX11_ofHome 130 = .ok (.invokevirtual 147, 3) := by decide +kernel
theorem dX11_ofHome_133 : decode cX11_ofHome 133 = .ok (.ireturn, 1) := by decide +kernel
theorem dX11_ofHome_134 : decode cX11_ofHome 134 = .ok (.aload_n 3, 1) := by decide +kernel
theorem dX11_ofHome_135 : decode cX11_ofHome 135 = .ok (.getfield 104, 3) := by decide +kernel
theorem dX11_ofHome_138 : decode cX11_ofHome 138 = .ok (.ireturn, 1) := by decide +kernel
theorem dX11_ofHome_139 : decode cX11_ofHome 139 = .ok (.aload_n 3, 1) := by decide +kernel
theorem dX11_ofHome_140 : decode cX11_ofHome 140 = .ok (.getfield 150, 3) := by decide +kernel
theorem dX11_ofHome_143 : decode cX11_ofHome 143 = .ok (.ireturn, 1) := by decide +kernel
theorem dX11_ofHome_144 : decode cX11_ofHome 144 = .ok (.aload_n 3, 1) := by decide +kernel
theorem dX11_ofHome_145 : decode cX11_ofHome 145 = .ok (.getfield 153, 3) := by decide +kernel
theorem dX11_ofHome_148 : decode cX11_ofHome 148 = .ok (.ireturn, 1) := by decide +kernel
theorem dX11_ofHome_149 : decode cX11_ofHome 149 = .ok (.iconst (-1), 1) := by decide +kernel
theorem dX11_ofHome_150 : decode cX11_ofHome 150 = .ok (.ireturn, 1) := by decide +kernel
theorem dX11_kind_0 : decode cX11_kind 0 = .ok (.iload_n 1, 1) := by decide +kernel
theorem dX11_kind_1 : decode cX11_kind 1 = .ok (.bipush 10, 2) := by decide +kernel
theorem dX11_kind_3 : decode cX11_kind 3 = .ok (.invokestatic 82, 3) := by decide +kernel
theorem dX11_kind_6 : decode cX11_kind 6 = .ok (.ifCond .eq 24, 3) := by decide +kernel
theorem dX11_kind_9 : decode cX11_kind 9 = .ok (.iload_n 2, 1) := by decide +kernel
theorem dX11_kind_10 : decode cX11_kind 10 = .ok (.iconst 1, 1) := by decide +kernel
theorem dX11_kind_11 : decode cX11_kind 11 = .ok (.if_icmp .lt 19, 3) := by decide +kernel
theorem dX11_kind_14 : decode cX11_kind 14 = .ok (.iload_n 2, 1) := by decide +kernel
theorem dX11_kind_15 : decode cX11_kind 15 = .ok (.sipush 999, 3) := by decide +kernel
theorem dX11_kind_18 : decode cX11_kind 18 = .ok (.if_icmp .gt 12, 3) := by decide +kernel
theorem dX11_kind_21 : decode cX11_kind 21 = .ok (.iload_n 3, 1) := by decide +kernel
theorem dX11_kind_22 : decode cX11_kind 22 = .ok (.bipush 8, 2) := by decide +kernel
theorem dX11_kind_24 : decode cX11_kind 24 = .ok (.invokestatic 82, 3) := by decide +kernel
theorem dX11_kind_27 : decode cX11_kind 27 = .ok (.ifCond .ne 5, 3) := by decide +kernel
theorem dX11_kind_30 : decode cX11_kind 30 = .ok (.iconst (-1), 1) := by decide +kernel
theorem dX11_kind_31 : decode cX11_kind 31 = .ok (.ireturn, 1) := by decide +kernel
theorem dX11_kind_32 : decode cX11_kind 32 = .ok (.aload_n 0, 1) := by decide +kernel
theorem dX11_kind_33 : decode cX11_kind 33 = .ok (.getfield 156, 3) := by decide +kernel
theorem dX11_kind_36 : decode cX11_kind 36 = .ok (.bipush 20, 2) := by decide +kernel
theorem dX11_kind_38 : decode cX11_kind 38 = .ok (.if_icmp .lt 6, 3) := by decide +kernel
theorem dX11_kind_41 : decode cX11_kind 41 = .ok (.bipush (-2), 2) := by decide +kernel
theorem dX11_kind_43 : decode cX11_kind 43 = .ok (.ireturn, 1) := by decide +kernel
theorem dX11_kind_44 : decode cX11_kind 44 = .ok (.aload_n 0, 1) := by decide +kernel
theorem dX11_kind_45 : decode cX11_kind 45 = .ok (.getfield 17, 3) := by decide +kernel
theorem dX11_kind_48 : decode cX11_kind 48 = .ok (.aload_n 0, 1) := by decide +kernel
theorem dX11_kind_49 : decode cX11_kind 49 = .ok (.getfield 156, 3) := by decide +kernel
theorem dX11_kind_52 : decode cX11_kind 52 = .ok (.new 15, 3) := by decide +kernel
theorem dX11_kind_55 : decode cX11_kind 55 = .ok (.dup, 1) := by decide +kernel
theorem dX11_kind_56 : decode cX11_kind 56 = .ok (.iload_n 1, 1) := by decide +kernel
theorem dX11_kind_57 : decode cX11_kind 57 = .ok (.iload_n 2, 1) := by decide +kernel
theorem dX11_kind_58 : decode cX11_kind 58 = .ok (.iload_n 3, 1) := by decide +kernel
theorem dX11_kind_59 : decode cX11_kind 59 = .ok (.invokespecial 159, 3) := by decide +kernel
theorem dX11_kind_62 : decode cX11_kind 62 = .ok (.aastore, 1) := by decide +kernel
theorem dX11_kind_63 : decode cX11_kind 63 = .ok (.aload_n 0, 1) := by decide +kernel
theorem dX11_kind_64 : decode cX11_kind 64 = .ok (.dup, 1) := by decide +kernel
theorem dX11_kind_65 : decode cX11_kind 65 = .ok (.getfield 156, 3) := by decide +kernel
theorem dX11_kind_68 : decode cX11_kind 68 = .ok (.iconst 1, 1) := by decide +kernel
theorem dX11_kind_69 : decode cX11_kind 69 = .ok (.iadd, 1) := by decide +kernel
theorem dX11_kind_70 : decode cX11_kind 70 = .ok (.putfield 156, 3) := by decide +kernel
theorem dX11_kind_73 : decode cX11_kind 73 = .ok (.aload_n 0, 1) := by decide +kernel
theorem dX11_kind_74 : decode cX11_kind 74 = .ok (.getfield 156, 3) := by decide +kernel
theorem dX11_kind_77 : decode cX11_kind 77 = .ok (.iconst 1, 1) := by decide +kernel
theorem dX11_kind_78 : decode cX11_kind 78 = .ok (.isub, 1) := by decide +kernel
theorem dX11_kind_79 : decode cX11_kind 79 = .ok (.ireturn, 1) := by decide +kernel
theorem dX11_fault_0 : decode cX11_fault 0 = .ok (.iload_n 1, 1) := by decide +kernel
theorem dX11_fault_1 : decode cX11_fault 1 = .ok (.ifCond .ge 7, 3) := by decide +kernel
theorem dX11_fault_4 : decode cX11_fault 4 = .ok (.aconst_null, 1) := by decide +kernel
theorem dX11_fault_5 : decode cX11_fault 5 = .ok (.goto 11, 3) := by decide +kernel
theorem dX11_fault_8 : decode cX11_fault 8 = .ok (.aload_n 0, 1) := by decide +kernel
theorem dX11_fault_9 : decode cX11_fault 9 = .ok (.iload_n 1, 1) := by decide +kernel
theorem dX11_fault_10 : decode cX11_fault 10 = .ok (.bipush 12, 2) := by decide +kernel
theorem dX11_fault_12 : decode cX11_fault 12 = .ok (.idiv, 1) := by decide +kernel
theorem dX11_fault_13 : decode cX11_fault 13 = .ok (.invokevirtual 92, 3) := by decide +kernel
theorem dX11_fault_16 : decode cX11_fault 16 = .ok (.astore 5, 2) := by decide +kernel
theorem dX11_fault_18 : decode cX11_fault 18 = .ok (.aload_n 0, 1) := by decide +kernel
theorem dX11_fault_19 : decode cX11_fault 19 = .ok (.iload_n 2, 1) := by decide +kernel
theorem dX11_fault_20 : decode cX11_fault 20 = .ok (.invokevirtual 162, 3) := by decide +kernel
theorem dX11_fault_23 : decode cX11_fault 23 = .ok (.astore 6, 2) := by decide +kernel
theorem dX11_fault_25 : decode cX11_fault 25 = .ok (.aload 5, 2) := by decide +kernel
theorem dX11_fault_27 : decode cX11_fault 27 = .ok (.ifnull 29, 3) := by decide +kernel
theorem dX11_fault_30 : decode cX11_fault 30 = .ok (.aload 6, 2) := by decide +kernel
theorem dX11_fault_32 : decode cX11_fault 32 = .ok (.ifnull 24, 3) := by decide +kernel
theorem dX11_fault_35 : decode cX11_fault 35 = .ok (.iload_n 3, 1) := by decide +kernel
theorem dX11_fault_36 : decode cX11_fault 36 = .ok (.iconst 1, 1) := by decide +kernel
theorem dX11_fault_37 : decode cX11_fault 37 = .ok (.if_icmp .lt 19, 3) := by decide +kernel
theorem dX11_fault_40 : decode cX11_fault 40 = .ok (.iload_n 3, 1) := by decide +kernel
theorem dX11_fault_41 : decode cX11_fault 41 = .ok (.bipush 9, 2) := by decide +kernel
theorem dX11_fault_43 : decode cX11_fault 43 = .ok (.if_icmp .gt 13, 3) := by decide +kernel
theorem dX11_fault_46 : decode cX11_fault 46 = .ok (.iload 4, 2) := by decide +kernel
theorem dX11_fault_48 : decode cX11_fault 48 = .ok (.bipush 11, 2) := by decide +kernel
theorem dX11_fault_50 : decode cX11_fault 50 = .ok (.invokestatic 82, 3) := by decide +kernel
theorem dX11_fault_53 : decode cX11_fault 53 = .ok (.ifCond .ne 5, 3) := by decide +kernel
theorem dX11_fault_56 : decode cX11_fault 56 = .ok (.iconst (-1), 1) := by decide +kernel
theorem dX11_fault_57 : decode cX11_fault 57 = .ok (.ireturn, 1) := by decide +kernel
theorem dX11_fault_58 : decode cX11_fault 58 = .ok (.aload_n 0, 1) := by decide +kernel
theorem dX11_fault_59 : decode cX11_fault 59 = .ok (.getfield 166, 3) := by decide +kernel
theorem dX11_fault_62 : decode cX11_fault 62 = .ok (.sipush 200, 3) := by decide +kernel
theorem dX11_fault_65 : decode cX11_fault 65 = .ok (.if_icmp .lt 6, 3) := by decide +kernel
theorem dX11_fault_68 : decode cX11_fault 68 = .ok (.bipush (-2), 2) := by decide +kernel
theorem dX11_fault_70 : decode cX11_fault 70 = .ok (.ireturn, 1) := by decide +kernel
theorem dX11_fault_71 : decode cX11_fault 71 = .ok (.new 21, 3) := by decide +kernel
theorem dX11_fault_74 : decode cX11_fault 74 = .ok (.dup, 1) := by decide +kernel
theorem dX11_fault_75 : decode cX11_fault 75 = .ok (.aload_n 0, 1) := by decide +kernel
theorem dX11_fault_76 : decode cX11_fault 76 = .ok (.getfield 166, 3) := by decide +kernel
theorem dX11_fault_79 : decode cX11_fault 79 = .ok (.aload 5, 2) := by decide +kernel
theorem dX11_fault_81 : decode cX11_fault 81 = .ok (.iload_n 1, 1) := by decide +kernel
theorem dX11_fault_82 : decode cX11_fault 82 = .ok (.bipush 12, 2) := by decide +kernel
theorem dX11_fault_84 : decode cX11_fault 84 = .ok (.irem, 1) := by decide +kernel
theorem dX11_fault_85 : decode cX11_fault 85 = .ok (.iload_n 2, 1) := by decide +kernel
theorem dX11_fault_86 : decode cX11_fault 86 = .ok (.aload 6, 2) := by decide +kernel
theorem dX11_fault_88 : decode cX11_fault 88 = .ok (.iload_n 3, 1) := by decide +kernel
theorem dX11_fault_89 : decode cX11_fault 89 = .ok (.iload 4, 2) := by decide +kernel
theorem dX11_fault_91 : decode cX11_fault 91 = .ok (.invokespecial 169, 3) := by decide +kernel
theorem dX11_fault_94 : decode cX11_fault 94 = .ok (.astore 7, 2) := by decide +kernel
theorem dX11_fault_96 : decode cX11_fault 96 = .ok (.aload 7, 2) := by decide +kernel
theorem dX11_fault_98 : decode cX11_fault 98 = .ok (.aload_n 0, 1) := by decide +kernel
theorem dX11_fault_99 : decode cX11_fault 99 = .ok (.getfield 79, 3) := by decide +kernel
theorem dX11_fault_102 : decode cX11_fault 102 = .ok (.aload_n 0, 1) := by decide +kernel
theorem dX11_fault_103 : decode cX11_fault 103 = .ok (.aload 7, 2) := by decide +kernel
theorem dX11_fault_105 : decode cX11_fault 105 = .ok (.invokevirtual 172, 3) := by decide +kernel
theorem dX11_fault_108 : decode cX11_fault 108 = .ok (.invokevirtual 176, 3) := by decide +kernel
theorem dX11_fault_111 : decode cX11_fault 111 = .ok (.aload_n 0, 1) := by decide +kernel
theorem dX11_fault_112 : decode cX11_fault 112 = .ok (.getfield 23, 3) := by decide +kernel
theorem dX11_fault_115 : decode cX11_fault 115 = .ok (.aload_n 0, 1) := by decide +kernel
theorem dX11_fault_116 : decode cX11_fault 116 = .ok (.getfield 166, 3) := by decide +kernel
theorem dX11_fault_119 : decode cX11_fault 119 = .ok (.aload 7, 2) := by decide +kernel
theorem dX11_fault_121 : decode cX11_fault 121 = .ok (.aastore, 1) := by decide +kernel
theorem dX11_fault_122 : decode cX11_fault 122 = .ok (.aload_n 0, 1) := by decide +kernel
theorem dX11_fault_123 : decode cX11_fault 123 = .ok (.dup, 1) := by decide +kernel
theorem dX11_fault_124 : decode cX11_fault 124 = .ok (.getfield 166, 3) := by decide +kernel
theorem dX11_fault_127 : decode cX11_fault 127 = .ok (.iconst 1, 1) := by decide +kernel
theorem dX11_fault_128 : decode cX11_fault 128 = .ok (.iadd, 1) := by decide +kernel
theorem dX11_fault_129 : decode cX11_fault 129 = .ok (.putfield 166, 3) := by decide +kernel
theorem dX11_fault_132 : decode cX11_fault 132 = .ok (.aload_n 0, 1) := by decide +kernel
theorem dX11_fault_133 : decode cX11_fault 133 = .ok (.getfield 166, 3) := by decide +kernel
theorem dX11_fault_136 : decode cX11_fault 136 = .ok (.iconst 1, 1) := by decide +kernel
theorem dX11_fault_137 : decode cX11_fault 137 = .ok (.isub, 1) := by decide +kernel
theorem dX11_fault_138 : decode cX11_fault 138 = .ok (.ireturn, 1) := by decide +kernel
theorem dX11_promise_0 : decode cX11_promise 0 = .ok (.aload_n 0, 1) := by decide +kernel
theorem dX11_promise_1 : decode cX11_promise 1 = .ok (.iload_n 1, 1) := by decide +kernel
theorem dX11_promise_2 : decode cX11_promise 2 = .ok (.invokevirtual 180, 3) := by decide +kernel
theorem dX11_promise_5 : decode cX11_promise 5 = .ok (.astore_n 3, 1) := by decide +kernel
theorem dX11_promise_6 : decode cX11_promise 6 = .ok (.aload_n 3, 1) := by decide +kernel
theorem dX11_promise_7 : decode cX11_promise 7 = .ok (.ifnull 18, 3) := by decide +kernel
theorem dX11_promise_10 : decode cX11_promise 10 = .ok (.iload_n 2, 1) := by decide +kernel
theorem dX11_promise_11 : decode cX11_promise 11 = .ok (.aload_n 0, 1) := by decide +kernel
theorem dX11_promise_12 : decode cX11_promise 12 = .ok (.getfield 79, 3) := by decide +kernel
theorem dX11_promise_15 : decode cX11_promise 15 = .ok (.if_icmp .lt 10, 3) := by decide +kernel
theorem dX11_promise_18 : decode cX11_promise 18 = .ok (.iload_n 2, 1) := by decide +kernel
theorem dX11_promise_19 : decode cX11_promise 19 = .ok (.sipush 9999, 3) := by decide +kernel
theorem dX11_promise_22 : decode cX11_promise 22 = .ok (.if_icmp .le 5, 3) := by decide +kernel
theorem dX11_promise_25 : decode cX11_promise 25 = .ok (.iconst (-1), 1) := by decide +kernel
theorem dX11_promise_26 : decode cX11_promise 26 = .ok (.ireturn, 1) := by decide +kernel
theorem dX11_promise_27 : decode cX11_promise 27 = .ok (.aload_n 3, 1) := by decide +kernel
theorem dX11_promise_28 : decode cX11_promise 28 = .ok (.invokevirtual 184, 3) := by decide +kernel
theorem dX11_promise_31 : decode cX11_promise 31 = .ok (.ifCond .ne 6, 3) := by decide +kernel
theorem dX11_promise_34 : decode cX11_promise 34 = .ok (.bipush (-3), 2) := by decide +kernel
theorem dX11_promise_36 : decode cX11_promise 36 = .ok (.ireturn, 1) := by decide +kernel
theorem dX11_promise_37 : decode cX11_promise 37 = .ok (.aload_n 3, 1) := by decide +kernel
theorem dX11_promise_38 : decode cX11_promise 38 = .ok (.getfield 187, 3) := by decide +kernel
theorem dX11_promise_41 : decode cX11_promise 41 = .ok (.invokevirtual 191, 3) := by decide +kernel
theorem dX11_promise_44 : decode cX11_promise 44 = .ok (.ifCond .eq 6, 3) := by decide +kernel
theorem dX11_promise_47 : decode cX11_promise 47 = .ok (.bipush (-2), 2) := by decide +kernel
theorem dX11_promise_49 : decode cX11_promise 49 = .ok (.ireturn, 1) := by decide +kernel
theorem dX11_promise_50 : decode cX11_promise 50 = .ok (.aload_n 3, 1) := by decide +kernel
theorem dX11_promise_51 : decode cX11_promise 51 = .ok (.iload_n 2, 1) := by decide +kernel
theorem dX11_promise_52 : decode cX11_promise 52 = .ok (.aload_n 0, 1) := by decide +kernel
theorem dX11_promise_53 : decode cX11_promise 53 = .ok (.getfield 79, 3) := by decide +kernel
theorem dX11_promise_56 : decode cX11_promise 56 = .ok (.invokevirtual 196, 3) := by decide +kernel
theorem dX11_promise_59 : decode cX11_promise 59 = .ok (.iconst 1, 1) := by decide +kernel
theorem dX11_promise_60 : decode cX11_promise 60 = .ok (.ireturn, 1) := by decide +kernel
theorem dX11_said_0 : decode cX11_said 0 = .ok (.aload_n 0, 1) := by decide +kernel
theorem dX11_said_1 : decode cX11_said 1 = .ok (.iload_n 1, 1) := by decide +kernel
theorem dX11_said_2 : decode cX11_said 2 = .ok (.invokevirtual 180, 3) := by decide +kernel
theorem dX11_said_5 : decode cX11_said 5 = .ok (.astore_n 3, 1) := by decide +kernel
theorem dX11_said_6 : decode cX11_said 6 = .ok (.aload_n 3, 1) := by decide +kernel
theorem dX11_said_7 : decode cX11_said 7 = .ok (.ifnull 12, 3) := by decide +kernel
theorem dX11_said_10 : decode cX11_said 10 = .ok (.iload_n 2, 1) := by decide +kernel
theorem dX11_said_11 : decode cX11_said 11 = .ok (.bipush 10, 2) := by decide +kernel
theorem dX11_said_13 : decode cX11_said 13 = .ok (.invokestatic 82, 3) := by decide +kernel
theorem dX11_said_16 : decode cX11_said 16 = .ok (.ifCond .ne 5, 3) := by decide +kernel
theorem dX11_said_19 : decode cX11_said 19 = .ok (.iconst (-1), 1) := by decide +kernel
theorem dX11_said_20 : decode cX11_said 20 = .ok (.ireturn, 1) := by decide +kernel
theorem dX11_said_21 : decode cX11_said 21 = .ok (.aload_n 3, 1) := by decide +kernel
theorem dX11_said_22 : decode cX11_said 22 = .ok (.invokevirtual 184, 3) := by decide +kernel
theorem dX11_said_25 : decode cX11_said 25 = .ok (.ifCond .ne 6, 3) := by decide +kernel
theorem dX11_said_28 : decode cX11_said 28 = .ok (.bipush (-3), 2) := by decide +kernel
theorem dX11_said_30 : decode cX11_said 30 = .ok (.ireturn, 1) := by decide +kernel
theorem dX11_said_31 : decode cX11_said 31 = .ok (.aload_n 3, 1) := by decide +kernel
theorem dX11_said_32 : decode cX11_said 32 = .ok (.getfield 187, 3) := by decide +kernel
theorem dX11_said_35 : decode cX11_said 35 = .ok (.invokevirtual 191, 3) := by decide +kernel
theorem dX11_said_38 : decode cX11_said 38 = .ok (.ifCond .eq 6, 3) := by decide +kernel
theorem dX11_said_41 : decode cX11_said 41 = .ok (.bipush (-2), 2) := by decide +kernel
theorem dX11_said_43 : decode cX11_said 43 = .ok (.ireturn, 1) := by decide +kernel
theorem dX11_said_44 : decode cX11_said 44 = .ok (.aload_n 3, 1) := by decide +kernel
theorem dX11_said_45 : decode cX11_said 45 = .ok (.iload_n 2, 1) := by decide +kernel
theorem dX11_said_46 : decode cX11_said 46 = .ok (.aload_n 0, 1) := by decide +kernel
theorem dX11_said_47 : decode cX11_said 47 = .ok (.getfield 79, 3) := by decide +kernel
theorem dX11_said_50 : decode cX11_said 50 = .ok (.invokevirtual 200, 3) := by decide +kernel
theorem dX11_said_53 : decode cX11_said 53 = .ok (.iconst 1, 1) := by decide +kernel
theorem dX11_said_54 : decode cX11_said 54 = .ok (.ireturn, 1) := by decide +kernel
theorem dX11_look_0 : decode cX11_look 0 = .ok (.aload_n 0, 1) := by decide +kernel
theorem dX11_look_1 : decode cX11_look 1 = .ok (.iload_n 1, 1) := by decide +kernel
theorem dX11_look_2 : decode cX11_look 2 = .ok (.invokevirtual 180, 3) := by decide +kernel
theorem dX11_look_5 : decode cX11_look 5 = .ok (.astore_n 3, 1) := by decide +kernel
theorem dX11_look_6 : decode cX11_look 6 = .ok (.aload_n 3, 1) := by decide +kernel
theorem dX11_look_7 : decode cX11_look 7 = .ok (.ifnull 11, 3) := by decide +kernel
theorem dX11_look_10 : decode cX11_look 10 = .ok (.iload_n 2, 1) := by decide +kernel
theorem dX11_look_11 : decode cX11_look 11 = .ok (.iconst 2, 1) := by decide +kernel
theorem dX11_look_12 : decode cX11_look 12 = .ok (.invokestatic 82, 3) := by decide +kernel
theorem dX11_look_15 : decode cX11_look 15 = .ok (.ifCond .ne 5, 3) := by decide +kernel
theorem dX11_look_18 : decode cX11_look 18 = .ok (.iconst (-1), 1) := by decide +kernel
theorem dX11_look_19 : decode cX11_look 19 = .ok (.ireturn, 1) := by decide +kernel
theorem dX11_look_20 : decode cX11_look 20 = .ok (.aload_n 3, 1) := by decide +kernel
theorem dX11_look_21 : decode cX11_look 21 = .ok (.getfield 187, 3) := by decide +kernel
theorem dX11_look_24 : decode cX11_look 24 = .ok (.invokevirtual 203, 3) := by decide +kernel
theorem dX11_look_27 : decode cX11_look 27 = .ok (.iconst 2, 1) := by decide +kernel
theorem dX11_look_28 : decode cX11_look 28 = .ok (.if_icmp .eq 6, 3) := by decide +kernel
theorem dX11_look_31 : decode cX11_look 31 = .ok (.bipush (-3), 2) := by decide +kernel
theorem dX11_look_33 : decode cX11_look 33 = .ok (.ireturn, 1) := by decide +kernel
theorem dX11_look_34 : decode cX11_look 34 = .ok (.aload_n 3, 1) := by decide +kernel
theorem dX11_look_35 : decode cX11_look 35 = .ok (.getfield 187, 3) := by decide +kernel
theorem dX11_look_38 : decode cX11_look 38 = .ok (.invokevirtual 191, 3) := by decide +kernel
theorem dX11_look_41 : decode cX11_look 41 = .ok (.ifCond .eq 6, 3) := by decide +kernel
theorem dX11_look_44 : decode cX11_look 44 = .ok (.bipush (-2), 2) := by decide +kernel
theorem dX11_look_46 : decode cX11_look 46 = .ok (.ireturn, 1) := by decide +kernel
theorem dX11_look_47 : decode cX11_look 47 = .ok (.aload_n 3, 1) := by decide +kernel
theorem dX11_look_48 : decode cX11_look 48 = .ok (.invokevirtual 207, 3) := by decide +kernel
theorem dX11_look_51 : decode cX11_look 51 = .ok (.bipush 10, 2) := by decide +kernel
theorem dX11_look_53 : decode cX11_look 53 = .ok (.invokestatic 82, 3) := by decide +kernel
theorem dX11_look_56 : decode cX11_look 56 = .ok (.ifCond .eq 16, 3) := by decide +kernel
theorem dX11_look_59 : decode cX11_look 59 = .ok (.aload_n 0, 1) := by decide +kernel
theorem dX11_look_60 : decode cX11_look 60 = .ok (.getfield 72, 3) := by decide +kernel
theorem dX11_look_63 : decode cX11_look 63 = .ok (.aload_n 3, 1) := by decide +kernel
theorem dX11_look_64 : decode cX11_look 64 = .ok (.invokevirtual 207, 3) := by decide +kernel
theorem dX11_look_67 : decode cX11_look 67 = .ok (.dup2, 1) := by decide +kernel
theorem dX11_look_68 : decode cX11_look 68 = .ok (.iaload, 1) := by decide +kernel
theorem dX11_look_69 : decode cX11_look 69 = .ok (.iconst 1, 1) := by decide +kernel
theorem dX11_look_70 : decode cX11_look 70 = .ok (.iadd, 1) := by decide +kernel
theorem dX11_look_71 : decode cX11_look 71 = .ok (.iastore, 1) := by decide +kernel
theorem dX11_look_72 : decode cX11_look 72 = .ok (.aload_n 3, 1) := by decide +kernel
theorem dX11_look_73 : decode cX11_look 73 = .ok (.getfield 187, 3) := by decide +kernel
theorem dX11_look_76 : decode cX11_look 76 = .ok (.iload_n 2, 1) := by decide +kernel
theorem dX11_look_77 : decode cX11_look 77 = .ok (.iconst 1, 1) := by decide +kernel
theorem dX11_look_78 : decode cX11_look 78 = .ok (.if_icmp .ne 7, 3) := by decide +kernel
theorem dX11_look_81 : decode cX11_look 81 = .ok (.iconst 3, 1) := by decide +kernel
theorem dX11_look_82 : decode cX11_look 82 = .ok (.goto 4, 3) := by decide +kernel
theorem dX11_look_85 : decode cX11_look 85 = .ok (.iconst 0, 1) := by decide +kernel
theorem dX11_look_86 : decode cX11_look 86 = .ok (.aload_n 0, 1) := by decide +kernel
theorem dX11_look_87 : decode cX11_look 87 = .ok (.getfield 79, 3) := by decide +kernel
theorem dX11_look_90 : decode cX11_look 90 = .ok (.iconst (-1), 1) := by decide +kernel
theorem dX11_look_91 : decode cX11_look 91 = .ok (.invokevirtual 210, 3) := by decide +kernel
theorem dX11_look_94 : decode cX11_look 94 = .ok (.iconst 1, 1) := by decide +kernel
theorem dX11_look_95 : decode cX11_look 95 = .ok (.ireturn, 1) := by decide +kernel
theorem dX11_voids_0 : decode cX11_voids 0 = .ok (.aload_n 0, 1) := by decide +kernel
theorem dX11_voids_1 : decode cX11_voids 1 = .ok (.iload_n 1, 1) := by decide +kernel
theorem dX11_voids_2 : decode cX11_voids 2 = .ok (.invokevirtual 180, 3) := by decide +kernel
theorem dX11_voids_5 : decode cX11_voids 5 = .ok (.astore_n 2, 1) := by decide +kernel
theorem dX11_voids_6 : decode cX11_voids 6 = .ok (.aload_n 2, 1) := by decide +kernel
theorem dX11_voids_7 : decode cX11_voids 7 = .ok (.ifnonnull 5, 3) := by decide +kernel
theorem dX11_voids_10 : decode cX11_voids 10 = .ok (.iconst (-1), 1) := by decide +kernel
theorem dX11_voids_11 : decode cX11_voids 11 = .ok (.ireturn, 1) := by decide +kernel
theorem dX11_voids_12 : decode cX11_voids 12 = .ok (.aload_n 2, 1) := by decide +kernel
theorem dX11_voids_13 : decode cX11_voids 13 = .ok (.invokevirtual 184, 3) := by decide +kernel
theorem dX11_voids_16 : decode cX11_voids 16 = .ok (.ifCond .ne 6, 3) := by decide +kernel
theorem dX11_voids_19 : decode cX11_voids 19 = .ok (.bipush (-3), 2) := by decide +kernel
theorem dX11_voids_21 : decode cX11_voids 21 = .ok (.ireturn, 1) := by decide +kernel
theorem dX11_voids_22 : decode cX11_voids 22 = .ok (.aload_n 2, 1) := by decide +kernel
theorem dX11_voids_23 : decode cX11_voids 23 = .ok (.getfield 187, 3) := by decide +kernel
theorem dX11_voids_26 : decode cX11_voids 26 = .ok (.invokevirtual 191, 3) := by decide +kernel
theorem dX11_voids_29 : decode cX11_voids 29 = .ok (.ifCond .eq 6, 3) := by decide +kernel
theorem dX11_voids_32 : decode cX11_voids 32 = .ok (.bipush (-2), 2) := by decide +kernel
theorem dX11_voids_34 : decode cX11_voids 34 = .ok (.ireturn, 1) := by decide +kernel
theorem dX11_voids_35 : decode cX11_voids 35 = .ok (.aload_n 2, 1) := by decide +kernel
theorem dX11_voids_36 : decode cX11_voids 36 = .ok (.iconst 4, 1) := by decide +kernel
theorem dX11_voids_37 : decode cX11_voids 37 = .ok (.aload_n 0, 1) := by decide +kernel
theorem dX11_voids_38 : decode cX11_voids 38 = .ok (.getfield 79, 3) := by decide +kernel
theorem dX11_voids_41 : decode cX11_voids 41 = .ok (.invokevirtual 213, 3) := by decide +kernel
theorem dX11_voids_44 : decode cX11_voids 44 = .ok (.iconst 1, 1) := by decide +kernel
theorem dX11_voids_45 : decode cX11_voids 45 = .ok (.ireturn, 1) := by decide +kernel
theorem dX11_state_0 : decode cX11_state 0 = .ok (.aload_n 0, 1) := by decide +kernel
theorem dX11_state_1 : decode cX11_state 1 = .ok (.iload_n 1, 1) := by decide +kernel
theorem dX11_state_2 : decode cX11_state 2 = .ok (.invokevirtual 180, 3) := by decide +kernel
theorem dX11_state_5 : decode cX11_state 5 = .ok (.astore_n 3, 1) := by decide +kernel
theorem dX11_state_6 : decode cX11_state 6 = .ok (.aload_n 3, 1) := by decide +kernel
theorem dX11_state_7 : decode cX11_state 7 = .ok (.ifnull 10, 3) := by decide +kernel
theorem dX11_state_10 : decode cX11_state 10 = .ok (.iload_n 2, 1) := by decide +kernel
theorem dX11_state_11 : decode cX11_state 11 = .ok (.invokestatic 216, 3) := by decide +kernel
theorem dX11_state_14 : decode cX11_state 14 = .ok (.ifCond .ne 5, 3) := by decide +kernel
theorem dX11_state_17 : decode cX11_state 17 = .ok (.iconst (-1), 1) := by decide +kernel
theorem dX11_state_18 : decode cX11_state 18 = .ok (.ireturn, 1) := by decide +kernel
theorem dX11_state_19 : decode cX11_state 19 = .ok (.aload_n 3, 1) := by decide +kernel
theorem dX11_state_20 : decode cX11_state 20 = .ok (.getfield 187, 3) := by decide +kernel
theorem dX11_state_23 : decode cX11_state 23 = .ok (.iload_n 2, 1) := by decide +kernel
theorem dX11_state_24 : decode cX11_state 24 = .ok (.invokevirtual 219, 3) := by decide +kernel
theorem dX11_state_27 : decode cX11_state 27 = .ok (.ireturn, 1) := by decide +kernel
theorem dX11_ofFault_0 : decode cX11_ofFault 0 = .ok (.aload_n 0, 1) := by decide +kernel
theorem dX11_ofFault_1 : decode cX11_ofFault 1 = .ok (.iload_n 1, 1) := by decide +kernel
theorem dX11_ofFault_2 : decode cX11_ofFault 2 = .ok (.invokevirtual 180, 3) := by decide +kernel
theorem dX11_ofFault_5 : decode cX11_ofFault 5 = .ok (.astore_n 3, 1) := by decide +kernel
theorem dX11_ofFault_6 : decode cX11_ofFault 6 = .ok (.aload_n 3, 1) := by decide +kernel
theorem dX11_ofFault_7 : decode cX11_ofFault 7 = .ok (.ifnonnull 5, 3) := by decide +kernel
theorem dX11_ofFault_10 : decode cX11_ofFault 10 = .ok (.iconst (-1), 1) := by decide +kernel
theorem dX11_ofFault_11 : decode cX11_ofFault 11 = .ok (.ireturn, 1) := by decide +kernel
theorem dX11_ofFault_12 : decode cX11_ofFault 12 = .ok (.iload_n 2, 1) := by decide +kernel
theorem dX11_ofFault_13 : decode cX11_ofFault 13 = .ok (.tableswitch 173 0 13 #[71, 80, 85, 90, 95, 100, 105, 118, 131, 136, 145, 150, 159, 168], 71) := by decide +kernel
theorem dX11_ofFault_84 : decode cX11_ofFault 84 = .ok (.aload_n 0, 1) := by decide +kernel
theorem dX11_ofFault_85 : decode cX11_ofFault 85 = .ok (.aload_n 3, 1) := by decide +kernel
theorem dX11_ofFault_86 : decode cX11_ofFault 86 = .ok (.getfield 222, 3) := by decide +kernel
theorem dX11_ofFault_89 : decode cX11_ofFault 89 = .ok (.invokevirtual 226, 3) := by decide +kernel
theorem dX11_ofFault_92 : decode cX11_ofFault 92 = .ok (.ireturn, 1) := by decide +kernel
theorem dX11_ofFault_93 : decode cX11_ofFault 93 = .ok (.aload_n 3, 1) := by decide +kernel
theorem dX11_ofFault_94 : decode cX11_ofFault 94 = .ok (.getfield 229, 3) := by decide +kernel
theorem dX11_ofFault_97 : decode cX11_ofFault 97 = .ok (.ireturn, 1) := by decide +kernel
theorem dX11_ofFault_98 : decode cX11_ofFault 98 = .ok (.aload_n 3, 1) := by decide +kernel
theorem dX11_ofFault_99 : decode cX11_ofFault 99 = .ok (.getfield 232, 3) := by decide +kernel
theorem dX11_ofFault_102 : decode cX11_ofFault 102 = .ok (.ireturn, 1) := by decide +kernel
theorem dX11_ofFault_103 : decode cX11_ofFault 103 = .ok (.aload_n 3, 1) := by decide +kernel
theorem dX11_ofFault_104 : decode cX11_ofFault 104 = .ok (.getfield 235, 3) := by decide +kernel
theorem dX11_ofFault_107 : decode cX11_ofFault 107 = .ok (.ireturn, 1) := by decide +kernel
theorem dX11_ofFault_108 : decode cX11_ofFault 108 = .ok (.aload_n 3, 1) := by decide +kernel
theorem dX11_ofFault_109 : decode cX11_ofFault 109 = .ok (.getfield 238, 3) := by decide +kernel
theorem dX11_ofFault_112 : decode cX11_ofFault 112 = .ok (.ireturn, 1) := by decide +kernel
theorem dX11_ofFault_113 : decode cX11_ofFault 113 = .ok (.aload_n 3, 1) := by decide +kernel
theorem dX11_ofFault_114 : decode cX11_ofFault 114 = .ok (.getfield 241, 3) := by decide +kernel
theorem dX11_ofFault_117 : decode cX11_ofFault 117 = .ok (.ireturn, 1) := by decide +kernel
theorem dX11_ofFault_118 : decode cX11_ofFault 118 = .ok (.aload_n 3, 1) := by decide +kernel
theorem dX11_ofFault_119 : decode cX11_ofFault 119 = .ok (.getfield 244, 3) := by decide +kernel
theorem dX11_ofFault_122 : decode cX11_ofFault 122 = .ok (.ifCond .eq 7, 3) := by decide +kernel
theorem dX11_ofFault_125 : decode cX11_ofFault 125 = .ok (.iconst 1, 1) := by decide +kernel
theorem dX11_ofFault_126 : decode cX11_ofFault 126 = .ok (.goto 4, 3) := by decide +kernel
theorem dX11_ofFault_129 : decode cX11_ofFault 129 = .ok (.iconst 0, 1) := by decide +kernel
theorem dX11_ofFault_130 : decode cX11_ofFault 130 = .ok (.ireturn, 1) := by decide +kernel
theorem dX11_ofFault_131 : decode cX11_ofFault 131 = .ok (.aload_n 3, 1) := by decide +kernel
theorem dX11_ofFault_132 : decode cX11_ofFault 132 = .ok (.getfield 248, 3) := by decide +kernel
theorem dX11_ofFault_135 : decode cX11_ofFault 135 = .ok (.ifCond .eq 7, 3) := by decide +kernel
theorem dX11_ofFault_138 : decode cX11_ofFault 138 = .ok (.iconst 1, 1) := by decide +kernel
theorem dX11_ofFault_139 : decode cX11_ofFault 139 = .ok (.goto 4, 3) := by decide +kernel
theorem dX11_ofFault_142 : decode cX11_ofFault 142 = .ok (.iconst 0, 1) := by decide +kernel
theorem dX11_ofFault_143 : decode cX11_ofFault 143 = .ok (.ireturn, 1) := by decide +kernel
theorem dX11_ofFault_144 : decode cX11_ofFault 144 = .ok (.aload_n 3, 1) := by decide +kernel
theorem dX11_ofFault_145 : decode cX11_ofFault 145 = .ok (.invokevirtual 251, 3) := by decide +kernel
theorem dX11_ofFault_148 : decode cX11_ofFault 148 = .ok (.ireturn, 1) := by decide +kernel
theorem dX11_ofFault_149 : decode cX11_ofFault 149 = .ok (.aload_n 3, 1) := by decide +kernel
theorem dX11_ofFault_150 : decode cX11_ofFault 150 = .ok (.aload_n 0, 1) := by decide +kernel
theorem dX11_ofFault_151 : decode cX11_ofFault 151 = .ok (.getfield 79, 3) := by decide +kernel
theorem dX11_ofFault_154 : decode cX11_ofFault 154 = .ok (.invokevirtual 254, 3) := by decide +kernel
theorem dX11_ofFault_157 : decode cX11_ofFault 157 = .ok (.ireturn, 1) := by decide +kernel
theorem dX11_ofFault_158 : decode cX11_ofFault 158 = .ok (.aload_n 3, 1) := by decide +kernel
theorem dX11_ofFault_159 : decode cX11_ofFault 159 = .ok (.getfield 257, 3) := by decide +kernel
theorem dX11_ofFault_162 : decode cX11_ofFault 162 = .ok (.ireturn, 1) := by decide +kernel
theorem dX11_ofFault_163 : decode cX11_ofFault 163 = .ok (.aload_n 3, 1) := by decide +kernel
theorem dX11_ofFault_164 : decode cX11_ofFault 164 = .ok (.getfield 187, 3) := by decide +kernel
theorem dX11_ofFault_167 : decode cX11_ofFault 167 = .ok (.iconst (-1), 1) := by decide +kernel
theorem dX11_ofFault_168 : decode cX11_ofFault 168 = .ok (.invokevirtual 260, 3) := by decide +kernel
theorem dX11_ofFault_171 : decode cX11_ofFault 171 = .ok (.ireturn, 1) := by decide +kernel
theorem dX11_ofFault_172 : decode cX11_ofFault 172 = .ok (.aload_n 3, 1) := by decide +kernel
theorem dX11_ofFault_173 : decode cX11_ofFault 173 = .ok (.getfield 187, 3) := by decide +kernel
theorem dX11_ofFault_176 : decode cX11_ofFault 176 = .ok (.iconst (-1), 1) := by decide +kernel
theorem dX11_ofFault_177 : decode cX11_ofFault 177 = .ok (.invokevirtual 263, 3) := by decide +kernel
theorem dX11_ofFault_180 : decode cX11_ofFault 180 = .ok (.ireturn, 1) := by decide +kernel
theorem dX11_ofFault_181 : decode cX11_ofFault 181 = .ok (.aload_n 3, 1) := by decide +kernel
theorem dX11_ofFault_182 : decode cX11_ofFault 182 = .ok (.invokevirtual 207, 3) := by decide +kernel
theorem dX11_ofFault_185 : decode cX11_ofFault 185 = .ok (.ireturn, 1) := by decide +kernel
theorem dX11_ofFault_186 : decode cX11_ofFault 186 = .ok (.iconst (-1), 1) := by decide +kernel
theorem dX11_ofFault_187 : decode cX11_ofFault 187 = .ok (.ireturn, 1) := by decide +kernel
theorem dX11_source_0 : decode cX11_source 0 = .ok (.aload_n 0, 1) := by decide +kernel
theorem dX11_source_1 : decode cX11_source 1 = .ok (.iload_n 1, 1) := by decide +kernel
theorem dX11_source_2 : decode cX11_source 2 = .ok (.invokevirtual 180, 3) := by decide +kernel
theorem dX11_source_5 : decode cX11_source 5 = .ok (.astore_n 3, 1) := by decide +kernel
theorem dX11_source_6 : decode cX11_source 6 = .ok (.aload_n 3, 1) := by decide +kernel
theorem dX11_source_7 : decode cX11_source 7 = .ok (.ifnull 18, 3) := by decide +kernel
theorem dX11_source_10 : decode cX11_source 10 = .ok (.iload_n 2, 1) := by decide +kernel
theorem dX11_source_11 : decode cX11_source 11 = .ok (.invokestatic 216, 3) := by decide +kernel
theorem dX11_source_14 : decode cX11_source 14 = .ok (.ifCond .eq 11, 3) := by decide +kernel
theorem dX11_source_17 : decode cX11_source 17 = .ok (.aload_n 3, 1) := by decide +kernel
theorem dX11_source_18 : decode cX11_source 18 = .ok (.getfield 238, 3) := by decide +kernel
theorem dX11_source_21 : decode cX11_source 21 = .ok (.iload_n 2, 1) := by decide +kernel
theorem dX11_source_22 : decode cX11_source 22 = .ok (.if_icmp .le 5, 3) := by decide +kernel
theorem dX11_source_25 : decode cX11_source 25 = .ok (.iconst (-1), 1) := by decide +kernel
theorem dX11_source_26 : decode cX11_source 26 = .ok (.ireturn, 1) := by decide +kernel
theorem dX11_source_27 : decode cX11_source 27 = .ok (.iconst 0, 1) := by decide +kernel
theorem dX11_source_28 : decode cX11_source 28 = .ok (.istore 4, 2) := by decide +kernel
theorem dX11_source_30 : decode cX11_source 30 = .ok (.iload 4, 2) := by decide +kernel
theorem dX11_source_32 : decode cX11_source 32 = .ok (.iconst 2, 1) := by decide +kernel
theorem dX11_source_33 : decode cX11_source 33 = .ok (.if_icmp .gt 41, 3) := by decide +kernel
theorem dX11_source_36 : decode cX11_source 36 = .ok (.aload_n 3, 1) := by decide +kernel
theorem dX11_source_37 : decode cX11_source 37 = .ok (.getfield 266, 3) := by decide +kernel
theorem dX11_source_40 : decode cX11_source 40 = .ok (.iconst 4, 1) := by decide +kernel
theorem dX11_source_41 : decode cX11_source 41 = .ok (.invokevirtual 270, 3) := by decide +kernel
theorem dX11_source_44 : decode cX11_source 44 = .ok (.ifCond .eq 30, 3) := by decide +kernel
theorem dX11_source_47 : decode cX11_source 47 = .ok (.aload_n 0, 1) := by decide +kernel
theorem dX11_source_48 : decode cX11_source 48 = .ok (.aload_n 3, 1) := by decide +kernel
theorem dX11_source_49 : decode cX11_source 49 = .ok (.iload_n 2, 1) := by decide +kernel
theorem dX11_source_50 : decode cX11_source 50 = .ok (.invokevirtual 273, 3) := by decide +kernel
theorem dX11_source_53 : decode cX11_source 53 = .ok (.astore 5, 2) := by decide +kernel
theorem dX11_source_55 : decode cX11_source 55 = .ok (.aload 5, 2) := by decide +kernel
theorem dX11_source_57 : decode cX11_source 57 = .ok (.ifnonnull 8, 3) := by decide +kernel
theorem dX11_source_60 : decode cX11_source 60 = .ok (.aload_n 3, 1) := by decide +kernel
theorem dX11_source_61 : decode cX11_source 61 = .ok (.getfield 277, 3) := by decide +kernel
theorem dX11_source_64 : decode cX11_source 64 = .ok (.ireturn, 1) := by decide +kernel
theorem dX11_source_65 : decode cX11_source 65 = .ok (.aload 5, 2) := by decide +kernel
theorem dX11_source_67 : decode cX11_source 67 = .ok (.astore_n 3, 1) := by decide +kernel
theorem dX11_source_68 : decode cX11_source 68 = .ok (.iinc 4 1, 3) := by decide +kernel
theorem dX11_source_71 : decode cX11_source 71 = .ok (.goto (-41), 3) := by decide +kernel
theorem dX11_source_74 : decode cX11_source 74 = .ok (.aload_n 3, 1) := by decide +kernel
theorem dX11_source_75 : decode cX11_source 75 = .ok (.getfield 277, 3) := by decide +kernel
theorem dX11_source_78 : decode cX11_source 78 = .ok (.ireturn, 1) := by decide +kernel
theorem dX11_damage_0 : decode cX11_damage 0 = .ok (.aload_n 0, 1) := by decide +kernel
theorem dX11_damage_1 : decode cX11_damage 1 = .ok (.iload_n 1, 1) := by decide +kernel
theorem dX11_damage_2 : decode cX11_damage 2 = .ok (.invokevirtual 180, 3) := by decide +kernel
theorem dX11_damage_5 : decode cX11_damage 5 = .ok (.astore_n 2, 1) := by decide +kernel
theorem dX11_damage_6 : decode cX11_damage 6 = .ok (.aload_n 2, 1) := by decide +kernel
theorem dX11_damage_7 : decode cX11_damage 7 = .ok (.ifnonnull 5, 3) := by decide +kernel
theorem dX11_damage_10 : decode cX11_damage 10 = .ok (.iconst (-1), 1) := by decide +kernel
theorem dX11_damage_11 : decode cX11_damage 11 = .ok (.ireturn, 1) := by decide +kernel
theorem dX11_damage_12 : decode cX11_damage 12 = .ok (.aload_n 0, 1) := by decide +kernel
theorem dX11_damage_13 : decode cX11_damage 13 = .ok (.aload_n 2, 1) := by decide +kernel
theorem dX11_damage_14 : decode cX11_damage 14 = .ok (.invokevirtual 280, 3) := by decide +kernel
theorem dX11_damage_17 : decode cX11_damage 17 = .ok (.astore_n 3, 1) := by decide +kernel
theorem dX11_damage_18 : decode cX11_damage 18 = .ok (.aload_n 3, 1) := by decide +kernel
theorem dX11_damage_19 : decode cX11_damage 19 = .ok (.ifnonnull 8, 3) := by decide +kernel
theorem dX11_damage_22 : decode cX11_damage 22 = .ok (.bipush (-4), 2) := by decide +kernel
theorem dX11_damage_24 : decode cX11_damage 24 = .ok (.goto 7, 3) := by decide +kernel
theorem dX11_damage_27 : decode cX11_damage 27 = .ok (.aload_n 3, 1) := by decide +kernel
theorem dX11_damage_28 : decode cX11_damage 28 = .ok (.getfield 277, 3) := by decide +kernel
theorem dX11_damage_31 : decode cX11_damage 31 = .ok (.ireturn, 1) := by decide +kernel
theorem dX11_rule_0 : decode cX11_rule 0 = .ok (.iconst (-1), 1) := by decide +kernel
theorem dX11_rule_1 : decode cX11_rule 1 = .ok (.istore_n 3, 1) := by decide +kernel
theorem dX11_rule_2 : decode cX11_rule 2 = .ok (.iload_n 1, 1) := by decide +kernel
theorem dX11_rule_3 : decode cX11_rule 3 = .ok (.ifCond .ne 25, 3) := by decide +kernel
theorem dX11_rule_6 : decode cX11_rule 6 = .ok (.iload_n 2, 1) := by decide +kernel
theorem dX11_rule_7 : decode cX11_rule 7 = .ok (.bipush 61, 2) := by decide +kernel
theorem dX11_rule_9 : decode cX11_rule 9 = .ok (.invokestatic 82, 3) := by decide +kernel
theorem dX11_rule_12 : decode cX11_rule 12 = .ok (.ifCond .eq 16, 3) := by decide +kernel
theorem dX11_rule_15 : decode cX11_rule 15 = .ok (.aload_n 0, 1) := by decide +kernel
theorem dX11_rule_16 : decode cX11_rule 16 = .ok (.getfield 27, 3) := by decide +kernel
theorem dX11_rule_19 : decode cX11_rule 19 = .ok (.istore_n 3, 1) := by decide +kernel
theorem dX11_rule_20 : decode cX11_rule 20 = .ok (.aload_n 0, 1) := by decide +kernel
theorem dX11_rule_21 : decode cX11_rule 21 = .ok (.iload_n 2, 1) := by decide +kernel
theorem dX11_rule_22 : decode cX11_rule 22 = .ok (.putfield 27, 3) := by decide +kernel
theorem dX11_rule_25 : decode cX11_rule 25 = .ok (.goto 28, 3) := by decide +kernel
theorem dX11_rule_28 : decode cX11_rule 28 = .ok (.iload_n 1, 1) := by decide +kernel
theorem dX11_rule_29 : decode cX11_rule 29 = .ok (.iconst 1, 1) := by decide +kernel
theorem dX11_rule_30 : decode cX11_rule 30 = .ok (.if_icmp .ne 23, 3) := by decide +kernel
theorem dX11_rule_33 : decode cX11_rule 33 = .ok (.iload_n 2, 1) := by decide +kernel
theorem dX11_rule_34 : decode cX11_rule 34 = .ok (.sipush 1000, 3) := by decide +kernel
theorem dX11_rule_37 : decode cX11_rule 37 = .ok (.invokestatic 82, 3) := by decide +kernel
theorem dX11_rule_40 : decode cX11_rule 40 = .ok (.ifCond .eq 13, 3) := by decide +kernel
theorem dX11_rule_43 : decode cX11_rule 43 = .ok (.aload_n 0, 1) := by decide +kernel
theorem dX11_rule_44 : decode cX11_rule 44 = .ok (.getfield 31, 3) := by decide +kernel
theorem dX11_rule_47 : decode cX11_rule 47 = .ok (.istore_n 3, 1) := by decide +kernel
theorem dX11_rule_48 : decode cX11_rule 48 = .ok (.aload_n 0, 1) := by decide +kernel
theorem dX11_rule_49 : decode cX11_rule 49 = .ok (.iload_n 2, 1) := by decide +kernel
theorem dX11_rule_50 : decode cX11_rule 50 = .ok (.putfield 31, 3) := by decide +kernel
theorem dX11_rule_53 : decode cX11_rule 53 = .ok (.iload_n 3, 1) := by decide +kernel
theorem dX11_rule_54 : decode cX11_rule 54 = .ok (.ireturn, 1) := by decide +kernel
theorem dX11_joined_0 : decode cX11_joined 0 = .ok (.aload_n 0, 1) := by decide +kernel
theorem dX11_joined_1 : decode cX11_joined 1 = .ok (.iload_n 1, 1) := by decide +kernel
theorem dX11_joined_2 : decode cX11_joined 2 = .ok (.invokevirtual 162, 3) := by decide +kernel
theorem dX11_joined_5 : decode cX11_joined 5 = .ok (.astore 5, 2) := by decide +kernel
theorem dX11_joined_7 : decode cX11_joined 7 = .ok (.aload 5, 2) := by decide +kernel
theorem dX11_joined_9 : decode cX11_joined 9 = .ok (.ifnull 26, 3) := by decide +kernel
theorem dX11_joined_12 : decode cX11_joined 12 = .ok (.iload_n 2, 1) := by decide +kernel
theorem dX11_joined_13 : decode cX11_joined 13 = .ok (.invokestatic 284, 3) := by decide +kernel
theorem dX11_joined_16 : decode cX11_joined 16 = .ok (.ifCond .eq 19, 3) := by decide +kernel
theorem dX11_joined_19 : decode cX11_joined 19 = .ok (.iload_n 3, 1) := by decide +kernel
theorem dX11_joined_20 : decode cX11_joined 20 = .ok (.invokestatic 216, 3) := by decide +kernel
theorem dX11_joined_23 : decode cX11_joined 23 = .ok (.ifCond .eq 12, 3) := by decide +kernel
theorem dX11_joined_26 : decode cX11_joined 26 = .ok (.iload 4, 2) := by decide +kernel
theorem dX11_joined_28 : decode cX11_joined 28 = .ok (.iconst 3, 1) := by decide +kernel
theorem dX11_joined_29 : decode cX11_joined 29 = .ok (.invokestatic 82, 3) := by decide +kernel
theorem dX11_joined_32 : decode cX11_joined 32 = .ok (.ifCond .ne 5, 3) := by decide +kernel
theorem dX11_joined_35 : decode cX11_joined 35 = .ok (.iconst (-1), 1) := by decide +kernel
theorem dX11_joined_36 : decode cX11_joined 36 = .ok (.ireturn, 1) := by decide +kernel
theorem dX11_joined_37 : decode cX11_joined 37 = .ok (.aload_n 0, 1) := by decide +kernel
theorem dX11_joined_38 : decode cX11_joined 38 = .ok (.aload 5, 2) := by decide +kernel
theorem dX11_joined_40 : decode cX11_joined 40 = .ok (.iload_n 3, 1) := by decide +kernel
theorem dX11_joined_41 : decode cX11_joined 41 = .ok (.invokevirtual 287, 3) := by decide +kernel
theorem dX11_joined_44 : decode cX11_joined 44 = .ok (.istore 6, 2) := by decide +kernel
theorem dX11_joined_46 : decode cX11_joined 46 = .ok (.iload 4, 2) := by decide +kernel
theorem dX11_joined_48 : decode cX11_joined 48 = .ok (.ifCond .ne 6, 3) := by decide +kernel
theorem dX11_joined_51 : decode cX11_joined 51 = .ok (.iload 6, 2) := by decide +kernel
theorem dX11_joined_53 : decode cX11_joined 53 = .ok (.ireturn, 1) := by decide +kernel
theorem dX11_joined_54 : decode cX11_joined 54 = .ok (.iload 4, 2) := by decide +kernel
theorem dX11_joined_56 : decode cX11_joined 56 = .ok (.iconst 1, 1) := by decide +kernel
theorem dX11_joined_57 : decode cX11_joined 57 = .ok (.if_icmp .ne 14, 3) := by decide +kernel
theorem dX11_joined_60 : decode cX11_joined 60 = .ok (.aload_n 0, 1) := by decide +kernel
theorem dX11_joined_61 : decode cX11_joined 61 = .ok (.aload 5, 2) := by decide +kernel
theorem dX11_joined_63 : decode cX11_joined 63 = .ok (.iload_n 2, 1) := by decide +kernel
theorem dX11_joined_64 : decode cX11_joined 64 = .ok (.iconst 1, 1) := by decide +kernel
theorem dX11_joined_65 : decode cX11_joined 65 = .ok (.invokevirtual 291, 3) := by decide +kernel
theorem dX11_joined_68 : decode cX11_joined 68 = .ok (.goto 11, 3) := by decide +kernel
theorem dX11_joined_71 : decode cX11_joined 71 = .ok (.aload_n 0, 1) := by decide +kernel
theorem dX11_joined_72 : decode cX11_joined 72 = .ok (.aload 5, 2) := by decide +kernel
theorem dX11_joined_74 : decode cX11_joined 74 = .ok (.iload_n 2, 1) := by decide +kernel
theorem dX11_joined_75 : decode cX11_joined 75 = .ok (.iconst 0, 1) := by decide +kernel
theorem dX11_joined_76 : decode cX11_joined 76 = .ok (.invokevirtual 291, 3) := by decide +kernel
theorem dX11_joined_79 : decode cX11_joined 79 = .ok (.ireturn, 1) := by decide +kernel
theorem dX11_chance_0 : decode cX11_chance 0 = .ok (.aload_n 0, 1) := by decide +kernel
theorem dX11_chance_1 : decode cX11_chance 1 = .ok (.iload_n 1, 1) := by decide +kernel
theorem dX11_chance_2 : decode cX11_chance 2 = .ok (.invokevirtual 162, 3) := by decide +kernel
theorem dX11_chance_5 : decode cX11_chance 5 = .ok (.astore 4, 2) := by decide +kernel
theorem dX11_chance_7 : decode cX11_chance 7 = .ok (.aload 4, 2) := by decide +kernel
theorem dX11_chance_9 : decode cX11_chance 9 = .ok (.ifnull 17, 3) := by decide +kernel
theorem dX11_chance_12 : decode cX11_chance 12 = .ok (.iload_n 2, 1) := by decide +kernel
theorem dX11_chance_13 : decode cX11_chance 13 = .ok (.invokestatic 284, 3) := by decide +kernel
theorem dX11_chance_16 : decode cX11_chance 16 = .ok (.ifCond .eq 10, 3) := by decide +kernel
theorem dX11_chance_19 : decode cX11_chance 19 = .ok (.iload_n 3, 1) := by decide +kernel
theorem dX11_chance_20 : decode cX11_chance 20 = .ok (.invokestatic 216, 3) := by decide +kernel
theorem dX11_chance_23 : decode cX11_chance 23 = .ok (.ifCond .ne 5, 3) := by decide +kernel
theorem dX11_chance_26 : decode cX11_chance 26 = .ok (.iconst (-1), 1) := by decide +kernel
theorem dX11_chance_27 : decode cX11_chance 27 = .ok (.ireturn, 1) := by decide +kernel
theorem dX11_chance_28 : decode cX11_chance 28 = .ok (.aload_n 0, 1) := by decide +kernel
theorem dX11_chance_29 : decode cX11_chance 29 = .ok (.aload 4, 2) := by decide +kernel
theorem dX11_chance_31 : decode cX11_chance 31 = .ok (.iload_n 3, 1) := by decide +kernel
theorem dX11_chance_32 : decode cX11_chance 32 = .ok (.invokevirtual 287, 3) := by decide +kernel
theorem dX11_chance_35 : decode cX11_chance 35 = .ok (.istore 5, 2) := by decide +kernel
theorem dX11_chance_37 : decode cX11_chance 37 = .ok (.aload_n 0, 1) := by decide +kernel
theorem dX11_chance_38 : decode cX11_chance 38 = .ok (.aload 4, 2) := by decide +kernel
theorem dX11_chance_40 : decode cX11_chance 40 = .ok (.iload_n 2, 1) := by decide +kernel
theorem dX11_chance_41 : decode cX11_chance 41 = .ok (.iload 5, 2) := by decide +kernel
theorem dX11_chance_43 : decode cX11_chance 43 = .ok (.invokevirtual 295, 3) := by decide +kernel
theorem dX11_chance_46 : decode cX11_chance 46 = .ok (.ireturn, 1) := by decide +kernel
theorem dX11_cause_0 : decode cX11_cause 0 = .ok (.aload_n 0, 1) := by decide +kernel
theorem dX11_cause_1 : decode cX11_cause 1 = .ok (.iload_n 1, 1) := by decide +kernel
theorem dX11_cause_2 : decode cX11_cause 2 = .ok (.invokevirtual 162, 3) := by decide +kernel
theorem dX11_cause_5 : decode cX11_cause 5 = .ok (.astore 4, 2) := by decide +kernel
theorem dX11_cause_7 : decode cX11_cause 7 = .ok (.aload 4, 2) := by decide +kernel
theorem dX11_cause_9 : decode cX11_cause 9 = .ok (.ifnull 22, 3) := by decide +kernel
theorem dX11_cause_12 : decode cX11_cause 12 = .ok (.iload_n 2, 1) := by decide +kernel
theorem dX11_cause_13 : decode cX11_cause 13 = .ok (.invokestatic 216, 3) := by decide +kernel
theorem dX11_cause_16 : decode cX11_cause 16 = .ok (.ifCond .eq 15, 3) := by decide +kernel
theorem dX11_cause_19 : decode cX11_cause 19 = .ok (.iload_n 3, 1) := by decide +kernel
theorem dX11_cause_20 : decode cX11_cause 20 = .ok (.iconst 1, 1) := by decide +kernel
theorem dX11_cause_21 : decode cX11_cause 21 = .ok (.if_icmp .lt 10, 3) := by decide +kernel
theorem dX11_cause_24 : decode cX11_cause 24 = .ok (.iload_n 3, 1) := by decide +kernel
theorem dX11_cause_25 : decode cX11_cause 25 = .ok (.sipush 9999, 3) := by decide +kernel
theorem dX11_cause_28 : decode cX11_cause 28 = .ok (.if_icmp .le 5, 3) := by decide +kernel
theorem dX11_cause_31 : decode cX11_cause 31 = .ok (.iconst (-1), 1) := by decide +kernel
theorem dX11_cause_32 : decode cX11_cause 32 = .ok (.ireturn, 1) := by decide +kernel
theorem dX11_cause_33 : decode cX11_cause 33 = .ok (.aload_n 0, 1) := by decide +kernel
theorem dX11_cause_34 : decode cX11_cause 34 = .ok (.aload 4, 2) := by decide +kernel
theorem dX11_cause_36 : decode cX11_cause 36 = .ok (.aload_n 0, 1) := by decide +kernel
theorem dX11_cause_37 : decode cX11_cause 37 = .ok (.aload 4, 2) := by decide +kernel
theorem dX11_cause_39 : decode cX11_cause 39 = .ok (.iload_n 2, 1) := by decide +kernel
theorem dX11_cause_40 : decode cX11_cause 40 = .ok (.invokevirtual 287, 3) := by decide +kernel
theorem dX11_cause_43 : decode cX11_cause 43 = .ok (.iload_n 3, 1) := by decide +kernel
theorem dX11_cause_44 : decode cX11_cause 44 = .ok (.invokevirtual 299, 3) := by decide +kernel
theorem dX11_cause_47 : decode cX11_cause 47 = .ok (.ireturn, 1) := by decide +kernel
theorem dX11_rivals_0 : decode cX11_rivals 0 = .ok (.aload_n 0, 1) := by decide +kernel
theorem dX11_rivals_1 : decode cX11_rivals 1 = .ok (.iload_n 1, 1) := by decide +kernel
theorem dX11_rivals_2 : decode cX11_rivals 2 = .ok (.invokevirtual 162, 3) := by decide +kernel
theorem dX11_rivals_5 : decode cX11_rivals 5 = .ok (.astore 4, 2) := by decide +kernel
theorem dX11_rivals_7 : decode cX11_rivals 7 = .ok (.aload 4, 2) := by decide +kernel
theorem dX11_rivals_9 : decode cX11_rivals 9 = .ok (.ifnull 22, 3) := by decide +kernel
theorem dX11_rivals_12 : decode cX11_rivals 12 = .ok (.iload_n 2, 1) := by decide +kernel
theorem dX11_rivals_13 : decode cX11_rivals 13 = .ok (.invokestatic 216, 3) := by decide +kernel
theorem dX11_rivals_16 : decode cX11_rivals 16 = .ok (.ifCond .eq 15, 3) := by decide +kernel
theorem dX11_rivals_19 : decode cX11_rivals 19 = .ok (.iload_n 3, 1) := by decide +kernel
theorem dX11_rivals_20 : decode cX11_rivals 20 = .ok (.iconst 1, 1) := by decide +kernel
theorem dX11_rivals_21 : decode cX11_rivals 21 = .ok (.if_icmp .lt 10, 3) := by decide +kernel
theorem dX11_rivals_24 : decode cX11_rivals 24 = .ok (.iload_n 3, 1) := by decide +kernel
theorem dX11_rivals_25 : decode cX11_rivals 25 = .ok (.sipush 9999, 3) := by decide +kernel
theorem dX11_rivals_28 : decode cX11_rivals 28 = .ok (.if_icmp .le 5, 3) := by decide +kernel
theorem dX11_rivals_31 : decode cX11_rivals 31 = .ok (.iconst (-1), 1) := by decide +kernel
theorem dX11_rivals_32 : decode cX11_rivals 32 = .ok (.ireturn, 1) := by decide +kernel
theorem dX11_rivals_33 : decode cX11_rivals 33 = .ok (.aload_n 0, 1) := by decide +kernel
theorem dX11_rivals_34 : decode cX11_rivals 34 = .ok (.aload 4, 2) := by decide +kernel
theorem dX11_rivals_36 : decode cX11_rivals 36 = .ok (.iload_n 2, 1) := by decide +kernel
theorem dX11_rivals_37 : decode cX11_rivals 37 = .ok (.invokevirtual 287, 3) := by decide +kernel
theorem dX11_rivals_40 : decode cX11_rivals 40 = .ok (.istore 5, 2) := by decide +kernel
theorem dX11_rivals_42 : decode cX11_rivals 42 = .ok (.aload_n 0, 1) := by decide +kernel
theorem dX11_rivals_43 : decode cX11_rivals 43 = .ok (.aload 4, 2) := by decide +kernel
theorem dX11_rivals_45 : decode cX11_rivals 45 = .ok (.iload 5, 2) := by decide +kernel
theorem dX11_rivals_47 : decode cX11_rivals 47 = .ok (.iload_n 3, 1) := by decide +kernel
theorem dX11_rivals_48 : decode cX11_rivals 48 = .ok (.invokevirtual 299, 3) := by decide +kernel
theorem dX11_rivals_51 : decode cX11_rivals 51 = .ok (.istore 6, 2) := by decide +kernel
theorem dX11_rivals_53 : decode cX11_rivals 53 = .ok (.iload 6, 2) := by decide +kernel
theorem dX11_rivals_55 : decode cX11_rivals 55 = .ok (.bipush (-4), 2) := by decide +kernel
theorem dX11_rivals_57 : decode cX11_rivals 57 = .ok (.if_icmp .ne 6, 3) := by decide +kernel
theorem dX11_rivals_60 : decode cX11_rivals 60 = .ok (.bipush (-4), 2) := by decide +kernel
theorem dX11_rivals_62 : decode cX11_rivals 62 = .ok (.ireturn, 1) := by decide +kernel
theorem dX11_rivals_63 : decode cX11_rivals 63 = .ok (.iconst 0, 1) := by decide +kernel
theorem dX11_rivals_64 : decode cX11_rivals 64 = .ok (.istore 7, 2) := by decide +kernel
theorem dX11_rivals_66 : decode cX11_rivals 66 = .ok (.iconst 0, 1) := by decide +kernel
theorem dX11_rivals_67 : decode cX11_rivals 67 = .ok (.istore 8, 2) := by decide +kernel
theorem dX11_rivals_69 : decode cX11_rivals 69 = .ok (.iload 8, 2) := by decide +kernel
theorem dX11_rivals_71 : decode cX11_rivals 71 = .ok (.bipush 30, 2) := by decide +kernel
theorem dX11_rivals_73 : decode cX11_rivals 73 = .ok (.if_icmp .gt 47, 3) := by decide +kernel
theorem dX11_rivals_76 : decode cX11_rivals 76 = .ok (.iload 8, 2) := by decide +kernel
theorem dX11_rivals_78 : decode cX11_rivals 78 = .ok (.invokestatic 284, 3) := by decide +kernel
theorem dX11_rivals_81 : decode cX11_rivals 81 = .ok (.ifCond .eq 33, 3) := by decide +kernel
theorem dX11_rivals_84 : decode cX11_rivals 84 = .ok (.aload_n 0, 1) := by decide +kernel
theorem dX11_rivals_85 : decode cX11_rivals 85 = .ok (.aload 4, 2) := by decide +kernel
theorem dX11_rivals_87 : decode cX11_rivals 87 = .ok (.iload 8, 2) := by decide +kernel
theorem dX11_rivals_89 : decode cX11_rivals 89 = .ok (.iload 5, 2) := by decide +kernel
theorem dX11_rivals_91 : decode cX11_rivals 91 = .ok (.invokevirtual 295, 3) := by decide +kernel
theorem dX11_rivals_94 : decode cX11_rivals 94 = .ok (.iload_n 3, 1) := by decide +kernel
theorem dX11_rivals_95 : decode cX11_rivals 95 = .ok (.if_icmp .ge 19, 3) := by decide +kernel
theorem dX11_rivals_98 : decode cX11_rivals 98 = .ok (.aload_n 0, 1) := by decide +kernel
theorem dX11_rivals_99 : decode cX11_rivals 99 = .ok (.aload 4, 2) := by decide +kernel
theorem dX11_rivals_101 : decode cX11_rivals 101 = .ok (.iload 8, 2) := by decide +kernel
theorem dX11_rivals_103 : decode cX11_rivals 103 = .ok (.iload 6, 2) := by decide +kernel
theorem dX11_rivals_105 : decode cX11_rivals 105 = .ok (.invokevirtual 302, 3) := by decide +kernel
theorem dX11_rivals_108 : decode cX11_rivals 108 = .ok (.ifCond .ne 6, 3) := by decide +kernel
theorem dX11_rivals_111 : decode cX11_rivals 111 = .ok (.iinc 7 1, 3) := by decide +kernel
theorem dX11_rivals_114 : decode cX11_rivals 114 = .ok (.iinc 8 1, 3) := by decide +kernel
theorem dX11_rivals_117 : decode cX11_rivals 117 = .ok (.goto (-48), 3) := by decide +kernel
theorem dX11_rivals_120 : decode cX11_rivals 120 = .ok (.iload 7, 2) := by decide +kernel
theorem dX11_rivals_122 : decode cX11_rivals 122 = .ok (.ireturn, 1) := by decide +kernel
theorem dX11_read_0 : decode cX11_read 0 = .ok (.aload_n 0, 1) := by decide +kernel
theorem dX11_read_1 : decode cX11_read 1 = .ok (.iload_n 1, 1) := by decide +kernel
theorem dX11_read_2 : decode cX11_read 2 = .ok (.invokevirtual 180, 3) := by decide +kernel
theorem dX11_read_5 : decode cX11_read 5 = .ok (.astore_n 3, 1) := by decide +kernel
theorem dX11_read_6 : decode cX11_read 6 = .ok (.aload_n 3, 1) := by decide +kernel
theorem dX11_read_7 : decode cX11_read 7 = .ok (.ifnull 20, 3) := by decide +kernel
theorem dX11_read_10 : decode cX11_read 10 = .ok (.aload_n 3, 1) := by decide +kernel
theorem dX11_read_11 : decode cX11_read 11 = .ok (.getfield 306, 3) := by decide +kernel
theorem dX11_read_14 : decode cX11_read 14 = .ok (.ifnull 13, 3) := by decide +kernel
theorem dX11_read_17 : decode cX11_read 17 = .ok (.iload_n 2, 1) := by decide +kernel
theorem dX11_read_18 : decode cX11_read 18 = .ok (.sipush 10000, 3) := by decide +kernel
theorem dX11_read_21 : decode cX11_read 21 = .ok (.invokestatic 82, 3) := by decide +kernel
theorem dX11_read_24 : decode cX11_read 24 = .ok (.ifCond .ne 5, 3) := by decide +kernel
theorem dX11_read_27 : decode cX11_read 27 = .ok (.iconst (-1), 1) := by decide +kernel
theorem dX11_read_28 : decode cX11_read 28 = .ok (.ireturn, 1) := by decide +kernel
theorem dX11_read_29 : decode cX11_read 29 = .ok (.aload_n 3, 1) := by decide +kernel
theorem dX11_read_30 : decode cX11_read 30 = .ok (.getfield 306, 3) := by decide +kernel
theorem dX11_read_33 : decode cX11_read 33 = .ok (.invokevirtual 310, 3) := by decide +kernel
theorem dX11_read_36 : decode cX11_read 36 = .ok (.aload_n 0, 1) := by decide +kernel
theorem dX11_read_37 : decode cX11_read 37 = .ok (.getfield 79, 3) := by decide +kernel
theorem dX11_read_40 : decode cX11_read 40 = .ok (.if_icmp .ne 6, 3) := by decide +kernel
theorem dX11_read_43 : decode cX11_read 43 = .ok (.bipush (-3), 2) := by decide +kernel
theorem dX11_read_45 : decode cX11_read 45 = .ok (.ireturn, 1) := by decide +kernel
theorem dX11_read_46 : decode cX11_read 46 = .ok (.aload_n 3, 1) := by decide +kernel
theorem dX11_read_47 : decode cX11_read 47 = .ok (.getfield 306, 3) := by decide +kernel
theorem dX11_read_50 : decode cX11_read 50 = .ok (.aload_n 0, 1) := by decide +kernel
theorem dX11_read_51 : decode cX11_read 51 = .ok (.getfield 79, 3) := by decide +kernel
theorem dX11_read_54 : decode cX11_read 54 = .ok (.iload_n 2, 1) := by decide +kernel
theorem dX11_read_55 : decode cX11_read 55 = .ok (.invokevirtual 315, 3) := by decide +kernel
theorem dX11_read_58 : decode cX11_read 58 = .ok (.ifCond .eq 13, 3) := by decide +kernel
theorem dX11_read_61 : decode cX11_read 61 = .ok (.aload_n 3, 1) := by decide +kernel
theorem dX11_read_62 : decode cX11_read 62 = .ok (.getfield 306, 3) := by decide +kernel
theorem dX11_read_65 : decode cX11_read 65 = .ok (.getfield 317, 3) := by decide +kernel
theorem dX11_read_68 : decode cX11_read 68 = .ok (.goto 5, 3) := by decide +kernel
theorem dX11_read_71 : decode cX11_read 71 = .ok (.bipush (-2), 2) := by decide +kernel
theorem dX11_read_73 : decode cX11_read 73 = .ok (.ireturn, 1) := by decide +kernel
theorem dX11_gauge_0 : decode cX11_gauge 0 = .ok (.aload_n 0, 1) := by decide +kernel
theorem dX11_gauge_1 : decode cX11_gauge 1 = .ok (.iload_n 1, 1) := by decide +kernel
theorem dX11_gauge_2 : decode cX11_gauge 2 = .ok (.invokevirtual 180, 3) := by decide +kernel
theorem dX11_gauge_5 : decode cX11_gauge 5 = .ok (.astore_n 3, 1) := by decide +kernel
theorem dX11_gauge_6 : decode cX11_gauge 6 = .ok (.aload_n 3, 1) := by decide +kernel
theorem dX11_gauge_7 : decode cX11_gauge 7 = .ok (.ifnull 17, 3) := by decide +kernel
theorem dX11_gauge_10 : decode cX11_gauge 10 = .ok (.aload_n 3, 1) := by decide +kernel
theorem dX11_gauge_11 : decode cX11_gauge 11 = .ok (.getfield 306, 3) := by decide +kernel
theorem dX11_gauge_14 : decode cX11_gauge 14 = .ok (.ifnull 10, 3) := by decide +kernel
theorem dX11_gauge_17 : decode cX11_gauge 17 = .ok (.iload_n 2, 1) := by decide +kernel
theorem dX11_gauge_18 : decode cX11_gauge 18 = .ok (.invokestatic 216, 3) := by decide +kernel
theorem dX11_gauge_21 : decode cX11_gauge 21 = .ok (.ifCond .ne 5, 3) := by decide +kernel
theorem dX11_gauge_24 : decode cX11_gauge 24 = .ok (.iconst (-1), 1) := by decide +kernel
theorem dX11_gauge_25 : decode cX11_gauge 25 = .ok (.ireturn, 1) := by decide +kernel
theorem dX11_gauge_26 : decode cX11_gauge 26 = .ok (.aload_n 3, 1) := by decide +kernel
theorem dX11_gauge_27 : decode cX11_gauge 27 = .ok (.getfield 306, 3) := by decide +kernel
theorem dX11_gauge_30 : decode cX11_gauge 30 = .ok (.iload_n 2, 1) := by decide +kernel
theorem dX11_gauge_31 : decode cX11_gauge 31 = .ok (.invokevirtual 320, 3) := by decide +kernel
theorem dX11_gauge_34 : decode cX11_gauge 34 = .ok (.ireturn, 1) := by decide +kernel
theorem dX11_pace_0 : decode cX11_pace 0 = .ok (.aload_n 0, 1) := by decide +kernel
theorem dX11_pace_1 : decode cX11_pace 1 = .ok (.iload_n 1, 1) := by decide +kernel
theorem dX11_pace_2 : decode cX11_pace 2 = .ok (.invokevirtual 180, 3) := by decide +kernel
theorem dX11_pace_5 : decode cX11_pace 5 = .ok (.astore_n 3, 1) := by decide +kernel
theorem dX11_pace_6 : decode cX11_pace 6 = .ok (.aload_n 3, 1) := by decide +kernel
theorem dX11_pace_7 : decode cX11_pace 7 = .ok (.ifnull 27, 3) := by decide +kernel
theorem dX11_pace_10 : decode cX11_pace 10 = .ok (.aload_n 3, 1) := by decide +kernel
theorem dX11_pace_11 : decode cX11_pace 11 = .ok (.getfield 306, 3) := by decide +kernel
theorem dX11_pace_14 : decode cX11_pace 14 = .ok (.ifnull 20, 3) := by decide +kernel
theorem dX11_pace_17 : decode cX11_pace 17 = .ok (.iload_n 2, 1) := by decide +kernel
theorem dX11_pace_18 : decode cX11_pace 18 = .ok (.ifCond .lt 16, 3) := by decide +kernel
theorem dX11_pace_21 : decode cX11_pace 21 = .ok (.iload_n 2, 1) := by decide +kernel
theorem dX11_pace_22 : decode cX11_pace 22 = .ok (.aload_n 3, 1) := by decide +kernel
theorem dX11_pace_23 : decode cX11_pace 23 = .ok (.getfield 306, 3) := by decide +kernel
theorem dX11_pace_26 : decode cX11_pace 26 = .ok (.getfield 317, 3) := by decide +kernel
theorem dX11_pace_29 : decode cX11_pace 29 = .ok (.iconst 1, 1) := by decide +kernel
theorem dX11_pace_30 : decode cX11_pace 30 = .ok (.isub, 1) := by decide +kernel
theorem dX11_pace_31 : decode cX11_pace 31 = .ok (.if_icmp .lt 6, 3) := by decide +kernel
theorem dX11_pace_34 : decode cX11_pace 34 = .ok (.ldc 117, 2) := by decide +kernel
theorem dX11_pace_36 : decode cX11_pace 36 = .ok (.ireturn, 1) := by decide +kernel
theorem dX11_pace_37 : decode cX11_pace 37 = .ok (.aload_n 3, 1) := by decide +kernel
theorem dX11_pace_38 : decode cX11_pace 38 = .ok (.getfield 306, 3) := by decide +kernel
theorem dX11_pace_41 : decode cX11_pace 41 = .ok (.iload_n 2, 1) := by decide +kernel
theorem dX11_pace_42 : decode cX11_pace 42 = .ok (.invokevirtual 323, 3) := by decide +kernel
theorem dX11_pace_45 : decode cX11_pace 45 = .ok (.ireturn, 1) := by decide +kernel
theorem dX11_sinking_0 : decode cX11_sinking 0 = .ok (.iload_n 1, 1) := by decide +kernel
theorem dX11_sinking_1 : decode cX11_sinking 1 = .ok (.bipush 8, 2) := by decide +kernel
theorem dX11_sinking_3 : decode cX11_sinking 3 = .ok (.invokestatic 82, 3) := by decide +kernel
theorem dX11_sinking_6 : decode cX11_sinking 6 = .ok (.ifCond .eq 11, 3) := by decide +kernel
theorem dX11_sinking_9 : decode cX11_sinking 9 = .ok (.iload_n 2, 1) := by decide +kernel
theorem dX11_sinking_10 : decode cX11_sinking 10 = .ok (.iconst 3, 1) := by decide +kernel
theorem dX11_sinking_11 : decode cX11_sinking 11 = .ok (.invokestatic 82, 3) := by decide +kernel
theorem dX11_sinking_14 : decode cX11_sinking 14 = .ok (.ifCond .ne 5, 3) := by decide +kernel
theorem dX11_sinking_17 : decode cX11_sinking 17 = .ok (.iconst (-1), 1) := by decide +kernel
theorem dX11_sinking_18 : decode cX11_sinking 18 = .ok (.ireturn, 1) := by decide +kernel
theorem dX11_sinking_19 : decode cX11_sinking 19 = .ok (.iconst 0, 1) := by decide +kernel
theorem dX11_sinking_20 : decode cX11_sinking 20 = .ok (.istore_n 3, 1) := by decide +kernel
theorem dX11_sinking_21 : decode cX11_sinking 21 = .ok (.iconst (-1), 1) := by decide +kernel
theorem dX11_sinking_22 : decode cX11_sinking 22 = .ok (.istore 4, 2) := by decide +kernel
theorem dX11_sinking_24 : decode cX11_sinking 24 = .ok (.iconst (-1), 1) := by decide +kernel
theorem dX11_sinking_25 : decode cX11_sinking 25 = .ok (.istore 5, 2) := by decide +kernel
theorem dX11_sinking_27 : decode cX11_sinking 27 = .ok (.iconst 0, 1) := by decide +kernel
theorem dX11_sinking_28 : decode cX11_sinking 28 = .ok (.istore 6, 2) := by decide +kernel
theorem dX11_sinking_30 : decode cX11_sinking 30 = .ok (.iload 6, 2) := by decide +kernel
theorem dX11_sinking_32 : decode cX11_sinking 32 = .ok (.aload_n 0, 1) := by decide +kernel
theorem dX11_sinking_33 : decode cX11_sinking 33 = .ok (.getfield 86, 3) := by decide +kernel
theorem dX11_sinking_36 : decode cX11_sinking 36 = .ok (.if_icmp .ge 75, 3) := by decide +kernel
theorem dX11_sinking_39 : decode cX11_sinking 39 = .ok (.aload_n 0, 1) := by decide +kernel
theorem dX11_sinking_40 : decode cX11_sinking 40 = .ok (.getfield 11, 3) := by decide +kernel
theorem dX11_sinking_43 : decode cX11_sinking 43 = .ok (.iload 6, 2) := by decide +kernel
theorem dX11_sinking_45 : decode cX11_sinking 45 = .ok (.aaload, 1) := by decide +kernel
theorem dX11_sinking_46 : decode cX11_sinking 46 = .ok (.astore 7, 2) := by decide +kernel
theorem dX11_sinking_48 : decode cX11_sinking 48 = .ok (.aload 7, 2) := by decide +kernel
theorem dX11_sinking_50 : decode cX11_sinking 50 = .ok (.getfield 125, 3) := by decide +kernel
theorem dX11_sinking_53 : decode cX11_sinking 53 = .ok (.iload_n 1, 1) := by decide +kernel
theorem dX11_sinking_54 : decode cX11_sinking 54 = .ok (.if_icmp .ne 51, 3) := by decide +kernel
theorem dX11_sinking_57 : decode cX11_sinking 57 = .ok (.aload_n 0, 1) := by decide +kernel
theorem dX11_sinking_58 : decode cX11_sinking 58 = .ok (.aload 7, 2) := by decide +kernel
theorem dX11_sinking_60 : decode cX11_sinking 60 = .ok (.invokevirtual 326, 3) := by decide +kernel
theorem dX11_sinking_63 : decode cX11_sinking 63 = .ok (.ifCond .eq 42, 3) := by decide +kernel
theorem dX11_sinking_66 : decode cX11_sinking 66 = .ok (.iload_n 3, 1) := by decide +kernel
theorem dX11_sinking_67 : decode cX11_sinking 67 = .ok (.ifCond .ne 11, 3) := by decide +kernel
theorem dX11_sinking_70 : decode cX11_sinking 70 = .ok (.aload 7, 2) := by decide +kernel
theorem dX11_sinking_72 : decode cX11_sinking 72 = .ok (.getfield 128, 3) := by decide +kernel
theorem dX11_sinking_75 : decode cX11_sinking 75 = .ok (.goto 13, 3) := by decide +kernel
theorem dX11_sinking_78 : decode cX11_sinking 78 = .ok (.iload 4, 2) := by decide +kernel
theorem dX11_sinking_80 : decode cX11_sinking 80 = .ok (.aload 7, 2) := by decide +kernel
theorem dX11_sinking_82 : decode cX11_sinking 82 = .ok (.getfield 128, 3) := by decide +kernel
theorem dX11_sinking_85 : decode cX11_sinking 85 = .ok (.invokestatic 330, 3) := by decide +kernel
theorem dX11_sinking_88 : decode cX11_sinking 88 = .ok (.istore 4, 2) := by decide +kernel
theorem dX11_sinking_90 : decode cX11_sinking 90 = .ok (.iload 5, 2) := by decide +kernel
theorem dX11_sinking_92 : decode cX11_sinking 92 = .ok (.aload 7, 2) := by decide +kernel
theorem dX11_sinking_94 : decode cX11_sinking 94 = .ok (.getfield 128, 3) := by decide +kernel
theorem dX11_sinking_97 : decode cX11_sinking 97 = .ok (.invokestatic 336, 3) := by decide +kernel
theorem dX11_sinking_100 : decode cX11_sinking 100 = .ok (.istore 5, 2) := by decide +kernel
theorem dX11_sinking_102 : decode cX11_sinking 102 = .ok (.iinc 3 1, 3) := by decide +kernel
theorem dX11_sinking_105 : decode cX11_sinking 105 = .ok (.iinc 6 1, 3) := by decide +kernel
theorem dX11_sinking_108 : decode cX11_sinking 108 = .ok (.goto (-78), 3) := by decide +kernel
theorem dX11_sinking_111 : decode cX11_sinking 111 = .ok (.iload_n 2, 1) := by decide +kernel
theorem dX11_sinking_112 : decode cX11_sinking 112 = .ok (.ifCond .ne 5, 3) := by decide +kernel
theorem dX11_sinking_115 : decode cX11_sinking 115 = .ok (.iload_n 3, 1) := by decide +kernel
theorem dX11_sinking_116 : decode cX11_sinking 116 = .ok (.ireturn, 1) := by decide +kernel
theorem dX11_sinking_117 : decode cX11_sinking 117 = .ok (.iload_n 2, 1) := by decide +kernel
theorem dX11_sinking_118 : decode cX11_sinking 118 = .ok (.iconst 1, 1) := by decide +kernel
theorem dX11_sinking_119 : decode cX11_sinking 119 = .ok (.if_icmp .ne 8, 3) := by decide +kernel
theorem dX11_sinking_122 : decode cX11_sinking 122 = .ok (.iload 4, 2) := by decide +kernel
theorem dX11_sinking_124 : decode cX11_sinking 124 = .ok (.goto 5, 3) := by decide +kernel
theorem dX11_sinking_127 : decode cX11_sinking 127 = .ok (.iload 5, 2) := by decide +kernel
theorem dX11_sinking_129 : decode cX11_sinking 129 = .ok (.ireturn, 1) := by decide +kernel
theorem dX11_men_0 : decode cX11_men 0 = .ok (.iload_n 1, 1) := by decide +kernel
theorem dX11_men_1 : decode cX11_men 1 = .ok (.bipush 10, 2) := by decide +kernel
theorem dX11_men_3 : decode cX11_men 3 = .ok (.invokestatic 82, 3) := by decide +kernel
theorem dX11_men_6 : decode cX11_men 6 = .ok (.ifCond .eq 12, 3) := by decide +kernel
theorem dX11_men_9 : decode cX11_men 9 = .ok (.iload_n 2, 1) := by decide +kernel
theorem dX11_men_10 : decode cX11_men 10 = .ok (.bipush 10, 2) := by decide +kernel
theorem dX11_men_12 : decode cX11_men 12 = .ok (.invokestatic 82, 3) := by decide +kernel
theorem dX11_men_15 : decode cX11_men 15 = .ok (.ifCond .ne 5, 3) := by decide +kernel
theorem dX11_men_18 : decode cX11_men 18 = .ok (.iconst (-1), 1) := by decide +kernel
theorem dX11_men_19 : decode cX11_men 19 = .ok (.ireturn, 1) := by decide +kernel
theorem dX11_men_20 : decode cX11_men 20 = .ok (.aload_n 0, 1) := by decide +kernel
theorem dX11_men_21 : decode cX11_men 21 = .ok (.getfield 68, 3) := by decide +kernel
theorem dX11_men_24 : decode cX11_men 24 = .ok (.getfield 339, 3) := by decide +kernel
theorem dX11_men_27 : decode cX11_men 27 = .ok (.iload_n 1, 1) := by decide +kernel
theorem dX11_men_28 : decode cX11_men 28 = .ok (.iaload, 1) := by decide +kernel
theorem dX11_men_29 : decode cX11_men 29 = .ok (.istore_n 3, 1) := by decide +kernel
theorem dX11_men_30 : decode cX11_men 30 = .ok (.aload_n 0, 1) := by decide +kernel
theorem dX11_men_31 : decode cX11_men 31 = .ok (.getfield 68, 3) := by decide +kernel
theorem dX11_men_34 : decode cX11_men 34 = .ok (.getfield 339, 3) := by decide +kernel
theorem dX11_men_37 : decode cX11_men 37 = .ok (.iload_n 1, 1) := by decide +kernel
theorem dX11_men_38 : decode cX11_men 38 = .ok (.iload_n 2, 1) := by decide +kernel
theorem dX11_men_39 : decode cX11_men 39 = .ok (.iastore, 1) := by decide +kernel
theorem dX11_men_40 : decode cX11_men 40 = .ok (.iload_n 3, 1) := by decide +kernel
theorem dX11_men_41 : decode cX11_men 41 = .ok (.ireturn, 1) := by decide +kernel
theorem dX11_job_0 : decode cX11_job 0 = .ok (.aload_n 0, 1) := by decide +kernel
theorem dX11_job_1 : decode cX11_job 1 = .ok (.iload_n 1, 1) := by decide +kernel
theorem dX11_job_2 : decode cX11_job 2 = .ok (.invokevirtual 180, 3) := by decide +kernel
theorem dX11_job_5 : decode cX11_job 5 = .ok (.astore_n 2, 1) := by decide +kernel
theorem dX11_job_6 : decode cX11_job 6 = .ok (.aload_n 2, 1) := by decide +kernel
theorem dX11_job_7 : decode cX11_job 7 = .ok (.ifnonnull 5, 3) := by decide +kernel
theorem dX11_job_10 : decode cX11_job 10 = .ok (.iconst (-1), 1) := by decide +kernel
theorem dX11_job_11 : decode cX11_job 11 = .ok (.ireturn, 1) := by decide +kernel
theorem dX11_job_12 : decode cX11_job 12 = .ok (.aload_n 2, 1) := by decide +kernel
theorem dX11_job_13 : decode cX11_job 13 = .ok (.getfield 187, 3) := by decide +kernel
theorem dX11_job_16 : decode cX11_job 16 = .ok (.invokevirtual 203, 3) := by decide +kernel
theorem dX11_job_19 : decode cX11_job 19 = .ok (.iconst 1, 1) := by decide +kernel
theorem dX11_job_20 : decode cX11_job 20 = .ok (.if_icmp .ne 14, 3) := by decide +kernel
theorem dX11_job_23 : decode cX11_job 23 = .ok (.aload_n 0, 1) := by decide +kernel
theorem dX11_job_24 : decode cX11_job 24 = .ok (.getfield 68, 3) := by decide +kernel
theorem dX11_job_27 : decode cX11_job 27 = .ok (.aload_n 2, 1) := by decide +kernel
theorem dX11_job_28 : decode cX11_job 28 = .ok (.invokevirtual 342, 3) := by decide +kernel
theorem dX11_job_31 : decode cX11_job 31 = .ok (.ifCond .eq 6, 3) := by decide +kernel
theorem dX11_job_34 : decode cX11_job 34 = .ok (.bipush (-3), 2) := by decide +kernel
theorem dX11_job_36 : decode cX11_job 36 = .ok (.ireturn, 1) := by decide +kernel
theorem dX11_job_37 : decode cX11_job 37 = .ok (.aload_n 0, 1) := by decide +kernel
theorem dX11_job_38 : decode cX11_job 38 = .ok (.getfield 68, 3) := by decide +kernel
theorem dX11_job_41 : decode cX11_job 41 = .ok (.aload_n 2, 1) := by decide +kernel
theorem dX11_job_42 : decode cX11_job 42 = .ok (.invokevirtual 344, 3) := by decide +kernel
theorem dX11_job_45 : decode cX11_job 45 = .ok (.ifCond .eq 13, 3) := by decide +kernel
theorem dX11_job_48 : decode cX11_job 48 = .ok (.aload_n 0, 1) := by decide +kernel
theorem dX11_job_49 : decode cX11_job 49 = .ok (.getfield 68, 3) := by decide +kernel
theorem dX11_job_52 : decode cX11_job 52 = .ok (.getfield 346, 3) := by decide +kernel
theorem dX11_job_55 : decode cX11_job 55 = .ok (.goto 5, 3) := by decide +kernel
theorem dX11_job_58 : decode cX11_job 58 = .ok (.bipush (-2), 2) := by decide +kernel
theorem dX11_job_60 : decode cX11_job 60 = .ok (.ireturn, 1) := by decide +kernel
theorem dX11_plan_0 : decode cX11_plan 0 = .ok (.iload_n 1, 1) := by decide +kernel
theorem dX11_plan_1 : decode cX11_plan 1 = .ok (.iconst 1, 1) := by decide +kernel
theorem dX11_plan_2 : decode cX11_plan 2 = .ok (.if_icmp .lt 9, 3) := by decide +kernel
theorem dX11_plan_5 : decode cX11_plan 5 = .ok (.iload_n 1, 1) := by decide +kernel
theorem dX11_plan_6 : decode cX11_plan 6 = .ok (.bipush 14, 2) := by decide +kernel
theorem dX11_plan_8 : decode cX11_plan 8 = .ok (.if_icmp .le 5, 3) := by decide +kernel
theorem dX11_plan_11 : decode cX11_plan 11 = .ok (.iconst (-1), 1) := by decide +kernel
theorem dX11_plan_12 : decode cX11_plan 12 = .ok (.ireturn, 1) := by decide +kernel
theorem dX11_plan_13 : decode cX11_plan 13 = .ok (.aload_n 0, 1) := by decide +kernel
theorem dX11_plan_14 : decode cX11_plan 14 = .ok (.getfield 68, 3) := by decide +kernel
theorem dX11_plan_17 : decode cX11_plan 17 = .ok (.getfield 346, 3) := by decide +kernel
theorem dX11_plan_20 : decode cX11_plan 20 = .ok (.ifCond .ne 6, 3) := by decide +kernel
theorem dX11_plan_23 : decode cX11_plan 23 = .ok (.bipush (-3), 2) := by decide +kernel
theorem dX11_plan_25 : decode cX11_plan 25 = .ok (.ireturn, 1) := by decide +kernel
theorem dX11_plan_26 : decode cX11_plan 26 = .ok (.aload_n 0, 1) := by decide +kernel
theorem dX11_plan_27 : decode cX11_plan 27 = .ok (.getfield 68, 3) := by decide +kernel
theorem dX11_plan_30 : decode cX11_plan 30 = .ok (.aload_n 0, 1) := by decide +kernel
theorem dX11_plan_31 : decode cX11_plan 31 = .ok (.getfield 79, 3) := by decide +kernel
theorem dX11_plan_34 : decode cX11_plan 34 = .ok (.iload_n 1, 1) := by decide +kernel
theorem dX11_plan_35 : decode cX11_plan 35 = .ok (.sipush 9999, 3) := by decide +kernel
theorem dX11_plan_38 : decode cX11_plan 38 = .ok (.aload_n 0, 1) := by decide +kernel
theorem dX11_plan_39 : decode cX11_plan 39 = .ok (.getfield 79, 3) := by decide +kernel
theorem dX11_plan_42 : decode cX11_plan 42 = .ok (.isub, 1) := by decide +kernel
theorem dX11_plan_43 : decode cX11_plan 43 = .ok (.iconst 1, 1) := by decide +kernel
theorem dX11_plan_44 : decode cX11_plan 44 = .ok (.iadd, 1) := by decide +kernel
theorem dX11_plan_45 : decode cX11_plan 45 = .ok (.invokestatic 330, 3) := by decide +kernel
theorem dX11_plan_48 : decode cX11_plan 48 = .ok (.invokevirtual 347, 3) := by decide +kernel
theorem dX11_plan_51 : decode cX11_plan 51 = .ok (.ireturn, 1) := by decide +kernel
theorem dX11_planned_0 : decode cX11_planned 0 = .ok (.iload_n 1, 1) := by decide +kernel
theorem dX11_planned_1 : decode cX11_planned 1 = .ok (.aload_n 0, 1) := by decide +kernel
theorem dX11_planned_2 : decode cX11_planned 2 = .ok (.getfield 68, 3) := by decide +kernel
theorem dX11_planned_5 : decode cX11_planned 5 = .ok (.getfield 350, 3) := by decide +kernel
theorem dX11_planned_8 : decode cX11_planned 8 = .ok (.invokestatic 82, 3) := by decide +kernel
theorem dX11_planned_11 : decode cX11_planned 11 = .ok (.ifCond .eq 15, 3) := by decide +kernel
theorem dX11_planned_14 : decode cX11_planned 14 = .ok (.aload_n 0, 1) := by decide +kernel
theorem dX11_planned_15 : decode cX11_planned 15 = .ok (.getfield 68, 3) := by decide +kernel
theorem dX11_planned_18 : decode cX11_planned 18 = .ok (.getfield 353, 3) := by decide +kernel
theorem dX11_planned_21 : decode cX11_planned 21 = .ok (.iload_n 1, 1) := by decide +kernel
theorem dX11_planned_22 : decode cX11_planned 22 = .ok (.iaload, 1) := by decide +kernel
theorem dX11_planned_23 : decode cX11_planned 23 = .ok (.goto 4, 3) := by decide +kernel
theorem dX11_planned_26 : decode cX11_planned 26 = .ok (.iconst (-1), 1) := by decide +kernel
theorem dX11_planned_27 : decode cX11_planned 27 = .ok (.ireturn, 1) := by decide +kernel
theorem dX11_feed_0 : decode cX11_feed 0 = .ok (.iload_n 1, 1) := by decide +kernel
theorem dX11_feed_1 : decode cX11_feed 1 = .ok (.iconst 1, 1) := by decide +kernel
theorem dX11_feed_2 : decode cX11_feed 2 = .ok (.if_icmp .lt 8, 3) := by decide +kernel
theorem dX11_feed_5 : decode cX11_feed 5 = .ok (.iload_n 1, 1) := by decide +kernel
theorem dX11_feed_6 : decode cX11_feed 6 = .ok (.iconst 4, 1) := by decide +kernel
theorem dX11_feed_7 : decode cX11_feed 7 = .ok (.if_icmp .le 5, 3) := by decide +kernel
theorem dX11_feed_10 : decode cX11_feed 10 = .ok (.iconst (-1), 1) := by decide +kernel
theorem dX11_feed_11 : decode cX11_feed 11 = .ok (.ireturn, 1) := by decide +kernel
theorem dX11_feed_12 : decode cX11_feed 12 = .ok (.aload_n 0, 1) := by decide +kernel
theorem dX11_feed_13 : decode cX11_feed 13 = .ok (.getfield 356, 3) := by decide +kernel
theorem dX11_feed_16 : decode cX11_feed 16 = .ok (.iload_n 1, 1) := by decide +kernel
theorem dX11_feed_17 : decode cX11_feed 17 = .ok (.iadd, 1) := by decide +kernel
theorem dX11_feed_18 : decode cX11_feed 18 = .ok (.sipush 160, 3) := by decide +kernel
theorem dX11_feed_21 : decode cX11_feed 21 = .ok (.if_icmp .le 6, 3) := by decide +kernel
theorem dX11_feed_24 : decode cX11_feed 24 = .ok (.bipush (-2), 2) := by decide +kernel
theorem dX11_feed_26 : decode cX11_feed 26 = .ok (.ireturn, 1) := by decide +kernel
theorem dX11_feed_27 : decode cX11_feed 27 = .ok (.iconst 0, 1) := by decide +kernel
theorem dX11_feed_28 : decode cX11_feed 28 = .ok (.istore_n 3, 1) := by decide +kernel
theorem dX11_feed_29 : decode cX11_feed 29 = .ok (.iload_n 3, 1) := by decide +kernel
theorem dX11_feed_30 : decode cX11_feed 30 = .ok (.iload_n 1, 1) := by decide +kernel
theorem dX11_feed_31 : decode cX11_feed 31 = .ok (.if_icmp .ge 38, 3) := by decide +kernel
theorem dX11_feed_34 : decode cX11_feed 34 = .ok (.aload_n 0, 1) := by decide +kernel
theorem dX11_feed_35 : decode cX11_feed 35 = .ok (.getfield 37, 3) := by decide +kernel
theorem dX11_feed_38 : decode cX11_feed 38 = .ok (.aload_n 0, 1) := by decide +kernel
theorem dX11_feed_39 : decode cX11_feed 39 = .ok (.getfield 356, 3) := by decide +kernel
theorem dX11_feed_42 : decode cX11_feed 42 = .ok (.iload_n 2, 1) := by decide +kernel
theorem dX11_feed_43 : decode cX11_feed 43 = .ok (.bipush 8, 2) := by decide +kernel
theorem dX11_feed_45 : decode cX11_feed 45 = .ok (.iload_n 3, 1) := by decide +kernel
theorem dX11_feed_46 : decode cX11_feed 46 = .ok (.imul, 1) := by decide +kernel
theorem dX11_feed_47 : decode cX11_feed 47 = .ok (.iushr, 1) := by decide +kernel
theorem dX11_feed_48 : decode cX11_feed 48 = .ok (.sipush 255, 3) := by decide +kernel
theorem dX11_feed_51 : decode cX11_feed 51 = .ok (.iand, 1) := by decide +kernel
theorem dX11_feed_52 : decode cX11_feed 52 = .ok (.iastore, 1) := by decide +kernel
theorem dX11_feed_53 : decode cX11_feed 53 = .ok (.aload_n 0, 1) := by decide +kernel
theorem dX11_feed_54 : decode cX11_feed 54 = .ok (.dup, 1) := by decide +kernel
theorem dX11_feed_55 : decode cX11_feed 55 = .ok (.getfield 356, 3) := by decide +kernel
theorem dX11_feed_58 : decode cX11_feed 58 = .ok (.iconst 1, 1) := by decide +kernel
theorem dX11_feed_59 : decode cX11_feed 59 = .ok (.iadd, 1) := by decide +kernel
theorem dX11_feed_60 : decode cX11_feed 60 = .ok (.putfield 356, 3) := by decide +kernel
theorem dX11_feed_63 : decode cX11_feed 63 = .ok (.iinc 3 1, 3) := by decide +kernel
theorem dX11_feed_66 : decode cX11_feed 66 = .ok (.goto (-37), 3) := by decide +kernel
theorem dX11_feed_69 : decode cX11_feed 69 = .ok (.aload_n 0, 1) := by decide +kernel
theorem dX11_feed_70 : decode cX11_feed 70 = .ok (.getfield 356, 3) := by decide +kernel
theorem dX11_feed_73 : decode cX11_feed 73 = .ok (.ireturn, 1) := by decide +kernel
theorem dX11_text_0 : decode cX11_text 0 = .ok (.iload_n 1, 1) := by decide +kernel
theorem dX11_text_1 : decode cX11_text 1 = .ok (.iconst 2, 1) := by decide +kernel
theorem dX11_text_2 : decode cX11_text 2 = .ok (.invokestatic 82, 3) := by decide +kernel
theorem dX11_text_5 : decode cX11_text 5 = .ok (.ifCond .eq 10, 3) := by decide +kernel
theorem dX11_text_8 : decode cX11_text 8 = .ok (.iload_n 2, 1) := by decide +kernel
theorem dX11_text_9 : decode cX11_text 9 = .ok (.invokestatic 216, 3) := by decide +kernel
theorem dX11_text_12 : decode cX11_text 12 = .ok (.ifCond .ne 5, 3) := by decide +kernel
theorem dX11_text_15 : decode cX11_text 15 = .ok (.iconst (-1), 1) := by decide +kernel
theorem dX11_text_16 : decode cX11_text 16 = .ok (.ireturn, 1) := by decide +kernel
theorem dX11_text_17 : decode cX11_text 17 = .ok (.iload_n 1, 1) := by decide +kernel
theorem dX11_text_18 : decode cX11_text 18 = .ok (.ifCond .ne 10, 3) := by decide +kernel
theorem dX11_text_21 : decode cX11_text 21 = .ok (.aload_n 0, 1) := by decide +kernel
theorem dX11_text_22 : decode cX11_text 22 = .ok (.getfield 44, 3) := by decide +kernel
theorem dX11_text_25 : decode cX11_text 25 = .ok (.goto 7, 3) := by decide +kernel
theorem dX11_text_28 : decode cX11_text 28 = .ok (.aload_n 0, 1) := by decide +kernel
theorem dX11_text_29 : decode cX11_text 29 = .ok (.getfield 48, 3) := by decide +kernel
theorem dX11_text_32 : decode cX11_text 32 = .ok (.astore_n 3, 1) := by decide +kernel
theorem dX11_text_33 : decode cX11_text 33 = .ok (.aload_n 3, 1) := by decide +kernel
theorem dX11_text_34 : decode cX11_text 34 = .ok (.invokevirtual 359, 3) := by decide +kernel
theorem dX11_text_37 : decode cX11_text 37 = .ok (.ifCond .eq 6, 3) := by decide +kernel
theorem dX11_text_40 : decode cX11_text 40 = .ok (.bipush (-2), 2) := by decide +kernel
theorem dX11_text_42 : decode cX11_text 42 = .ok (.ireturn, 1) := by decide +kernel
theorem dX11_text_43 : decode cX11_text 43 = .ok (.aload_n 0, 1) := by decide +kernel
theorem dX11_text_44 : decode cX11_text 44 = .ok (.getfield 356, 3) := by decide +kernel
theorem dX11_text_47 : decode cX11_text 47 = .ok (.istore 4, 2) := by decide +kernel
theorem dX11_text_49 : decode cX11_text 49 = .ok (.aload_n 0, 1) := by decide +kernel
theorem dX11_text_50 : decode cX11_text 50 = .ok (.iconst 0, 1) := by decide +kernel
theorem dX11_text_51 : decode cX11_text 51 = .ok (.putfield 356, 3) := by decide +kernel
theorem dX11_text_54 : decode cX11_text 54 = .ok (.iload_n 1, 1) := by decide +kernel
theorem dX11_text_55 : decode cX11_text 55 = .ok (.ifCond .ne 15, 3) := by decide +kernel
theorem dX11_text_58 : decode cX11_text 58 = .ok (.aload_n 0, 1) := by decide +kernel
theorem dX11_text_59 : decode cX11_text 59 = .ok (.getfield 37, 3) := by decide +kernel
theorem dX11_text_62 : decode cX11_text 62 = .ok (.iload 4, 2) := by decide +kernel
theorem dX11_text_64 : decode cX11_text 64 = .ok (.invokestatic 360, 3) := by decide +kernel
theorem dX11_text_67 : decode cX11_text 67 = .ok (.goto 12, 3) := by decide +kernel
theorem dX11_text_70 : decode cX11_text 70 = .ok (.aload_n 0, 1) := by decide +kernel
theorem dX11_text_71 : decode cX11_text 71 = .ok (.getfield 37, 3) := by decide +kernel
theorem dX11_text_74 : decode cX11_text 74 = .ok (.iload 4, 2) := by decide +kernel
theorem dX11_text_76 : decode cX11_text 76 = .ok (.invokestatic 364, 3) := by decide +kernel
theorem dX11_text_79 : decode cX11_text 79 = .ok (.istore 5, 2) := by decide +kernel
theorem dX11_text_81 : decode cX11_text 81 = .ok (.iload 5, 2) := by decide +kernel
theorem dX11_text_83 : decode cX11_text 83 = .ok (.iconst (-1), 1) := by decide +kernel
theorem dX11_text_84 : decode cX11_text 84 = .ok (.if_icmp .eq 9, 3) := by decide +kernel
theorem dX11_text_87 : decode cX11_text 87 = .ok (.bipush (-100), 2) := by decide +kernel
theorem dX11_text_89 : decode cX11_text 89 = .ok (.iload 5, 2) := by decide +kernel
theorem dX11_text_91 : decode cX11_text 91 = .ok (.isub, 1) := by decide +kernel
theorem dX11_text_92 : decode cX11_text 92 = .ok (.ireturn, 1) := by decide +kernel
theorem dX11_text_93 : decode cX11_text 93 = .ok (.aload_n 3, 1) := by decide +kernel
theorem dX11_text_94 : decode cX11_text 94 = .ok (.new 365, 3) := by decide +kernel
theorem dX11_text_97 : decode cX11_text 97 = .ok (.dup, 1) := by decide +kernel
theorem dX11_text_98 : decode cX11_text 98 = .ok (.aload_n 0, 1) := by decide +kernel
theorem dX11_text_99 : decode cX11_text 99 = .ok (.getfield 37, 3) := by decide +kernel
theorem dX11_text_102 : decode cX11_text 102 = .ok (.iload 4, 2) := by decide +kernel
theorem dX11_text_104 : decode cX11_text 104 = .ok (.invokestatic 367, 3) := by decide +kernel
theorem dX11_text_107 : decode cX11_text 107 = .ok (.aload_n 0, 1) := by decide +kernel
theorem dX11_text_108 : decode cX11_text 108 = .ok (.getfield 79, 3) := by decide +kernel
theorem dX11_text_111 : decode cX11_text 111 = .ok (.iload_n 2, 1) := by decide +kernel
theorem dX11_text_112 : decode cX11_text 112 = .ok (.invokespecial 373, 3) := by decide +kernel
theorem dX11_text_115 : decode cX11_text 115 = .ok (.invokevirtual 376, 3) := by decide +kernel
theorem dX11_text_118 : decode cX11_text 118 = .ok (.ireturn, 1) := by decide +kernel
theorem dX11_inForce_0 : decode cX11_inForce 0 = .ok (.aload_n 0, 1) := by decide +kernel
theorem dX11_inForce_1 : decode cX11_inForce 1 = .ok (.iload_n 2, 1) := by decide +kernel
theorem dX11_inForce_2 : decode cX11_inForce 2 = .ok (.invokevirtual 92, 3) := by decide +kernel
theorem dX11_inForce_5 : decode cX11_inForce 5 = .ok (.astore 4, 2) := by decide +kernel
theorem dX11_inForce_7 : decode cX11_inForce 7 = .ok (.iload_n 1, 1) := by decide +kernel
theorem dX11_inForce_8 : decode cX11_inForce 8 = .ok (.iconst 2, 1) := by decide +kernel
theorem dX11_inForce_9 : decode cX11_inForce 9 = .ok (.invokestatic 82, 3) := by decide +kernel
theorem dX11_inForce_12 : decode cX11_inForce 12 = .ok (.ifCond .eq 23, 3) := by decide +kernel
theorem dX11_inForce_15 : decode cX11_inForce 15 = .ok (.aload 4, 2) := by decide +kernel
theorem dX11_inForce_17 : decode cX11_inForce 17 = .ok (.ifnull 18, 3) := by decide +kernel
theorem dX11_inForce_20 : decode cX11_inForce 20 = .ok (.iload_n 3, 1) := by decide +kernel
theorem dX11_inForce_21 : decode cX11_inForce 21 = .ok (.invokestatic 216, 3) := by decide +kernel
theorem dX11_inForce_24 : decode cX11_inForce 24 = .ok (.ifCond .eq 11, 3) := by decide +kernel
theorem dX11_inForce_27 : decode cX11_inForce 27 = .ok (.aload 4, 2) := by decide +kernel
theorem dX11_inForce_29 : decode cX11_inForce 29 = .ok (.invokevirtual 97, 3) := by decide +kernel
theorem dX11_inForce_32 : decode cX11_inForce 32 = .ok (.ifCond .ne 5, 3) := by decide +kernel
theorem dX11_inForce_35 : decode cX11_inForce 35 = .ok (.iconst (-1), 1) := by decide +kernel
theorem dX11_inForce_36 : decode cX11_inForce 36 = .ok (.ireturn, 1) := by decide +kernel
theorem dX11_inForce_37 : decode cX11_inForce 37 = .ok (.iload_n 1, 1) := by decide +kernel
theorem dX11_inForce_38 : decode cX11_inForce 38 = .ok (.ifCond .ne 16, 3) := by decide +kernel
theorem dX11_inForce_41 : decode cX11_inForce 41 = .ok (.aload_n 0, 1) := by decide +kernel
theorem dX11_inForce_42 : decode cX11_inForce 42 = .ok (.getfield 44, 3) := by decide +kernel
theorem dX11_inForce_45 : decode cX11_inForce 45 = .ok (.aload 4, 2) := by decide +kernel
theorem dX11_inForce_47 : decode cX11_inForce 47 = .ok (.iload_n 3, 1) := by decide +kernel
theorem dX11_inForce_48 : decode cX11_inForce 48 = .ok (.invokevirtual 379, 3) := by decide +kernel
theorem dX11_inForce_51 : decode cX11_inForce 51 = .ok (.goto 13, 3) := by decide +kernel
theorem dX11_inForce_54 : decode cX11_inForce 54 = .ok (.aload_n 0, 1) := by decide +kernel
theorem dX11_inForce_55 : decode cX11_inForce 55 = .ok (.getfield 48, 3) := by decide +kernel
theorem dX11_inForce_58 : decode cX11_inForce 58 = .ok (.aload 4, 2) := by decide +kernel
theorem dX11_inForce_60 : decode cX11_inForce 60 = .ok (.iload_n 3, 1) := by decide +kernel
theorem dX11_inForce_61 : decode cX11_inForce 61 = .ok (.invokevirtual 379, 3) := by decide +kernel
theorem dX11_inForce_64 : decode cX11_inForce 64 = .ok (.ireturn, 1) := by decide +kernel
theorem dX11_judge_0 : decode cX11_judge 0 = .ok (.aload_n 0, 1) := by decide +kernel
theorem dX11_judge_1 : decode cX11_judge 1 = .ok (.iload_n 1, 1) := by decide +kernel
theorem dX11_judge_2 : decode cX11_judge 2 = .ok (.invokevirtual 180, 3) := by decide +kernel
theorem dX11_judge_5 : decode cX11_judge 5 = .ok (.astore_n 3, 1) := by decide +kernel
theorem dX11_judge_6 : decode cX11_judge 6 = .ok (.aload_n 3, 1) := by decide +kernel
theorem dX11_judge_7 : decode cX11_judge 7 = .ok (.ifnull 11, 3) := by decide +kernel
theorem dX11_judge_10 : decode cX11_judge 10 = .ok (.iload_n 2, 1) := by decide +kernel
theorem dX11_judge_11 : decode cX11_judge 11 = .ok (.iconst 4, 1) := by decide +kernel
theorem dX11_judge_12 : decode cX11_judge 12 = .ok (.invokestatic 82, 3) := by decide +kernel
theorem dX11_judge_15 : decode cX11_judge 15 = .ok (.ifCond .ne 5, 3) := by decide +kernel
theorem dX11_judge_18 : decode cX11_judge 18 = .ok (.iconst (-1), 1) := by decide +kernel
theorem dX11_judge_19 : decode cX11_judge 19 = .ok (.ireturn, 1) := by decide +kernel
theorem dX11_judge_20 : decode cX11_judge 20 = .ok (.aload_n 0, 1) := by decide +kernel
theorem dX11_judge_21 : decode cX11_judge 21 = .ok (.aload_n 3, 1) := by decide +kernel
theorem dX11_judge_22 : decode cX11_judge 22 = .ok (.invokevirtual 383, 3) := by decide +kernel
theorem dX11_judge_25 : decode cX11_judge 25 = .ok (.iload_n 2, 1) := by decide +kernel
theorem dX11_judge_26 : decode cX11_judge 26 = .ok (.tableswitch 50 0 2 #[26, 34, 42], 26) := by decide +kernel
theorem dX11_judge_52 : decode cX11_judge 52 = .ok (.aload_n 0, 1) := by decide +kernel
theorem dX11_judge_53 : decode cX11_judge 53 = .ok (.getfield 54, 3) := by decide +kernel
theorem dX11_judge_56 : decode cX11_judge 56 = .ok (.getfield 387, 3) := by decide +kernel
theorem dX11_judge_59 : decode cX11_judge 59 = .ok (.ireturn, 1) := by decide +kernel
theorem dX11_judge_60 : decode cX11_judge 60 = .ok (.aload_n 0, 1) := by decide +kernel
theorem dX11_judge_61 : decode cX11_judge 61 = .ok (.getfield 54, 3) := by decide +kernel
theorem dX11_judge_64 : decode cX11_judge 64 = .ok (.getfield 390, 3) := by decide +kernel
theorem dX11_judge_67 : decode cX11_judge 67 = .ok (.ireturn, 1) := by decide +kernel
theorem dX11_judge_68 : decode cX11_judge 68 = .ok (.aload_n 0, 1) := by decide +kernel
theorem dX11_judge_69 : decode cX11_judge 69 = .ok (.getfield 54, 3) := by decide +kernel
theorem dX11_judge_72 : decode cX11_judge 72 = .ok (.getfield 393, 3) := by decide +kernel
theorem dX11_judge_75 : decode cX11_judge 75 = .ok (.ireturn, 1) := by decide +kernel
theorem dX11_judge_76 : decode cX11_judge 76 = .ok (.aload_n 0, 1) := by decide +kernel
theorem dX11_judge_77 : decode cX11_judge 77 = .ok (.getfield 54, 3) := by decide +kernel
theorem dX11_judge_80 : decode cX11_judge 80 = .ok (.getfield 396, 3) := by decide +kernel
theorem dX11_judge_83 : decode cX11_judge 83 = .ok (.ireturn, 1) := by decide +kernel
theorem dX11_free_0 : decode cX11_free 0 = .ok (.aload_n 0, 1) := by decide +kernel
theorem dX11_free_1 : decode cX11_free 1 = .ok (.iload_n 1, 1) := by decide +kernel
theorem dX11_free_2 : decode cX11_free 2 = .ok (.invokevirtual 92, 3) := by decide +kernel
theorem dX11_free_5 : decode cX11_free 5 = .ok (.astore_n 2, 1) := by decide +kernel
theorem dX11_free_6 : decode cX11_free 6 = .ok (.aload_n 2, 1) := by decide +kernel
theorem dX11_free_7 : decode cX11_free 7 = .ok (.ifnonnull 5, 3) := by decide +kernel
theorem dX11_free_10 : decode cX11_free 10 = .ok (.iconst (-1), 1) := by decide +kernel
theorem dX11_free_11 : decode cX11_free 11 = .ok (.ireturn, 1) := by decide +kernel
theorem dX11_free_12 : decode cX11_free 12 = .ok (.aload_n 2, 1) := by decide +kernel
theorem dX11_free_13 : decode cX11_free 13 = .ok (.invokevirtual 97, 3) := by decide +kernel
theorem dX11_free_16 : decode cX11_free 16 = .ok (.ifCond .ne 6, 3) := by decide +kernel
theorem dX11_free_19 : decode cX11_free 19 = .ok (.bipush (-3), 2) := by decide +kernel
theorem dX11_free_21 : decode cX11_free 21 = .ok (.ireturn, 1) := by decide +kernel
theorem dX11_free_22 : decode cX11_free 22 = .ok (.aload_n 0, 1) := by decide +kernel
theorem dX11_free_23 : decode cX11_free 23 = .ok (.getfield 48, 3) := by decide +kernel
theorem dX11_free_26 : decode cX11_free 26 = .ok (.aload_n 0, 1) := by decide +kernel
theorem dX11_free_27 : decode cX11_free 27 = .ok (.getfield 48, 3) := by decide +kernel
theorem dX11_free_30 : decode cX11_free 30 = .ok (.aload_n 2, 1) := by decide +kernel
theorem dX11_free_31 : decode cX11_free 31 = .ok (.aload_n 0, 1) := by decide +kernel
theorem dX11_free_32 : decode cX11_free 32 = .ok (.getfield 79, 3) := by decide +kernel
theorem dX11_free_35 : decode cX11_free 35 = .ok (.invokevirtual 379, 3) := by decide +kernel
theorem dX11_free_38 : decode cX11_free 38 = .ok (.invokevirtual 399, 3) := by decide +kernel
theorem dX11_free_41 : decode cX11_free 41 = .ok (.astore_n 3, 1) := by decide +kernel
theorem dX11_free_42 : decode cX11_free 42 = .ok (.iconst 0, 1) := by decide +kernel
theorem dX11_free_43 : decode cX11_free 43 = .ok (.istore 4, 2) := by decide +kernel
theorem dX11_free_45 : decode cX11_free 45 = .ok (.aload_n 3, 1) := by decide +kernel
theorem dX11_free_46 : decode cX11_free 46 = .ok (.ifnull 48, 3) := by decide +kernel
theorem dX11_free_49 : decode cX11_free 49 = .ok (.aload_n 0, 1) := by decide +kernel
theorem dX11_free_50 : decode cX11_free 50 = .ok (.getfield 61, 3) := by decide +kernel
theorem dX11_free_53 : decode cX11_free 53 = .ok (.aload_n 0, 1) := by decide +kernel
theorem dX11_free_54 : decode cX11_free 54 = .ok (.aload_n 2, 1) := by decide +kernel
theorem dX11_free_55 : decode cX11_free 55 = .ok (.invokevirtual 141, 3) := by decide +kernel
theorem dX11_free_58 : decode cX11_free 58 = .ok (.aload_n 0, 1) := by decide +kernel
theorem dX11_free_59 : decode cX11_free 59 = .ok (.getfield 79, 3) := by decide +kernel
theorem dX11_free_62 : decode cX11_free 62 = .ok (.aload_n 2, 1) := by decide +kernel
theorem dX11_free_63 : decode cX11_free 63 = .ok (.getfield 101, 3) := by decide +kernel
theorem dX11_free_66 : decode cX11_free 66 = .ok (.isub, 1) := by decide +kernel
theorem dX11_free_67 : decode cX11_free 67 = .ok (.aload_n 0, 1) := by decide +kernel
theorem dX11_free_68 : decode cX11_free 68 = .ok (.aload_n 2, 1) := by decide +kernel
theorem dX11_free_69 : decode cX11_free 69 = .ok (.invokevirtual 144, 3) := by decide +kernel
theorem dX11_free_72 : decode cX11_free 72 = .ok (.aload_n 0, 1) := by decide +kernel
theorem dX11_free_73 : decode cX11_free 73 = .ok (.aload_n 2, 1) := by decide +kernel
theorem dX11_free_74 : decode cX11_free 74 = .ok (.invokevirtual 147, 3) := by decide +kernel
theorem dX11_free_77 : decode cX11_free 77 = .ok (.aload_n 2, 1) := by decide +kernel
theorem dX11_free_78 : decode cX11_free 78 = .ok (.getfield 104, 3) := by decide +kernel
theorem dX11_free_81 : decode cX11_free 81 = .ok (.invokevirtual 403, 3) := by decide +kernel
theorem dX11_free_84 : decode cX11_free 84 = .ok (.aload_n 0, 1) := by decide +kernel
theorem dX11_free_85 : decode cX11_free 85 = .ok (.getfield 61, 3) := by decide +kernel
theorem dX11_free_88 : decode cX11_free 88 = .ok (.aload_n 3, 1) := by decide +kernel
theorem dX11_free_89 : decode cX11_free 89 = .ok (.invokevirtual 407, 3) := by decide +kernel
theorem dX11_free_92 : decode cX11_free 92 = .ok (.istore 4, 2) := by decide +kernel
theorem dX11_free_94 : decode cX11_free 94 = .ok (.iconst 0, 1) := by decide +kernel
theorem dX11_free_95 : decode cX11_free 95 = .ok (.iload 4, 2) := by decide +kernel
theorem dX11_free_97 : decode cX11_free 97 = .ok (.aload_n 2, 1) := by decide +kernel
theorem dX11_free_98 : decode cX11_free 98 = .ok (.getfield 104, 3) := by decide +kernel
theorem dX11_free_101 : decode cX11_free 101 = .ok (.invokestatic 330, 3) := by decide +kernel
theorem dX11_free_104 : decode cX11_free 104 = .ok (.invokestatic 336, 3) := by decide +kernel
theorem dX11_free_107 : decode cX11_free 107 = .ok (.istore 5, 2) := by decide +kernel
theorem dX11_free_109 : decode cX11_free 109 = .ok (.aload_n 2, 1) := by decide +kernel
theorem dX11_free_110 : decode cX11_free 110 = .ok (.dup, 1) := by decide +kernel
theorem dX11_free_111 : decode cX11_free 111 = .ok (.getfield 104, 3) := by decide +kernel
theorem dX11_free_114 : decode cX11_free 114 = .ok (.iload 5, 2) := by decide +kernel
theorem dX11_free_116 : decode cX11_free 116 = .ok (.isub, 1) := by decide +kernel
theorem dX11_free_117 : decode cX11_free 117 = .ok (.putfield 104, 3) := by decide +kernel
theorem dX11_free_120 : decode cX11_free 120 = .ok (.aload_n 2, 1) := by decide +kernel
theorem dX11_free_121 : decode cX11_free 121 = .ok (.dup, 1) := by decide +kernel
theorem dX11_free_122 : decode cX11_free 122 = .ok (.getfield 150, 3) := by decide +kernel
theorem dX11_free_125 : decode cX11_free 125 = .ok (.iload 5, 2) := by decide +kernel
theorem dX11_free_127 : decode cX11_free 127 = .ok (.iadd, 1) := by decide +kernel
theorem dX11_free_128 : decode cX11_free 128 = .ok (.putfield 150, 3) := by decide +kernel
theorem dX11_free_131 : decode cX11_free 131 = .ok (.iload 5, 2) := by decide +kernel
theorem dX11_free_133 : decode cX11_free 133 = .ok (.ireturn, 1) := by decide +kernel
theorem dX11_take_0 : decode cX11_take 0 = .ok (.aload_n 0, 1) := by decide +kernel
theorem dX11_take_1 : decode cX11_take 1 = .ok (.iload_n 1, 1) := by decide +kernel
theorem dX11_take_2 : decode cX11_take 2 = .ok (.invokevirtual 180, 3) := by decide +kernel
theorem dX11_take_5 : decode cX11_take 5 = .ok (.astore_n 2, 1) := by decide +kernel
theorem dX11_take_6 : decode cX11_take 6 = .ok (.aload_n 2, 1) := by decide +kernel
theorem dX11_take_7 : decode cX11_take 7 = .ok (.ifnonnull 5, 3) := by decide +kernel
theorem dX11_take_10 : decode cX11_take 10 = .ok (.iconst (-1), 1) := by decide +kernel
theorem dX11_take_11 : decode cX11_take 11 = .ok (.ireturn, 1) := by decide +kernel
theorem dX11_take_12 : decode cX11_take 12 = .ok (.aload_n 2, 1) := by decide +kernel
theorem dX11_take_13 : decode cX11_take 13 = .ok (.invokevirtual 184, 3) := by decide +kernel
theorem dX11_take_16 : decode cX11_take 16 = .ok (.ifCond .eq 13, 3) := by decide +kernel
theorem dX11_take_19 : decode cX11_take 19 = .ok (.aload_n 2, 1) := by decide +kernel
theorem dX11_take_20 : decode cX11_take 20 = .ok (.getfield 187, 3) := by decide +kernel
theorem dX11_take_23 : decode cX11_take 23 = .ok (.invokevirtual 191, 3) := by decide +kernel
theorem dX11_take_26 : decode cX11_take 26 = .ok (.ifCond .eq 6, 3) := by decide +kernel
theorem dX11_take_29 : decode cX11_take 29 = .ok (.bipush (-3), 2) := by decide +kernel
theorem dX11_take_31 : decode cX11_take 31 = .ok (.ireturn, 1) := by decide +kernel
theorem dX11_take_32 : decode cX11_take 32 = .ok (.aload_n 0, 1) := by decide +kernel
theorem dX11_take_33 : decode cX11_take 33 = .ok (.aload_n 2, 1) := by decide +kernel
theorem dX11_take_34 : decode cX11_take 34 = .ok (.invokevirtual 383, 3) := by decide +kernel
theorem dX11_take_37 : decode cX11_take 37 = .ok (.aload_n 0, 1) := by decide +kernel
theorem dX11_take_38 : decode cX11_take 38 = .ok (.getfield 54, 3) := by decide +kernel
theorem dX11_take_41 : decode cX11_take 41 = .ok (.getfield 393, 3) := by decide +kernel
theorem dX11_take_44 : decode cX11_take 44 = .ok (.istore_n 3, 1) := by decide +kernel
theorem dX11_take_45 : decode cX11_take 45 = .ok (.aload_n 0, 1) := by decide +kernel
theorem dX11_take_46 : decode cX11_take 46 = .ok (.getfield 54, 3) := by decide +kernel
theorem dX11_take_49 : decode cX11_take 49 = .ok (.getfield 387, 3) := by decide +kernel
theorem dX11_take_52 : decode cX11_take 52 = .ok (.ifCond .ne 14, 3) := by decide +kernel
theorem dX11_take_55 : decode cX11_take 55 = .ok (.iload_n 3, 1) := by decide +kernel
theorem dX11_take_56 : decode cX11_take 56 = .ok (.aload_n 2, 1) := by decide +kernel
theorem dX11_take_57 : decode cX11_take 57 = .ok (.getfield 222, 3) := by decide +kernel
theorem dX11_take_60 : decode cX11_take 60 = .ok (.getfield 104, 3) := by decide +kernel
theorem dX11_take_63 : decode cX11_take 63 = .ok (.if_icmp .le 6, 3) := by decide +kernel
theorem dX11_take_66 : decode cX11_take 66 = .ok (.bipush (-3), 2) := by decide +kernel
theorem dX11_take_68 : decode cX11_take 68 = .ok (.ireturn, 1) := by decide +kernel
theorem dX11_take_69 : decode cX11_take 69 = .ok (.aload_n 2, 1) := by decide +kernel
theorem dX11_take_70 : decode cX11_take 70 = .ok (.getfield 222, 3) := by decide +kernel
theorem dX11_take_73 : decode cX11_take 73 = .ok (.dup, 1) := by decide +kernel
theorem dX11_take_74 : decode cX11_take 74 = .ok (.getfield 104, 3) := by decide +kernel
theorem dX11_take_77 : decode cX11_take 77 = .ok (.iload_n 3, 1) := by decide +kernel
theorem dX11_take_78 : decode cX11_take 78 = .ok (.isub, 1) := by decide +kernel
theorem dX11_take_79 : decode cX11_take 79 = .ok (.putfield 104, 3) := by decide +kernel
theorem dX11_take_82 : decode cX11_take 82 = .ok (.aload_n 2, 1) := by decide +kernel
theorem dX11_take_83 : decode cX11_take 83 = .ok (.getfield 222, 3) := by decide +kernel
theorem dX11_take_86 : decode cX11_take 86 = .ok (.dup, 1) := by decide +kernel
theorem dX11_take_87 : decode cX11_take 87 = .ok (.getfield 153, 3) := by decide +kernel
theorem dX11_take_90 : decode cX11_take 90 = .ok (.iload_n 3, 1) := by decide +kernel
theorem dX11_take_91 : decode cX11_take 91 = .ok (.iadd, 1) := by decide +kernel
theorem dX11_take_92 : decode cX11_take 92 = .ok (.putfield 153, 3) := by decide +kernel
theorem dX11_take_95 : decode cX11_take 95 = .ok (.aload_n 2, 1) := by decide +kernel
theorem dX11_take_96 : decode cX11_take 96 = .ok (.iconst 3, 1) := by decide +kernel
theorem dX11_take_97 : decode cX11_take 97 = .ok (.aload_n 0, 1) := by decide +kernel
theorem dX11_take_98 : decode cX11_take 98 = .ok (.getfield 79, 3) := by decide +kernel
theorem dX11_take_101 : decode cX11_take 101 = .ok (.invokevirtual 213, 3) := by decide +kernel
theorem dX11_take_104 : decode cX11_take 104 = .ok (.iload_n 3, 1) := by decide +kernel
theorem dX11_take_105 : decode cX11_take 105 = .ok (.ireturn, 1) := by decide +kernel
theorem dX11_doubles_0 : decode cX11_doubles 0 = .ok (.iload_n 1, 1) := by decide +kernel
theorem dX11_doubles_1 : decode cX11_doubles 1 = .ok (.bipush 10, 2) := by decide +kernel
theorem dX11_doubles_3 : decode cX11_doubles 3 = .ok (.invokestatic 82, 3) := by decide +kernel
theorem dX11_doubles_6 : decode cX11_doubles 6 = .ok (.ifCond .eq 26, 3) := by decide +kernel
theorem dX11_doubles_9 : decode cX11_doubles 9 = .ok (.iload_n 2, 1) := by decide +kernel
theorem dX11_doubles_10 : decode cX11_doubles 10 = .ok (.bipush 10, 2) := by decide +kernel
theorem dX11_doubles_12 : decode cX11_doubles 12 = .ok (.invokestatic 82, 3) := by decide +kernel
theorem dX11_doubles_15 : decode cX11_doubles 15 = .ok (.ifCond .eq 17, 3) := by decide +kernel
theorem dX11_doubles_18 : decode cX11_doubles 18 = .ok (.iload_n 1, 1) := by decide +kernel
theorem dX11_doubles_19 : decode cX11_doubles 19 = .ok (.iload_n 2, 1) := by decide +kernel
theorem dX11_doubles_20 : decode cX11_doubles 20 = .ok (.if_icmp .eq 12, 3) := by decide +kernel
theorem dX11_doubles_23 : decode cX11_doubles 23 = .ok (.iload_n 3, 1) := by decide +kernel
theorem dX11_doubles_24 : decode cX11_doubles 24 = .ok (.bipush 6, 2) := by decide +kernel
theorem dX11_doubles_26 : decode cX11_doubles 26 = .ok (.invokestatic 82, 3) := by decide +kernel
theorem dX11_doubles_29 : decode cX11_doubles 29 = .ok (.ifCond .ne 6, 3) := by decide +kernel
theorem dX11_doubles_32 : decode cX11_doubles 32 = .ok (.ldc 117, 2) := by decide +kernel
theorem dX11_doubles_34 : decode cX11_doubles 34 = .ok (.ireturn, 1) := by decide +kernel
theorem dX11_doubles_35 : decode cX11_doubles 35 = .ok (.iload_n 3, 1) := by decide +kernel
theorem dX11_doubles_36 : decode cX11_doubles 36 = .ok (.tableswitch 74 0 4 #[36, 43, 51, 59, 67], 36) := by decide +kernel
theorem dX11_doubles_72 : decode cX11_doubles 72 = .ok (.aload_n 0, 1) := by decide +kernel
theorem dX11_doubles_73 : decode cX11_doubles 73 = .ok (.iload_n 1, 1) := by decide +kernel
theorem dX11_doubles_74 : decode cX11_doubles 74 = .ok (.iload_n 2, 1) := by decide +kernel
theorem dX11_doubles_75 : decode cX11_doubles 75 = .ok (.invokevirtual 410, 3) := by decide +kernel
theorem dX11_doubles_78 : decode cX11_doubles 78 = .ok (.ireturn, 1) := by decide +kernel
theorem dX11_doubles_79 : decode cX11_doubles 79 = .ok (.aload_n 0, 1) := by decide +kernel
theorem dX11_doubles_80 : decode cX11_doubles 80 = .ok (.iload_n 1, 1) := by decide +kernel
theorem dX11_doubles_81 : decode cX11_doubles 81 = .ok (.iload_n 2, 1) := by decide +kernel
theorem dX11_doubles_82 : decode cX11_doubles 82 = .ok (.iconst 1, 1) := by decide +kernel
theorem dX11_doubles_83 : decode cX11_doubles 83 = .ok (.invokevirtual 413, 3) := by decide +kernel
theorem dX11_doubles_86 : decode cX11_doubles 86 = .ok (.ireturn, 1) := by decide +kernel
theorem dX11_doubles_87 : decode cX11_doubles 87 = .ok (.aload_n 0, 1) := by decide +kernel
theorem dX11_doubles_88 : decode cX11_doubles 88 = .ok (.iload_n 1, 1) := by decide +kernel
theorem dX11_doubles_89 : decode cX11_doubles 89 = .ok (.iload_n 2, 1) := by decide +kernel
theorem dX11_doubles_90 : decode cX11_doubles 90 = .ok (.iconst 0, 1) := by decide +kernel
theorem dX11_doubles_91 : decode cX11_doubles 91 = .ok (.invokevirtual 413, 3) := by decide +kernel
theorem dX11_doubles_94 : decode cX11_doubles 94 = .ok (.ireturn, 1) := by decide +kernel
theorem dX11_doubles_95 : decode cX11_doubles 95 = .ok (.aload_n 0, 1) := by decide +kernel
theorem dX11_doubles_96 : decode cX11_doubles 96 = .ok (.iload_n 2, 1) := by decide +kernel
theorem dX11_doubles_97 : decode cX11_doubles 97 = .ok (.iload_n 1, 1) := by decide +kernel
theorem dX11_doubles_98 : decode cX11_doubles 98 = .ok (.iconst 0, 1) := by decide +kernel
theorem dX11_doubles_99 : decode cX11_doubles 99 = .ok (.invokevirtual 413, 3) := by decide +kernel
theorem dX11_doubles_102 : decode cX11_doubles 102 = .ok (.ireturn, 1) := by decide +kernel
theorem dX11_doubles_103 : decode cX11_doubles 103 = .ok (.aload_n 0, 1) := by decide +kernel
theorem dX11_doubles_104 : decode cX11_doubles 104 = .ok (.iload_n 1, 1) := by decide +kernel
theorem dX11_doubles_105 : decode cX11_doubles 105 = .ok (.iload_n 2, 1) := by decide +kernel
theorem dX11_doubles_106 : decode cX11_doubles 106 = .ok (.invokevirtual 417, 3) := by decide +kernel
theorem dX11_doubles_109 : decode cX11_doubles 109 = .ok (.ireturn, 1) := by decide +kernel
theorem dX11_doubles_110 : decode cX11_doubles 110 = .ok (.aload_n 0, 1) := by decide +kernel
theorem dX11_doubles_111 : decode cX11_doubles 111 = .ok (.iload_n 1, 1) := by decide +kernel
theorem dX11_doubles_112 : decode cX11_doubles 112 = .ok (.iload_n 2, 1) := by decide +kernel
theorem dX11_doubles_113 : decode cX11_doubles 113 = .ok (.invokevirtual 420, 3) := by decide +kernel
theorem dX11_doubles_116 : decode cX11_doubles 116 = .ok (.ireturn, 1) := by decide +kernel
theorem dX11_lots_0 : decode cX11_lots 0 = .ok (.aload_n 0, 1) := by decide +kernel
theorem dX11_lots_1 : decode cX11_lots 1 = .ok (.iload_n 1, 1) := by decide +kernel
theorem dX11_lots_2 : decode cX11_lots 2 = .ok (.putfield 34, 3) := by decide +kernel
theorem dX11_lots_5 : decode cX11_lots 5 = .ok (.iconst 1, 1) := by decide +kernel
theorem dX11_lots_6 : decode cX11_lots 6 = .ok (.ireturn, 1) := by decide +kernel
theorem dX11_draw_0 : decode cX11_draw 0 = .ok (.iload_n 1, 1) := by decide +kernel
theorem dX11_draw_1 : decode cX11_draw 1 = .ok (.bipush 10, 2) := by decide +kernel
theorem dX11_draw_3 : decode cX11_draw 3 = .ok (.invokestatic 82, 3) := by decide +kernel
theorem dX11_draw_6 : decode cX11_draw 6 = .ok (.ifCond .ne 5, 3) := by decide +kernel
theorem dX11_draw_9 : decode cX11_draw 9 = .ok (.iconst (-1), 1) := by decide +kernel
theorem dX11_draw_10 : decode cX11_draw 10 = .ok (.ireturn, 1) := by decide +kernel
theorem dX11_draw_11 : decode cX11_draw 11 = .ok (.iconst 0, 1) := by decide +kernel
theorem dX11_draw_12 : decode cX11_draw 12 = .ok (.istore_n 2, 1) := by decide +kernel
theorem dX11_draw_13 : decode cX11_draw 13 = .ok (.iconst 0, 1) := by decide +kernel
theorem dX11_draw_14 : decode cX11_draw 14 = .ok (.istore_n 3, 1) := by decide +kernel
theorem dX11_draw_15 : decode cX11_draw 15 = .ok (.iload_n 3, 1) := by decide +kernel
theorem dX11_draw_16 : decode cX11_draw 16 = .ok (.aload_n 0, 1) := by decide +kernel
theorem dX11_draw_17 : decode cX11_draw 17 = .ok (.getfield 166, 3) := by decide +kernel
theorem dX11_draw_20 : decode cX11_draw 20 = .ok (.if_icmp .ge 30, 3) := by decide +kernel
theorem dX11_draw_23 : decode cX11_draw 23 = .ok (.iload_n 2, 1) := by decide +kernel
theorem dX11_draw_24 : decode cX11_draw 24 = .ok (.aload_n 0, 1) := by decide +kernel
theorem dX11_draw_25 : decode cX11_draw 25 = .ok (.getfield 23, 3) := by decide +kernel
theorem dX11_draw_28 : decode cX11_draw 28 = .ok (.iload_n 3, 1) := by decide +kernel
theorem dX11_draw_29 : decode cX11_draw 29 = .ok (.aaload, 1) := by decide +kernel
theorem dX11_draw_30 : decode cX11_draw 30 = .ok (.iload_n 1, 1) := by decide +kernel
theorem dX11_draw_31 : decode cX11_draw 31 = .ok (.invokevirtual 423, 3) := by decide +kernel
theorem dX11_draw_34 : decode cX11_draw 34 = .ok (.ifCond .eq 7, 3) := by decide +kernel
theorem dX11_draw_37 : decode cX11_draw 37 = .ok (.iconst 1, 1) := by decide +kernel
theorem dX11_draw_38 : decode cX11_draw 38 = .ok (.goto 4, 3) := by decide +kernel
theorem dX11_draw_41 : decode cX11_draw 41 = .ok (.iconst 0, 1) := by decide +kernel
theorem dX11_draw_42 : decode cX11_draw 42 = .ok (.iadd, 1) := by decide +kernel
theorem dX11_draw_43 : decode cX11_draw 43 = .ok (.istore_n 2, 1) := by decide +kernel
theorem dX11_draw_44 : decode cX11_draw 44 = .ok (.iinc 3 1, 3) := by decide +kernel
theorem dX11_draw_47 : decode cX11_draw 47 = .ok (.goto (-32), 3) := by decide +kernel
theorem dX11_draw_50 : decode cX11_draw 50 = .ok (.iload_n 2, 1) := by decide +kernel
theorem dX11_draw_51 : decode cX11_draw 51 = .ok (.ifCond .ne 6, 3) := by decide +kernel
theorem dX11_draw_54 : decode cX11_draw 54 = .ok (.bipush (-4), 2) := by decide +kernel
theorem dX11_draw_56 : decode cX11_draw 56 = .ok (.ireturn, 1) := by decide +kernel
theorem dX11_draw_57 : decode cX11_draw 57 = .ok (.aload_n 0, 1) := by decide +kernel
theorem dX11_draw_58 : decode cX11_draw 58 = .ok (.aload_n 0, 1) := by decide +kernel
theorem dX11_draw_59 : decode cX11_draw 59 = .ok (.getfield 34, 3) := by decide +kernel
theorem dX11_draw_62 : decode cX11_draw 62 = .ok (.ldc_w 426, 3) := by decide +kernel
theorem dX11_draw_65 : decode cX11_draw 65 = .ok (.imul, 1) := by decide +kernel
theorem dX11_draw_66 : decode cX11_draw 66 = .ok (.sipush 12345, 3) := by decide +kernel
theorem dX11_draw_69 : decode cX11_draw 69 = .ok (.iadd, 1) := by decide +kernel
theorem dX11_draw_70 : decode cX11_draw 70 = .ok (.putfield 34, 3) := by decide +kernel
theorem dX11_draw_73 : decode cX11_draw 73 = .ok (.aload_n 0, 1) := by decide +kernel
theorem dX11_draw_74 : decode cX11_draw 74 = .ok (.getfield 34, 3) := by decide +kernel
theorem dX11_draw_77 : decode cX11_draw 77 = .ok (.bipush 8, 2) := by decide +kernel
theorem dX11_draw_79 : decode cX11_draw 79 = .ok (.iushr, 1) := by decide +kernel
theorem dX11_draw_80 : decode cX11_draw 80 = .ok (.iload_n 2, 1) := by decide +kernel
theorem dX11_draw_81 : decode cX11_draw 81 = .ok (.irem, 1) := by decide +kernel
theorem dX11_draw_82 : decode cX11_draw 82 = .ok (.istore_n 3, 1) := by decide +kernel
theorem dX11_draw_83 : decode cX11_draw 83 = .ok (.iconst 0, 1) := by decide +kernel
theorem dX11_draw_84 : decode cX11_draw 84 = .ok (.istore 4, 2) := by decide +kernel
theorem dX11_draw_86 : decode cX11_draw 86 = .ok (.iload 4, 2) := by decide +kernel
theorem dX11_draw_88 : decode cX11_draw 88 = .ok (.aload_n 0, 1) := by decide +kernel
theorem dX11_draw_89 : decode cX11_draw 89 = .ok (.getfield 166, 3) := by decide +kernel
theorem dX11_draw_92 : decode cX11_draw 92 = .ok (.if_icmp .ge 33, 3) := by decide +kernel
theorem dX11_draw_95 : decode cX11_draw 95 = .ok (.aload_n 0, 1) := by decide +kernel
theorem dX11_draw_96 : decode cX11_draw 96 = .ok (.getfield 23, 3) := by decide +kernel
theorem dX11_draw_99 : decode cX11_draw 99 = .ok (.iload 4, 2) := by decide +kernel
theorem dX11_draw_101 : decode cX11_draw 101 = .ok (.aaload, 1) := by decide +kernel
theorem dX11_draw_102 : decode cX11_draw 102 = .ok (.iload_n 1, 1) := by decide +kernel
theorem dX11_draw_103 : decode cX11_draw 103 = .ok (.invokevirtual 423, 3) := by decide +kernel
theorem dX11_draw_106 : decode cX11_draw 106 = .ok (.ifCond .eq 13, 3) := by decide +kernel
theorem dX11_draw_109 : decode cX11_draw 109 = .ok (.iload_n 3, 1) := by decide +kernel
theorem dX11_draw_110 : decode cX11_draw 110 = .ok (.ifCond .ne 6, 3) := by decide +kernel
theorem dX11_draw_113 : decode cX11_draw 113 = .ok (.iload 4, 2) := by decide +kernel
theorem dX11_draw_115 : decode cX11_draw 115 = .ok (.ireturn, 1) := by decide +kernel
theorem dX11_draw_116 : decode cX11_draw 116 = .ok (.iinc 3 (-1), 3) := by decide +kernel
theorem dX11_draw_119 : decode cX11_draw 119 = .ok (.iinc 4 1, 3) := by decide +kernel
theorem dX11_draw_122 : decode cX11_draw 122 = .ok (.goto (-36), 3) := by decide +kernel
theorem dX11_draw_125 : decode cX11_draw 125 = .ok (.bipush (-4), 2) := by decide +kernel
theorem dX11_draw_127 : decode cX11_draw 127 = .ok (.ireturn, 1) := by decide +kernel
theorem dX11_ofCrew_0 : decode cX11_ofCrew 0 = .ok (.iload_n 1, 1) := by decide +kernel
theorem dX11_ofCrew_1 : decode cX11_ofCrew 1 = .ok (.bipush 10, 2) := by decide +kernel
theorem dX11_ofCrew_3 : decode cX11_ofCrew 3 = .ok (.invokestatic 82, 3) := by decide +kernel
theorem dX11_ofCrew_6 : decode cX11_ofCrew 6 = .ok (.ifCond .ne 5, 3) := by decide +kernel
theorem dX11_ofCrew_9 : decode cX11_ofCrew 9 = .ok (.iconst (-1), 1) := by decide +kernel
theorem dX11_ofCrew_10 : decode cX11_ofCrew 10 = .ok (.ireturn, 1) := by decide +kernel
theorem dX11_ofCrew_11 : decode cX11_ofCrew 11 = .ok (.iload_n 2, 1) := by decide +kernel
theorem dX11_ofCrew_12 : decode cX11_ofCrew 12 = .ok (.tableswitch 57 0 3 #[32, 38, 45, 51], 32) := by decide +kernel
theorem dX11_ofCrew_44 : decode cX11_ofCrew 44 = .ok (.aload_n 0, 1) := by decide +kernel
theorem dX11_ofCrew_45 : decode cX11_ofCrew 45 = .ok (.iload_n 1, 1) := by decide +kernel
theorem dX11_ofCrew_46 : decode cX11_ofCrew 46 = .ok (.invokevirtual 427, 3) := by decide +kernel
theorem dX11_ofCrew_49 : decode cX11_ofCrew 49 = .ok (.ireturn, 1) := by decide +kernel
theorem dX11_ofCrew_50 : decode cX11_ofCrew 50 = .ok (.aload_n 0, 1) := by decide +kernel
theorem dX11_ofCrew_51 : decode cX11_ofCrew 51 = .ok (.getfield 72, 3) := by decide +kernel
theorem dX11_ofCrew_54 : decode cX11_ofCrew 54 = .ok (.iload_n 1, 1) := by decide +kernel
theorem dX11_ofCrew_55 : decode cX11_ofCrew 55 = .ok (.iaload, 1) := by decide +kernel
theorem dX11_ofCrew_56 : decode cX11_ofCrew 56 = .ok (.ireturn, 1) := by decide +kernel
theorem dX11_ofCrew_57 : decode cX11_ofCrew 57 = .ok (.aload_n 0, 1) := by decide +kernel
theorem dX11_ofCrew_58 : decode cX11_ofCrew 58 = .ok (.iload_n 1, 1) := by decide +kernel
theorem dX11_ofCrew_59 : decode cX11_ofCrew 59 = .ok (.invokevirtual 429, 3) := by decide +kernel
theorem dX11_ofCrew_62 : decode cX11_ofCrew 62 = .ok (.ireturn, 1) := by decide +kernel
theorem dX11_ofCrew_63 : decode cX11_ofCrew 63 = .ok (.aload_n 0, 1) := by decide +kernel
theorem dX11_ofCrew_64 : decode cX11_ofCrew 64 = .ok (.iload_n 1, 1) := by decide +kernel
theorem dX11_ofCrew_65 : decode cX11_ofCrew 65 = .ok (.invokevirtual 432, 3) := by decide +kernel
theorem dX11_ofCrew_68 : decode cX11_ofCrew 68 = .ok (.ireturn, 1) := by decide +kernel
theorem dX11_ofCrew_69 : decode cX11_ofCrew 69 = .ok (.iconst (-1), 1) := by decide +kernel
theorem dX11_ofCrew_70 : decode cX11_ofCrew 70 = .ok (.ireturn, 1) := by decide +kernel
theorem dX11_bounds_0 : decode cX11_bounds 0 = .ok (.iload_n 1, 1) := by decide +kernel
theorem dX11_bounds_1 : decode cX11_bounds 1 = .ok (.bipush 10, 2) := by decide +kernel
theorem dX11_bounds_3 : decode cX11_bounds 3 = .ok (.invokestatic 82, 3) := by decide +kernel
theorem dX11_bounds_6 : decode cX11_bounds 6 = .ok (.ifCond .eq 22, 3) := by decide +kernel
theorem dX11_bounds_9 : decode cX11_bounds 9 = .ok (.iload_n 2, 1) := by decide +kernel
theorem dX11_bounds_10 : decode cX11_bounds 10 = .ok (.iconst 1, 1) := by decide +kernel
theorem dX11_bounds_11 : decode cX11_bounds 11 = .ok (.if_icmp .lt 17, 3) := by decide +kernel
theorem dX11_bounds_14 : decode cX11_bounds 14 = .ok (.iload_n 2, 1) := by decide +kernel
theorem dX11_bounds_15 : decode cX11_bounds 15 = .ok (.bipush 49, 2) := by decide +kernel
theorem dX11_bounds_17 : decode cX11_bounds 17 = .ok (.if_icmp .gt 11, 3) := by decide +kernel
theorem dX11_bounds_20 : decode cX11_bounds 20 = .ok (.iload_n 3, 1) := by decide +kernel
theorem dX11_bounds_21 : decode cX11_bounds 21 = .ok (.iconst 2, 1) := by decide +kernel
theorem dX11_bounds_22 : decode cX11_bounds 22 = .ok (.invokestatic 82, 3) := by decide +kernel
theorem dX11_bounds_25 : decode cX11_bounds 25 = .ok (.ifCond .ne 5, 3) := by decide +kernel
theorem dX11_bounds_28 : decode cX11_bounds 28 = .ok (.iconst (-1), 1) := by decide +kernel
theorem dX11_bounds_29 : decode cX11_bounds 29 = .ok (.ireturn, 1) := by decide +kernel
theorem dX11_bounds_30 : decode cX11_bounds 30 = .ok (.aload_n 0, 1) := by decide +kernel
theorem dX11_bounds_31 : decode cX11_bounds 31 = .ok (.iload_n 1, 1) := by decide +kernel
theorem dX11_bounds_32 : decode cX11_bounds 32 = .ok (.invokevirtual 427, 3) := by decide +kernel
theorem dX11_bounds_35 : decode cX11_bounds 35 = .ok (.istore 4, 2) := by decide +kernel
theorem dX11_bounds_37 : decode cX11_bounds 37 = .ok (.iload 4, 2) := by decide +kernel
theorem dX11_bounds_39 : decode cX11_bounds 39 = .ok (.bipush 40, 2) := by decide +kernel
theorem dX11_bounds_41 : decode cX11_bounds 41 = .ok (.if_icmp .le 6, 3) := by decide +kernel
theorem dX11_bounds_44 : decode cX11_bounds 44 = .ok (.bipush (-5), 2) := by decide +kernel
theorem dX11_bounds_46 : decode cX11_bounds 46 = .ok (.ireturn, 1) := by decide +kernel
theorem dX11_bounds_47 : decode cX11_bounds 47 = .ok (.aload_n 0, 1) := by decide +kernel
theorem dX11_bounds_48 : decode cX11_bounds 48 = .ok (.getfield 72, 3) := by decide +kernel
theorem dX11_bounds_51 : decode cX11_bounds 51 = .ok (.iload_n 1, 1) := by decide +kernel
theorem dX11_bounds_52 : decode cX11_bounds 52 = .ok (.iaload, 1) := by decide +kernel
theorem dX11_bounds_53 : decode cX11_bounds 53 = .ok (.istore 5, 2) := by decide +kernel
theorem dX11_bounds_55 : decode cX11_bounds 55 = .ok (.aload_n 0, 1) := by decide +kernel
theorem dX11_bounds_56 : decode cX11_bounds 56 = .ok (.iload_n 1, 1) := by decide +kernel
theorem dX11_bounds_57 : decode cX11_bounds 57 = .ok (.invokevirtual 429, 3) := by decide +kernel
theorem dX11_bounds_60 : decode cX11_bounds 60 = .ok (.istore 6, 2) := by decide +kernel
theorem dX11_bounds_62 : decode cX11_bounds 62 = .ok (.iload_n 3, 1) := by decide +kernel
theorem dX11_bounds_63 : decode cX11_bounds 63 = .ok (.ifCond .ne 16, 3) := by decide +kernel
theorem dX11_bounds_66 : decode cX11_bounds 66 = .ok (.iload 4, 2) := by decide +kernel
theorem dX11_bounds_68 : decode cX11_bounds 68 = .ok (.iload 5, 2) := by decide +kernel
theorem dX11_bounds_70 : decode cX11_bounds 70 = .ok (.iload 6, 2) := by decide +kernel
theorem dX11_bounds_72 : decode cX11_bounds 72 = .ok (.iload_n 2, 1) := by decide +kernel
theorem dX11_bounds_73 : decode cX11_bounds 73 = .ok (.invokestatic 435, 3) := by decide +kernel
theorem dX11_bounds_76 : decode cX11_bounds 76 = .ok (.goto 13, 3) := by decide +kernel
theorem dX11_bounds_79 : decode cX11_bounds 79 = .ok (.iload 4, 2) := by decide +kernel
theorem dX11_bounds_81 : decode cX11_bounds 81 = .ok (.iload 5, 2) := by decide +kernel
theorem dX11_bounds_83 : decode cX11_bounds 83 = .ok (.iload 6, 2) := by decide +kernel
theorem dX11_bounds_85 : decode cX11_bounds 85 = .ok (.iload_n 2, 1) := by decide +kernel
theorem dX11_bounds_86 : decode cX11_bounds 86 = .ok (.invokestatic 441, 3) := by decide +kernel
theorem dX11_bounds_89 : decode cX11_bounds 89 = .ok (.ireturn, 1) := by decide +kernel
theorem dX11_worst_0 : decode cX11_worst 0 = .ok (.iload_n 1, 1) := by decide +kernel
theorem dX11_worst_1 : decode cX11_worst 1 = .ok (.bipush 8, 2) := by decide +kernel
theorem dX11_worst_3 : decode cX11_worst 3 = .ok (.invokestatic 82, 3) := by decide +kernel
theorem dX11_worst_6 : decode cX11_worst 6 = .ok (.ifCond .eq 10, 3) := by decide +kernel
theorem dX11_worst_9 : decode cX11_worst 9 = .ok (.iload_n 2, 1) := by decide +kernel
theorem dX11_worst_10 : decode cX11_worst 10 = .ok (.invokestatic 216, 3) := by decide +kernel
theorem dX11_worst_13 : decode cX11_worst 13 = .ok (.ifCond .ne 5, 3) := by decide +kernel
theorem dX11_worst_16 : decode cX11_worst 16 = .ok (.iconst (-1), 1) := by decide +kernel
theorem dX11_worst_17 : decode cX11_worst 17 = .ok (.ireturn, 1) := by decide +kernel
theorem dX11_worst_18 : decode cX11_worst 18 = .ok (.iconst 0, 1) := by decide +kernel
theorem dX11_worst_19 : decode cX11_worst 19 = .ok (.istore_n 3, 1) := by decide +kernel
theorem dX11_worst_20 : decode cX11_worst 20 = .ok (.iload_n 3, 1) := by decide +kernel
theorem dX11_worst_21 : decode cX11_worst 21 = .ok (.bipush 8, 2) := by decide +kernel
theorem dX11_worst_23 : decode cX11_worst 23 = .ok (.if_icmp .ge 21, 3) := by decide +kernel
theorem dX11_worst_26 : decode cX11_worst 26 = .ok (.aload_n 0, 1) := by decide +kernel
theorem dX11_worst_27 : decode cX11_worst 27 = .ok (.iload_n 3, 1) := by decide +kernel
theorem dX11_worst_28 : decode cX11_worst 28 = .ok (.iload_n 2, 1) := by decide +kernel
theorem dX11_worst_29 : decode cX11_worst 29 = .ok (.invokevirtual 444, 3) := by decide +kernel
theorem dX11_worst_32 : decode cX11_worst 32 = .ok (.iload_n 1, 1) := by decide +kernel
theorem dX11_worst_33 : decode cX11_worst 33 = .ok (.if_icmp .ne 5, 3) := by decide +kernel
theorem dX11_worst_36 : decode cX11_worst 36 = .ok (.iload_n 3, 1) := by decide +kernel
theorem dX11_worst_37 : decode cX11_worst 37 = .ok (.ireturn, 1) := by decide +kernel
theorem dX11_worst_38 : decode cX11_worst 38 = .ok (.iinc 3 1, 3) := by decide +kernel
theorem dX11_worst_41 : decode cX11_worst 41 = .ok (.goto (-21), 3) := by decide +kernel
theorem dX11_worst_44 : decode cX11_worst 44 = .ok (.iconst (-1), 1) := by decide +kernel
theorem dX11_worst_45 : decode cX11_worst 45 = .ok (.ireturn, 1) := by decide +kernel
theorem dX11_weight_0 : decode cX11_weight 0 = .ok (.iload_n 1, 1) := by decide +kernel
theorem dX11_weight_1 : decode cX11_weight 1 = .ok (.bipush 8, 2) := by decide +kernel
theorem dX11_weight_3 : decode cX11_weight 3 = .ok (.invokestatic 82, 3) := by decide +kernel
theorem dX11_weight_6 : decode cX11_weight 6 = .ok (.ifCond .eq 10, 3) := by decide +kernel
theorem dX11_weight_9 : decode cX11_weight 9 = .ok (.iload_n 2, 1) := by decide +kernel
theorem dX11_weight_10 : decode cX11_weight 10 = .ok (.invokestatic 216, 3) := by decide +kernel
theorem dX11_weight_13 : decode cX11_weight 13 = .ok (.ifCond .ne 5, 3) := by decide +kernel
theorem dX11_weight_16 : decode cX11_weight 16 = .ok (.iconst (-1), 1) := by decide +kernel
theorem dX11_weight_17 : decode cX11_weight 17 = .ok (.ireturn, 1) := by decide +kernel
theorem dX11_weight_18 : decode cX11_weight 18 = .ok (.aload_n 0, 1) := by decide +kernel
theorem dX11_weight_19 : decode cX11_weight 19 = .ok (.iload_n 1, 1) := by decide +kernel
theorem dX11_weight_20 : decode cX11_weight 20 = .ok (.iload_n 2, 1) := by decide +kernel
theorem dX11_weight_21 : decode cX11_weight 21 = .ok (.invokevirtual 447, 3) := by decide +kernel
theorem dX11_weight_24 : decode cX11_weight 24 = .ok (.ireturn, 1) := by decide +kernel
theorem dX11_count_0 : decode cX11_count 0 = .ok (.iload_n 1, 1) := by decide +kernel
theorem dX11_count_1 : decode cX11_count 1 = .ok (.tableswitch 118 0 11 #[63, 68, 73, 78, 83, 91, 99, 104, 112, 112, 112, 112], 63) := by decide +kernel
theorem dX11_count_64 : decode cX11_count 64 = .ok (.aload_n 0, 1) := by decide +kernel
theorem dX11_count_65 : decode cX11_count 65 = .ok (.getfield 86, 3) := by decide +kernel
theorem dX11_count_68 : decode cX11_count 68 = .ok (.ireturn, 1) := by decide +kernel
theorem dX11_count_69 : decode cX11_count 69 = .ok (.aload_n 0, 1) := by decide +kernel
theorem dX11_count_70 : decode cX11_count 70 = .ok (.getfield 156, 3) := by decide +kernel
theorem dX11_count_73 : decode cX11_count 73 = .ok (.ireturn, 1) := by decide +kernel
theorem dX11_count_74 : decode cX11_count 74 = .ok (.aload_n 0, 1) := by decide +kernel
theorem dX11_count_75 : decode cX11_count 75 = .ok (.getfield 166, 3) := by decide +kernel
theorem dX11_count_78 : decode cX11_count 78 = .ok (.ireturn, 1) := by decide +kernel
theorem dX11_count_79 : decode cX11_count 79 = .ok (.aload_n 0, 1) := by decide +kernel
theorem dX11_count_80 : decode cX11_count 80 = .ok (.getfield 79, 3) := by decide +kernel
theorem dX11_count_83 : decode cX11_count 83 = .ok (.ireturn, 1) := by decide +kernel
theorem dX11_count_84 : decode cX11_count 84 = .ok (.aload_n 0, 1) := by decide +kernel
theorem dX11_count_85 : decode cX11_count 85 = .ok (.getfield 44, 3) := by decide +kernel
theorem dX11_count_88 : decode cX11_count 88 = .ok (.getfield 450, 3) := by decide +kernel
theorem dX11_count_91 : decode cX11_count 91 = .ok (.ireturn, 1) := by decide +kernel
theorem dX11_count_92 : decode cX11_count 92 = .ok (.aload_n 0, 1) := by decide +kernel
theorem dX11_count_93 : decode cX11_count 93 = .ok (.getfield 48, 3) := by decide +kernel
theorem dX11_count_96 : decode cX11_count 96 = .ok (.getfield 450, 3) := by decide +kernel
theorem dX11_count_99 : decode cX11_count 99 = .ok (.ireturn, 1) := by decide +kernel
theorem dX11_count_100 : decode cX11_count 100 = .ok (.aload_n 0, 1) := by decide +kernel
theorem dX11_count_101 : decode cX11_count 101 = .ok (.getfield 356, 3) := by decide +kernel
theorem dX11_count_104 : decode cX11_count 104 = .ok (.ireturn, 1) := by decide +kernel
theorem dX11_count_105 : decode cX11_count 105 = .ok (.aload_n 0, 1) := by decide +kernel
theorem dX11_count_106 : decode cX11_count 106 = .ok (.getfield 68, 3) := by decide +kernel
theorem dX11_count_109 : decode cX11_count 109 = .ok (.getfield 346, 3) := by decide +kernel
theorem dX11_count_112 : decode cX11_count 112 = .ok (.ireturn, 1) := by decide +kernel
theorem dX11_count_113 : decode cX11_count 113 = .ok (.aload_n 0, 1) := by decide +kernel
theorem dX11_count_114 : decode cX11_count 114 = .ok (.iload_n 1, 1) := by decide +kernel
theorem dX11_count_115 : decode cX11_count 115 = .ok (.invokevirtual 451, 3) := by decide +kernel
theorem dX11_count_118 : decode cX11_count 118 = .ok (.ireturn, 1) := by decide +kernel
theorem dX11_count_119 : decode cX11_count 119 = .ok (.iconst (-1), 1) := by decide +kernel
theorem dX11_count_120 : decode cX11_count 120 = .ok (.ireturn, 1) := by decide +kernel
theorem dX11_isIn_0 : decode cX11_isIn 0 = .ok (.iload_n 0, 1) := by decide +kernel
theorem dX11_isIn_1 : decode cX11_isIn 1 = .ok (.ifCond .lt 12, 3) := by decide +kernel
theorem dX11_isIn_4 : decode cX11_isIn 4 = .ok (.iload_n 0, 1) := by decide +kernel
theorem dX11_isIn_5 : decode cX11_isIn 5 = .ok (.iload_n 1, 1) := by decide +kernel
theorem dX11_isIn_6 : decode cX11_isIn 6 = .ok (.if_icmp .ge 7, 3) := by decide +kernel
theorem dX11_isIn_9 : decode cX11_isIn 9 = .ok (.iconst 1, 1) := by decide +kernel
theorem dX11_isIn_10 : decode cX11_isIn 10 = .ok (.goto 4, 3) := by decide +kernel
theorem dX11_isIn_13 : decode cX11_isIn 13 = .ok (.iconst 0, 1) := by decide +kernel
theorem dX11_isIn_14 : decode cX11_isIn 14 = .ok (.ireturn, 1) := by decide +kernel
theorem dX11_isDay_0 : decode cX11_isDay 0 = .ok (.iload_n 0, 1) := by decide +kernel
theorem dX11_isDay_1 : decode cX11_isDay 1 = .ok (.sipush 10000, 3) := by decide +kernel
theorem dX11_isDay_4 : decode cX11_isDay 4 = .ok (.invokestatic 82, 3) := by decide +kernel
theorem dX11_isDay_7 : decode cX11_isDay 7 = .ok (.ireturn, 1) := by decide +kernel
theorem dX11_isGroup_0 : decode cX11_isGroup 0 = .ok (.iload_n 0, 1) := by decide +kernel
theorem dX11_isGroup_1 : decode cX11_isGroup 1 = .ok (.bipush 8, 2) := by decide +kernel
theorem dX11_isGroup_3 : decode cX11_isGroup 3 = .ok (.invokestatic 82, 3) := by decide +kernel
theorem dX11_isGroup_6 : decode cX11_isGroup 6 = .ok (.ifCond .ne 15, 3) := by decide +kernel
theorem dX11_isGroup_9 : decode cX11_isGroup 9 = .ok (.iload_n 0, 1) := by decide +kernel
theorem dX11_isGroup_10 : decode cX11_isGroup 10 = .ok (.bipush 10, 2) := by decide +kernel
theorem dX11_isGroup_12 : decode cX11_isGroup 12 = .ok (.if_icmp .lt 13, 3) := by decide +kernel
theorem dX11_isGroup_15 : decode cX11_isGroup 15 = .ok (.iload_n 0, 1) := by decide +kernel
theorem dX11_isGroup_16 : decode cX11_isGroup 16 = .ok (.bipush 30, 2) := by decide +kernel
theorem dX11_isGroup_18 : decode cX11_isGroup 18 = .ok (.if_icmp .gt 7, 3) := by decide +kernel
theorem dX11_isGroup_21 : decode cX11_isGroup 21 = .ok (.iconst 1, 1) := by decide +kernel
theorem dX11_isGroup_22 : decode cX11_isGroup 22 = .ok (.goto 4, 3) := by decide +kernel
theorem dX11_isGroup_25 : decode cX11_isGroup 25 = .ok (.iconst 0, 1) := by decide +kernel
theorem dX11_isGroup_26 : decode cX11_isGroup 26 = .ok (.ireturn, 1) := by decide +kernel
theorem dX11_homeAt_0 : decode cX11_homeAt 0 = .ok (.iload_n 1, 1) := by decide +kernel
theorem dX11_homeAt_1 : decode cX11_homeAt 1 = .ok (.aload_n 0, 1) := by decide +kernel
theorem dX11_homeAt_2 : decode cX11_homeAt 2 = .ok (.getfield 86, 3) := by decide +kernel
theorem dX11_homeAt_5 : decode cX11_homeAt 5 = .ok (.invokestatic 82, 3) := by decide +kernel
theorem dX11_homeAt_8 : decode cX11_homeAt 8 = .ok (.ifCond .eq 12, 3) := by decide +kernel
theorem dX11_homeAt_11 : decode cX11_homeAt 11 = .ok (.aload_n 0, 1) := by decide +kernel
theorem dX11_homeAt_12 : decode cX11_homeAt 12 = .ok (.getfield 11, 3) := by decide +kernel
theorem dX11_homeAt_15 : decode cX11_homeAt 15 = .ok (.iload_n 1, 1) := by decide +kernel
theorem dX11_homeAt_16 : decode cX11_homeAt 16 = .ok (.aaload, 1) := by decide +kernel
theorem dX11_homeAt_17 : decode cX11_homeAt 17 = .ok (.goto 4, 3) := by decide +kernel
theorem dX11_homeAt_20 : decode cX11_homeAt 20 = .ok (.aconst_null, 1) := by decide +kernel
theorem dX11_homeAt_21 : decode cX11_homeAt 21 = .ok (.areturn, 1) := by decide +kernel
theorem dX11_kindAt_0 : decode cX11_kindAt 0 = .ok (.iload_n 1, 1) := by decide +kernel
theorem dX11_kindAt_1 : decode cX11_kindAt 1 = .ok (.aload_n 0, 1) := by decide +kernel
theorem dX11_kindAt_2 : decode cX11_kindAt 2 = .ok (.getfield 156, 3) := by decide +kernel
theorem dX11_kindAt_5 : decode cX11_kindAt 5 = .ok (.invokestatic 82, 3) := by decide +kernel
theorem dX11_kindAt_8 : decode cX11_kindAt 8 = .ok (.ifCond .eq 12, 3) := by decide +kernel
theorem dX11_kindAt_11 : decode cX11_kindAt 11 = .ok (.aload_n 0, 1) := by decide +kernel
theorem dX11_kindAt_12 : decode cX11_kindAt 12 = .ok (.getfield 17, 3) := by decide +kernel
theorem dX11_kindAt_15 : decode cX11_kindAt 15 = .ok (.iload_n 1, 1) := by decide +kernel
theorem dX11_kindAt_16 : decode cX11_kindAt 16 = .ok (.aaload, 1) := by decide +kernel
theorem dX11_kindAt_17 : decode cX11_kindAt 17 = .ok (.goto 4, 3) := by decide +kernel
theorem dX11_kindAt_20 : decode cX11_kindAt 20 = .ok (.aconst_null, 1) := by decide +kernel
theorem dX11_kindAt_21 : decode cX11_kindAt 21 = .ok (.areturn, 1) := by decide +kernel
theorem dX11_faultAt_0 : decode cX11_faultAt 0 = .ok (.iload_n 1, 1) := by decide +kernel
theorem dX11_faultAt_1 : decode cX11_faultAt 1 = .ok (.aload_n 0, 1) := by decide +kernel
theorem dX11_faultAt_2 : decode cX11_faultAt 2 = .ok (.getfield 166, 3) := by decide +kernel
theorem dX11_faultAt_5 : decode cX11_faultAt 5 = .ok (.invokestatic 82, 3) := by decide +kernel
theorem dX11_faultAt_8 : decode cX11_faultAt 8 = .ok (.ifCond .eq 12, 3) := by decide +kernel
theorem dX11_faultAt_11 : decode cX11_faultAt 11 = .ok (.aload_n 0, 1) := by decide +kernel
theorem dX11_faultAt_12 : decode cX11_faultAt 12 = .ok (.getfield 23, 3) := by decide +kernel
theorem dX11_faultAt_15 : decode cX11_faultAt 15 = .ok (.iload_n 1, 1) := by decide +kernel
theorem dX11_faultAt_16 : decode cX11_faultAt 16 = .ok (.aaload, 1) := by decide +kernel
theorem dX11_faultAt_17 : decode cX11_faultAt 17 = .ok (.goto 4, 3) := by decide +kernel
theorem dX11_faultAt_20 : decode cX11_faultAt 20 = .ok (.aconst_null, 1) := by decide +kernel
theorem dX11_faultAt_21 : decode cX11_faultAt 21 = .ok (.areturn, 1) := by decide +kernel
theorem dX11_homeNumber_0 : decode cX11_homeNumber 0 = .ok (.iconst 0, 1) := by decide +kernel
theorem dX11_homeNumber_1 : decode cX11_homeNumber 1 = .ok (.istore_n 2, 1) := by decide +kernel
theorem dX11_homeNumber_2 : decode cX11_homeNumber 2 = .ok (.iload_n 2, 1) := by decide +kernel
theorem dX11_homeNumber_3 : decode cX11_homeNumber 3 = .ok (.aload_n 0, 1) := by decide +kernel
theorem dX11_homeNumber_4 : decode cX11_homeNumber 4 = .ok (.getfield 86, 3) := by decide +kernel
theorem dX11_homeNumber_7 : decode cX11_homeNumber 7 = .ok (.if_icmp .ge 21, 3) := by decide +kernel
theorem dX11_homeNumber_10 : decode cX11_homeNumber 10 = .ok (.aload_n 0, 1) := by decide +kernel
theorem dX11_homeNumber_11 : decode cX11_homeNumber 11 = .ok (.getfield 11, 3) := by decide +kernel
theorem dX11_homeNumber_14 : decode cX11_homeNumber 14 = .ok (.iload_n 2, 1) := by decide +kernel
theorem dX11_homeNumber_15 : decode cX11_homeNumber 15 = .ok (.aaload, 1) := by decide +kernel
theorem dX11_homeNumber_16 : decode cX11_homeNumber 16 = .ok (.aload_n 1, 1) := by decide +kernel
theorem dX11_homeNumber_17 : decode cX11_homeNumber 17 = .ok (.if_acmp .ne 5, 3) := by decide +kernel
theorem dX11_homeNumber_20 : decode cX11_homeNumber 20 = .ok (.iload_n 2, 1) := by decide +kernel
theorem dX11_homeNumber_21 : decode cX11_homeNumber 21 = .ok (.ireturn, 1) := by decide +kernel
theorem dX11_homeNumber_22 : decode cX11_homeNumber 22 = .ok (.iinc 2 1, 3) := by decide +kernel
theorem dX11_homeNumber_25 : decode cX11_homeNumber 25 = .ok (.goto (-23), 3) := by decide +kernel
theorem dX11_homeNumber_28 : decode cX11_homeNumber 28 = .ok (.iconst (-1), 1) := by decide +kernel
theorem dX11_homeNumber_29 : decode cX11_homeNumber 29 = .ok (.ireturn, 1) := by decide +kernel
theorem dX11_toldIn_0 : decode cX11_toldIn 0 = .ok (.iconst 0, 1) := by decide +kernel
theorem dX11_toldIn_1 : decode cX11_toldIn 1 = .ok (.istore_n 2, 1) := by decide +kernel
theorem dX11_toldIn_2 : decode cX11_toldIn 2 = .ok (.iconst 0, 1) := by decide +kernel
theorem dX11_toldIn_3 : decode cX11_toldIn 3 = .ok (.istore_n 3, 1) := by decide +kernel
theorem dX11_toldIn_4 : decode cX11_toldIn 4 = .ok (.iload_n 3, 1) := by decide +kernel
theorem dX11_toldIn_5 : decode cX11_toldIn 5 = .ok (.aload_n 0, 1) := by decide +kernel
theorem dX11_toldIn_6 : decode cX11_toldIn 6 = .ok (.getfield 166, 3) := by decide +kernel
theorem dX11_toldIn_9 : decode cX11_toldIn 9 = .ok (.if_icmp .ge 30, 3) := by decide +kernel
theorem dX11_toldIn_12 : decode cX11_toldIn 12 = .ok (.iload_n 2, 1) := by decide +kernel
theorem dX11_toldIn_13 : decode cX11_toldIn 13 = .ok (.aload_n 0, 1) := by decide +kernel
theorem dX11_toldIn_14 : decode cX11_toldIn 14 = .ok (.getfield 23, 3) := by decide +kernel
theorem dX11_toldIn_17 : decode cX11_toldIn 17 = .ok (.iload_n 3, 1) := by decide +kernel
theorem dX11_toldIn_18 : decode cX11_toldIn 18 = .ok (.aaload, 1) := by decide +kernel
theorem dX11_toldIn_19 : decode cX11_toldIn 19 = .ok (.getfield 222, 3) := by decide +kernel
theorem dX11_toldIn_22 : decode cX11_toldIn 22 = .ok (.aload_n 1, 1) := by decide +kernel
theorem dX11_toldIn_23 : decode cX11_toldIn 23 = .ok (.if_acmp .ne 7, 3) := by decide +kernel
theorem dX11_toldIn_26 : decode cX11_toldIn 26 = .ok (.iconst 1, 1) := by decide +kernel
theorem dX11_toldIn_27 : decode cX11_toldIn 27 = .ok (.goto 4, 3) := by decide +kernel
theorem dX11_toldIn_30 : decode cX11_toldIn 30 = .ok (.iconst 0, 1) := by decide +kernel
theorem dX11_toldIn_31 : decode cX11_toldIn 31 = .ok (.iadd, 1) := by decide +kernel
theorem dX11_toldIn_32 : decode cX11_toldIn 32 = .ok (.istore_n 2, 1) := by decide +kernel
theorem dX11_toldIn_33 : decode cX11_toldIn 33 = .ok (.iinc 3 1, 3) := by decide +kernel
theorem dX11_toldIn_36 : decode cX11_toldIn 36 = .ok (.goto (-32), 3) := by decide +kernel
theorem dX11_toldIn_39 : decode cX11_toldIn 39 = .ok (.iload_n 2, 1) := by decide +kernel
theorem dX11_toldIn_40 : decode cX11_toldIn 40 = .ok (.ireturn, 1) := by decide +kernel
theorem dX11_leftIn_0 : decode cX11_leftIn 0 = .ok (.iconst 0, 1) := by decide +kernel
theorem dX11_leftIn_1 : decode cX11_leftIn 1 = .ok (.istore_n 2, 1) := by decide +kernel
theorem dX11_leftIn_2 : decode cX11_leftIn 2 = .ok (.iconst 0, 1) := by decide +kernel
theorem dX11_leftIn_3 : decode cX11_leftIn 3 = .ok (.istore_n 3, 1) := by decide +kernel
theorem dX11_leftIn_4 : decode cX11_leftIn 4 = .ok (.iload_n 3, 1) := by decide +kernel
theorem dX11_leftIn_5 : decode cX11_leftIn 5 = .ok (.aload_n 0, 1) := by decide +kernel
theorem dX11_leftIn_6 : decode cX11_leftIn 6 = .ok (.getfield 166, 3) := by decide +kernel
theorem dX11_leftIn_9 : decode cX11_leftIn 9 = .ok (.if_icmp .ge 46, 3) := by decide +kernel
theorem dX11_leftIn_12 : decode cX11_leftIn 12 = .ok (.iload_n 2, 1) := by decide +kernel
theorem dX11_leftIn_13 : decode cX11_leftIn 13 = .ok (.aload_n 0, 1) := by decide +kernel
theorem dX11_leftIn_14 : decode cX11_leftIn 14 = .ok (.getfield 23, 3) := by decide +kernel
theorem dX11_leftIn_17 : decode cX11_leftIn 17 = .ok (.iload_n 3, 1) := by decide +kernel
theorem dX11_leftIn_18 : decode cX11_leftIn 18 = .ok (.aaload, 1) := by decide +kernel
theorem dX11_leftIn_19 : decode cX11_leftIn 19 = .ok (.getfield 222, 3) := by decide +kernel
theorem dX11_leftIn_22 : decode cX11_leftIn 22 = .ok (.aload_n 1, 1) := by decide +kernel
theorem dX11_leftIn_23 : decode cX11_leftIn 23 = .ok (.if_acmp .ne 23, 3) := by decide +kernel
theorem dX11_leftIn_26 : decode cX11_leftIn 26 = .ok (.aload_n 0, 1) := by decide +kernel
theorem dX11_leftIn_27 : decode cX11_leftIn 27 = .ok (.getfield 23, 3) := by decide +kernel
theorem dX11_leftIn_30 : decode cX11_leftIn 30 = .ok (.iload_n 3, 1) := by decide +kernel
theorem dX11_leftIn_31 : decode cX11_leftIn 31 = .ok (.aaload, 1) := by decide +kernel
theorem dX11_leftIn_32 : decode cX11_leftIn 32 = .ok (.aload_n 0, 1) := by decide +kernel
theorem dX11_leftIn_33 : decode cX11_leftIn 33 = .ok (.getfield 79, 3) := by decide +kernel
theorem dX11_leftIn_36 : decode cX11_leftIn 36 = .ok (.invokevirtual 454, 3) := by decide +kernel
theorem dX11_leftIn_39 : decode cX11_leftIn 39 = .ok (.ifCond .eq 7, 3) := by decide +kernel
theorem dX11_leftIn_42 : decode cX11_leftIn 42 = .ok (.iconst 1, 1) := by decide +kernel
theorem dX11_leftIn_43 : decode cX11_leftIn 43 = .ok (.goto 4, 3) := by decide +kernel
theorem dX11_leftIn_46 : decode cX11_leftIn 46 = .ok (.iconst 0, 1) := by decide +kernel
theorem dX11_leftIn_47 : decode cX11_leftIn 47 = .ok (.iadd, 1) := by decide +kernel
theorem dX11_leftIn_48 : decode cX11_leftIn 48 = .ok (.istore_n 2, 1) := by decide +kernel
theorem dX11_leftIn_49 : decode cX11_leftIn 49 = .ok (.iinc 3 1, 3) := by decide +kernel
theorem dX11_leftIn_52 : decode cX11_leftIn 52 = .ok (.goto (-48), 3) := by decide +kernel
theorem dX11_leftIn_55 : decode cX11_leftIn 55 = .ok (.iload_n 2, 1) := by decide +kernel
theorem dX11_leftIn_56 : decode cX11_leftIn 56 = .ok (.ireturn, 1) := by decide +kernel
theorem dX11_falseIn_0 : decode cX11_falseIn 0 = .ok (.iconst 0, 1) := by decide +kernel
theorem dX11_falseIn_1 : decode cX11_falseIn 1 = .ok (.istore_n 2, 1) := by decide +kernel
theorem dX11_falseIn_2 : decode cX11_falseIn 2 = .ok (.iconst 0, 1) := by decide +kernel
theorem dX11_falseIn_3 : decode cX11_falseIn 3 = .ok (.istore_n 3, 1) := by decide +kernel
theorem dX11_falseIn_4 : decode cX11_falseIn 4 = .ok (.iload_n 3, 1) := by decide +kernel
theorem dX11_falseIn_5 : decode cX11_falseIn 5 = .ok (.aload_n 0, 1) := by decide +kernel
theorem dX11_falseIn_6 : decode cX11_falseIn 6 = .ok (.getfield 166, 3) := by decide +kernel
theorem dX11_falseIn_9 : decode cX11_falseIn 9 = .ok (.if_icmp .ge 42, 3) := by decide +kernel
theorem dX11_falseIn_12 : decode cX11_falseIn 12 = .ok (.iload_n 2, 1) := by decide +kernel
theorem dX11_falseIn_13 : decode cX11_falseIn 13 = .ok (.aload_n 0, 1) := by decide +kernel
theorem dX11_falseIn_14 : decode cX11_falseIn 14 = .ok (.getfield 23, 3) := by decide +kernel
theorem dX11_falseIn_17 : decode cX11_falseIn 17 = .ok (.iload_n 3, 1) := by decide +kernel
theorem dX11_falseIn_18 : decode cX11_falseIn 18 = .ok (.aaload, 1) := by decide +kernel
theorem dX11_falseIn_19 : decode cX11_falseIn 19 = .ok (.getfield 222, 3) := by decide +kernel
theorem dX11_falseIn_22 : decode cX11_falseIn 22 = .ok (.aload_n 1, 1) := by decide +kernel
theorem dX11_falseIn_23 : decode cX11_falseIn 23 = .ok (.if_acmp .ne 19, 3) := by decide +kernel
theorem dX11_falseIn_26 : decode cX11_falseIn 26 = .ok (.aload_n 0, 1) := by decide +kernel
theorem dX11_falseIn_27 : decode cX11_falseIn 27 = .ok (.getfield 23, 3) := by decide +kernel
theorem dX11_falseIn_30 : decode cX11_falseIn 30 = .ok (.iload_n 3, 1) := by decide +kernel
theorem dX11_falseIn_31 : decode cX11_falseIn 31 = .ok (.aaload, 1) := by decide +kernel
theorem dX11_falseIn_32 : decode cX11_falseIn 32 = .ok (.getfield 187, 3) := by decide +kernel
theorem dX11_falseIn_35 : decode cX11_falseIn 35 = .ok (.iconst (-1), 1) := by decide +kernel
theorem dX11_falseIn_36 : decode cX11_falseIn 36 = .ok (.invokevirtual 263, 3) := by decide +kernel
theorem dX11_falseIn_39 : decode cX11_falseIn 39 = .ok (.goto 4, 3) := by decide +kernel
theorem dX11_falseIn_42 : decode cX11_falseIn 42 = .ok (.iconst 0, 1) := by decide +kernel
theorem dX11_falseIn_43 : decode cX11_falseIn 43 = .ok (.iadd, 1) := by decide +kernel
theorem dX11_falseIn_44 : decode cX11_falseIn 44 = .ok (.istore_n 2, 1) := by decide +kernel
theorem dX11_falseIn_45 : decode cX11_falseIn 45 = .ok (.iinc 3 1, 3) := by decide +kernel
theorem dX11_falseIn_48 : decode cX11_falseIn 48 = .ok (.goto (-44), 3) := by decide +kernel
theorem dX11_falseIn_51 : decode cX11_falseIn 51 = .ok (.iload_n 2, 1) := by decide +kernel
theorem dX11_falseIn_52 : decode cX11_falseIn 52 = .ok (.ireturn, 1) := by decide +kernel
theorem dX11_brokenIn_0 : decode cX11_brokenIn 0 = .ok (.iconst 0, 1) := by decide +kernel
theorem dX11_brokenIn_1 : decode cX11_brokenIn 1 = .ok (.istore_n 2, 1) := by decide +kernel
theorem dX11_brokenIn_2 : decode cX11_brokenIn 2 = .ok (.iconst 0, 1) := by decide +kernel
theorem dX11_brokenIn_3 : decode cX11_brokenIn 3 = .ok (.istore_n 3, 1) := by decide +kernel
theorem dX11_brokenIn_4 : decode cX11_brokenIn 4 = .ok (.iload_n 3, 1) := by decide +kernel
theorem dX11_brokenIn_5 : decode cX11_brokenIn 5 = .ok (.aload_n 0, 1) := by decide +kernel
theorem dX11_brokenIn_6 : decode cX11_brokenIn 6 = .ok (.getfield 166, 3) := by decide +kernel
theorem dX11_brokenIn_9 : decode cX11_brokenIn 9 = .ok (.if_icmp .ge 42, 3) := by decide +kernel
theorem dX11_brokenIn_12 : decode cX11_brokenIn 12 = .ok (.iload_n 2, 1) := by decide +kernel
theorem dX11_brokenIn_13 : decode cX11_brokenIn 13 = .ok (.aload_n 0, 1) := by decide +kernel
theorem dX11_brokenIn_14 : decode cX11_brokenIn 14 = .ok (.getfield 23, 3) := by decide +kernel
theorem dX11_brokenIn_17 : decode cX11_brokenIn 17 = .ok (.iload_n 3, 1) := by decide +kernel
theorem dX11_brokenIn_18 : decode cX11_brokenIn 18 = .ok (.aaload, 1) := by decide +kernel
theorem dX11_brokenIn_19 : decode cX11_brokenIn 19 = .ok (.getfield 222, 3) := by decide +kernel
theorem dX11_brokenIn_22 : decode cX11_brokenIn 22 = .ok (.aload_n 1, 1) := by decide +kernel
theorem dX11_brokenIn_23 : decode cX11_brokenIn 23 = .ok (.if_acmp .ne 19, 3) := by decide +kernel
theorem dX11_brokenIn_26 : decode cX11_brokenIn 26 = .ok (.aload_n 0, 1) := by decide +kernel
theorem dX11_brokenIn_27 : decode cX11_brokenIn 27 = .ok (.getfield 23, 3) := by decide +kernel
theorem dX11_brokenIn_30 : decode cX11_brokenIn 30 = .ok (.iload_n 3, 1) := by decide +kernel
theorem dX11_brokenIn_31 : decode cX11_brokenIn 31 = .ok (.aaload, 1) := by decide +kernel
theorem dX11_brokenIn_32 : decode cX11_brokenIn 32 = .ok (.aload_n 0, 1) := by decide +kernel
theorem dX11_brokenIn_33 : decode cX11_brokenIn 33 = .ok (.getfield 79, 3) := by decide +kernel
theorem dX11_brokenIn_36 : decode cX11_brokenIn 36 = .ok (.invokevirtual 457, 3) := by decide +kernel
theorem dX11_brokenIn_39 : decode cX11_brokenIn 39 = .ok (.goto 4, 3) := by decide +kernel
theorem dX11_brokenIn_42 : decode cX11_brokenIn 42 = .ok (.iconst 0, 1) := by decide +kernel
theorem dX11_brokenIn_43 : decode cX11_brokenIn 43 = .ok (.iadd, 1) := by decide +kernel
theorem dX11_brokenIn_44 : decode cX11_brokenIn 44 = .ok (.istore_n 2, 1) := by decide +kernel
theorem dX11_brokenIn_45 : decode cX11_brokenIn 45 = .ok (.iinc 3 1, 3) := by decide +kernel
theorem dX11_brokenIn_48 : decode cX11_brokenIn 48 = .ok (.goto (-44), 3) := by decide +kernel
theorem dX11_brokenIn_51 : decode cX11_brokenIn 51 = .ok (.iload_n 2, 1) := by decide +kernel
theorem dX11_brokenIn_52 : decode cX11_brokenIn 52 = .ok (.ireturn, 1) := by decide +kernel
theorem dX11_saidBy_0 : decode cX11_saidBy 0 = .ok (.iconst 0, 1) := by decide +kernel
theorem dX11_saidBy_1 : decode cX11_saidBy 1 = .ok (.istore_n 2, 1) := by decide +kernel
theorem dX11_saidBy_2 : decode cX11_saidBy 2 = .ok (.iconst 0, 1) := by decide +kernel
theorem dX11_saidBy_3 : decode cX11_saidBy 3 = .ok (.istore_n 3, 1) := by decide +kernel
theorem dX11_saidBy_4 : decode cX11_saidBy 4 = .ok (.iload_n 3, 1) := by decide +kernel
theorem dX11_saidBy_5 : decode cX11_saidBy 5 = .ok (.aload_n 0, 1) := by decide +kernel
theorem dX11_saidBy_6 : decode cX11_saidBy 6 = .ok (.getfield 166, 3) := by decide +kernel
theorem dX11_saidBy_9 : decode cX11_saidBy 9 = .ok (.if_icmp .ge 25, 3) := by decide +kernel
theorem dX11_saidBy_12 : decode cX11_saidBy 12 = .ok (.iload_n 2, 1) := by decide +kernel
theorem dX11_saidBy_13 : decode cX11_saidBy 13 = .ok (.aload_n 0, 1) := by decide +kernel
theorem dX11_saidBy_14 : decode cX11_saidBy 14 = .ok (.getfield 23, 3) := by decide +kernel
theorem dX11_saidBy_17 : decode cX11_saidBy 17 = .ok (.iload_n 3, 1) := by decide +kernel
theorem dX11_saidBy_18 : decode cX11_saidBy 18 = .ok (.aaload, 1) := by decide +kernel
theorem dX11_saidBy_19 : decode cX11_saidBy 19 = .ok (.getfield 187, 3) := by decide +kernel
theorem dX11_saidBy_22 : decode cX11_saidBy 22 = .ok (.iload_n 1, 1) := by decide +kernel
theorem dX11_saidBy_23 : decode cX11_saidBy 23 = .ok (.invokevirtual 260, 3) := by decide +kernel
theorem dX11_saidBy_26 : decode cX11_saidBy 26 = .ok (.iadd, 1) := by decide +kernel
theorem dX11_saidBy_27 : decode cX11_saidBy 27 = .ok (.istore_n 2, 1) := by decide +kernel
theorem dX11_saidBy_28 : decode cX11_saidBy 28 = .ok (.iinc 3 1, 3) := by decide +kernel
theorem dX11_saidBy_31 : decode cX11_saidBy 31 = .ok (.goto (-27), 3) := by decide +kernel
theorem dX11_saidBy_34 : decode cX11_saidBy 34 = .ok (.iload_n 2, 1) := by decide +kernel
theorem dX11_saidBy_35 : decode cX11_saidBy 35 = .ok (.ireturn, 1) := by decide +kernel
theorem dX11_falseBy_0 : decode cX11_falseBy 0 = .ok (.iconst 0, 1) := by decide +kernel
theorem dX11_falseBy_1 : decode cX11_falseBy 1 = .ok (.istore_n 2, 1) := by decide +kernel
theorem dX11_falseBy_2 : decode cX11_falseBy 2 = .ok (.iconst 0, 1) := by decide +kernel
theorem dX11_falseBy_3 : decode cX11_falseBy 3 = .ok (.istore_n 3, 1) := by decide +kernel
theorem dX11_falseBy_4 : decode cX11_falseBy 4 = .ok (.iload_n 3, 1) := by decide +kernel
theorem dX11_falseBy_5 : decode cX11_falseBy 5 = .ok (.aload_n 0, 1) := by decide +kernel
theorem dX11_falseBy_6 : decode cX11_falseBy 6 = .ok (.getfield 166, 3) := by decide +kernel
theorem dX11_falseBy_9 : decode cX11_falseBy 9 = .ok (.if_icmp .ge 25, 3) := by decide +kernel
theorem dX11_falseBy_12 : decode cX11_falseBy 12 = .ok (.iload_n 2, 1) := by decide +kernel
theorem dX11_falseBy_13 : decode cX11_falseBy 13 = .ok (.aload_n 0, 1) := by decide +kernel
theorem dX11_falseBy_14 : decode cX11_falseBy 14 = .ok (.getfield 23, 3) := by decide +kernel
theorem dX11_falseBy_17 : decode cX11_falseBy 17 = .ok (.iload_n 3, 1) := by decide +kernel
theorem dX11_falseBy_18 : decode cX11_falseBy 18 = .ok (.aaload, 1) := by decide +kernel
theorem dX11_falseBy_19 : decode cX11_falseBy 19 = .ok (.getfield 187, 3) := by decide +kernel
theorem dX11_falseBy_22 : decode cX11_falseBy 22 = .ok (.iload_n 1, 1) := by decide +kernel
theorem dX11_falseBy_23 : decode cX11_falseBy 23 = .ok (.invokevirtual 263, 3) := by decide +kernel
theorem dX11_falseBy_26 : decode cX11_falseBy 26 = .ok (.iadd, 1) := by decide +kernel
theorem dX11_falseBy_27 : decode cX11_falseBy 27 = .ok (.istore_n 2, 1) := by decide +kernel
theorem dX11_falseBy_28 : decode cX11_falseBy 28 = .ok (.iinc 3 1, 3) := by decide +kernel
theorem dX11_falseBy_31 : decode cX11_falseBy 31 = .ok (.goto (-27), 3) := by decide +kernel
theorem dX11_falseBy_34 : decode cX11_falseBy 34 = .ok (.iload_n 2, 1) := by decide +kernel
theorem dX11_falseBy_35 : decode cX11_falseBy 35 = .ok (.ireturn, 1) := by decide +kernel
theorem dX11_chargedTo_0 : decode cX11_chargedTo 0 = .ok (.iconst 0, 1) := by decide +kernel
theorem dX11_chargedTo_1 : decode cX11_chargedTo 1 = .ok (.istore_n 2, 1) := by decide +kernel
theorem dX11_chargedTo_2 : decode cX11_chargedTo 2 = .ok (.iconst 0, 1) := by decide +kernel
theorem dX11_chargedTo_3 : decode cX11_chargedTo 3 = .ok (.istore_n 3, 1) := by decide +kernel
theorem dX11_chargedTo_4 : decode cX11_chargedTo 4 = .ok (.iload_n 3, 1) := by decide +kernel
theorem dX11_chargedTo_5 : decode cX11_chargedTo 5 = .ok (.aload_n 0, 1) := by decide +kernel
theorem dX11_chargedTo_6 : decode cX11_chargedTo 6 = .ok (.getfield 166, 3) := by decide +kernel
theorem dX11_chargedTo_9 : decode cX11_chargedTo 9 = .ok (.if_icmp .ge 31, 3) := by decide +kernel
theorem dX11_chargedTo_12 : decode cX11_chargedTo 12 = .ok (.iload_n 2, 1) := by decide +kernel
theorem dX11_chargedTo_13 : decode cX11_chargedTo 13 = .ok (.aload_n 0, 1) := by decide +kernel
theorem dX11_chargedTo_14 : decode cX11_chargedTo 14 = .ok (.aload_n 0, 1) := by decide +kernel
theorem dX11_chargedTo_15 : decode cX11_chargedTo 15 = .ok (.getfield 23, 3) := by decide +kernel
theorem dX11_chargedTo_18 : decode cX11_chargedTo 18 = .ok (.iload_n 3, 1) := by decide +kernel
theorem dX11_chargedTo_19 : decode cX11_chargedTo 19 = .ok (.aaload, 1) := by decide +kernel
theorem dX11_chargedTo_20 : decode cX11_chargedTo 20 = .ok (.invokevirtual 460, 3) := by decide +kernel
theorem dX11_chargedTo_23 : decode cX11_chargedTo 23 = .ok (.iload_n 1, 1) := by decide +kernel
theorem dX11_chargedTo_24 : decode cX11_chargedTo 24 = .ok (.if_icmp .ne 7, 3) := by decide +kernel
theorem dX11_chargedTo_27 : decode cX11_chargedTo 27 = .ok (.iconst 1, 1) := by decide +kernel
theorem dX11_chargedTo_28 : decode cX11_chargedTo 28 = .ok (.goto 4, 3) := by decide +kernel
theorem dX11_chargedTo_31 : decode cX11_chargedTo 31 = .ok (.iconst 0, 1) := by decide +kernel
theorem dX11_chargedTo_32 : decode cX11_chargedTo 32 = .ok (.iadd, 1) := by decide +kernel
theorem dX11_chargedTo_33 : decode cX11_chargedTo 33 = .ok (.istore_n 2, 1) := by decide +kernel
theorem dX11_chargedTo_34 : decode cX11_chargedTo 34 = .ok (.iinc 3 1, 3) := by decide +kernel
theorem dX11_chargedTo_37 : decode cX11_chargedTo 37 = .ok (.goto (-33), 3) := by decide +kernel
theorem dX11_chargedTo_40 : decode cX11_chargedTo 40 = .ok (.iload_n 2, 1) := by decide +kernel
theorem dX11_chargedTo_41 : decode cX11_chargedTo 41 = .ok (.ireturn, 1) := by decide +kernel
theorem dX11_sumOfHomes_0 : decode cX11_sumOfHomes 0 = .ok (.iconst 0, 1) := by decide +kernel
theorem dX11_sumOfHomes_1 : decode cX11_sumOfHomes 1 = .ok (.istore_n 2, 1) := by decide +kernel
theorem dX11_sumOfHomes_2 : decode cX11_sumOfHomes 2 = .ok (.iconst 0, 1) := by decide +kernel
theorem dX11_sumOfHomes_3 : decode cX11_sumOfHomes 3 = .ok (.istore_n 3, 1) := by decide +kernel
theorem dX11_sumOfHomes_4 : decode cX11_sumOfHomes 4 = .ok (.iload_n 3, 1) := by decide +kernel
theorem dX11_sumOfHomes_5 : decode cX11_sumOfHomes 5 = .ok (.aload_n 0, 1) := by decide +kernel
theorem dX11_sumOfHomes_6 : decode cX11_sumOfHomes 6 = .ok (.getfield 86, 3) := by decide +kernel
theorem dX11_sumOfHomes_9 : decode cX11_sumOfHomes 9 = .ok (.if_icmp .ge 94, 3) := by decide +kernel
theorem dX11_sumOfHomes_12 : decode cX11_sumOfHomes 12 = .ok (.aload_n 0, 1) := by decide +kernel
theorem dX11_sumOfHomes_13 : decode cX11_sumOfHomes 13 = .ok (.getfield 11, 3) := by decide +kernel
theorem dX11_sumOfHomes_16 : decode cX11_sumOfHomes 16 = .ok (.iload_n 3, 1) := by decide +kernel
theorem dX11_sumOfHomes_17 : decode cX11_sumOfHomes 17 = .ok (.aaload, 1) := by decide +kernel
theorem dX11_sumOfHomes_18 : decode cX11_sumOfHomes 18 = .ok (.astore 4, 2) := by decide +kernel
theorem dX11_sumOfHomes_20 : decode cX11_sumOfHomes 20 = .ok (.iload_n 1, 1) := by decide +kernel
theorem dX11_sumOfHomes_21 : decode cX11_sumOfHomes 21 = .ok (.tableswitch 60 8 10 #[27, 38, 49], 27) := by decide +kernel
theorem dX11_sumOfHomes_48 : decode cX11_sumOfHomes 48 = .ok (.iload_n 2, 1) := by decide +kernel
theorem dX11_sumOfHomes_49 : decode cX11_sumOfHomes 49 = .ok (.aload 4, 2) := by decide +kernel
theorem dX11_sumOfHomes_51 : decode cX11_sumOfHomes 51 = .ok (.getfield 104, 3) := by decide +kernel
theorem dX11_sumOfHomes_54 : decode cX11_sumOfHomes 54 = .ok (.iadd, 1) := by decide +kernel
theorem dX11_sumOfHomes_55 : decode cX11_sumOfHomes 55 = .ok (.istore_n 2, 1) := by decide +kernel
theorem dX11_sumOfHomes_56 : decode cX11_sumOfHomes 56 = .ok (.goto 41, 3) := by decide +kernel
theorem dX11_sumOfHomes_59 : decode cX11_sumOfHomes 59 = .ok (.iload_n 2, 1) := by decide +kernel
theorem dX11_sumOfHomes_60 : decode cX11_sumOfHomes 60 = .ok (.aload 4, 2) := by decide +kernel
theorem dX11_sumOfHomes_62 : decode cX11_sumOfHomes 62 = .ok (.getfield 150, 3) := by decide +kernel
theorem dX11_sumOfHomes_65 : decode cX11_sumOfHomes 65 = .ok (.iadd, 1) := by decide +kernel
theorem dX11_sumOfHomes_66 : decode cX11_sumOfHomes 66 = .ok (.istore_n 2, 1) := by decide +kernel
theorem dX11_sumOfHomes_67 : decode cX11_sumOfHomes 67 = .ok (.goto 30, 3) := by decide +kernel
theorem dX11_sumOfHomes_70 : decode cX11_sumOfHomes 70 = .ok (.iload_n 2, 1) := by decide +kernel
theorem dX11_sumOfHomes_71 : decode cX11_sumOfHomes 71 = .ok (.aload 4, 2) := by decide +kernel
theorem dX11_sumOfHomes_73 : decode cX11_sumOfHomes 73 = .ok (.getfield 153, 3) := by decide +kernel
theorem dX11_sumOfHomes_76 : decode cX11_sumOfHomes 76 = .ok (.iadd, 1) := by decide +kernel
theorem dX11_sumOfHomes_77 : decode cX11_sumOfHomes 77 = .ok (.istore_n 2, 1) := by decide +kernel
theorem dX11_sumOfHomes_78 : decode cX11_sumOfHomes 78 = .ok (.goto 19, 3) := by decide +kernel
theorem dX11_sumOfHomes_81 : decode cX11_sumOfHomes 81 = .ok (.iload_n 2, 1) := by decide +kernel
theorem dX11_sumOfHomes_82 : decode cX11_sumOfHomes 82 = .ok (.aload 4, 2) := by decide +kernel
theorem dX11_sumOfHomes_84 : decode cX11_sumOfHomes 84 = .ok (.invokevirtual 97, 3) := by decide +kernel
theorem dX11_sumOfHomes_87 : decode cX11_sumOfHomes 87 = .ok (.ifCond .eq 7, 3) := by decide +kernel
theorem dX11_sumOfHomes_90 : decode cX11_sumOfHomes 90 = .ok (.iconst 1, 1) := by decide +kernel
theorem dX11_sumOfHomes_91 : decode cX11_sumOfHomes 91 = .ok (.goto 4, 3) := by decide +kernel
theorem dX11_sumOfHomes_94 : decode cX11_sumOfHomes 94 = .ok (.iconst 0, 1) := by decide +kernel
theorem dX11_sumOfHomes_95 : decode cX11_sumOfHomes 95 = .ok (.iadd, 1) := by decide +kernel
theorem dX11_sumOfHomes_96 : decode cX11_sumOfHomes 96 = .ok (.istore_n 2, 1) := by decide +kernel
theorem dX11_sumOfHomes_97 : decode cX11_sumOfHomes 97 = .ok (.iinc 3 1, 3) := by decide +kernel
theorem dX11_sumOfHomes_100 : decode cX11_sumOfHomes 100 = .ok (.goto (-96), 3) := by decide +kernel
theorem dX11_sumOfHomes_103 : decode cX11_sumOfHomes 103 = .ok (.iload_n 2, 1) := by decide +kernel
theorem dX11_sumOfHomes_104 : decode cX11_sumOfHomes 104 = .ok (.ireturn, 1) := by decide +kernel
theorem dX11_isToldBefore_0 : decode cX11_isToldBefore 0 = .ok (.iconst 0, 1) := by decide +kernel
theorem dX11_isToldBefore_1 : decode cX11_isToldBefore 1 = .ok (.istore_n 2, 1) := by decide +kernel
theorem dX11_isToldBefore_2 : decode cX11_isToldBefore 2 = .ok (.iload_n 2, 1) := by decide +kernel
theorem dX11_isToldBefore_3 : decode cX11_isToldBefore 3 = .ok (.aload_n 0, 1) := by decide +kernel
theorem dX11_isToldBefore_4 : decode cX11_isToldBefore 4 = .ok (.getfield 166, 3) := by decide +kernel
theorem dX11_isToldBefore_7 : decode cX11_isToldBefore 7 = .ok (.if_icmp .ge 58, 3) := by decide +kernel
theorem dX11_isToldBefore_10 : decode cX11_isToldBefore 10 = .ok (.aload_n 0, 1) := by decide +kernel
theorem dX11_isToldBefore_11 : decode cX11_isToldBefore 11 = .ok (.getfield 23, 3) := by decide +kernel
theorem dX11_isToldBefore_14 : decode cX11_isToldBefore 14 = .ok (.iload_n 2, 1) := by decide +kernel
theorem dX11_isToldBefore_15 : decode cX11_isToldBefore 15 = .ok (.aaload, 1) := by decide +kernel
theorem dX11_isToldBefore_16 : decode cX11_isToldBefore 16 = .ok (.astore_n 3, 1) := by decide +kernel
theorem dX11_isToldBefore_17 : decode cX11_isToldBefore 17 = .ok (.aload_n 3, 1) := by decide +kernel
theorem dX11_isToldBefore_18 : decode cX11_isToldBefore 18 = .ok (.aload_n 1, 1) := by decide +kernel
theorem dX11_isToldBefore_19 : decode cX11_isToldBefore 19 = .ok (.invokevirtual 464, 3) := by decide +kernel
theorem dX11_isToldBefore_22 : decode cX11_isToldBefore 22 = .ok (.ifCond .eq 13, 3) := by decide +kernel
theorem dX11_isToldBefore_25 : decode cX11_isToldBefore 25 = .ok (.aload_n 3, 1) := by decide +kernel
theorem dX11_isToldBefore_26 : decode cX11_isToldBefore 26 = .ok (.getfield 187, 3) := by decide +kernel
theorem dX11_isToldBefore_29 : decode cX11_isToldBefore 29 = .ok (.invokevirtual 203, 3) := by decide +kernel
theorem dX11_isToldBefore_32 : decode cX11_isToldBefore 32 = .ok (.goto 4, 3) := by decide +kernel
theorem dX11_isToldBefore_35 : decode cX11_isToldBefore 35 = .ok (.iconst 4, 1) := by decide +kernel
theorem dX11_isToldBefore_36 : decode cX11_isToldBefore 36 = .ok (.istore 4, 2) := by decide +kernel
theorem dX11_isToldBefore_38 : decode cX11_isToldBefore 38 = .ok (.iload 4, 2) := by decide +kernel
theorem dX11_isToldBefore_40 : decode cX11_isToldBefore 40 = .ok (.iconst 4, 1) := by decide +kernel
theorem dX11_isToldBefore_41 : decode cX11_isToldBefore 41 = .ok (.if_icmp .eq 18, 3) := by decide +kernel
theorem dX11_isToldBefore_44 : decode cX11_isToldBefore 44 = .ok (.aload_n 3, 1) := by decide +kernel
theorem dX11_isToldBefore_45 : decode cX11_isToldBefore 45 = .ok (.getfield 244, 3) := by decide +kernel
theorem dX11_isToldBefore_48 : decode cX11_isToldBefore 48 = .ok (.ifCond .ne 9, 3) := by decide +kernel
theorem dX11_isToldBefore_51 : decode cX11_isToldBefore 51 = .ok (.iload 4, 2) := by decide +kernel
theorem dX11_isToldBefore_53 : decode cX11_isToldBefore 53 = .ok (.iconst 3, 1) := by decide +kernel
theorem dX11_isToldBefore_54 : decode cX11_isToldBefore 54 = .ok (.if_icmp .eq 5, 3) := by decide +kernel
theorem dX11_isToldBefore_57 : decode cX11_isToldBefore 57 = .ok (.iconst 1, 1) := by decide +kernel
theorem dX11_isToldBefore_58 : decode cX11_isToldBefore 58 = .ok (.ireturn, 1) := by decide +kernel
theorem dX11_isToldBefore_59 : decode cX11_isToldBefore 59 = .ok (.iinc 2 1, 3) := by decide +kernel
theorem dX11_isToldBefore_62 : decode cX11_isToldBefore 62 = .ok (.goto (-60), 3) := by decide +kernel
theorem dX11_isToldBefore_65 : decode cX11_isToldBefore 65 = .ok (.iconst 0, 1) := by decide +kernel
theorem dX11_isToldBefore_66 : decode cX11_isToldBefore 66 = .ok (.ireturn, 1) := by decide +kernel
theorem dX11_leakAbove_0 : decode cX11_leakAbove 0 = .ok (.iconst 0, 1) := by decide +kernel
theorem dX11_leakAbove_1 : decode cX11_leakAbove 1 = .ok (.istore_n 3, 1) := by decide +kernel
theorem dX11_leakAbove_2 : decode cX11_leakAbove 2 = .ok (.iload_n 3, 1) := by decide +kernel
theorem dX11_leakAbove_3 : decode cX11_leakAbove 3 = .ok (.aload_n 0, 1) := by decide +kernel
theorem dX11_leakAbove_4 : decode cX11_leakAbove 4 = .ok (.getfield 166, 3) := by decide +kernel
theorem dX11_leakAbove_7 : decode cX11_leakAbove 7 = .ok (.if_icmp .ge 79, 3) := by decide +kernel
theorem dX11_leakAbove_10 : decode cX11_leakAbove 10 = .ok (.aload_n 0, 1) := by decide +kernel
theorem dX11_leakAbove_11 : decode cX11_leakAbove 11 = .ok (.getfield 23, 3) := by decide +kernel
theorem dX11_leakAbove_14 : decode cX11_leakAbove 14 = .ok (.iload_n 3, 1) := by decide +kernel
theorem dX11_leakAbove_15 : decode cX11_leakAbove 15 = .ok (.aaload, 1) := by decide +kernel
theorem dX11_leakAbove_16 : decode cX11_leakAbove 16 = .ok (.astore 4, 2) := by decide +kernel
theorem dX11_leakAbove_18 : decode cX11_leakAbove 18 = .ok (.aload 4, 2) := by decide +kernel
theorem dX11_leakAbove_20 : decode cX11_leakAbove 20 = .ok (.getfield 222, 3) := by decide +kernel
theorem dX11_leakAbove_23 : decode cX11_leakAbove 23 = .ok (.aload_n 1, 1) := by decide +kernel
theorem dX11_leakAbove_24 : decode cX11_leakAbove 24 = .ok (.getfield 222, 3) := by decide +kernel
theorem dX11_leakAbove_27 : decode cX11_leakAbove 27 = .ok (.if_acmp .ne 21, 3) := by decide +kernel
theorem dX11_leakAbove_30 : decode cX11_leakAbove 30 = .ok (.aload 4, 2) := by decide +kernel
theorem dX11_leakAbove_32 : decode cX11_leakAbove 32 = .ok (.getfield 229, 3) := by decide +kernel
theorem dX11_leakAbove_35 : decode cX11_leakAbove 35 = .ok (.aload_n 1, 1) := by decide +kernel
theorem dX11_leakAbove_36 : decode cX11_leakAbove 36 = .ok (.getfield 229, 3) := by decide +kernel
theorem dX11_leakAbove_39 : decode cX11_leakAbove 39 = .ok (.iconst 4, 1) := by decide +kernel
theorem dX11_leakAbove_40 : decode cX11_leakAbove 40 = .ok (.iadd, 1) := by decide +kernel
theorem dX11_leakAbove_41 : decode cX11_leakAbove 41 = .ok (.if_icmp .ne 7, 3) := by decide +kernel
theorem dX11_leakAbove_44 : decode cX11_leakAbove 44 = .ok (.iconst 1, 1) := by decide +kernel
theorem dX11_leakAbove_45 : decode cX11_leakAbove 45 = .ok (.goto 4, 3) := by decide +kernel
theorem dX11_leakAbove_48 : decode cX11_leakAbove 48 = .ok (.iconst 0, 1) := by decide +kernel
theorem dX11_leakAbove_49 : decode cX11_leakAbove 49 = .ok (.istore 5, 2) := by decide +kernel
theorem dX11_leakAbove_51 : decode cX11_leakAbove 51 = .ok (.iload 5, 2) := by decide +kernel
theorem dX11_leakAbove_53 : decode cX11_leakAbove 53 = .ok (.ifCond .eq 27, 3) := by decide +kernel
theorem dX11_leakAbove_56 : decode cX11_leakAbove 56 = .ok (.aload 4, 2) := by decide +kernel
theorem dX11_leakAbove_58 : decode cX11_leakAbove 58 = .ok (.getfield 266, 3) := by decide +kernel
theorem dX11_leakAbove_61 : decode cX11_leakAbove 61 = .ok (.iconst 1, 1) := by decide +kernel
theorem dX11_leakAbove_62 : decode cX11_leakAbove 62 = .ok (.invokevirtual 270, 3) := by decide +kernel
theorem dX11_leakAbove_65 : decode cX11_leakAbove 65 = .ok (.ifCond .eq 15, 3) := by decide +kernel
theorem dX11_leakAbove_68 : decode cX11_leakAbove 68 = .ok (.aload 4, 2) := by decide +kernel
theorem dX11_leakAbove_70 : decode cX11_leakAbove 70 = .ok (.iload_n 2, 1) := by decide +kernel
theorem dX11_leakAbove_71 : decode cX11_leakAbove 71 = .ok (.invokevirtual 454, 3) := by decide +kernel
theorem dX11_leakAbove_74 : decode cX11_leakAbove 74 = .ok (.ifCond .eq 6, 3) := by decide +kernel
theorem dX11_leakAbove_77 : decode cX11_leakAbove 77 = .ok (.aload 4, 2) := by decide +kernel
theorem dX11_leakAbove_79 : decode cX11_leakAbove 79 = .ok (.areturn, 1) := by decide +kernel
theorem dX11_leakAbove_80 : decode cX11_leakAbove 80 = .ok (.iinc 3 1, 3) := by decide +kernel
theorem dX11_leakAbove_83 : decode cX11_leakAbove 83 = .ok (.goto (-81), 3) := by decide +kernel
theorem dX11_leakAbove_86 : decode cX11_leakAbove 86 = .ok (.aconst_null, 1) := by decide +kernel
theorem dX11_leakAbove_87 : decode cX11_leakAbove 87 = .ok (.areturn, 1) := by decide +kernel
theorem dX11_damager_0 : decode cX11_damager 0 = .ok (.aconst_null, 1) := by decide +kernel
theorem dX11_damager_1 : decode cX11_damager 1 = .ok (.astore_n 2, 1) := by decide +kernel
theorem dX11_damager_2 : decode cX11_damager 2 = .ok (.iconst (-1), 1) := by decide +kernel
theorem dX11_damager_3 : decode cX11_damager 3 = .ok (.istore_n 3, 1) := by decide +kernel
theorem dX11_damager_4 : decode cX11_damager 4 = .ok (.iconst 0, 1) := by decide +kernel
theorem dX11_damager_5 : decode cX11_damager 5 = .ok (.istore 4, 2) := by decide +kernel
theorem dX11_damager_7 : decode cX11_damager 7 = .ok (.iload 4, 2) := by decide +kernel
theorem dX11_damager_9 : decode cX11_damager 9 = .ok (.aload_n 0, 1) := by decide +kernel
theorem dX11_damager_10 : decode cX11_damager 10 = .ok (.getfield 166, 3) := by decide +kernel
theorem dX11_damager_13 : decode cX11_damager 13 = .ok (.if_icmp .ge 89, 3) := by decide +kernel
theorem dX11_damager_16 : decode cX11_damager 16 = .ok (.aload_n 0, 1) := by decide +kernel
theorem dX11_damager_17 : decode cX11_damager 17 = .ok (.getfield 23, 3) := by decide +kernel
theorem dX11_damager_20 : decode cX11_damager 20 = .ok (.iload 4, 2) := by decide +kernel
theorem dX11_damager_22 : decode cX11_damager 22 = .ok (.aaload, 1) := by decide +kernel
theorem dX11_damager_23 : decode cX11_damager 23 = .ok (.astore 5, 2) := by decide +kernel
theorem dX11_damager_25 : decode cX11_damager 25 = .ok (.aload 5, 2) := by decide +kernel
theorem dX11_damager_27 : decode cX11_damager 27 = .ok (.getfield 222, 3) := by decide +kernel
theorem dX11_damager_30 : decode cX11_damager 30 = .ok (.aload_n 1, 1) := by decide +kernel
theorem dX11_damager_31 : decode cX11_damager 31 = .ok (.getfield 222, 3) := by decide +kernel
theorem dX11_damager_34 : decode cX11_damager 34 = .ok (.if_acmp .ne 62, 3) := by decide +kernel
theorem dX11_damager_37 : decode cX11_damager 37 = .ok (.aload 5, 2) := by decide +kernel
theorem dX11_damager_39 : decode cX11_damager 39 = .ok (.getfield 229, 3) := by decide +kernel
theorem dX11_damager_42 : decode cX11_damager 42 = .ok (.aload_n 1, 1) := by decide +kernel
theorem dX11_damager_43 : decode cX11_damager 43 = .ok (.getfield 229, 3) := by decide +kernel
theorem dX11_damager_46 : decode cX11_damager 46 = .ok (.if_icmp .ne 50, 3) := by decide +kernel
theorem dX11_damager_49 : decode cX11_damager 49 = .ok (.aload 5, 2) := by decide +kernel
theorem dX11_damager_51 : decode cX11_damager 51 = .ok (.getfield 232, 3) := by decide +kernel
theorem dX11_damager_54 : decode cX11_damager 54 = .ok (.aload_n 1, 1) := by decide +kernel
theorem dX11_damager_55 : decode cX11_damager 55 = .ok (.getfield 232, 3) := by decide +kernel
theorem dX11_damager_58 : decode cX11_damager 58 = .ok (.if_icmp .eq 38, 3) := by decide +kernel
theorem dX11_damager_61 : decode cX11_damager 61 = .ok (.aload 5, 2) := by decide +kernel
theorem dX11_damager_63 : decode cX11_damager 63 = .ok (.getfield 187, 3) := by decide +kernel
theorem dX11_damager_66 : decode cX11_damager 66 = .ok (.aload_n 0, 1) := by decide +kernel
theorem dX11_damager_67 : decode cX11_damager 67 = .ok (.aload_n 1, 1) := by decide +kernel
theorem dX11_damager_68 : decode cX11_damager 68 = .ok (.aload 5, 2) := by decide +kernel
theorem dX11_damager_70 : decode cX11_damager 70 = .ok (.invokevirtual 467, 3) := by decide +kernel
theorem dX11_damager_73 : decode cX11_damager 73 = .ok (.invokevirtual 471, 3) := by decide +kernel
theorem dX11_damager_76 : decode cX11_damager 76 = .ok (.istore 6, 2) := by decide +kernel
theorem dX11_damager_78 : decode cX11_damager 78 = .ok (.iload 6, 2) := by decide +kernel
theorem dX11_damager_80 : decode cX11_damager 80 = .ok (.iconst (-1), 1) := by decide +kernel
theorem dX11_damager_81 : decode cX11_damager 81 = .ok (.if_icmp .eq 15, 3) := by decide +kernel
theorem dX11_damager_84 : decode cX11_damager 84 = .ok (.iload 6, 2) := by decide +kernel
theorem dX11_damager_86 : decode cX11_damager 86 = .ok (.iload_n 3, 1) := by decide +kernel
theorem dX11_damager_87 : decode cX11_damager 87 = .ok (.if_icmp .lt 9, 3) := by decide +kernel
theorem dX11_damager_90 : decode cX11_damager 90 = .ok (.iload 6, 2) := by decide +kernel
theorem dX11_damager_92 : decode cX11_damager 92 = .ok (.istore_n 3, 1) := by decide +kernel
theorem dX11_damager_93 : decode cX11_damager 93 = .ok (.aload 5, 2) := by decide +kernel
theorem dX11_damager_95 : decode cX11_damager 95 = .ok (.astore_n 2, 1) := by decide +kernel
theorem dX11_damager_96 : decode cX11_damager 96 = .ok (.iinc 4 1, 3) := by decide +kernel
theorem dX11_damager_99 : decode cX11_damager 99 = .ok (.goto (-92), 3) := by decide +kernel
theorem dX11_damager_102 : decode cX11_damager 102 = .ok (.aload_n 2, 1) := by decide +kernel
theorem dX11_damager_103 : decode cX11_damager 103 = .ok (.areturn, 1) := by decide +kernel
theorem dX11_saidAheadOf_0 : decode cX11_saidAheadOf 0 = .ok (.aload_n 2, 1) := by decide +kernel
theorem dX11_saidAheadOf_1 : decode cX11_saidAheadOf 1 = .ok (.getfield 187, 3) := by decide +kernel
theorem dX11_saidAheadOf_4 : decode cX11_saidAheadOf 4 = .ok (.aload_n 1, 1) := by decide +kernel
theorem dX11_saidAheadOf_5 : decode cX11_saidAheadOf 5 = .ok (.getfield 238, 3) := by decide +kernel
theorem dX11_saidAheadOf_8 : decode cX11_saidAheadOf 8 = .ok (.aload_n 0, 1) := by decide +kernel
theorem dX11_saidAheadOf_9 : decode cX11_saidAheadOf 9 = .ok (.getfield 27, 3) := by decide +kernel
theorem dX11_saidAheadOf_12 : decode cX11_saidAheadOf 12 = .ok (.isub, 1) := by decide +kernel
theorem dX11_saidAheadOf_13 : decode cX11_saidAheadOf 13 = .ok (.aload_n 1, 1) := by decide +kernel
theorem dX11_saidAheadOf_14 : decode cX11_saidAheadOf 14 = .ok (.getfield 238, 3) := by decide +kernel
theorem dX11_saidAheadOf_17 : decode cX11_saidAheadOf 17 = .ok (.iconst 1, 1) := by decide +kernel
theorem dX11_saidAheadOf_18 : decode cX11_saidAheadOf 18 = .ok (.isub, 1) := by decide +kernel
theorem dX11_saidAheadOf_19 : decode cX11_saidAheadOf 19 = .ok (.invokevirtual 474, 3) := by decide +kernel
theorem dX11_saidAheadOf_22 : decode cX11_saidAheadOf 22 = .ok (.ireturn, 1) := by decide +kernel
theorem dX11_chargedCrew_0 : decode cX11_chargedCrew 0 = .ok (.aload_n 0, 1) := by decide +kernel
theorem dX11_chargedCrew_1 : decode cX11_chargedCrew 1 = .ok (.aload_n 1, 1) := by decide +kernel
theorem dX11_chargedCrew_2 : decode cX11_chargedCrew 2 = .ok (.invokevirtual 280, 3) := by decide +kernel
theorem dX11_chargedCrew_5 : decode cX11_chargedCrew 5 = .ok (.astore_n 2, 1) := by decide +kernel
theorem dX11_chargedCrew_6 : decode cX11_chargedCrew 6 = .ok (.aload_n 2, 1) := by decide +kernel
theorem dX11_chargedCrew_7 : decode cX11_chargedCrew 7 = .ok (.ifnonnull 8, 3) := by decide +kernel
theorem dX11_chargedCrew_10 : decode cX11_chargedCrew 10 = .ok (.bipush (-4), 2) := by decide +kernel
theorem dX11_chargedCrew_12 : decode cX11_chargedCrew 12 = .ok (.goto 16, 3) := by decide +kernel
theorem dX11_chargedCrew_15 : decode cX11_chargedCrew 15 = .ok (.aload_n 2, 1) := by decide +kernel
theorem dX11_chargedCrew_16 : decode cX11_chargedCrew 16 = .ok (.getfield 187, 3) := by decide +kernel
theorem dX11_chargedCrew_19 : decode cX11_chargedCrew 19 = .ok (.aload_n 0, 1) := by decide +kernel
theorem dX11_chargedCrew_20 : decode cX11_chargedCrew 20 = .ok (.aload_n 1, 1) := by decide +kernel
theorem dX11_chargedCrew_21 : decode cX11_chargedCrew 21 = .ok (.aload_n 2, 1) := by decide +kernel
theorem dX11_chargedCrew_22 : decode cX11_chargedCrew 22 = .ok (.invokevirtual 467, 3) := by decide +kernel
theorem dX11_chargedCrew_25 : decode cX11_chargedCrew 25 = .ok (.invokevirtual 477, 3) := by decide +kernel
theorem dX11_chargedCrew_28 : decode cX11_chargedCrew 28 = .ok (.ireturn, 1) := by decide +kernel
theorem dX11_markHomesWith_0 : decode cX11_markHomesWith 0 = .ok (.iconst 0, 1) := by decide +kernel
theorem dX11_markHomesWith_1 : decode cX11_markHomesWith 1 = .ok (.istore_n 3, 1) := by decide +kernel
theorem dX11_markHomesWith_2 : decode cX11_markHomesWith 2 = .ok (.iconst 0, 1) := by decide +kernel
theorem dX11_markHomesWith_3 : decode cX11_markHomesWith 3 = .ok (.istore 4, 2) := by decide +kernel
theorem dX11_markHomesWith_5 : decode cX11_markHomesWith 5 = .ok (.iload 4, 2) := by decide +kernel
theorem dX11_markHomesWith_7 : decode cX11_markHomesWith 7 = .ok (.aload_n 0, 1) := by decide +kernel
theorem dX11_markHomesWith_8 : decode cX11_markHomesWith 8 = .ok (.getfield 86, 3) := by decide +kernel
theorem dX11_markHomesWith_11 : decode cX11_markHomesWith 11 = .ok (.if_icmp .ge 47, 3) := by decide +kernel
theorem dX11_markHomesWith_14 : decode cX11_markHomesWith 14 = .ok (.aload_n 0, 1) := by decide +kernel
theorem dX11_markHomesWith_15 : decode cX11_markHomesWith 15 = .ok (.getfield 75, 3) := by decide +kernel
theorem dX11_markHomesWith_18 : decode cX11_markHomesWith 18 = .ok (.iload 4, 2) := by decide +kernel
theorem dX11_markHomesWith_20 : decode cX11_markHomesWith 20 = .ok (.aload_n 0, 1) := by decide +kernel
theorem dX11_markHomesWith_21 : decode cX11_markHomesWith 21 = .ok (.aload_n 0, 1) := by decide +kernel
theorem dX11_markHomesWith_22 : decode cX11_markHomesWith 22 = .ok (.getfield 11, 3) := by decide +kernel
theorem dX11_markHomesWith_25 : decode cX11_markHomesWith 25 = .ok (.iload 4, 2) := by decide +kernel
theorem dX11_markHomesWith_27 : decode cX11_markHomesWith 27 = .ok (.aaload, 1) := by decide +kernel
theorem dX11_markHomesWith_28 : decode cX11_markHomesWith 28 = .ok (.aload_n 1, 1) := by decide +kernel
theorem dX11_markHomesWith_29 : decode cX11_markHomesWith 29 = .ok (.iload_n 2, 1) := by decide +kernel
theorem dX11_markHomesWith_30 : decode cX11_markHomesWith 30 = .ok (.invokevirtual 480, 3) := by decide +kernel
theorem dX11_markHomesWith_33 : decode cX11_markHomesWith 33 = .ok (.bastore, 1) := by decide +kernel
theorem dX11_markHomesWith_34 : decode cX11_markHomesWith 34 = .ok (.iload_n 3, 1) := by decide +kernel
theorem dX11_markHomesWith_35 : decode cX11_markHomesWith 35 = .ok (.aload_n 0, 1) := by decide +kernel
theorem dX11_markHomesWith_36 : decode cX11_markHomesWith 36 = .ok (.getfield 75, 3) := by decide +kernel
theorem dX11_markHomesWith_39 : decode cX11_markHomesWith 39 = .ok (.iload 4, 2) := by decide +kernel
theorem dX11_markHomesWith_41 : decode cX11_markHomesWith 41 = .ok (.baload, 1) := by decide +kernel
theorem dX11_markHomesWith_42 : decode cX11_markHomesWith 42 = .ok (.ifCond .eq 7, 3) := by decide +kernel
theorem dX11_markHomesWith_45 : decode cX11_markHomesWith 45 = .ok (.iconst 1, 1) := by decide +kernel
theorem dX11_markHomesWith_46 : decode cX11_markHomesWith 46 = .ok (.goto 4, 3) := by decide +kernel
theorem dX11_markHomesWith_49 : decode cX11_markHomesWith 49 = .ok (.iconst 0, 1) := by decide +kernel
theorem dX11_markHomesWith_50 : decode cX11_markHomesWith 50 = .ok (.iadd, 1) := by decide +kernel
theorem dX11_markHomesWith_51 : decode cX11_markHomesWith 51 = .ok (.istore_n 3, 1) := by decide +kernel
theorem dX11_markHomesWith_52 : decode cX11_markHomesWith 52 = .ok (.iinc 4 1, 3) := by decide +kernel
theorem dX11_markHomesWith_55 : decode cX11_markHomesWith 55 = .ok (.goto (-50), 3) := by decide +kernel
theorem dX11_markHomesWith_58 : decode cX11_markHomesWith 58 = .ok (.iload_n 3, 1) := by decide +kernel
theorem dX11_markHomesWith_59 : decode cX11_markHomesWith 59 = .ok (.ireturn, 1) := by decide +kernel
theorem dX11_hasKind_0 : decode cX11_hasKind 0 = .ok (.iconst 0, 1) := by decide +kernel
theorem dX11_hasKind_1 : decode cX11_hasKind 1 = .ok (.istore 4, 2) := by decide +kernel
theorem dX11_hasKind_3 : decode cX11_hasKind 3 = .ok (.iload 4, 2) := by decide +kernel
theorem dX11_hasKind_5 : decode cX11_hasKind 5 = .ok (.aload_n 0, 1) := by decide +kernel
theorem dX11_hasKind_6 : decode cX11_hasKind 6 = .ok (.getfield 166, 3) := by decide +kernel
theorem dX11_hasKind_9 : decode cX11_hasKind 9 = .ok (.if_icmp .ge 62, 3) := by decide +kernel
theorem dX11_hasKind_12 : decode cX11_hasKind 12 = .ok (.aload_n 0, 1) := by decide +kernel
theorem dX11_hasKind_13 : decode cX11_hasKind 13 = .ok (.getfield 23, 3) := by decide +kernel
theorem dX11_hasKind_16 : decode cX11_hasKind 16 = .ok (.iload 4, 2) := by decide +kernel
theorem dX11_hasKind_18 : decode cX11_hasKind 18 = .ok (.aaload, 1) := by decide +kernel
theorem dX11_hasKind_19 : decode cX11_hasKind 19 = .ok (.astore 5, 2) := by decide +kernel
theorem dX11_hasKind_21 : decode cX11_hasKind 21 = .ok (.aload 5, 2) := by decide +kernel
theorem dX11_hasKind_23 : decode cX11_hasKind 23 = .ok (.getfield 222, 3) := by decide +kernel
theorem dX11_hasKind_26 : decode cX11_hasKind 26 = .ok (.aload_n 1, 1) := by decide +kernel
theorem dX11_hasKind_27 : decode cX11_hasKind 27 = .ok (.if_acmp .ne 38, 3) := by decide +kernel
theorem dX11_hasKind_30 : decode cX11_hasKind 30 = .ok (.aload 5, 2) := by decide +kernel
theorem dX11_hasKind_32 : decode cX11_hasKind 32 = .ok (.getfield 266, 3) := by decide +kernel
theorem dX11_hasKind_35 : decode cX11_hasKind 35 = .ok (.aload_n 2, 1) := by decide +kernel
theorem dX11_hasKind_36 : decode cX11_hasKind 36 = .ok (.if_acmp .ne 29, 3) := by decide +kernel
theorem dX11_hasKind_39 : decode cX11_hasKind 39 = .ok (.aload 5, 2) := by decide +kernel
theorem dX11_hasKind_41 : decode cX11_hasKind 41 = .ok (.getfield 187, 3) := by decide +kernel
theorem dX11_hasKind_44 : decode cX11_hasKind 44 = .ok (.iload_n 3, 1) := by decide +kernel
theorem dX11_hasKind_45 : decode cX11_hasKind 45 = .ok (.invokevirtual 219, 3) := by decide +kernel
theorem dX11_hasKind_48 : decode cX11_hasKind 48 = .ok (.istore 6, 2) := by decide +kernel
theorem dX11_hasKind_50 : decode cX11_hasKind 50 = .ok (.iload 6, 2) := by decide +kernel
theorem dX11_hasKind_52 : decode cX11_hasKind 52 = .ok (.bipush (-4), 2) := by decide +kernel
theorem dX11_hasKind_54 : decode cX11_hasKind 54 = .ok (.if_icmp .eq 11, 3) := by decide +kernel
theorem dX11_hasKind_57 : decode cX11_hasKind 57 = .ok (.iload 6, 2) := by decide +kernel
theorem dX11_hasKind_59 : decode cX11_hasKind 59 = .ok (.iconst 4, 1) := by decide +kernel
theorem dX11_hasKind_60 : decode cX11_hasKind 60 = .ok (.if_icmp .eq 5, 3) := by decide +kernel
theorem dX11_hasKind_63 : decode cX11_hasKind 63 = .ok (.iconst 1, 1) := by decide +kernel
theorem dX11_hasKind_64 : decode cX11_hasKind 64 = .ok (.ireturn, 1) := by decide +kernel
theorem dX11_hasKind_65 : decode cX11_hasKind 65 = .ok (.iinc 4 1, 3) := by decide +kernel
theorem dX11_hasKind_68 : decode cX11_hasKind 68 = .ok (.goto (-65), 3) := by decide +kernel
theorem dX11_hasKind_71 : decode cX11_hasKind 71 = .ok (.iconst 0, 1) := by decide +kernel
theorem dX11_hasKind_72 : decode cX11_hasKind 72 = .ok (.ireturn, 1) := by decide +kernel
theorem dX11_isOfGroup_0 : decode cX11_isOfGroup 0 = .ok (.iload_n 3, 1) := by decide +kernel
theorem dX11_isOfGroup_1 : decode cX11_isOfGroup 1 = .ok (.bipush 10, 2) := by decide +kernel
theorem dX11_isOfGroup_3 : decode cX11_isOfGroup 3 = .ok (.irem, 1) := by decide +kernel
theorem dX11_isOfGroup_4 : decode cX11_isOfGroup 4 = .ok (.istore 4, 2) := by decide +kernel
theorem dX11_isOfGroup_6 : decode cX11_isOfGroup 6 = .ok (.iload_n 3, 1) := by decide +kernel
theorem dX11_isOfGroup_7 : decode cX11_isOfGroup 7 = .ok (.bipush 10, 2) := by decide +kernel
theorem dX11_isOfGroup_9 : decode cX11_isOfGroup 9 = .ok (.idiv, 1) := by decide +kernel
theorem dX11_isOfGroup_10 : decode cX11_isOfGroup 10 = .ok (.tableswitch 75 0 2 #[26, 41, 60], 26) := by decide +kernel
theorem dX11_isOfGroup_36 : decode cX11_isOfGroup 36 = .ok (.aload_n 1, 1) := by decide +kernel
theorem dX11_isOfGroup_37 : decode cX11_isOfGroup 37 = .ok (.getfield 125, 3) := by decide +kernel
theorem dX11_isOfGroup_40 : decode cX11_isOfGroup 40 = .ok (.iload 4, 2) := by decide +kernel
theorem dX11_isOfGroup_42 : decode cX11_isOfGroup 42 = .ok (.if_icmp .ne 7, 3) := by decide +kernel
theorem dX11_isOfGroup_45 : decode cX11_isOfGroup 45 = .ok (.iconst 1, 1) := by decide +kernel
theorem dX11_isOfGroup_46 : decode cX11_isOfGroup 46 = .ok (.goto 4, 3) := by decide +kernel
theorem dX11_isOfGroup_49 : decode cX11_isOfGroup 49 = .ok (.iconst 0, 1) := by decide +kernel
theorem dX11_isOfGroup_50 : decode cX11_isOfGroup 50 = .ok (.ireturn, 1) := by decide +kernel
theorem dX11_isOfGroup_51 : decode cX11_isOfGroup 51 = .ok (.aload_n 1, 1) := by decide +kernel
theorem dX11_isOfGroup_52 : decode cX11_isOfGroup 52 = .ok (.aload_n 2, 1) := by decide +kernel
theorem dX11_isOfGroup_53 : decode cX11_isOfGroup 53 = .ok (.getfield 484, 3) := by decide +kernel
theorem dX11_isOfGroup_56 : decode cX11_isOfGroup 56 = .ok (.invokevirtual 118, 3) := by decide +kernel
theorem dX11_isOfGroup_59 : decode cX11_isOfGroup 59 = .ok (.iload 4, 2) := by decide +kernel
theorem dX11_isOfGroup_61 : decode cX11_isOfGroup 61 = .ok (.if_icmp .ne 7, 3) := by decide +kernel
theorem dX11_isOfGroup_64 : decode cX11_isOfGroup 64 = .ok (.iconst 1, 1) := by decide +kernel
theorem dX11_isOfGroup_65 : decode cX11_isOfGroup 65 = .ok (.goto 4, 3) := by decide +kernel
theorem dX11_isOfGroup_68 : decode cX11_isOfGroup 68 = .ok (.iconst 0, 1) := by decide +kernel
theorem dX11_isOfGroup_69 : decode cX11_isOfGroup 69 = .ok (.ireturn, 1) := by decide +kernel
theorem dX11_isOfGroup_70 : decode cX11_isOfGroup 70 = .ok (.aload_n 1, 1) := by decide +kernel
theorem dX11_isOfGroup_71 : decode cX11_isOfGroup 71 = .ok (.getfield 134, 3) := by decide +kernel
theorem dX11_isOfGroup_74 : decode cX11_isOfGroup 74 = .ok (.iload 4, 2) := by decide +kernel
theorem dX11_isOfGroup_76 : decode cX11_isOfGroup 76 = .ok (.if_icmp .ne 7, 3) := by decide +kernel
theorem dX11_isOfGroup_79 : decode cX11_isOfGroup 79 = .ok (.iconst 1, 1) := by decide +kernel
theorem dX11_isOfGroup_80 : decode cX11_isOfGroup 80 = .ok (.goto 4, 3) := by decide +kernel
theorem dX11_isOfGroup_83 : decode cX11_isOfGroup 83 = .ok (.iconst 0, 1) := by decide +kernel
theorem dX11_isOfGroup_84 : decode cX11_isOfGroup 84 = .ok (.ireturn, 1) := by decide +kernel
theorem dX11_isOfGroup_85 : decode cX11_isOfGroup 85 = .ok (.aload_n 1, 1) := by decide +kernel
theorem dX11_isOfGroup_86 : decode cX11_isOfGroup 86 = .ok (.getfield 131, 3) := by decide +kernel
theorem dX11_isOfGroup_89 : decode cX11_isOfGroup 89 = .ok (.aload_n 0, 1) := by decide +kernel
theorem dX11_isOfGroup_90 : decode cX11_isOfGroup 90 = .ok (.getfield 31, 3) := by decide +kernel
theorem dX11_isOfGroup_93 : decode cX11_isOfGroup 93 = .ok (.if_icmp .ge 7, 3) := by decide +kernel
theorem dX11_isOfGroup_96 : decode cX11_isOfGroup 96 = .ok (.iconst 1, 1) := by decide +kernel
theorem dX11_isOfGroup_97 : decode cX11_isOfGroup 97 = .ok (.goto 4, 3) := by decide +kernel
theorem dX11_isOfGroup_100 : decode cX11_isOfGroup 100 = .ok (.iconst 0, 1) := by decide +kernel
theorem dX11_isOfGroup_101 : decode cX11_isOfGroup 101 = .ok (.ireturn, 1) := by decide +kernel
theorem dX11_sizeOfGroup_0 : decode cX11_sizeOfGroup 0 = .ok (.iconst 0, 1) := by decide +kernel
theorem dX11_sizeOfGroup_1 : decode cX11_sizeOfGroup 1 = .ok (.istore 4, 2) := by decide +kernel
theorem dX11_sizeOfGroup_3 : decode cX11_sizeOfGroup 3 = .ok (.iconst 0, 1) := by decide +kernel
theorem dX11_sizeOfGroup_4 : decode cX11_sizeOfGroup 4 = .ok (.istore 5, 2) := by decide +kernel
theorem dX11_sizeOfGroup_6 : decode cX11_sizeOfGroup 6 = .ok (.iload 5, 2) := by decide +kernel
theorem dX11_sizeOfGroup_8 : decode cX11_sizeOfGroup 8 = .ok (.aload_n 0, 1) := by decide +kernel
theorem dX11_sizeOfGroup_9 : decode cX11_sizeOfGroup 9 = .ok (.getfield 86, 3) := by decide +kernel
theorem dX11_sizeOfGroup_12 : decode cX11_sizeOfGroup 12 = .ok (.if_icmp .ge 42, 3) := by decide +kernel
theorem dX11_sizeOfGroup_15 : decode cX11_sizeOfGroup 15 = .ok (.aload_n 0, 1) := by decide +kernel
theorem dX11_sizeOfGroup_16 : decode cX11_sizeOfGroup 16 = .ok (.aload_n 0, 1) := by decide +kernel
theorem dX11_sizeOfGroup_17 : decode cX11_sizeOfGroup 17 = .ok (.getfield 11, 3) := by decide +kernel
theorem dX11_sizeOfGroup_20 : decode cX11_sizeOfGroup 20 = .ok (.iload 5, 2) := by decide +kernel
theorem dX11_sizeOfGroup_22 : decode cX11_sizeOfGroup 22 = .ok (.aaload, 1) := by decide +kernel
theorem dX11_sizeOfGroup_23 : decode cX11_sizeOfGroup 23 = .ok (.aload_n 1, 1) := by decide +kernel
theorem dX11_sizeOfGroup_24 : decode cX11_sizeOfGroup 24 = .ok (.iload_n 2, 1) := by decide +kernel
theorem dX11_sizeOfGroup_25 : decode cX11_sizeOfGroup 25 = .ok (.invokevirtual 487, 3) := by decide +kernel
theorem dX11_sizeOfGroup_28 : decode cX11_sizeOfGroup 28 = .ok (.ifCond .eq 20, 3) := by decide +kernel
theorem dX11_sizeOfGroup_31 : decode cX11_sizeOfGroup 31 = .ok (.aload_n 0, 1) := by decide +kernel
theorem dX11_sizeOfGroup_32 : decode cX11_sizeOfGroup 32 = .ok (.getfield 75, 3) := by decide +kernel
theorem dX11_sizeOfGroup_35 : decode cX11_sizeOfGroup 35 = .ok (.iload 5, 2) := by decide +kernel
theorem dX11_sizeOfGroup_37 : decode cX11_sizeOfGroup 37 = .ok (.baload, 1) := by decide +kernel
theorem dX11_sizeOfGroup_38 : decode cX11_sizeOfGroup 38 = .ok (.ifCond .ne 7, 3) := by decide +kernel
theorem dX11_sizeOfGroup_41 : decode cX11_sizeOfGroup 41 = .ok (.iload_n 3, 1) := by decide +kernel
theorem dX11_sizeOfGroup_42 : decode cX11_sizeOfGroup 42 = .ok (.ifCond .ne 6, 3) := by decide +kernel
theorem dX11_sizeOfGroup_45 : decode cX11_sizeOfGroup 45 = .ok (.iinc 4 1, 3) := by decide +kernel
theorem dX11_sizeOfGroup_48 : decode cX11_sizeOfGroup 48 = .ok (.iinc 5 1, 3) := by decide +kernel
theorem dX11_sizeOfGroup_51 : decode cX11_sizeOfGroup 51 = .ok (.goto (-45), 3) := by decide +kernel
theorem dX11_sizeOfGroup_54 : decode cX11_sizeOfGroup 54 = .ok (.iload 4, 2) := by decide +kernel
theorem dX11_sizeOfGroup_56 : decode cX11_sizeOfGroup 56 = .ok (.ireturn, 1) := by decide +kernel
theorem dX11_chanceOf_0 : decode cX11_chanceOf 0 = .ok (.aload_n 0, 1) := by decide +kernel
theorem dX11_chanceOf_1 : decode cX11_chanceOf 1 = .ok (.aload_n 1, 1) := by decide +kernel
theorem dX11_chanceOf_2 : decode cX11_chanceOf 2 = .ok (.iload_n 2, 1) := by decide +kernel
theorem dX11_chanceOf_3 : decode cX11_chanceOf 3 = .ok (.iconst 0, 1) := by decide +kernel
theorem dX11_chanceOf_4 : decode cX11_chanceOf 4 = .ok (.invokevirtual 291, 3) := by decide +kernel
theorem dX11_chanceOf_7 : decode cX11_chanceOf 7 = .ok (.istore 4, 2) := by decide +kernel
theorem dX11_chanceOf_9 : decode cX11_chanceOf 9 = .ok (.aload_n 0, 1) := by decide +kernel
theorem dX11_chanceOf_10 : decode cX11_chanceOf 10 = .ok (.aload_n 1, 1) := by decide +kernel
theorem dX11_chanceOf_11 : decode cX11_chanceOf 11 = .ok (.iload_n 2, 1) := by decide +kernel
theorem dX11_chanceOf_12 : decode cX11_chanceOf 12 = .ok (.iconst 1, 1) := by decide +kernel
theorem dX11_chanceOf_13 : decode cX11_chanceOf 13 = .ok (.invokevirtual 291, 3) := by decide +kernel
theorem dX11_chanceOf_16 : decode cX11_chanceOf 16 = .ok (.istore 5, 2) := by decide +kernel
theorem dX11_chanceOf_18 : decode cX11_chanceOf 18 = .ok (.aload_n 0, 1) := by decide +kernel
theorem dX11_chanceOf_19 : decode cX11_chanceOf 19 = .ok (.getfield 86, 3) := by decide +kernel
theorem dX11_chanceOf_22 : decode cX11_chanceOf 22 = .ok (.iload_n 3, 1) := by decide +kernel
theorem dX11_chanceOf_23 : decode cX11_chanceOf 23 = .ok (.iload 4, 2) := by decide +kernel
theorem dX11_chanceOf_25 : decode cX11_chanceOf 25 = .ok (.iload 5, 2) := by decide +kernel
theorem dX11_chanceOf_27 : decode cX11_chanceOf 27 = .ok (.invokestatic 490, 3) := by decide +kernel
theorem dX11_chanceOf_30 : decode cX11_chanceOf 30 = .ok (.ireturn, 1) := by decide +kernel
theorem dX11_likeliestGroup_0 : decode cX11_likeliestGroup 0 = .ok (.bipush (-4), 2) := by decide +kernel
theorem dX11_likeliestGroup_2 : decode cX11_likeliestGroup 2 = .ok (.istore 4, 2) := by decide +kernel
theorem dX11_likeliestGroup_4 : decode cX11_likeliestGroup 4 = .ok (.iload_n 3, 1) := by decide +kernel
theorem dX11_likeliestGroup_5 : decode cX11_likeliestGroup 5 = .ok (.istore 5, 2) := by decide +kernel
theorem dX11_likeliestGroup_7 : decode cX11_likeliestGroup 7 = .ok (.iconst 0, 1) := by decide +kernel
theorem dX11_likeliestGroup_8 : decode cX11_likeliestGroup 8 = .ok (.istore 6, 2) := by decide +kernel
theorem dX11_likeliestGroup_10 : decode cX11_likeliestGroup 10 = .ok (.iload 6, 2) := by decide +kernel
theorem dX11_likeliestGroup_12 : decode cX11_likeliestGroup 12 = .ok (.bipush 30, 2) := by decide +kernel
theorem dX11_likeliestGroup_14 : decode cX11_likeliestGroup 14 = .ok (.if_icmp .gt 46, 3) := by decide +kernel
theorem dX11_likeliestGroup_17 : decode cX11_likeliestGroup 17 = .ok (.iload 6, 2) := by decide +kernel
theorem dX11_likeliestGroup_19 : decode cX11_likeliestGroup 19 = .ok (.invokestatic 284, 3) := by decide +kernel
theorem dX11_likeliestGroup_22 : decode cX11_likeliestGroup 22 = .ok (.ifCond .eq 14, 3) := by decide +kernel
theorem dX11_likeliestGroup_25 : decode cX11_likeliestGroup 25 = .ok (.aload_n 0, 1) := by decide +kernel
theorem dX11_likeliestGroup_26 : decode cX11_likeliestGroup 26 = .ok (.aload_n 1, 1) := by decide +kernel
theorem dX11_likeliestGroup_27 : decode cX11_likeliestGroup 27 = .ok (.iload 6, 2) := by decide +kernel
theorem dX11_likeliestGroup_29 : decode cX11_likeliestGroup 29 = .ok (.iload_n 2, 1) := by decide +kernel
theorem dX11_likeliestGroup_30 : decode cX11_likeliestGroup 30 = .ok (.invokevirtual 295, 3) := by decide +kernel
theorem dX11_likeliestGroup_33 : decode cX11_likeliestGroup 33 = .ok (.goto 4, 3) := by decide +kernel
theorem dX11_likeliestGroup_36 : decode cX11_likeliestGroup 36 = .ok (.iload_n 3, 1) := by decide +kernel
theorem dX11_likeliestGroup_37 : decode cX11_likeliestGroup 37 = .ok (.istore 7, 2) := by decide +kernel
theorem dX11_likeliestGroup_39 : decode cX11_likeliestGroup 39 = .ok (.iload 7, 2) := by decide +kernel
theorem dX11_likeliestGroup_41 : decode cX11_likeliestGroup 41 = .ok (.iload 5, 2) := by decide +kernel
theorem dX11_likeliestGroup_43 : decode cX11_likeliestGroup 43 = .ok (.if_icmp .ge 11, 3) := by decide +kernel
theorem dX11_likeliestGroup_46 : decode cX11_likeliestGroup 46 = .ok (.iload 7, 2) := by decide +kernel
theorem dX11_likeliestGroup_48 : decode cX11_likeliestGroup 48 = .ok (.istore 5, 2) := by decide +kernel
theorem dX11_likeliestGroup_50 : decode cX11_likeliestGroup 50 = .ok (.iload 6, 2) := by decide +kernel
theorem dX11_likeliestGroup_52 : decode cX11_likeliestGroup 52 = .ok (.istore 4, 2) := by decide +kernel
theorem dX11_likeliestGroup_54 : decode cX11_likeliestGroup 54 = .ok (.iinc 6 1, 3) := by decide +kernel
theorem dX11_likeliestGroup_57 : decode cX11_likeliestGroup 57 = .ok (.goto (-47), 3) := by decide +kernel
theorem dX11_likeliestGroup_60 : decode cX11_likeliestGroup 60 = .ok (.iload 4, 2) := by decide +kernel
theorem dX11_likeliestGroup_62 : decode cX11_likeliestGroup 62 = .ok (.ireturn, 1) := by decide +kernel
theorem dX11_areSameHomes_0 : decode cX11_areSameHomes 0 = .ok (.iconst 0, 1) := by decide +kernel
theorem dX11_areSameHomes_1 : decode cX11_areSameHomes 1 = .ok (.istore 4, 2) := by decide +kernel
theorem dX11_areSameHomes_3 : decode cX11_areSameHomes 3 = .ok (.iload 4, 2) := by decide +kernel
theorem dX11_areSameHomes_5 : decode cX11_areSameHomes 5 = .ok (.aload_n 0, 1) := by decide +kernel
theorem dX11_areSameHomes_6 : decode cX11_areSameHomes 6 = .ok (.getfield 86, 3) := by decide +kernel
theorem dX11_areSameHomes_9 : decode cX11_areSameHomes 9 = .ok (.if_icmp .ge 40, 3) := by decide +kernel
theorem dX11_areSameHomes_12 : decode cX11_areSameHomes 12 = .ok (.aload_n 0, 1) := by decide +kernel
theorem dX11_areSameHomes_13 : decode cX11_areSameHomes 13 = .ok (.aload_n 0, 1) := by decide +kernel
theorem dX11_areSameHomes_14 : decode cX11_areSameHomes 14 = .ok (.getfield 11, 3) := by decide +kernel
theorem dX11_areSameHomes_17 : decode cX11_areSameHomes 17 = .ok (.iload 4, 2) := by decide +kernel
theorem dX11_areSameHomes_19 : decode cX11_areSameHomes 19 = .ok (.aaload, 1) := by decide +kernel
theorem dX11_areSameHomes_20 : decode cX11_areSameHomes 20 = .ok (.aload_n 1, 1) := by decide +kernel
theorem dX11_areSameHomes_21 : decode cX11_areSameHomes 21 = .ok (.iload_n 2, 1) := by decide +kernel
theorem dX11_areSameHomes_22 : decode cX11_areSameHomes 22 = .ok (.invokevirtual 487, 3) := by decide +kernel
theorem dX11_areSameHomes_25 : decode cX11_areSameHomes 25 = .ok (.aload_n 0, 1) := by decide +kernel
theorem dX11_areSameHomes_26 : decode cX11_areSameHomes 26 = .ok (.aload_n 0, 1) := by decide +kernel
theorem dX11_areSameHomes_27 : decode cX11_areSameHomes 27 = .ok (.getfield 11, 3) := by decide +kernel
theorem dX11_areSameHomes_30 : decode cX11_areSameHomes 30 = .ok (.iload 4, 2) := by decide +kernel
theorem dX11_areSameHomes_32 : decode cX11_areSameHomes 32 = .ok (.aaload, 1) := by decide +kernel
theorem dX11_areSameHomes_33 : decode cX11_areSameHomes 33 = .ok (.aload_n 1, 1) := by decide +kernel
theorem dX11_areSameHomes_34 : decode cX11_areSameHomes 34 = .ok (.iload_n 3, 1) := by decide +kernel
theorem dX11_areSameHomes_35 : decode cX11_areSameHomes 35 = .ok (.invokevirtual 487, 3) := by decide +kernel
theorem dX11_areSameHomes_38 : decode cX11_areSameHomes 38 = .ok (.if_icmp .eq 5, 3) := by decide +kernel
theorem dX11_areSameHomes_41 : decode cX11_areSameHomes 41 = .ok (.iconst 0, 1) := by decide +kernel
theorem dX11_areSameHomes_42 : decode cX11_areSameHomes 42 = .ok (.ireturn, 1) := by decide +kernel
theorem dX11_areSameHomes_43 : decode cX11_areSameHomes 43 = .ok (.iinc 4 1, 3) := by decide +kernel
theorem dX11_areSameHomes_46 : decode cX11_areSameHomes 46 = .ok (.goto (-43), 3) := by decide +kernel
theorem dX11_areSameHomes_49 : decode cX11_areSameHomes 49 = .ok (.iconst 1, 1) := by decide +kernel
theorem dX11_areSameHomes_50 : decode cX11_areSameHomes 50 = .ok (.ireturn, 1) := by decide +kernel
theorem dX11_isSinking_0 : decode cX11_isSinking 0 = .ok (.iconst 0, 1) := by decide +kernel
theorem dX11_isSinking_1 : decode cX11_isSinking 1 = .ok (.istore_n 2, 1) := by decide +kernel
theorem dX11_isSinking_2 : decode cX11_isSinking 2 = .ok (.iload_n 2, 1) := by decide +kernel
theorem dX11_isSinking_3 : decode cX11_isSinking 3 = .ok (.aload_n 0, 1) := by decide +kernel
theorem dX11_isSinking_4 : decode cX11_isSinking 4 = .ok (.getfield 166, 3) := by decide +kernel
theorem dX11_isSinking_7 : decode cX11_isSinking 7 = .ok (.if_icmp .ge 49, 3) := by decide +kernel
theorem dX11_isSinking_10 : decode cX11_isSinking 10 = .ok (.aload_n 0, 1) := by decide +kernel
theorem dX11_isSinking_11 : decode cX11_isSinking 11 = .ok (.getfield 23, 3) := by decide +kernel
theorem dX11_isSinking_14 : decode cX11_isSinking 14 = .ok (.iload_n 2, 1) := by decide +kernel
theorem dX11_isSinking_15 : decode cX11_isSinking 15 = .ok (.aaload, 1) := by decide +kernel
theorem dX11_isSinking_16 : decode cX11_isSinking 16 = .ok (.astore_n 3, 1) := by decide +kernel
theorem dX11_isSinking_17 : decode cX11_isSinking 17 = .ok (.aload_n 3, 1) := by decide +kernel
theorem dX11_isSinking_18 : decode cX11_isSinking 18 = .ok (.getfield 222, 3) := by decide +kernel
theorem dX11_isSinking_21 : decode cX11_isSinking 21 = .ok (.aload_n 1, 1) := by decide +kernel
theorem dX11_isSinking_22 : decode cX11_isSinking 22 = .ok (.if_acmp .ne 28, 3) := by decide +kernel
theorem dX11_isSinking_25 : decode cX11_isSinking 25 = .ok (.aload_n 3, 1) := by decide +kernel
theorem dX11_isSinking_26 : decode cX11_isSinking 26 = .ok (.aload_n 0, 1) := by decide +kernel
theorem dX11_isSinking_27 : decode cX11_isSinking 27 = .ok (.getfield 79, 3) := by decide +kernel
theorem dX11_isSinking_30 : decode cX11_isSinking 30 = .ok (.invokevirtual 454, 3) := by decide +kernel
theorem dX11_isSinking_33 : decode cX11_isSinking 33 = .ok (.ifCond .eq 17, 3) := by decide +kernel
theorem dX11_isSinking_36 : decode cX11_isSinking 36 = .ok (.aload_n 3, 1) := by decide +kernel
theorem dX11_isSinking_37 : decode cX11_isSinking 37 = .ok (.aload_n 0, 1) := by decide +kernel
theorem dX11_isSinking_38 : decode cX11_isSinking 38 = .ok (.getfield 79, 3) := by decide +kernel
theorem dX11_isSinking_41 : decode cX11_isSinking 41 = .ok (.invokevirtual 493, 3) := by decide +kernel
theorem dX11_isSinking_44 : decode cX11_isSinking 44 = .ok (.iconst 2, 1) := by decide +kernel
theorem dX11_isSinking_45 : decode cX11_isSinking 45 = .ok (.if_icmp .ne 5, 3) := by decide +kernel
theorem dX11_isSinking_48 : decode cX11_isSinking 48 = .ok (.iconst 1, 1) := by decide +kernel
theorem dX11_isSinking_49 : decode cX11_isSinking 49 = .ok (.ireturn, 1) := by decide +kernel
theorem dX11_isSinking_50 : decode cX11_isSinking 50 = .ok (.iinc 2 1, 3) := by decide +kernel
theorem dX11_isSinking_53 : decode cX11_isSinking 53 = .ok (.goto (-51), 3) := by decide +kernel
theorem dX11_isSinking_56 : decode cX11_isSinking 56 = .ok (.iconst 0, 1) := by decide +kernel
theorem dX11_isSinking_57 : decode cX11_isSinking 57 = .ok (.ireturn, 1) := by decide +kernel
theorem dX11_decide_0 : decode cX11_decide 0 = .ok (.aload_n 1, 1) := by decide +kernel
theorem dX11_decide_1 : decode cX11_decide 1 = .ok (.invokevirtual 496, 3) := by decide +kernel
theorem dX11_decide_4 : decode cX11_decide 4 = .ok (.ifCond .eq 15, 3) := by decide +kernel
theorem dX11_decide_7 : decode cX11_decide 7 = .ok (.aload_n 0, 1) := by decide +kernel
theorem dX11_decide_8 : decode cX11_decide 8 = .ok (.getfield 54, 3) := by decide +kernel
theorem dX11_decide_11 : decode cX11_decide 11 = .ok (.aload_n 1, 1) := by decide +kernel
theorem dX11_decide_12 : decode cX11_decide 12 = .ok (.invokevirtual 251, 3) := by decide +kernel
theorem dX11_decide_15 : decode cX11_decide 15 = .ok (.invokevirtual 499, 3) := by decide +kernel
theorem dX11_decide_18 : decode cX11_decide 18 = .ok (.return_, 1) := by decide +kernel
theorem dX11_decide_19 : decode cX11_decide 19 = .ok (.aload_n 0, 1) := by decide +kernel
theorem dX11_decide_20 : decode cX11_decide 20 = .ok (.getfield 44, 3) := by decide +kernel
theorem dX11_decide_23 : decode cX11_decide 23 = .ok (.aload_n 0, 1) := by decide +kernel
theorem dX11_decide_24 : decode cX11_decide 24 = .ok (.getfield 44, 3) := by decide +kernel
theorem dX11_decide_27 : decode cX11_decide 27 = .ok (.aload_n 1, 1) := by decide +kernel
theorem dX11_decide_28 : decode cX11_decide 28 = .ok (.getfield 222, 3) := by decide +kernel
theorem dX11_decide_31 : decode cX11_decide 31 = .ok (.aload_n 0, 1) := by decide +kernel
theorem dX11_decide_32 : decode cX11_decide 32 = .ok (.getfield 79, 3) := by decide +kernel
theorem dX11_decide_35 : decode cX11_decide 35 = .ok (.invokevirtual 379, 3) := by decide +kernel
theorem dX11_decide_38 : decode cX11_decide 38 = .ok (.invokevirtual 399, 3) := by decide +kernel
theorem dX11_decide_41 : decode cX11_decide 41 = .ok (.astore_n 2, 1) := by decide +kernel
theorem dX11_decide_42 : decode cX11_decide 42 = .ok (.aload_n 2, 1) := by decide +kernel
theorem dX11_decide_43 : decode cX11_decide 43 = .ok (.ifnonnull 15, 3) := by decide +kernel
theorem dX11_decide_46 : decode cX11_decide 46 = .ok (.aload_n 0, 1) := by decide +kernel
theorem dX11_decide_47 : decode cX11_decide 47 = .ok (.getfield 54, 3) := by decide +kernel
theorem dX11_decide_50 : decode cX11_decide 50 = .ok (.aload_n 1, 1) := by decide +kernel
theorem dX11_decide_51 : decode cX11_decide 51 = .ok (.invokevirtual 251, 3) := by decide +kernel
theorem dX11_decide_54 : decode cX11_decide 54 = .ok (.invokevirtual 503, 3) := by decide +kernel
theorem dX11_decide_57 : decode cX11_decide 57 = .ok (.return_, 1) := by decide +kernel
theorem dX11_decide_58 : decode cX11_decide 58 = .ok (.aload_n 0, 1) := by decide +kernel
theorem dX11_decide_59 : decode cX11_decide 59 = .ok (.aload_n 1, 1) := by decide +kernel
theorem dX11_decide_60 : decode cX11_decide 60 = .ok (.invokevirtual 460, 3) := by decide +kernel
theorem dX11_decide_63 : decode cX11_decide 63 = .ok (.istore_n 3, 1) := by decide +kernel
theorem dX11_decide_64 : decode cX11_decide 64 = .ok (.aload_n 0, 1) := by decide +kernel
theorem dX11_decide_65 : decode cX11_decide 65 = .ok (.getfield 54, 3) := by decide +kernel
theorem dX11_decide_68 : decode cX11_decide 68 = .ok (.getfield 506, 3) := by decide +kernel
theorem dX11_decide_71 : decode cX11_decide 71 = .ok (.astore 4, 2) := by decide +kernel
theorem dX11_decide_73 : decode cX11_decide 73 = .ok (.aload 4, 2) := by decide +kernel
theorem dX11_decide_75 : decode cX11_decide 75 = .ok (.iconst 0, 1) := by decide +kernel
theorem dX11_decide_76 : decode cX11_decide 76 = .ok (.aload_n 1, 1) := by decide +kernel
theorem dX11_decide_77 : decode cX11_decide 77 = .ok (.getfield 238, 3) := by decide +kernel
theorem dX11_decide_80 : decode cX11_decide 80 = .ok (.aload_n 1, 1) := by decide +kernel
theorem dX11_decide_81 : decode cX11_decide 81 = .ok (.getfield 222, 3) := by decide +kernel
theorem dX11_decide_84 : decode cX11_decide 84 = .ok (.getfield 101, 3) := by decide +kernel
theorem dX11_decide_87 : decode cX11_decide 87 = .ok (.isub, 1) := by decide +kernel
theorem dX11_decide_88 : decode cX11_decide 88 = .ok (.sipush 360, 3) := by decide +kernel
theorem dX11_decide_91 : decode cX11_decide 91 = .ok (.idiv, 1) := by decide +kernel
theorem dX11_decide_92 : decode cX11_decide 92 = .ok (.iastore, 1) := by decide +kernel
theorem dX11_decide_93 : decode cX11_decide 93 = .ok (.aload 4, 2) := by decide +kernel
theorem dX11_decide_95 : decode cX11_decide 95 = .ok (.iconst 1, 1) := by decide +kernel
theorem dX11_decide_96 : decode cX11_decide 96 = .ok (.aload_n 1, 1) := by decide +kernel
theorem dX11_decide_97 : decode cX11_decide 97 = .ok (.getfield 232, 3) := by decide +kernel
theorem dX11_decide_100 : decode cX11_decide 100 = .ok (.iastore, 1) := by decide +kernel
theorem dX11_decide_101 : decode cX11_decide 101 = .ok (.aload 4, 2) := by decide +kernel
theorem dX11_decide_103 : decode cX11_decide 103 = .ok (.iconst 2, 1) := by decide +kernel
theorem dX11_decide_104 : decode cX11_decide 104 = .ok (.aload_n 1, 1) := by decide +kernel
theorem dX11_decide_105 : decode cX11_decide 105 = .ok (.getfield 266, 3) := by decide +kernel
theorem dX11_decide_108 : decode cX11_decide 108 = .ok (.getfield 484, 3) := by decide +kernel
theorem dX11_decide_111 : decode cX11_decide 111 = .ok (.iastore, 1) := by decide +kernel
theorem dX11_decide_112 : decode cX11_decide 112 = .ok (.aload 4, 2) := by decide +kernel
theorem dX11_decide_114 : decode cX11_decide 114 = .ok (.iconst 3, 1) := by decide +kernel
theorem dX11_decide_115 : decode cX11_decide 115 = .ok (.aload_n 1, 1) := by decide +kernel
theorem dX11_decide_116 : decode cX11_decide 116 = .ok (.getfield 235, 3) := by decide +kernel
theorem dX11_decide_119 : decode cX11_decide 119 = .ok (.iastore, 1) := by decide +kernel
theorem dX11_decide_120 : decode cX11_decide 120 = .ok (.aload 4, 2) := by decide +kernel
theorem dX11_decide_122 : decode cX11_decide 122 = .ok (.iconst 4, 1) := by decide +kernel
theorem dX11_decide_123 : decode cX11_decide 123 = .ok (.aload_n 1, 1) := by decide +kernel
theorem dX11_decide_124 : decode cX11_decide 124 = .ok (.getfield 248, 3) := by decide +kernel
theorem dX11_decide_127 : decode cX11_decide 127 = .ok (.ifCond .eq 7, 3) := by decide +kernel
theorem dX11_decide_130 : decode cX11_decide 130 = .ok (.iconst 1, 1) := by decide +kernel
theorem dX11_decide_131 : decode cX11_decide 131 = .ok (.goto 4, 3) := by decide +kernel
theorem dX11_decide_134 : decode cX11_decide 134 = .ok (.iconst 0, 1) := by decide +kernel
theorem dX11_decide_135 : decode cX11_decide 135 = .ok (.iastore, 1) := by decide +kernel
theorem dX11_decide_136 : decode cX11_decide 136 = .ok (.aload 4, 2) := by decide +kernel
theorem dX11_decide_138 : decode cX11_decide 138 = .ok (.iconst 5, 1) := by decide +kernel
theorem dX11_decide_139 : decode cX11_decide 139 = .ok (.aload_n 1, 1) := by decide +kernel
theorem dX11_decide_140 : decode cX11_decide 140 = .ok (.getfield 222, 3) := by decide +kernel
theorem dX11_decide_143 : decode cX11_decide 143 = .ok (.aload_n 1, 1) := by decide +kernel
theorem dX11_decide_144 : decode cX11_decide 144 = .ok (.getfield 238, 3) := by decide +kernel
theorem dX11_decide_147 : decode cX11_decide 147 = .ok (.invokevirtual 509, 3) := by decide +kernel
theorem dX11_decide_150 : decode cX11_decide 150 = .ok (.iastore, 1) := by decide +kernel
theorem dX11_decide_151 : decode cX11_decide 151 = .ok (.aload 4, 2) := by decide +kernel
theorem dX11_decide_153 : decode cX11_decide 153 = .ok (.bipush 6, 2) := by decide +kernel
theorem dX11_decide_155 : decode cX11_decide 155 = .ok (.aload_n 1, 1) := by decide +kernel
theorem dX11_decide_156 : decode cX11_decide 156 = .ok (.aload_n 0, 1) := by decide +kernel
theorem dX11_decide_157 : decode cX11_decide 157 = .ok (.getfield 79, 3) := by decide +kernel
theorem dX11_decide_160 : decode cX11_decide 160 = .ok (.invokevirtual 493, 3) := by decide +kernel
theorem dX11_decide_163 : decode cX11_decide 163 = .ok (.iastore, 1) := by decide +kernel
theorem dX11_decide_164 : decode cX11_decide 164 = .ok (.aload 4, 2) := by decide +kernel
theorem dX11_decide_166 : decode cX11_decide 166 = .ok (.bipush 7, 2) := by decide +kernel
theorem dX11_decide_168 : decode cX11_decide 168 = .ok (.iload_n 3, 1) := by decide +kernel
theorem dX11_decide_169 : decode cX11_decide 169 = .ok (.bipush (-4), 2) := by decide +kernel
theorem dX11_decide_171 : decode cX11_decide 171 = .ok (.if_icmp .ne 7, 3) := by decide +kernel
theorem dX11_decide_174 : decode cX11_decide 174 = .ok (.iconst 0, 1) := by decide +kernel
theorem dX11_decide_175 : decode cX11_decide 175 = .ok (.goto 4, 3) := by decide +kernel
theorem dX11_decide_178 : decode cX11_decide 178 = .ok (.iconst 1, 1) := by decide +kernel
theorem dX11_decide_179 : decode cX11_decide 179 = .ok (.iastore, 1) := by decide +kernel
theorem dX11_decide_180 : decode cX11_decide 180 = .ok (.aload 4, 2) := by decide +kernel
theorem dX11_decide_182 : decode cX11_decide 182 = .ok (.bipush 8, 2) := by decide +kernel
theorem dX11_decide_184 : decode cX11_decide 184 = .ok (.aload_n 1, 1) := by decide +kernel
theorem dX11_decide_185 : decode cX11_decide 185 = .ok (.getfield 229, 3) := by decide +kernel
theorem dX11_decide_188 : decode cX11_decide 188 = .ok (.iconst 4, 1) := by decide +kernel
theorem dX11_decide_189 : decode cX11_decide 189 = .ok (.idiv, 1) := by decide +kernel
theorem dX11_decide_190 : decode cX11_decide 190 = .ok (.iastore, 1) := by decide +kernel
theorem dX11_decide_191 : decode cX11_decide 191 = .ok (.iload_n 3, 1) := by decide +kernel
theorem dX11_decide_192 : decode cX11_decide 192 = .ok (.bipush (-4), 2) := by decide +kernel
theorem dX11_decide_194 : decode cX11_decide 194 = .ok (.if_icmp .ne 20, 3) := by decide +kernel
theorem dX11_decide_197 : decode cX11_decide 197 = .ok (.aload_n 1, 1) := by decide +kernel
theorem dX11_decide_198 : decode cX11_decide 198 = .ok (.getfield 222, 3) := by decide +kernel
theorem dX11_decide_201 : decode cX11_decide 201 = .ok (.aload_n 1, 1) := by decide +kernel
theorem dX11_decide_202 : decode cX11_decide 202 = .ok (.getfield 266, 3) := by decide +kernel
theorem dX11_decide_205 : decode cX11_decide 205 = .ok (.getfield 484, 3) := by decide +kernel
theorem dX11_decide_208 : decode cX11_decide 208 = .ok (.invokevirtual 118, 3) := by decide +kernel
theorem dX11_decide_211 : decode cX11_decide 211 = .ok (.goto 4, 3) := by decide +kernel
theorem dX11_decide_214 : decode cX11_decide 214 = .ok (.iload_n 3, 1) := by decide +kernel
theorem dX11_decide_215 : decode cX11_decide 215 = .ok (.istore 5, 2) := by decide +kernel
theorem dX11_decide_217 : decode cX11_decide 217 = .ok (.aload_n 0, 1) := by decide +kernel
theorem dX11_decide_218 : decode cX11_decide 218 = .ok (.getfield 54, 3) := by decide +kernel
theorem dX11_decide_221 : decode cX11_decide 221 = .ok (.aload_n 2, 1) := by decide +kernel
theorem dX11_decide_222 : decode cX11_decide 222 = .ok (.aload_n 1, 1) := by decide +kernel
theorem dX11_decide_223 : decode cX11_decide 223 = .ok (.invokevirtual 251, 3) := by decide +kernel
theorem dX11_decide_226 : decode cX11_decide 226 = .ok (.iload 5, 2) := by decide +kernel
theorem dX11_decide_228 : decode cX11_decide 228 = .ok (.invokevirtual 512, 3) := by decide +kernel
theorem dX11_decide_231 : decode cX11_decide 231 = .ok (.return_, 1) := by decide +kernel
theorem dX11_hasListed_0 : decode cX11_hasListed 0 = .ok (.iconst 0, 1) := by decide +kernel
theorem dX11_hasListed_1 : decode cX11_hasListed 1 = .ok (.istore_n 3, 1) := by decide +kernel
theorem dX11_hasListed_2 : decode cX11_hasListed 2 = .ok (.iload_n 3, 1) := by decide +kernel
theorem dX11_hasListed_3 : decode cX11_hasListed 3 = .ok (.aload_n 0, 1) := by decide +kernel
theorem dX11_hasListed_4 : decode cX11_hasListed 4 = .ok (.getfield 166, 3) := by decide +kernel
theorem dX11_hasListed_7 : decode cX11_hasListed 7 = .ok (.if_icmp .ge 37, 3) := by decide +kernel
theorem dX11_hasListed_10 : decode cX11_hasListed 10 = .ok (.aload_n 0, 1) := by decide +kernel
theorem dX11_hasListed_11 : decode cX11_hasListed 11 = .ok (.getfield 23, 3) := by decide +kernel
theorem dX11_hasListed_14 : decode cX11_hasListed 14 = .ok (.iload_n 3, 1) := by decide +kernel
theorem dX11_hasListed_15 : decode cX11_hasListed 15 = .ok (.aaload, 1) := by decide +kernel
theorem dX11_hasListed_16 : decode cX11_hasListed 16 = .ok (.getfield 222, 3) := by decide +kernel
theorem dX11_hasListed_19 : decode cX11_hasListed 19 = .ok (.aload_n 1, 1) := by decide +kernel
theorem dX11_hasListed_20 : decode cX11_hasListed 20 = .ok (.if_acmp .ne 18, 3) := by decide +kernel
theorem dX11_hasListed_23 : decode cX11_hasListed 23 = .ok (.aload_n 0, 1) := by decide +kernel
theorem dX11_hasListed_24 : decode cX11_hasListed 24 = .ok (.getfield 23, 3) := by decide +kernel
theorem dX11_hasListed_27 : decode cX11_hasListed 27 = .ok (.iload_n 3, 1) := by decide +kernel
theorem dX11_hasListed_28 : decode cX11_hasListed 28 = .ok (.aaload, 1) := by decide +kernel
theorem dX11_hasListed_29 : decode cX11_hasListed 29 = .ok (.iload_n 2, 1) := by decide +kernel
theorem dX11_hasListed_30 : decode cX11_hasListed 30 = .ok (.invokevirtual 516, 3) := by decide +kernel
theorem dX11_hasListed_33 : decode cX11_hasListed 33 = .ok (.ifCond .eq 5, 3) := by decide +kernel
theorem dX11_hasListed_36 : decode cX11_hasListed 36 = .ok (.iconst 1, 1) := by decide +kernel
theorem dX11_hasListed_37 : decode cX11_hasListed 37 = .ok (.ireturn, 1) := by decide +kernel
theorem dX11_hasListed_38 : decode cX11_hasListed 38 = .ok (.iinc 3 1, 3) := by decide +kernel
theorem dX11_hasListed_41 : decode cX11_hasListed 41 = .ok (.goto (-39), 3) := by decide +kernel
theorem dX11_hasListed_44 : decode cX11_hasListed 44 = .ok (.iconst 0, 1) := by decide +kernel
theorem dX11_hasListed_45 : decode cX11_hasListed 45 = .ok (.ireturn, 1) := by decide +kernel
theorem dX11_areDoubles_0 : decode cX11_areDoubles 0 = .ok (.aload_n 0, 1) := by decide +kernel
theorem dX11_areDoubles_1 : decode cX11_areDoubles 1 = .ok (.aload_n 1, 1) := by decide +kernel
theorem dX11_areDoubles_2 : decode cX11_areDoubles 2 = .ok (.iload_n 2, 1) := by decide +kernel
theorem dX11_areDoubles_3 : decode cX11_areDoubles 3 = .ok (.invokevirtual 519, 3) := by decide +kernel
theorem dX11_areDoubles_6 : decode cX11_areDoubles 6 = .ok (.ifCond .eq 16, 3) := by decide +kernel
theorem dX11_areDoubles_9 : decode cX11_areDoubles 9 = .ok (.aload_n 0, 1) := by decide +kernel
theorem dX11_areDoubles_10 : decode cX11_areDoubles 10 = .ok (.aload_n 1, 1) := by decide +kernel
theorem dX11_areDoubles_11 : decode cX11_areDoubles 11 = .ok (.iload_n 3, 1) := by decide +kernel
theorem dX11_areDoubles_12 : decode cX11_areDoubles 12 = .ok (.invokevirtual 519, 3) := by decide +kernel
theorem dX11_areDoubles_15 : decode cX11_areDoubles 15 = .ok (.ifCond .eq 7, 3) := by decide +kernel
theorem dX11_areDoubles_18 : decode cX11_areDoubles 18 = .ok (.iconst 1, 1) := by decide +kernel
theorem dX11_areDoubles_19 : decode cX11_areDoubles 19 = .ok (.goto 4, 3) := by decide +kernel
theorem dX11_areDoubles_22 : decode cX11_areDoubles 22 = .ok (.iconst 0, 1) := by decide +kernel
theorem dX11_areDoubles_23 : decode cX11_areDoubles 23 = .ok (.ireturn, 1) := by decide +kernel
theorem dX11_doubleHomes_0 : decode cX11_doubleHomes 0 = .ok (.iconst 0, 1) := by decide +kernel
theorem dX11_doubleHomes_1 : decode cX11_doubleHomes 1 = .ok (.istore_n 3, 1) := by decide +kernel
theorem dX11_doubleHomes_2 : decode cX11_doubleHomes 2 = .ok (.iconst 0, 1) := by decide +kernel
theorem dX11_doubleHomes_3 : decode cX11_doubleHomes 3 = .ok (.istore 4, 2) := by decide +kernel
theorem dX11_doubleHomes_5 : decode cX11_doubleHomes 5 = .ok (.iload 4, 2) := by decide +kernel
theorem dX11_doubleHomes_7 : decode cX11_doubleHomes 7 = .ok (.aload_n 0, 1) := by decide +kernel
theorem dX11_doubleHomes_8 : decode cX11_doubleHomes 8 = .ok (.getfield 86, 3) := by decide +kernel
theorem dX11_doubleHomes_11 : decode cX11_doubleHomes 11 = .ok (.if_icmp .ge 33, 3) := by decide +kernel
theorem dX11_doubleHomes_14 : decode cX11_doubleHomes 14 = .ok (.iload_n 3, 1) := by decide +kernel
theorem dX11_doubleHomes_15 : decode cX11_doubleHomes 15 = .ok (.aload_n 0, 1) := by decide +kernel
theorem dX11_doubleHomes_16 : decode cX11_doubleHomes 16 = .ok (.aload_n 0, 1) := by decide +kernel
theorem dX11_doubleHomes_17 : decode cX11_doubleHomes 17 = .ok (.getfield 11, 3) := by decide +kernel
theorem dX11_doubleHomes_20 : decode cX11_doubleHomes 20 = .ok (.iload 4, 2) := by decide +kernel
theorem dX11_doubleHomes_22 : decode cX11_doubleHomes 22 = .ok (.aaload, 1) := by decide +kernel
theorem dX11_doubleHomes_23 : decode cX11_doubleHomes 23 = .ok (.iload_n 1, 1) := by decide +kernel
theorem dX11_doubleHomes_24 : decode cX11_doubleHomes 24 = .ok (.iload_n 2, 1) := by decide +kernel
theorem dX11_doubleHomes_25 : decode cX11_doubleHomes 25 = .ok (.invokevirtual 523, 3) := by decide +kernel
theorem dX11_doubleHomes_28 : decode cX11_doubleHomes 28 = .ok (.ifCond .eq 7, 3) := by decide +kernel
theorem dX11_doubleHomes_31 : decode cX11_doubleHomes 31 = .ok (.iconst 1, 1) := by decide +kernel
theorem dX11_doubleHomes_32 : decode cX11_doubleHomes 32 = .ok (.goto 4, 3) := by decide +kernel
theorem dX11_doubleHomes_35 : decode cX11_doubleHomes 35 = .ok (.iconst 0, 1) := by decide +kernel
theorem dX11_doubleHomes_36 : decode cX11_doubleHomes 36 = .ok (.iadd, 1) := by decide +kernel
theorem dX11_doubleHomes_37 : decode cX11_doubleHomes 37 = .ok (.istore_n 3, 1) := by decide +kernel
theorem dX11_doubleHomes_38 : decode cX11_doubleHomes 38 = .ok (.iinc 4 1, 3) := by decide +kernel
theorem dX11_doubleHomes_41 : decode cX11_doubleHomes 41 = .ok (.goto (-36), 3) := by decide +kernel
theorem dX11_doubleHomes_44 : decode cX11_doubleHomes 44 = .ok (.iload_n 3, 1) := by decide +kernel
theorem dX11_doubleHomes_45 : decode cX11_doubleHomes 45 = .ok (.ireturn, 1) := by decide +kernel
theorem dX11_firstListed_0 : decode cX11_firstListed 0 = .ok (.iconst 0, 1) := by decide +kernel
theorem dX11_firstListed_1 : decode cX11_firstListed 1 = .ok (.istore_n 3, 1) := by decide +kernel
theorem dX11_firstListed_2 : decode cX11_firstListed 2 = .ok (.iload_n 3, 1) := by decide +kernel
theorem dX11_firstListed_3 : decode cX11_firstListed 3 = .ok (.aload_n 0, 1) := by decide +kernel
theorem dX11_firstListed_4 : decode cX11_firstListed 4 = .ok (.getfield 166, 3) := by decide +kernel
theorem dX11_firstListed_7 : decode cX11_firstListed 7 = .ok (.if_icmp .ge 42, 3) := by decide +kernel
theorem dX11_firstListed_10 : decode cX11_firstListed 10 = .ok (.aload_n 0, 1) := by decide +kernel
theorem dX11_firstListed_11 : decode cX11_firstListed 11 = .ok (.getfield 23, 3) := by decide +kernel
theorem dX11_firstListed_14 : decode cX11_firstListed 14 = .ok (.iload_n 3, 1) := by decide +kernel
theorem dX11_firstListed_15 : decode cX11_firstListed 15 = .ok (.aaload, 1) := by decide +kernel
theorem dX11_firstListed_16 : decode cX11_firstListed 16 = .ok (.iload_n 2, 1) := by decide +kernel
theorem dX11_firstListed_17 : decode cX11_firstListed 17 = .ok (.invokevirtual 516, 3) := by decide +kernel
theorem dX11_firstListed_20 : decode cX11_firstListed 20 = .ok (.ifCond .eq 23, 3) := by decide +kernel
theorem dX11_firstListed_23 : decode cX11_firstListed 23 = .ok (.aload_n 0, 1) := by decide +kernel
theorem dX11_firstListed_24 : decode cX11_firstListed 24 = .ok (.getfield 23, 3) := by decide +kernel
theorem dX11_firstListed_27 : decode cX11_firstListed 27 = .ok (.iload_n 3, 1) := by decide +kernel
theorem dX11_firstListed_28 : decode cX11_firstListed 28 = .ok (.aaload, 1) := by decide +kernel
theorem dX11_firstListed_29 : decode cX11_firstListed 29 = .ok (.aload_n 1, 1) := by decide +kernel
theorem dX11_firstListed_30 : decode cX11_firstListed 30 = .ok (.invokevirtual 464, 3) := by decide +kernel
theorem dX11_firstListed_33 : decode cX11_firstListed 33 = .ok (.ifCond .eq 10, 3) := by decide +kernel
theorem dX11_firstListed_36 : decode cX11_firstListed 36 = .ok (.aload_n 0, 1) := by decide +kernel
theorem dX11_firstListed_37 : decode cX11_firstListed 37 = .ok (.getfield 23, 3) := by decide +kernel
theorem dX11_firstListed_40 : decode cX11_firstListed 40 = .ok (.iload_n 3, 1) := by decide +kernel
theorem dX11_firstListed_41 : decode cX11_firstListed 41 = .ok (.aaload, 1) := by decide +kernel
theorem dX11_firstListed_42 : decode cX11_firstListed 42 = .ok (.areturn, 1) := by decide +kernel
theorem dX11_firstListed_43 : decode cX11_firstListed 43 = .ok (.iinc 3 1, 3) := by decide +kernel
theorem dX11_firstListed_46 : decode cX11_firstListed 46 = .ok (.goto (-44), 3) := by decide +kernel
theorem dX11_firstListed_49 : decode cX11_firstListed 49 = .ok (.aconst_null, 1) := by decide +kernel
theorem dX11_firstListed_50 : decode cX11_firstListed 50 = .ok (.areturn, 1) := by decide +kernel
theorem dX11_toldByOne_0 : decode cX11_toldByOne 0 = .ok (.iconst 0, 1) := by decide +kernel
theorem dX11_toldByOne_1 : decode cX11_toldByOne 1 = .ok (.istore 4, 2) := by decide +kernel
theorem dX11_toldByOne_3 : decode cX11_toldByOne 3 = .ok (.iconst 0, 1) := by decide +kernel
theorem dX11_toldByOne_4 : decode cX11_toldByOne 4 = .ok (.istore 5, 2) := by decide +kernel
theorem dX11_toldByOne_6 : decode cX11_toldByOne 6 = .ok (.iload 5, 2) := by decide +kernel
theorem dX11_toldByOne_8 : decode cX11_toldByOne 8 = .ok (.aload_n 0, 1) := by decide +kernel
theorem dX11_toldByOne_9 : decode cX11_toldByOne 9 = .ok (.getfield 166, 3) := by decide +kernel
theorem dX11_toldByOne_12 : decode cX11_toldByOne 12 = .ok (.if_icmp .ge 87, 3) := by decide +kernel
theorem dX11_toldByOne_15 : decode cX11_toldByOne 15 = .ok (.aload_n 0, 1) := by decide +kernel
theorem dX11_toldByOne_16 : decode cX11_toldByOne 16 = .ok (.getfield 23, 3) := by decide +kernel
theorem dX11_toldByOne_19 : decode cX11_toldByOne 19 = .ok (.iload 5, 2) := by decide +kernel
theorem dX11_toldByOne_21 : decode cX11_toldByOne 21 = .ok (.aaload, 1) := by decide +kernel
theorem dX11_toldByOne_22 : decode cX11_toldByOne 22 = .ok (.astore 6, 2) := by decide +kernel
theorem dX11_toldByOne_24 : decode cX11_toldByOne 24 = .ok (.aload 6, 2) := by decide +kernel
theorem dX11_toldByOne_26 : decode cX11_toldByOne 26 = .ok (.iload_n 1, 1) := by decide +kernel
theorem dX11_toldByOne_27 : decode cX11_toldByOne 27 = .ok (.invokevirtual 516, 3) := by decide +kernel
theorem dX11_toldByOne_30 : decode cX11_toldByOne 30 = .ok (.ifCond .eq 19, 3) := by decide +kernel
theorem dX11_toldByOne_33 : decode cX11_toldByOne 33 = .ok (.aload_n 0, 1) := by decide +kernel
theorem dX11_toldByOne_34 : decode cX11_toldByOne 34 = .ok (.aload 6, 2) := by decide +kernel
theorem dX11_toldByOne_36 : decode cX11_toldByOne 36 = .ok (.iload_n 1, 1) := by decide +kernel
theorem dX11_toldByOne_37 : decode cX11_toldByOne 37 = .ok (.invokevirtual 527, 3) := by decide +kernel
theorem dX11_toldByOne_40 : decode cX11_toldByOne 40 = .ok (.aload 6, 2) := by decide +kernel
theorem dX11_toldByOne_42 : decode cX11_toldByOne 42 = .ok (.if_acmp .ne 7, 3) := by decide +kernel
theorem dX11_toldByOne_45 : decode cX11_toldByOne 45 = .ok (.iconst 1, 1) := by decide +kernel
theorem dX11_toldByOne_46 : decode cX11_toldByOne 46 = .ok (.goto 4, 3) := by decide +kernel
theorem dX11_toldByOne_49 : decode cX11_toldByOne 49 = .ok (.iconst 0, 1) := by decide +kernel
theorem dX11_toldByOne_50 : decode cX11_toldByOne 50 = .ok (.istore 7, 2) := by decide +kernel
theorem dX11_toldByOne_52 : decode cX11_toldByOne 52 = .ok (.iload 7, 2) := by decide +kernel
theorem dX11_toldByOne_54 : decode cX11_toldByOne 54 = .ok (.ifCond .eq 39, 3) := by decide +kernel
theorem dX11_toldByOne_57 : decode cX11_toldByOne 57 = .ok (.aload_n 0, 1) := by decide +kernel
theorem dX11_toldByOne_58 : decode cX11_toldByOne 58 = .ok (.aload 6, 2) := by decide +kernel
theorem dX11_toldByOne_60 : decode cX11_toldByOne 60 = .ok (.getfield 222, 3) := by decide +kernel
theorem dX11_toldByOne_63 : decode cX11_toldByOne 63 = .ok (.iload_n 1, 1) := by decide +kernel
theorem dX11_toldByOne_64 : decode cX11_toldByOne 64 = .ok (.iload_n 2, 1) := by decide +kernel
theorem dX11_toldByOne_65 : decode cX11_toldByOne 65 = .ok (.invokevirtual 523, 3) := by decide +kernel
theorem dX11_toldByOne_68 : decode cX11_toldByOne 68 = .ok (.ifCond .eq 25, 3) := by decide +kernel
theorem dX11_toldByOne_71 : decode cX11_toldByOne 71 = .ok (.aload_n 0, 1) := by decide +kernel
theorem dX11_toldByOne_72 : decode cX11_toldByOne 72 = .ok (.aload 6, 2) := by decide +kernel
theorem dX11_toldByOne_74 : decode cX11_toldByOne 74 = .ok (.iload_n 2, 1) := by decide +kernel
theorem dX11_toldByOne_75 : decode cX11_toldByOne 75 = .ok (.invokevirtual 527, 3) := by decide +kernel
theorem dX11_toldByOne_78 : decode cX11_toldByOne 78 = .ok (.ifnull 7, 3) := by decide +kernel
theorem dX11_toldByOne_81 : decode cX11_toldByOne 81 = .ok (.iconst 1, 1) := by decide +kernel
theorem dX11_toldByOne_82 : decode cX11_toldByOne 82 = .ok (.goto 4, 3) := by decide +kernel
theorem dX11_toldByOne_85 : decode cX11_toldByOne 85 = .ok (.iconst 0, 1) := by decide +kernel
theorem dX11_toldByOne_86 : decode cX11_toldByOne 86 = .ok (.iload_n 3, 1) := by decide +kernel
theorem dX11_toldByOne_87 : decode cX11_toldByOne 87 = .ok (.if_icmp .ne 6, 3) := by decide +kernel
theorem dX11_toldByOne_90 : decode cX11_toldByOne 90 = .ok (.iinc 4 1, 3) := by decide +kernel
theorem dX11_toldByOne_93 : decode cX11_toldByOne 93 = .ok (.iinc 5 1, 3) := by decide +kernel
theorem dX11_toldByOne_96 : decode cX11_toldByOne 96 = .ok (.goto (-90), 3) := by decide +kernel
theorem dX11_toldByOne_99 : decode cX11_toldByOne 99 = .ok (.iload 4, 2) := by decide +kernel
theorem dX11_toldByOne_101 : decode cX11_toldByOne 101 = .ok (.ireturn, 1) := by decide +kernel
theorem dX11_missed_0 : decode cX11_missed 0 = .ok (.aload_n 0, 1) := by decide +kernel
theorem dX11_missed_1 : decode cX11_missed 1 = .ok (.iload_n 2, 1) := by decide +kernel
theorem dX11_missed_2 : decode cX11_missed 2 = .ok (.iload_n 1, 1) := by decide +kernel
theorem dX11_missed_3 : decode cX11_missed 3 = .ok (.iconst 0, 1) := by decide +kernel
theorem dX11_missed_4 : decode cX11_missed 4 = .ok (.invokevirtual 413, 3) := by decide +kernel
theorem dX11_missed_7 : decode cX11_missed 7 = .ok (.istore_n 3, 1) := by decide +kernel
theorem dX11_missed_8 : decode cX11_missed 8 = .ok (.iload_n 3, 1) := by decide +kernel
theorem dX11_missed_9 : decode cX11_missed 9 = .ok (.aload_n 0, 1) := by decide +kernel
theorem dX11_missed_10 : decode cX11_missed 10 = .ok (.iload_n 2, 1) := by decide +kernel
theorem dX11_missed_11 : decode cX11_missed 11 = .ok (.iload_n 1, 1) := by decide +kernel
theorem dX11_missed_12 : decode cX11_missed 12 = .ok (.iconst 1, 1) := by decide +kernel
theorem dX11_missed_13 : decode cX11_missed 13 = .ok (.invokevirtual 413, 3) := by decide +kernel
theorem dX11_missed_16 : decode cX11_missed 16 = .ok (.iadd, 1) := by decide +kernel
theorem dX11_missed_17 : decode cX11_missed 17 = .ok (.istore 4, 2) := by decide +kernel
theorem dX11_missed_19 : decode cX11_missed 19 = .ok (.iload 4, 2) := by decide +kernel
theorem dX11_missed_21 : decode cX11_missed 21 = .ok (.ifCond .ne 7, 3) := by decide +kernel
theorem dX11_missed_24 : decode cX11_missed 24 = .ok (.iconst 0, 1) := by decide +kernel
theorem dX11_missed_25 : decode cX11_missed 25 = .ok (.goto 11, 3) := by decide +kernel
theorem dX11_missed_28 : decode cX11_missed 28 = .ok (.sipush 10000, 3) := by decide +kernel
theorem dX11_missed_31 : decode cX11_missed 31 = .ok (.iload_n 3, 1) := by decide +kernel
theorem dX11_missed_32 : decode cX11_missed 32 = .ok (.imul, 1) := by decide +kernel
theorem dX11_missed_33 : decode cX11_missed 33 = .ok (.iload 4, 2) := by decide +kernel
theorem dX11_missed_35 : decode cX11_missed 35 = .ok (.idiv, 1) := by decide +kernel
theorem dX11_missed_36 : decode cX11_missed 36 = .ok (.ireturn, 1) := by decide +kernel
theorem dX11_harsh_0 : decode cX11_harsh 0 = .ok (.iconst 0, 1) := by decide +kernel
theorem dX11_harsh_1 : decode cX11_harsh 1 = .ok (.istore_n 3, 1) := by decide +kernel
theorem dX11_harsh_2 : decode cX11_harsh 2 = .ok (.iconst 0, 1) := by decide +kernel
theorem dX11_harsh_3 : decode cX11_harsh 3 = .ok (.istore 4, 2) := by decide +kernel
theorem dX11_harsh_5 : decode cX11_harsh 5 = .ok (.iload 4, 2) := by decide +kernel
theorem dX11_harsh_7 : decode cX11_harsh 7 = .ok (.aload_n 0, 1) := by decide +kernel
theorem dX11_harsh_8 : decode cX11_harsh 8 = .ok (.getfield 166, 3) := by decide +kernel
theorem dX11_harsh_11 : decode cX11_harsh 11 = .ok (.if_icmp .ge 87, 3) := by decide +kernel
theorem dX11_harsh_14 : decode cX11_harsh 14 = .ok (.aload_n 0, 1) := by decide +kernel
theorem dX11_harsh_15 : decode cX11_harsh 15 = .ok (.getfield 23, 3) := by decide +kernel
theorem dX11_harsh_18 : decode cX11_harsh 18 = .ok (.iload 4, 2) := by decide +kernel
theorem dX11_harsh_20 : decode cX11_harsh 20 = .ok (.aaload, 1) := by decide +kernel
theorem dX11_harsh_21 : decode cX11_harsh 21 = .ok (.astore 5, 2) := by decide +kernel
theorem dX11_harsh_23 : decode cX11_harsh 23 = .ok (.aload 5, 2) := by decide +kernel
theorem dX11_harsh_25 : decode cX11_harsh 25 = .ok (.iload_n 1, 1) := by decide +kernel
theorem dX11_harsh_26 : decode cX11_harsh 26 = .ok (.invokevirtual 516, 3) := by decide +kernel
theorem dX11_harsh_29 : decode cX11_harsh 29 = .ok (.ifCond .eq 19, 3) := by decide +kernel
theorem dX11_harsh_32 : decode cX11_harsh 32 = .ok (.aload_n 0, 1) := by decide +kernel
theorem dX11_harsh_33 : decode cX11_harsh 33 = .ok (.aload 5, 2) := by decide +kernel
theorem dX11_harsh_35 : decode cX11_harsh 35 = .ok (.iload_n 1, 1) := by decide +kernel
theorem dX11_harsh_36 : decode cX11_harsh 36 = .ok (.invokevirtual 527, 3) := by decide +kernel
theorem dX11_harsh_39 : decode cX11_harsh 39 = .ok (.aload 5, 2) := by decide +kernel
theorem dX11_harsh_41 : decode cX11_harsh 41 = .ok (.if_acmp .ne 7, 3) := by decide +kernel
theorem dX11_harsh_44 : decode cX11_harsh 44 = .ok (.iconst 1, 1) := by decide +kernel
theorem dX11_harsh_45 : decode cX11_harsh 45 = .ok (.goto 4, 3) := by decide +kernel
theorem dX11_harsh_48 : decode cX11_harsh 48 = .ok (.iconst 0, 1) := by decide +kernel
theorem dX11_harsh_49 : decode cX11_harsh 49 = .ok (.istore 6, 2) := by decide +kernel
theorem dX11_harsh_51 : decode cX11_harsh 51 = .ok (.iload 6, 2) := by decide +kernel
theorem dX11_harsh_53 : decode cX11_harsh 53 = .ok (.ifCond .eq 13, 3) := by decide +kernel
theorem dX11_harsh_56 : decode cX11_harsh 56 = .ok (.aload_n 0, 1) := by decide +kernel
theorem dX11_harsh_57 : decode cX11_harsh 57 = .ok (.aload 5, 2) := by decide +kernel
theorem dX11_harsh_59 : decode cX11_harsh 59 = .ok (.iload_n 2, 1) := by decide +kernel
theorem dX11_harsh_60 : decode cX11_harsh 60 = .ok (.invokevirtual 527, 3) := by decide +kernel
theorem dX11_harsh_63 : decode cX11_harsh 63 = .ok (.goto 4, 3) := by decide +kernel
theorem dX11_harsh_66 : decode cX11_harsh 66 = .ok (.aconst_null, 1) := by decide +kernel
theorem dX11_harsh_67 : decode cX11_harsh 67 = .ok (.astore 7, 2) := by decide +kernel
theorem dX11_harsh_69 : decode cX11_harsh 69 = .ok (.iload_n 3, 1) := by decide +kernel
theorem dX11_harsh_70 : decode cX11_harsh 70 = .ok (.aload 7, 2) := by decide +kernel
theorem dX11_harsh_72 : decode cX11_harsh 72 = .ok (.ifnonnull 7, 3) := by decide +kernel
theorem dX11_harsh_75 : decode cX11_harsh 75 = .ok (.iconst 0, 1) := by decide +kernel
theorem dX11_harsh_76 : decode cX11_harsh 76 = .ok (.goto 14, 3) := by decide +kernel
theorem dX11_harsh_79 : decode cX11_harsh 79 = .ok (.aload 5, 2) := by decide +kernel
theorem dX11_harsh_81 : decode cX11_harsh 81 = .ok (.getfield 235, 3) := by decide +kernel
theorem dX11_harsh_84 : decode cX11_harsh 84 = .ok (.aload 7, 2) := by decide +kernel
theorem dX11_harsh_86 : decode cX11_harsh 86 = .ok (.getfield 235, 3) := by decide +kernel
theorem dX11_harsh_89 : decode cX11_harsh 89 = .ok (.isub, 1) := by decide +kernel
theorem dX11_harsh_90 : decode cX11_harsh 90 = .ok (.iadd, 1) := by decide +kernel
theorem dX11_harsh_91 : decode cX11_harsh 91 = .ok (.istore_n 3, 1) := by decide +kernel
theorem dX11_harsh_92 : decode cX11_harsh 92 = .ok (.iinc 4 1, 3) := by decide +kernel
theorem dX11_harsh_95 : decode cX11_harsh 95 = .ok (.goto (-90), 3) := by decide +kernel
theorem dX11_harsh_98 : decode cX11_harsh 98 = .ok (.iload_n 3, 1) := by decide +kernel
theorem dX11_harsh_99 : decode cX11_harsh 99 = .ok (.ireturn, 1) := by decide +kernel
theorem dX11_weightOf_0 : decode cX11_weightOf 0 = .ok (.iconst 0, 1) := by decide +kernel
theorem dX11_weightOf_1 : decode cX11_weightOf 1 = .ok (.istore_n 3, 1) := by decide +kernel
theorem dX11_weightOf_2 : decode cX11_weightOf 2 = .ok (.iconst 0, 1) := by decide +kernel
theorem dX11_weightOf_3 : decode cX11_weightOf 3 = .ok (.istore 4, 2) := by decide +kernel
theorem dX11_weightOf_5 : decode cX11_weightOf 5 = .ok (.iload 4, 2) := by decide +kernel
theorem dX11_weightOf_7 : decode cX11_weightOf 7 = .ok (.aload_n 0, 1) := by decide +kernel
theorem dX11_weightOf_8 : decode cX11_weightOf 8 = .ok (.getfield 166, 3) := by decide +kernel
theorem dX11_weightOf_11 : decode cX11_weightOf 11 = .ok (.if_icmp .ge 51, 3) := by decide +kernel
theorem dX11_weightOf_14 : decode cX11_weightOf 14 = .ok (.aload_n 0, 1) := by decide +kernel
theorem dX11_weightOf_15 : decode cX11_weightOf 15 = .ok (.getfield 23, 3) := by decide +kernel
theorem dX11_weightOf_18 : decode cX11_weightOf 18 = .ok (.iload 4, 2) := by decide +kernel
theorem dX11_weightOf_20 : decode cX11_weightOf 20 = .ok (.aaload, 1) := by decide +kernel
theorem dX11_weightOf_21 : decode cX11_weightOf 21 = .ok (.astore 5, 2) := by decide +kernel
theorem dX11_weightOf_23 : decode cX11_weightOf 23 = .ok (.iload_n 3, 1) := by decide +kernel
theorem dX11_weightOf_24 : decode cX11_weightOf 24 = .ok (.aload 5, 2) := by decide +kernel
theorem dX11_weightOf_26 : decode cX11_weightOf 26 = .ok (.getfield 222, 3) := by decide +kernel
theorem dX11_weightOf_29 : decode cX11_weightOf 29 = .ok (.getfield 125, 3) := by decide +kernel
theorem dX11_weightOf_32 : decode cX11_weightOf 32 = .ok (.iload_n 1, 1) := by decide +kernel
theorem dX11_weightOf_33 : decode cX11_weightOf 33 = .ok (.if_icmp .ne 20, 3) := by decide +kernel
theorem dX11_weightOf_36 : decode cX11_weightOf 36 = .ok (.aload 5, 2) := by decide +kernel
theorem dX11_weightOf_38 : decode cX11_weightOf 38 = .ok (.iload_n 2, 1) := by decide +kernel
theorem dX11_weightOf_39 : decode cX11_weightOf 39 = .ok (.invokevirtual 454, 3) := by decide +kernel
theorem dX11_weightOf_42 : decode cX11_weightOf 42 = .ok (.ifCond .eq 11, 3) := by decide +kernel
theorem dX11_weightOf_45 : decode cX11_weightOf 45 = .ok (.aload 5, 2) := by decide +kernel
theorem dX11_weightOf_47 : decode cX11_weightOf 47 = .ok (.getfield 235, 3) := by decide +kernel
theorem dX11_weightOf_50 : decode cX11_weightOf 50 = .ok (.goto 4, 3) := by decide +kernel
theorem dX11_weightOf_53 : decode cX11_weightOf 53 = .ok (.iconst 0, 1) := by decide +kernel
theorem dX11_weightOf_54 : decode cX11_weightOf 54 = .ok (.iadd, 1) := by decide +kernel
theorem dX11_weightOf_55 : decode cX11_weightOf 55 = .ok (.istore_n 3, 1) := by decide +kernel
theorem dX11_weightOf_56 : decode cX11_weightOf 56 = .ok (.iinc 4 1, 3) := by decide +kernel
theorem dX11_weightOf_59 : decode cX11_weightOf 59 = .ok (.goto (-54), 3) := by decide +kernel
theorem dX11_weightOf_62 : decode cX11_weightOf 62 = .ok (.iload_n 3, 1) := by decide +kernel
theorem dX11_weightOf_63 : decode cX11_weightOf 63 = .ok (.ireturn, 1) := by decide +kernel
theorem dX11_placeOf_0 : decode cX11_placeOf 0 = .ok (.aload_n 0, 1) := by decide +kernel
theorem dX11_placeOf_1 : decode cX11_placeOf 1 = .ok (.iload_n 1, 1) := by decide +kernel
theorem dX11_placeOf_2 : decode cX11_placeOf 2 = .ok (.iload_n 2, 1) := by decide +kernel
theorem dX11_placeOf_3 : decode cX11_placeOf 3 = .ok (.invokevirtual 447, 3) := by decide +kernel
theorem dX11_placeOf_6 : decode cX11_placeOf 6 = .ok (.istore_n 3, 1) := by decide +kernel
theorem dX11_placeOf_7 : decode cX11_placeOf 7 = .ok (.iconst 0, 1) := by decide +kernel
theorem dX11_placeOf_8 : decode cX11_placeOf 8 = .ok (.istore 4, 2) := by decide +kernel
theorem dX11_placeOf_10 : decode cX11_placeOf 10 = .ok (.iconst 0, 1) := by decide +kernel
theorem dX11_placeOf_11 : decode cX11_placeOf 11 = .ok (.istore 5, 2) := by decide +kernel
theorem dX11_placeOf_13 : decode cX11_placeOf 13 = .ok (.iload 5, 2) := by decide +kernel
theorem dX11_placeOf_15 : decode cX11_placeOf 15 = .ok (.bipush 8, 2) := by decide +kernel
theorem dX11_placeOf_17 : decode cX11_placeOf 17 = .ok (.if_icmp .ge 46, 3) := by decide +kernel
theorem dX11_placeOf_20 : decode cX11_placeOf 20 = .ok (.aload_n 0, 1) := by decide +kernel
theorem dX11_placeOf_21 : decode cX11_placeOf 21 = .ok (.iload 5, 2) := by decide +kernel
theorem dX11_placeOf_23 : decode cX11_placeOf 23 = .ok (.iload_n 2, 1) := by decide +kernel
theorem dX11_placeOf_24 : decode cX11_placeOf 24 = .ok (.invokevirtual 447, 3) := by decide +kernel
theorem dX11_placeOf_27 : decode cX11_placeOf 27 = .ok (.istore 6, 2) := by decide +kernel
theorem dX11_placeOf_29 : decode cX11_placeOf 29 = .ok (.iload 4, 2) := by decide +kernel
theorem dX11_placeOf_31 : decode cX11_placeOf 31 = .ok (.iload 6, 2) := by decide +kernel
theorem dX11_placeOf_33 : decode cX11_placeOf 33 = .ok (.iload_n 3, 1) := by decide +kernel
theorem dX11_placeOf_34 : decode cX11_placeOf 34 = .ok (.if_icmp .gt 15, 3) := by decide +kernel
theorem dX11_placeOf_37 : decode cX11_placeOf 37 = .ok (.iload 6, 2) := by decide +kernel
theorem dX11_placeOf_39 : decode cX11_placeOf 39 = .ok (.iload_n 3, 1) := by decide +kernel
theorem dX11_placeOf_40 : decode cX11_placeOf 40 = .ok (.if_icmp .ne 13, 3) := by decide +kernel
theorem dX11_placeOf_43 : decode cX11_placeOf 43 = .ok (.iload 5, 2) := by decide +kernel
theorem dX11_placeOf_45 : decode cX11_placeOf 45 = .ok (.iload_n 1, 1) := by decide +kernel
theorem dX11_placeOf_46 : decode cX11_placeOf 46 = .ok (.if_icmp .ge 7, 3) := by decide +kernel
theorem dX11_placeOf_49 : decode cX11_placeOf 49 = .ok (.iconst 1, 1) := by decide +kernel
theorem dX11_placeOf_50 : decode cX11_placeOf 50 = .ok (.goto 4, 3) := by decide +kernel
theorem dX11_placeOf_53 : decode cX11_placeOf 53 = .ok (.iconst 0, 1) := by decide +kernel
theorem dX11_placeOf_54 : decode cX11_placeOf 54 = .ok (.iadd, 1) := by decide +kernel
theorem dX11_placeOf_55 : decode cX11_placeOf 55 = .ok (.istore 4, 2) := by decide +kernel
theorem dX11_placeOf_57 : decode cX11_placeOf 57 = .ok (.iinc 5 1, 3) := by decide +kernel
theorem dX11_placeOf_60 : decode cX11_placeOf 60 = .ok (.goto (-47), 3) := by decide +kernel
theorem dX11_placeOf_63 : decode cX11_placeOf 63 = .ok (.iload 4, 2) := by decide +kernel
theorem dX11_placeOf_65 : decode cX11_placeOf 65 = .ok (.ireturn, 1) := by decide +kernel
theorem dX11_isDigit_0 : decode cX11_isDigit 0 = .ok (.iload_n 0, 1) := by decide +kernel
theorem dX11_isDigit_1 : decode cX11_isDigit 1 = .ok (.bipush 48, 2) := by decide +kernel
theorem dX11_isDigit_3 : decode cX11_isDigit 3 = .ok (.if_icmp .lt 13, 3) := by decide +kernel
theorem dX11_isDigit_6 : decode cX11_isDigit 6 = .ok (.iload_n 0, 1) := by decide +kernel
theorem dX11_isDigit_7 : decode cX11_isDigit 7 = .ok (.bipush 57, 2) := by decide +kernel
theorem dX11_isDigit_9 : decode cX11_isDigit 9 = .ok (.if_icmp .gt 7, 3) := by decide +kernel
theorem dX11_isDigit_12 : decode cX11_isDigit 12 = .ok (.iconst 1, 1) := by decide +kernel
theorem dX11_isDigit_13 : decode cX11_isDigit 13 = .ok (.goto 4, 3) := by decide +kernel
theorem dX11_isDigit_16 : decode cX11_isDigit 16 = .ok (.iconst 0, 1) := by decide +kernel
theorem dX11_isDigit_17 : decode cX11_isDigit 17 = .ok (.ireturn, 1) := by decide +kernel
theorem dX12_init_0 : decode cX12_init 0 = .ok (.aload_n 0, 1) := by decide +kernel
theorem dX12_init_1 : decode cX12_init 1 = .ok (.invokespecial 1, 3) := by decide +kernel
theorem dX12_init_4 : decode cX12_init 4 = .ok (.aload_n 0, 1) := by decide +kernel
theorem dX12_init_5 : decode cX12_init 5 = .ok (.bipush 40, 2) := by decide +kernel
theorem dX12_init_7 : decode cX12_init 7 = .ok (.newarray .int, 2) := by decide +kernel
theorem dX12_init_9 : decode cX12_init 9 = .ok (.putfield 9, 3) := by decide +kernel
theorem dX12_init_12 : decode cX12_init 12 = .ok (.aload_n 0, 1) := by decide +kernel
theorem dX12_init_13 : decode cX12_init 13 = .ok (.bipush 40, 2) := by decide +kernel
theorem dX12_init_15 : decode cX12_init 15 = .ok (.newarray .int, 2) := by decide +kernel
theorem dX12_init_17 : decode cX12_init 17 = .ok (.putfield 13, 3) := by decide +kernel
theorem dX12_init_20 : decode cX12_init 20 = .ok (.aload_n 0, 1) := by decide +kernel
theorem dX12_init_21 : decode cX12_init 21 = .ok (.bipush 40, 2) := by decide +kernel
theorem dX12_init_23 : decode cX12_init 23 = .ok (.newarray .int, 2) := by decide +kernel
theorem dX12_init_25 : decode cX12_init 25 = .ok (.putfield 16, 3) := by decide +kernel
theorem dX12_init_28 : decode cX12_init 28 = .ok (.aload_n 0, 1) := by decide +kernel
theorem dX12_init_29 : decode cX12_init 29 = .ok (.bipush 40, 2) := by decide +kernel
theorem dX12_init_31 : decode cX12_init 31 = .ok (.newarray .int, 2) := by decide +kernel
theorem dX12_init_33 : decode cX12_init 33 = .ok (.putfield 19, 3) := by decide +kernel
theorem dX12_init_36 : decode cX12_init 36 = .ok (.aload_n 0, 1) := by decide +kernel
theorem dX12_init_37 : decode cX12_init 37 = .ok (.bipush 40, 2) := by decide +kernel
theorem dX12_init_39 : decode cX12_init 39 = .ok (.newarray .int, 2) := by decide +kernel
theorem dX12_init_41 : decode cX12_init 41 = .ok (.putfield 22, 3) := by decide +kernel
theorem dX12_init_44 : decode cX12_init 44 = .ok (.aload_n 0, 1) := by decide +kernel
theorem dX12_init_45 : decode cX12_init 45 = .ok (.sipush 800, 3) := by decide +kernel
theorem dX12_init_48 : decode cX12_init 48 = .ok (.newarray .int, 2) := by decide +kernel
theorem dX12_init_50 : decode cX12_init 50 = .ok (.putfield 25, 3) := by decide +kernel
theorem dX12_init_53 : decode cX12_init 53 = .ok (.aload_n 0, 1) := by decide +kernel
theorem dX12_init_54 : decode cX12_init 54 = .ok (.bipush 40, 2) := by decide +kernel
theorem dX12_init_56 : decode cX12_init 56 = .ok (.newarray .int, 2) := by decide +kernel
theorem dX12_init_58 : decode cX12_init 58 = .ok (.putfield 28, 3) := by decide +kernel
theorem dX12_init_61 : decode cX12_init 61 = .ok (.aload_n 0, 1) := by decide +kernel
theorem dX12_init_62 : decode cX12_init 62 = .ok (.bipush 40, 2) := by decide +kernel
theorem dX12_init_64 : decode cX12_init 64 = .ok (.newarray .int, 2) := by decide +kernel
theorem dX12_init_66 : decode cX12_init 66 = .ok (.putfield 31, 3) := by decide +kernel
theorem dX12_init_69 : decode cX12_init 69 = .ok (.aload_n 0, 1) := by decide +kernel
theorem dX12_init_70 : decode cX12_init 70 = .ok (.sipush 400, 3) := by decide +kernel
theorem dX12_init_73 : decode cX12_init 73 = .ok (.newarray .int, 2) := by decide +kernel
theorem dX12_init_75 : decode cX12_init 75 = .ok (.putfield 34, 3) := by decide +kernel
theorem dX12_init_78 : decode cX12_init 78 = .ok (.aload_n 0, 1) := by decide +kernel
theorem dX12_init_79 : decode cX12_init 79 = .ok (.bipush 40, 2) := by decide +kernel
theorem dX12_init_81 : decode cX12_init 81 = .ok (.newarray .int, 2) := by decide +kernel
theorem dX12_init_83 : decode cX12_init 83 = .ok (.putfield 37, 3) := by decide +kernel
theorem dX12_init_86 : decode cX12_init 86 = .ok (.aload_n 0, 1) := by decide +kernel
theorem dX12_init_87 : decode cX12_init 87 = .ok (.bipush 40, 2) := by decide +kernel
theorem dX12_init_89 : decode cX12_init 89 = .ok (.newarray .int, 2) := by decide +kernel
theorem dX12_init_91 : decode cX12_init 91 = .ok (.putfield 40, 3) := by decide +kernel
theorem dX12_init_94 : decode cX12_init 94 = .ok (.aload_n 0, 1) := by decide +kernel
theorem dX12_init_95 : decode cX12_init 95 = .ok (.bipush 40, 2) := by decide +kernel
theorem dX12_init_97 : decode cX12_init 97 = .ok (.newarray .int, 2) := by decide +kernel
theorem dX12_init_99 : decode cX12_init 99 = .ok (.putfield 43, 3) := by decide +kernel
theorem dX12_init_102 : decode cX12_init 102 = .ok (.aload_n 0, 1) := by decide +kernel
theorem dX12_init_103 : decode cX12_init 103 = .ok (.bipush 20, 2) := by decide +kernel
theorem dX12_init_105 : decode cX12_init 105 = .ok (.newarray .int, 2) := by decide +kernel
theorem dX12_init_107 : decode cX12_init 107 = .ok (.putfield 46, 3) := by decide +kernel
theorem dX12_init_110 : decode cX12_init 110 = .ok (.aload_n 0, 1) := by decide +kernel
theorem dX12_init_111 : decode cX12_init 111 = .ok (.bipush 20, 2) := by decide +kernel
theorem dX12_init_113 : decode cX12_init 113 = .ok (.newarray .int, 2) := by decide +kernel
theorem dX12_init_115 : decode cX12_init 115 = .ok (.putfield 49, 3) := by decide +kernel
theorem dX12_init_118 : decode cX12_init 118 = .ok (.aload_n 0, 1) := by decide +kernel
theorem dX12_init_119 : decode cX12_init 119 = .ok (.bipush 20, 2) := by decide +kernel
theorem dX12_init_121 : decode cX12_init 121 = .ok (.newarray .int, 2) := by decide +kernel
theorem dX12_init_123 : decode cX12_init 123 = .ok (.putfield 52, 3) := by decide +kernel
theorem dX12_init_126 : decode cX12_init 126 = .ok (.aload_n 0, 1) := by decide +kernel
theorem dX12_init_127 : decode cX12_init 127 = .ok (.sipush 200, 3) := by decide +kernel
theorem dX12_init_130 : decode cX12_init 130 = .ok (.newarray .int, 2) := by decide +kernel
theorem dX12_init_132 : decode cX12_init 132 = .ok (.putfield 55, 3) := by decide +kernel
theorem dX12_init_135 : decode cX12_init 135 = .ok (.aload_n 0, 1) := by decide +kernel
theorem dX12_init_136 : decode cX12_init 136 = .ok (.sipush 200, 3) := by decide +kernel
theorem dX12_init_139 : decode cX12_init 139 = .ok (.newarray .int, 2) := by decide +kernel
theorem dX12_init_141 : decode cX12_init 141 = .ok (.putfield 58, 3) := by decide +kernel
theorem dX12_init_144 : decode cX12_init 144 = .ok (.aload_n 0, 1) := by decide +kernel
theorem dX12_init_145 : decode cX12_init 145 = .ok (.sipush 200, 3) := by decide +kernel
theorem dX12_init_148 : decode cX12_init 148 = .ok (.newarray .int, 2) := by decide +kernel
theorem dX12_init_150 : decode cX12_init 150 = .ok (.putfield 61, 3) := by decide +kernel
theorem dX12_init_153 : decode cX12_init 153 = .ok (.aload_n 0, 1) := by decide +kernel
theorem dX12_init_154 : decode cX12_init 154 = .ok (.sipush 200, 3) := by decide +kernel
theorem dX12_init_157 : decode cX12_init 157 = .ok (.newarray .int, 2) := by decide +kernel
theorem dX12_init_159 : decode cX12_init 159 = .ok (.putfield 64, 3) := by decide +kernel
theorem dX12_init_162 : decode cX12_init 162 = .ok (.aload_n 0, 1) := by decide +kernel
theorem dX12_init_163 : decode cX12_init 163 = .ok (.sipush 200, 3) := by decide +kernel
theorem dX12_init_166 : decode cX12_init 166 = .ok (.newarray .int, 2) := by decide +kernel
theorem dX12_init_168 : decode cX12_init 168 = .ok (.putfield 67, 3) := by decide +kernel
theorem dX12_init_171 : decode cX12_init 171 = .ok (.aload_n 0, 1) := by decide +kernel
theorem dX12_init_172 : decode cX12_init 172 = .ok (.sipush 200, 3) := by decide +kernel
theorem dX12_init_175 : decode cX12_init 175 = .ok (.newarray .int, 2) := by decide +kernel
theorem dX12_init_177 : decode cX12_init 177 = .ok (.putfield 70, 3) := by decide +kernel
theorem dX12_init_180 : decode cX12_init 180 = .ok (.aload_n 0, 1) := by decide +kernel

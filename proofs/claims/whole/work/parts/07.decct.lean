theorem d_LT_init_0 : decode b_LT_init 0 = .ok (.aload_n 0, 1) := by decide +kernel
theorem d_LT_init_1 : decode b_LT_init 1 = .ok (.invokespecial 3, 3) := by decide +kernel
theorem d_LT_init_4 : decode b_LT_init 4 = .ok (.aload_n 0, 1) := by decide +kernel
theorem d_LT_init_5 : decode b_LT_init 5 = .ok (.bipush 24, 2) := by decide +kernel
theorem d_LT_init_7 : decode b_LT_init 7 = .ok (.anewarray 9, 3) := by decide +kernel
theorem d_LT_init_10 : decode b_LT_init 10 = .ok (.putfield 11, 3) := by decide +kernel
theorem d_LT_init_13 : decode b_LT_init 13 = .ok (.iconst 0, 1) := by decide +kernel
theorem d_LT_init_14 : decode b_LT_init 14 = .ok (.istore_n 1, 1) := by decide +kernel
theorem d_LT_init_15 : decode b_LT_init 15 = .ok (.iload_n 1, 1) := by decide +kernel
theorem d_LT_init_16 : decode b_LT_init 16 = .ok (.bipush 24, 2) := by decide +kernel
theorem d_LT_init_18 : decode b_LT_init 18 = .ok (.if_icmp .ge 23, 3) := by decide +kernel
theorem d_LT_init_21 : decode b_LT_init 21 = .ok (.aload_n 0, 1) := by decide +kernel
theorem d_LT_init_22 : decode b_LT_init 22 = .ok (.getfield 11, 3) := by decide +kernel
theorem d_LT_init_25 : decode b_LT_init 25 = .ok (.iload_n 1, 1) := by decide +kernel
theorem d_LT_init_26 : decode b_LT_init 26 = .ok (.new 9, 3) := by decide +kernel
theorem d_LT_init_29 : decode b_LT_init 29 = .ok (.dup, 1) := by decide +kernel
theorem d_LT_init_30 : decode b_LT_init 30 = .ok (.iload_n 1, 1) := by decide +kernel
theorem d_LT_init_31 : decode b_LT_init 31 = .ok (.invokespecial 15, 3) := by decide +kernel
theorem d_LT_init_34 : decode b_LT_init 34 = .ok (.aastore, 1) := by decide +kernel
theorem d_LT_init_35 : decode b_LT_init 35 = .ok (.iinc 1 1, 3) := by decide +kernel
theorem d_LT_init_38 : decode b_LT_init 38 = .ok (.goto (-23), 3) := by decide +kernel
theorem d_LT_init_41 : decode b_LT_init 41 = .ok (.aload_n 0, 1) := by decide +kernel
theorem d_LT_init_42 : decode b_LT_init 42 = .ok (.new 9, 3) := by decide +kernel
theorem d_LT_init_45 : decode b_LT_init 45 = .ok (.dup, 1) := by decide +kernel
theorem d_LT_init_46 : decode b_LT_init 46 = .ok (.iconst (-1), 1) := by decide +kernel
theorem d_LT_init_47 : decode b_LT_init 47 = .ok (.invokespecial 15, 3) := by decide +kernel
theorem d_LT_init_50 : decode b_LT_init 50 = .ok (.putfield 18, 3) := by decide +kernel
theorem d_LT_init_53 : decode b_LT_init 53 = .ok (.aload_n 0, 1) := by decide +kernel
theorem d_LT_init_54 : decode b_LT_init 54 = .ok (.getfield 18, 3) := by decide +kernel
theorem d_LT_init_57 : decode b_LT_init 57 = .ok (.iconst 2, 1) := by decide +kernel
theorem d_LT_init_58 : decode b_LT_init 58 = .ok (.putfield 22, 3) := by decide +kernel
theorem d_LT_init_61 : decode b_LT_init 61 = .ok (.aload_n 0, 1) := by decide +kernel
theorem d_LT_init_62 : decode b_LT_init 62 = .ok (.iconst 4, 1) := by decide +kernel
theorem d_LT_init_63 : decode b_LT_init 63 = .ok (.anewarray 26, 3) := by decide +kernel
theorem d_LT_init_66 : decode b_LT_init 66 = .ok (.putfield 28, 3) := by decide +kernel
theorem d_LT_init_69 : decode b_LT_init 69 = .ok (.iconst 0, 1) := by decide +kernel
theorem d_LT_init_70 : decode b_LT_init 70 = .ok (.istore_n 1, 1) := by decide +kernel
theorem d_LT_init_71 : decode b_LT_init 71 = .ok (.iload_n 1, 1) := by decide +kernel
theorem d_LT_init_72 : decode b_LT_init 72 = .ok (.iconst 4, 1) := by decide +kernel
theorem d_LT_init_73 : decode b_LT_init 73 = .ok (.if_icmp .ge 23, 3) := by decide +kernel
theorem d_LT_init_76 : decode b_LT_init 76 = .ok (.aload_n 0, 1) := by decide +kernel
theorem d_LT_init_77 : decode b_LT_init 77 = .ok (.getfield 28, 3) := by decide +kernel
theorem d_LT_init_80 : decode b_LT_init 80 = .ok (.iload_n 1, 1) := by decide +kernel
theorem d_LT_init_81 : decode b_LT_init 81 = .ok (.new 26, 3) := by decide +kernel
theorem d_LT_init_84 : decode b_LT_init 84 = .ok (.dup, 1) := by decide +kernel
theorem d_LT_init_85 : decode b_LT_init 85 = .ok (.iload_n 1, 1) := by decide +kernel
theorem d_LT_init_86 : decode b_LT_init 86 = .ok (.invokespecial 32, 3) := by decide +kernel
theorem d_LT_init_89 : decode b_LT_init 89 = .ok (.aastore, 1) := by decide +kernel
theorem d_LT_init_90 : decode b_LT_init 90 = .ok (.iinc 1 1, 3) := by decide +kernel
theorem d_LT_init_93 : decode b_LT_init 93 = .ok (.goto (-22), 3) := by decide +kernel
theorem d_LT_init_96 : decode b_LT_init 96 = .ok (.aload_n 0, 1) := by decide +kernel
theorem d_LT_init_97 : decode b_LT_init 97 = .ok (.new 33, 3) := by decide +kernel
theorem d_LT_init_100 : decode b_LT_init 100 = .ok (.dup, 1) := by decide +kernel
theorem d_LT_init_101 : decode b_LT_init 101 = .ok (.invokespecial 35, 3) := by decide +kernel
theorem d_LT_init_104 : decode b_LT_init 104 = .ok (.putfield 36, 3) := by decide +kernel
theorem d_LT_init_107 : decode b_LT_init 107 = .ok (.aload_n 0, 1) := by decide +kernel
theorem d_LT_init_108 : decode b_LT_init 108 = .ok (.iconst 0, 1) := by decide +kernel
theorem d_LT_init_109 : decode b_LT_init 109 = .ok (.putfield 40, 3) := by decide +kernel
theorem d_LT_init_112 : decode b_LT_init 112 = .ok (.aload_n 0, 1) := by decide +kernel
theorem d_LT_init_113 : decode b_LT_init 113 = .ok (.getfield 11, 3) := by decide +kernel
theorem d_LT_init_116 : decode b_LT_init 116 = .ok (.iconst 0, 1) := by decide +kernel
theorem d_LT_init_117 : decode b_LT_init 117 = .ok (.aaload, 1) := by decide +kernel
theorem d_LT_init_118 : decode b_LT_init 118 = .ok (.iconst 0, 1) := by decide +kernel
theorem d_LT_init_119 : decode b_LT_init 119 = .ok (.iconst (-1), 1) := by decide +kernel
theorem d_LT_init_120 : decode b_LT_init 120 = .ok (.sipush 999, 3) := by decide +kernel
theorem d_LT_init_123 : decode b_LT_init 123 = .ok (.iconst (-1), 1) := by decide +kernel
theorem d_LT_init_124 : decode b_LT_init 124 = .ok (.invokevirtual 43, 3) := by decide +kernel
theorem d_LT_init_127 : decode b_LT_init 127 = .ok (.return_, 1) := by decide +kernel
theorem d_ND_init_0 : decode b_ND_init 0 = .ok (.aload_n 0, 1) := by decide +kernel
theorem d_ND_init_1 : decode b_ND_init 1 = .ok (.invokespecial 3, 3) := by decide +kernel
theorem d_ND_init_4 : decode b_ND_init 4 = .ok (.aload_n 0, 1) := by decide +kernel
theorem d_ND_init_5 : decode b_ND_init 5 = .ok (.iconst 5, 1) := by decide +kernel
theorem d_ND_init_6 : decode b_ND_init 6 = .ok (.newarray .int, 2) := by decide +kernel
theorem d_ND_init_8 : decode b_ND_init 8 = .ok (.putfield 9, 3) := by decide +kernel
theorem d_ND_init_11 : decode b_ND_init 11 = .ok (.aload_n 0, 1) := by decide +kernel
theorem d_ND_init_12 : decode b_ND_init 12 = .ok (.iconst 5, 1) := by decide +kernel
theorem d_ND_init_13 : decode b_ND_init 13 = .ok (.newarray .int, 2) := by decide +kernel
theorem d_ND_init_15 : decode b_ND_init 15 = .ok (.putfield 15, 3) := by decide +kernel
theorem d_ND_init_18 : decode b_ND_init 18 = .ok (.aload_n 0, 1) := by decide +kernel
theorem d_ND_init_19 : decode b_ND_init 19 = .ok (.iconst 0, 1) := by decide +kernel
theorem d_ND_init_20 : decode b_ND_init 20 = .ok (.putfield 18, 3) := by decide +kernel
theorem d_ND_init_23 : decode b_ND_init 23 = .ok (.aload_n 0, 1) := by decide +kernel
theorem d_ND_init_24 : decode b_ND_init 24 = .ok (.iconst (-1), 1) := by decide +kernel
theorem d_ND_init_25 : decode b_ND_init 25 = .ok (.putfield 22, 3) := by decide +kernel
theorem d_ND_init_28 : decode b_ND_init 28 = .ok (.aload_n 0, 1) := by decide +kernel
theorem d_ND_init_29 : decode b_ND_init 29 = .ok (.iconst (-1), 1) := by decide +kernel
theorem d_ND_init_30 : decode b_ND_init 30 = .ok (.putfield 25, 3) := by decide +kernel
theorem d_ND_init_33 : decode b_ND_init 33 = .ok (.aload_n 0, 1) := by decide +kernel
theorem d_ND_init_34 : decode b_ND_init 34 = .ok (.iload_n 1, 1) := by decide +kernel
theorem d_ND_init_35 : decode b_ND_init 35 = .ok (.putfield 28, 3) := by decide +kernel
theorem d_ND_init_38 : decode b_ND_init 38 = .ok (.return_, 1) := by decide +kernel
theorem d_TA_init_0 : decode b_TA_init 0 = .ok (.aload_n 0, 1) := by decide +kernel
theorem d_TA_init_1 : decode b_TA_init 1 = .ok (.invokespecial 3, 3) := by decide +kernel
theorem d_TA_init_4 : decode b_TA_init 4 = .ok (.aload_n 0, 1) := by decide +kernel
theorem d_TA_init_5 : decode b_TA_init 5 = .ok (.bipush 25, 2) := by decide +kernel
theorem d_TA_init_7 : decode b_TA_init 7 = .ok (.newarray .int, 2) := by decide +kernel
theorem d_TA_init_9 : decode b_TA_init 9 = .ok (.putfield 9, 3) := by decide +kernel
theorem d_TA_init_12 : decode b_TA_init 12 = .ok (.aload_n 0, 1) := by decide +kernel
theorem d_TA_init_13 : decode b_TA_init 13 = .ok (.iconst 1, 1) := by decide +kernel
theorem d_TA_init_14 : decode b_TA_init 14 = .ok (.putfield 15, 3) := by decide +kernel
theorem d_TA_init_17 : decode b_TA_init 17 = .ok (.aload_n 0, 1) := by decide +kernel
theorem d_TA_init_18 : decode b_TA_init 18 = .ok (.iload_n 1, 1) := by decide +kernel
theorem d_TA_init_19 : decode b_TA_init 19 = .ok (.putfield 19, 3) := by decide +kernel
theorem d_TA_init_22 : decode b_TA_init 22 = .ok (.return_, 1) := by decide +kernel
theorem d_SP_init_0 : decode b_SP_init 0 = .ok (.aload_n 0, 1) := by decide +kernel
theorem d_SP_init_1 : decode b_SP_init 1 = .ok (.invokespecial 3, 3) := by decide +kernel
theorem d_SP_init_4 : decode b_SP_init 4 = .ok (.aload_n 0, 1) := by decide +kernel
theorem d_SP_init_5 : decode b_SP_init 5 = .ok (.bipush 12, 2) := by decide +kernel
theorem d_SP_init_7 : decode b_SP_init 7 = .ok (.newarray .int, 2) := by decide +kernel
theorem d_SP_init_9 : decode b_SP_init 9 = .ok (.putfield 9, 3) := by decide +kernel
theorem d_SP_init_12 : decode b_SP_init 12 = .ok (.return_, 1) := by decide +kernel
theorem d_ND_become_0 : decode b_ND_become 0 = .ok (.aload_n 0, 1) := by decide +kernel
theorem d_ND_become_1 : decode b_ND_become 1 = .ok (.iconst 1, 1) := by decide +kernel
theorem d_ND_become_2 : decode b_ND_become 2 = .ok (.putfield 18, 3) := by decide +kernel
theorem d_ND_become_5 : decode b_ND_become 5 = .ok (.aload_n 0, 1) := by decide +kernel
theorem d_ND_become_6 : decode b_ND_become 6 = .ok (.iload_n 1, 1) := by decide +kernel
theorem d_ND_become_7 : decode b_ND_become 7 = .ok (.putfield 31, 3) := by decide +kernel
theorem d_ND_become_10 : decode b_ND_become 10 = .ok (.aload_n 0, 1) := by decide +kernel
theorem d_ND_become_11 : decode b_ND_become 11 = .ok (.iload_n 2, 1) := by decide +kernel
theorem d_ND_become_12 : decode b_ND_become 12 = .ok (.putfield 34, 3) := by decide +kernel
theorem d_ND_become_15 : decode b_ND_become 15 = .ok (.aload_n 0, 1) := by decide +kernel
theorem d_ND_become_16 : decode b_ND_become 16 = .ok (.iload_n 3, 1) := by decide +kernel
theorem d_ND_become_17 : decode b_ND_become 17 = .ok (.putfield 37, 3) := by decide +kernel
theorem d_ND_become_20 : decode b_ND_become 20 = .ok (.aload_n 0, 1) := by decide +kernel
theorem d_ND_become_21 : decode b_ND_become 21 = .ok (.iload 4, 2) := by decide +kernel
theorem d_ND_become_23 : decode b_ND_become 23 = .ok (.putfield 22, 3) := by decide +kernel
theorem d_ND_become_26 : decode b_ND_become 26 = .ok (.aload_n 0, 1) := by decide +kernel
theorem d_ND_become_27 : decode b_ND_become 27 = .ok (.iconst 0, 1) := by decide +kernel
theorem d_ND_become_28 : decode b_ND_become 28 = .ok (.putfield 40, 3) := by decide +kernel
theorem d_ND_become_31 : decode b_ND_become 31 = .ok (.aload_n 0, 1) := by decide +kernel
theorem d_ND_become_32 : decode b_ND_become 32 = .ok (.iconst (-1), 1) := by decide +kernel
theorem d_ND_become_33 : decode b_ND_become 33 = .ok (.putfield 25, 3) := by decide +kernel
theorem d_ND_become_36 : decode b_ND_become 36 = .ok (.return_, 1) := by decide +kernel
theorem d_LT_root_0 : decode b_LT_root 0 = .ok (.aload_n 0, 1) := by decide +kernel
theorem d_LT_root_1 : decode b_LT_root 1 = .ok (.getfield 40, 3) := by decide +kernel
theorem d_LT_root_4 : decode b_LT_root 4 = .ok (.ireturn, 1) := by decide +kernel
theorem d_LT_queued_0 : decode b_LT_queued 0 = .ok (.aload_n 0, 1) := by decide +kernel
theorem d_LT_queued_1 : decode b_LT_queued 1 = .ok (.getfield 36, 3) := by decide +kernel
theorem d_LT_queued_4 : decode b_LT_queued 4 = .ok (.getfield 161, 3) := by decide +kernel
theorem d_LT_queued_7 : decode b_LT_queued 7 = .ok (.ireturn, 1) := by decide +kernel
theorem d_LT_begin_0 : decode b_LT_begin 0 = .ok (.iload_n 1, 1) := by decide +kernel
theorem d_LT_begin_1 : decode b_LT_begin 1 = .ok (.invokestatic 47, 3) := by decide +kernel
theorem d_LT_begin_4 : decode b_LT_begin 4 = .ok (.ifCond .eq 12, 3) := by decide +kernel
theorem d_LT_begin_7 : decode b_LT_begin 7 = .ok (.iload_n 2, 1) := by decide +kernel
theorem d_LT_begin_8 : decode b_LT_begin 8 = .ok (.ifCond .lt 8, 3) := by decide +kernel
theorem d_LT_begin_11 : decode b_LT_begin 11 = .ok (.iload_n 2, 1) := by decide +kernel
theorem d_LT_begin_12 : decode b_LT_begin 12 = .ok (.iconst 3, 1) := by decide +kernel
theorem d_LT_begin_13 : decode b_LT_begin 13 = .ok (.if_icmp .le 13, 3) := by decide +kernel
theorem d_LT_begin_16 : decode b_LT_begin 16 = .ok (.new 51, 3) := by decide +kernel
theorem d_LT_begin_19 : decode b_LT_begin 19 = .ok (.dup, 1) := by decide +kernel
theorem d_LT_begin_20 : decode b_LT_begin 20 = .ok (.ldc 53, 2) := by decide +kernel
theorem d_LT_begin_22 : decode b_LT_begin 22 = .ok (.invokespecial 55, 3) := by decide +kernel
theorem d_LT_begin_25 : decode b_LT_begin 25 = .ok (.athrow, 1) := by decide +kernel
theorem d_LT_begin_26 : decode b_LT_begin 26 = .ok (.iload_n 2, 1) := by decide +kernel
theorem d_LT_begin_27 : decode b_LT_begin 27 = .ok (.iconst 3, 1) := by decide +kernel
theorem d_LT_begin_28 : decode b_LT_begin 28 = .ok (.if_icmp .eq 24, 3) := by decide +kernel
theorem d_LT_begin_31 : decode b_LT_begin 31 = .ok (.iload_n 3, 1) := by decide +kernel
theorem d_LT_begin_32 : decode b_LT_begin 32 = .ok (.ifCond .lt 10, 3) := by decide +kernel
theorem d_LT_begin_35 : decode b_LT_begin 35 = .ok (.iload_n 3, 1) := by decide +kernel
theorem d_LT_begin_36 : decode b_LT_begin 36 = .ok (.sipush 999, 3) := by decide +kernel
theorem d_LT_begin_39 : decode b_LT_begin 39 = .ok (.if_icmp .le 13, 3) := by decide +kernel
theorem d_LT_begin_42 : decode b_LT_begin 42 = .ok (.new 51, 3) := by decide +kernel
theorem d_LT_begin_45 : decode b_LT_begin 45 = .ok (.dup, 1) := by decide +kernel
theorem d_LT_begin_46 : decode b_LT_begin 46 = .ok (.ldc 58, 2) := by decide +kernel
theorem d_LT_begin_48 : decode b_LT_begin 48 = .ok (.invokespecial 55, 3) := by decide +kernel
theorem d_LT_begin_51 : decode b_LT_begin 51 = .ok (.athrow, 1) := by decide +kernel
theorem d_LT_begin_52 : decode b_LT_begin 52 = .ok (.aload_n 0, 1) := by decide +kernel
theorem d_LT_begin_53 : decode b_LT_begin 53 = .ok (.getfield 28, 3) := by decide +kernel
theorem d_LT_begin_56 : decode b_LT_begin 56 = .ok (.iload_n 1, 1) := by decide +kernel
theorem d_LT_begin_57 : decode b_LT_begin 57 = .ok (.aaload, 1) := by decide +kernel
theorem d_LT_begin_58 : decode b_LT_begin 58 = .ok (.astore 5, 2) := by decide +kernel
theorem d_LT_begin_60 : decode b_LT_begin 60 = .ok (.aload 5, 2) := by decide +kernel
theorem d_LT_begin_62 : decode b_LT_begin 62 = .ok (.getfield 60, 3) := by decide +kernel
theorem d_LT_begin_65 : decode b_LT_begin 65 = .ok (.ifCond .ne 13, 3) := by decide +kernel
theorem d_LT_begin_68 : decode b_LT_begin 68 = .ok (.new 64, 3) := by decide +kernel
theorem d_LT_begin_71 : decode b_LT_begin 71 = .ok (.dup, 1) := by decide +kernel
theorem d_LT_begin_72 : decode b_LT_begin 72 = .ok (.ldc 66, 2) := by decide +kernel
theorem d_LT_begin_74 : decode b_LT_begin 74 = .ok (.invokespecial 68, 3) := by decide +kernel
theorem d_LT_begin_77 : decode b_LT_begin 77 = .ok (.athrow, 1) := by decide +kernel
theorem d_LT_begin_78 : decode b_LT_begin 78 = .ok (.aload 5, 2) := by decide +kernel
theorem d_LT_begin_80 : decode b_LT_begin 80 = .ok (.iconst 0, 1) := by decide +kernel
theorem d_LT_begin_81 : decode b_LT_begin 81 = .ok (.putfield 60, 3) := by decide +kernel
theorem d_LT_begin_84 : decode b_LT_begin 84 = .ok (.aload 5, 2) := by decide +kernel
theorem d_LT_begin_86 : decode b_LT_begin 86 = .ok (.iload_n 2, 1) := by decide +kernel
theorem d_LT_begin_87 : decode b_LT_begin 87 = .ok (.putfield 69, 3) := by decide +kernel
theorem d_LT_begin_90 : decode b_LT_begin 90 = .ok (.aload 5, 2) := by decide +kernel
theorem d_LT_begin_92 : decode b_LT_begin 92 = .ok (.iload_n 3, 1) := by decide +kernel
theorem d_LT_begin_93 : decode b_LT_begin 93 = .ok (.putfield 72, 3) := by decide +kernel
theorem d_LT_begin_96 : decode b_LT_begin 96 = .ok (.aload 5, 2) := by decide +kernel
theorem d_LT_begin_98 : decode b_LT_begin 98 = .ok (.iload 4, 2) := by decide +kernel
theorem d_LT_begin_100 : decode b_LT_begin 100 = .ok (.putfield 75, 3) := by decide +kernel
theorem d_LT_begin_103 : decode b_LT_begin 103 = .ok (.aload 5, 2) := by decide +kernel
theorem d_LT_begin_105 : decode b_LT_begin 105 = .ok (.iconst 0, 1) := by decide +kernel
theorem d_LT_begin_106 : decode b_LT_begin 106 = .ok (.putfield 78, 3) := by decide +kernel
theorem d_LT_begin_109 : decode b_LT_begin 109 = .ok (.aload 5, 2) := by decide +kernel
theorem d_LT_begin_111 : decode b_LT_begin 111 = .ok (.aload_n 0, 1) := by decide +kernel
theorem d_LT_begin_112 : decode b_LT_begin 112 = .ok (.getfield 40, 3) := by decide +kernel
theorem d_LT_begin_115 : decode b_LT_begin 115 = .ok (.invokevirtual 81, 3) := by decide +kernel
theorem d_LT_begin_118 : decode b_LT_begin 118 = .ok (.iload_n 2, 1) := by decide +kernel
theorem d_LT_begin_119 : decode b_LT_begin 119 = .ok (.iconst 3, 1) := by decide +kernel
theorem d_LT_begin_120 : decode b_LT_begin 120 = .ok (.if_icmp .ne 9, 3) := by decide +kernel
theorem d_LT_begin_123 : decode b_LT_begin 123 = .ok (.aload_n 0, 1) := by decide +kernel
theorem d_LT_begin_124 : decode b_LT_begin 124 = .ok (.aload 5, 2) := by decide +kernel
theorem d_LT_begin_126 : decode b_LT_begin 126 = .ok (.invokevirtual 84, 3) := by decide +kernel
theorem d_LT_begin_129 : decode b_LT_begin 129 = .ok (.return_, 1) := by decide +kernel
theorem d_LT_isTask_0 : decode b_LT_isTask 0 = .ok (.iload_n 0, 1) := by decide +kernel
theorem d_LT_isTask_1 : decode b_LT_isTask 1 = .ok (.ifCond .lt 12, 3) := by decide +kernel
theorem d_LT_isTask_4 : decode b_LT_isTask 4 = .ok (.iload_n 0, 1) := by decide +kernel
theorem d_LT_isTask_5 : decode b_LT_isTask 5 = .ok (.iconst 4, 1) := by decide +kernel
theorem d_LT_isTask_6 : decode b_LT_isTask 6 = .ok (.if_icmp .ge 7, 3) := by decide +kernel
theorem d_LT_isTask_9 : decode b_LT_isTask 9 = .ok (.iconst 1, 1) := by decide +kernel
theorem d_LT_isTask_10 : decode b_LT_isTask 10 = .ok (.goto 4, 3) := by decide +kernel
theorem d_LT_isTask_13 : decode b_LT_isTask 13 = .ok (.iconst 0, 1) := by decide +kernel
theorem d_LT_isTask_14 : decode b_LT_isTask 14 = .ok (.ireturn, 1) := by decide +kernel
theorem d_TA_searchAnew_0 : decode b_TA_searchAnew 0 = .ok (.aload_n 0, 1) := by decide +kernel
theorem d_TA_searchAnew_1 : decode b_TA_searchAnew 1 = .ok (.iconst 0, 1) := by decide +kernel
theorem d_TA_searchAnew_2 : decode b_TA_searchAnew 2 = .ok (.putfield 23, 3) := by decide +kernel
theorem d_TA_searchAnew_5 : decode b_TA_searchAnew 5 = .ok (.aload_n 0, 1) := by decide +kernel
theorem d_TA_searchAnew_6 : decode b_TA_searchAnew 6 = .ok (.iload_n 1, 1) := by decide +kernel
theorem d_TA_searchAnew_7 : decode b_TA_searchAnew 7 = .ok (.putfield 26, 3) := by decide +kernel
theorem d_TA_searchAnew_10 : decode b_TA_searchAnew 10 = .ok (.iconst 0, 1) := by decide +kernel
theorem d_TA_searchAnew_11 : decode b_TA_searchAnew 11 = .ok (.istore_n 2, 1) := by decide +kernel
theorem d_TA_searchAnew_12 : decode b_TA_searchAnew 12 = .ok (.iload_n 2, 1) := by decide +kernel
theorem d_TA_searchAnew_13 : decode b_TA_searchAnew 13 = .ok (.aload_n 0, 1) := by decide +kernel
theorem d_TA_searchAnew_14 : decode b_TA_searchAnew 14 = .ok (.getfield 9, 3) := by decide +kernel
theorem d_TA_searchAnew_17 : decode b_TA_searchAnew 17 = .ok (.arraylength, 1) := by decide +kernel
theorem d_TA_searchAnew_18 : decode b_TA_searchAnew 18 = .ok (.if_icmp .ge 16, 3) := by decide +kernel
theorem d_TA_searchAnew_21 : decode b_TA_searchAnew 21 = .ok (.aload_n 0, 1) := by decide +kernel
theorem d_TA_searchAnew_22 : decode b_TA_searchAnew 22 = .ok (.getfield 9, 3) := by decide +kernel
theorem d_TA_searchAnew_25 : decode b_TA_searchAnew 25 = .ok (.iload_n 2, 1) := by decide +kernel
theorem d_TA_searchAnew_26 : decode b_TA_searchAnew 26 = .ok (.iconst (-1), 1) := by decide +kernel
theorem d_TA_searchAnew_27 : decode b_TA_searchAnew 27 = .ok (.iastore, 1) := by decide +kernel
theorem d_TA_searchAnew_28 : decode b_TA_searchAnew 28 = .ok (.iinc 2 1, 3) := by decide +kernel
theorem d_TA_searchAnew_31 : decode b_TA_searchAnew 31 = .ok (.goto (-19), 3) := by decide +kernel
theorem d_TA_searchAnew_34 : decode b_TA_searchAnew 34 = .ok (.return_, 1) := by decide +kernel
theorem d_LT_chooseSmallPage_0 : decode b_LT_chooseSmallPage 0 = .ok (.aload_n 0, 1) := by decide +kernel
theorem d_LT_chooseSmallPage_1 : decode b_LT_chooseSmallPage 1 = .ok (.getfield 36, 3) := by decide +kernel
theorem d_LT_chooseSmallPage_4 : decode b_LT_chooseSmallPage 4 = .ok (.invokevirtual 168, 3) := by decide +kernel
theorem d_LT_chooseSmallPage_7 : decode b_LT_chooseSmallPage 7 = .ok (.istore_n 2, 1) := by decide +kernel
theorem d_LT_chooseSmallPage_8 : decode b_LT_chooseSmallPage 8 = .ok (.iload_n 2, 1) := by decide +kernel
theorem d_LT_chooseSmallPage_9 : decode b_LT_chooseSmallPage 9 = .ok (.iconst (-1), 1) := by decide +kernel
theorem d_LT_chooseSmallPage_10 : decode b_LT_chooseSmallPage 10 = .ok (.if_icmp .eq 11, 3) := by decide +kernel
theorem d_LT_chooseSmallPage_13 : decode b_LT_chooseSmallPage 13 = .ok (.iload_n 2, 1) := by decide +kernel
theorem d_LT_chooseSmallPage_14 : decode b_LT_chooseSmallPage 14 = .ok (.aload_n 0, 1) := by decide +kernel
theorem d_LT_chooseSmallPage_15 : decode b_LT_chooseSmallPage 15 = .ok (.getfield 40, 3) := by decide +kernel
theorem d_LT_chooseSmallPage_18 : decode b_LT_chooseSmallPage 18 = .ok (.if_icmp .ne 14, 3) := by decide +kernel
theorem d_LT_chooseSmallPage_21 : decode b_LT_chooseSmallPage 21 = .ok (.aload_n 1, 1) := by decide +kernel
theorem d_LT_chooseSmallPage_22 : decode b_LT_chooseSmallPage 22 = .ok (.iconst (-1), 1) := by decide +kernel
theorem d_LT_chooseSmallPage_23 : decode b_LT_chooseSmallPage 23 = .ok (.putfield 172, 3) := by decide +kernel
theorem d_LT_chooseSmallPage_26 : decode b_LT_chooseSmallPage 26 = .ok (.aload_n 1, 1) := by decide +kernel
theorem d_LT_chooseSmallPage_27 : decode b_LT_chooseSmallPage 27 = .ok (.iconst 0, 1) := by decide +kernel
theorem d_LT_chooseSmallPage_28 : decode b_LT_chooseSmallPage 28 = .ok (.putfield 72, 3) := by decide +kernel
theorem d_LT_chooseSmallPage_31 : decode b_LT_chooseSmallPage 31 = .ok (.return_, 1) := by decide +kernel
theorem d_LT_chooseSmallPage_32 : decode b_LT_chooseSmallPage 32 = .ok (.aload_n 0, 1) := by decide +kernel
theorem d_LT_chooseSmallPage_33 : decode b_LT_chooseSmallPage 33 = .ok (.iload_n 2, 1) := by decide +kernel
theorem d_LT_chooseSmallPage_34 : decode b_LT_chooseSmallPage 34 = .ok (.invokevirtual 148, 3) := by decide +kernel
theorem d_LT_chooseSmallPage_37 : decode b_LT_chooseSmallPage 37 = .ok (.astore_n 3, 1) := by decide +kernel
theorem d_LT_chooseSmallPage_38 : decode b_LT_chooseSmallPage 38 = .ok (.aload_n 1, 1) := by decide +kernel
theorem d_LT_chooseSmallPage_39 : decode b_LT_chooseSmallPage 39 = .ok (.iload_n 2, 1) := by decide +kernel
theorem d_LT_chooseSmallPage_40 : decode b_LT_chooseSmallPage 40 = .ok (.putfield 172, 3) := by decide +kernel
theorem d_LT_chooseSmallPage_43 : decode b_LT_chooseSmallPage 43 = .ok (.aload_n 1, 1) := by decide +kernel
theorem d_LT_chooseSmallPage_44 : decode b_LT_chooseSmallPage 44 = .ok (.aload_n 3, 1) := by decide +kernel
theorem d_LT_chooseSmallPage_45 : decode b_LT_chooseSmallPage 45 = .ok (.getfield 136, 3) := by decide +kernel
theorem d_LT_chooseSmallPage_48 : decode b_LT_chooseSmallPage 48 = .ok (.putfield 72, 3) := by decide +kernel
theorem d_LT_chooseSmallPage_51 : decode b_LT_chooseSmallPage 51 = .ok (.aload_n 1, 1) := by decide +kernel
theorem d_LT_chooseSmallPage_52 : decode b_LT_chooseSmallPage 52 = .ok (.aload_n 3, 1) := by decide +kernel
theorem d_LT_chooseSmallPage_53 : decode b_LT_chooseSmallPage 53 = .ok (.getfield 132, 3) := by decide +kernel
theorem d_LT_chooseSmallPage_56 : decode b_LT_chooseSmallPage 56 = .ok (.iconst 1, 1) := by decide +kernel
theorem d_LT_chooseSmallPage_57 : decode b_LT_chooseSmallPage 57 = .ok (.iadd, 1) := by decide +kernel
theorem d_LT_chooseSmallPage_58 : decode b_LT_chooseSmallPage 58 = .ok (.putfield 78, 3) := by decide +kernel
theorem d_LT_chooseSmallPage_61 : decode b_LT_chooseSmallPage 61 = .ok (.return_, 1) := by decide +kernel
theorem d_SP_takeFirst_0 : decode b_SP_takeFirst 0 = .ok (.aload_n 0, 1) := by decide +kernel
theorem d_SP_takeFirst_1 : decode b_SP_takeFirst 1 = .ok (.getfield 15, 3) := by decide +kernel
theorem d_SP_takeFirst_4 : decode b_SP_takeFirst 4 = .ok (.ifCond .ne 5, 3) := by decide +kernel
theorem d_SP_takeFirst_7 : decode b_SP_takeFirst 7 = .ok (.iconst (-1), 1) := by decide +kernel
theorem d_SP_takeFirst_8 : decode b_SP_takeFirst 8 = .ok (.ireturn, 1) := by decide +kernel
theorem d_SP_takeFirst_9 : decode b_SP_takeFirst 9 = .ok (.aload_n 0, 1) := by decide +kernel
theorem d_SP_takeFirst_10 : decode b_SP_takeFirst 10 = .ok (.getfield 9, 3) := by decide +kernel
theorem d_SP_takeFirst_13 : decode b_SP_takeFirst 13 = .ok (.iconst 0, 1) := by decide +kernel
theorem d_SP_takeFirst_14 : decode b_SP_takeFirst 14 = .ok (.iaload, 1) := by decide +kernel
theorem d_SP_takeFirst_15 : decode b_SP_takeFirst 15 = .ok (.istore_n 1, 1) := by decide +kernel
theorem d_SP_takeFirst_16 : decode b_SP_takeFirst 16 = .ok (.aload_n 0, 1) := by decide +kernel
theorem d_SP_takeFirst_17 : decode b_SP_takeFirst 17 = .ok (.iload_n 1, 1) := by decide +kernel
theorem d_SP_takeFirst_18 : decode b_SP_takeFirst 18 = .ok (.invokevirtual 23, 3) := by decide +kernel
theorem d_SP_takeFirst_21 : decode b_SP_takeFirst 21 = .ok (.iload_n 1, 1) := by decide +kernel
theorem d_SP_takeFirst_22 : decode b_SP_takeFirst 22 = .ok (.ireturn, 1) := by decide +kernel
theorem d_SP_drop_0 : decode b_SP_drop 0 = .ok (.iconst 0, 1) := by decide +kernel
theorem d_SP_drop_1 : decode b_SP_drop 1 = .ok (.istore_n 2, 1) := by decide +kernel
theorem d_SP_drop_2 : decode b_SP_drop 2 = .ok (.iconst 0, 1) := by decide +kernel
theorem d_SP_drop_3 : decode b_SP_drop 3 = .ok (.istore_n 3, 1) := by decide +kernel
theorem d_SP_drop_4 : decode b_SP_drop 4 = .ok (.iload_n 3, 1) := by decide +kernel
theorem d_SP_drop_5 : decode b_SP_drop 5 = .ok (.aload_n 0, 1) := by decide +kernel
theorem d_SP_drop_6 : decode b_SP_drop 6 = .ok (.getfield 15, 3) := by decide +kernel
theorem d_SP_drop_9 : decode b_SP_drop 9 = .ok (.if_icmp .ge 34, 3) := by decide +kernel
theorem d_SP_drop_12 : decode b_SP_drop 12 = .ok (.aload_n 0, 1) := by decide +kernel
theorem d_SP_drop_13 : decode b_SP_drop 13 = .ok (.getfield 9, 3) := by decide +kernel
theorem d_SP_drop_16 : decode b_SP_drop 16 = .ok (.iload_n 3, 1) := by decide +kernel
theorem d_SP_drop_17 : decode b_SP_drop 17 = .ok (.iaload, 1) := by decide +kernel
theorem d_SP_drop_18 : decode b_SP_drop 18 = .ok (.iload_n 1, 1) := by decide +kernel
theorem d_SP_drop_19 : decode b_SP_drop 19 = .ok (.if_icmp .eq 18, 3) := by decide +kernel
theorem d_SP_drop_22 : decode b_SP_drop 22 = .ok (.aload_n 0, 1) := by decide +kernel
theorem d_SP_drop_23 : decode b_SP_drop 23 = .ok (.getfield 9, 3) := by decide +kernel
theorem d_SP_drop_26 : decode b_SP_drop 26 = .ok (.iload_n 2, 1) := by decide +kernel
theorem d_SP_drop_27 : decode b_SP_drop 27 = .ok (.aload_n 0, 1) := by decide +kernel
theorem d_SP_drop_28 : decode b_SP_drop 28 = .ok (.getfield 9, 3) := by decide +kernel
theorem d_SP_drop_31 : decode b_SP_drop 31 = .ok (.iload_n 3, 1) := by decide +kernel
theorem d_SP_drop_32 : decode b_SP_drop 32 = .ok (.iaload, 1) := by decide +kernel
theorem d_SP_drop_33 : decode b_SP_drop 33 = .ok (.iastore, 1) := by decide +kernel
theorem d_SP_drop_34 : decode b_SP_drop 34 = .ok (.iinc 2 1, 3) := by decide +kernel
theorem d_SP_drop_37 : decode b_SP_drop 37 = .ok (.iinc 3 1, 3) := by decide +kernel
theorem d_SP_drop_40 : decode b_SP_drop 40 = .ok (.goto (-36), 3) := by decide +kernel
theorem d_SP_drop_43 : decode b_SP_drop 43 = .ok (.aload_n 0, 1) := by decide +kernel
theorem d_SP_drop_44 : decode b_SP_drop 44 = .ok (.iload_n 2, 1) := by decide +kernel
theorem d_SP_drop_45 : decode b_SP_drop 45 = .ok (.putfield 15, 3) := by decide +kernel
theorem d_SP_drop_48 : decode b_SP_drop 48 = .ok (.return_, 1) := by decide +kernel
theorem d_LT_nodeAt_0 : decode b_LT_nodeAt 0 = .ok (.iload_n 1, 1) := by decide +kernel
theorem d_LT_nodeAt_1 : decode b_LT_nodeAt 1 = .ok (.invokestatic 127, 3) := by decide +kernel
theorem d_LT_nodeAt_4 : decode b_LT_nodeAt 4 = .ok (.ifCond .eq 12, 3) := by decide +kernel
theorem d_LT_nodeAt_7 : decode b_LT_nodeAt 7 = .ok (.aload_n 0, 1) := by decide +kernel
theorem d_LT_nodeAt_8 : decode b_LT_nodeAt 8 = .ok (.getfield 11, 3) := by decide +kernel
theorem d_LT_nodeAt_11 : decode b_LT_nodeAt 11 = .ok (.iload_n 1, 1) := by decide +kernel
theorem d_LT_nodeAt_12 : decode b_LT_nodeAt 12 = .ok (.aaload, 1) := by decide +kernel
theorem d_LT_nodeAt_13 : decode b_LT_nodeAt 13 = .ok (.goto 7, 3) := by decide +kernel
theorem d_LT_nodeAt_16 : decode b_LT_nodeAt 16 = .ok (.aload_n 0, 1) := by decide +kernel
theorem d_LT_nodeAt_17 : decode b_LT_nodeAt 17 = .ok (.getfield 18, 3) := by decide +kernel
theorem d_LT_nodeAt_20 : decode b_LT_nodeAt 20 = .ok (.areturn, 1) := by decide +kernel
theorem d_LT_isPage_0 : decode b_LT_isPage 0 = .ok (.iload_n 0, 1) := by decide +kernel
theorem d_LT_isPage_1 : decode b_LT_isPage 1 = .ok (.ifCond .lt 13, 3) := by decide +kernel
theorem d_LT_isPage_4 : decode b_LT_isPage 4 = .ok (.iload_n 0, 1) := by decide +kernel
theorem d_LT_isPage_5 : decode b_LT_isPage 5 = .ok (.bipush 24, 2) := by decide +kernel
theorem d_LT_isPage_7 : decode b_LT_isPage 7 = .ok (.if_icmp .ge 7, 3) := by decide +kernel
theorem d_LT_isPage_10 : decode b_LT_isPage 10 = .ok (.iconst 1, 1) := by decide +kernel
theorem d_LT_isPage_11 : decode b_LT_isPage 11 = .ok (.goto 4, 3) := by decide +kernel
theorem d_LT_isPage_14 : decode b_LT_isPage 14 = .ok (.iconst 0, 1) := by decide +kernel
theorem d_LT_isPage_15 : decode b_LT_isPage 15 = .ok (.ireturn, 1) := by decide +kernel
theorem d_LT_step_0 : decode b_LT_step 0 = .ok (.iload_n 1, 1) := by decide +kernel
theorem d_LT_step_1 : decode b_LT_step 1 = .ok (.invokestatic 47, 3) := by decide +kernel
theorem d_LT_step_4 : decode b_LT_step 4 = .ok (.ifCond .ne 13, 3) := by decide +kernel
theorem d_LT_step_7 : decode b_LT_step 7 = .ok (.new 51, 3) := by decide +kernel
theorem d_LT_step_10 : decode b_LT_step 10 = .ok (.dup, 1) := by decide +kernel
theorem d_LT_step_11 : decode b_LT_step 11 = .ok (.ldc 88, 2) := by decide +kernel
theorem d_LT_step_13 : decode b_LT_step 13 = .ok (.invokespecial 55, 3) := by decide +kernel
theorem d_LT_step_16 : decode b_LT_step 16 = .ok (.athrow, 1) := by decide +kernel
theorem d_LT_step_17 : decode b_LT_step 17 = .ok (.aload_n 0, 1) := by decide +kernel
theorem d_LT_step_18 : decode b_LT_step 18 = .ok (.getfield 28, 3) := by decide +kernel
theorem d_LT_step_21 : decode b_LT_step 21 = .ok (.iload_n 1, 1) := by decide +kernel
theorem d_LT_step_22 : decode b_LT_step 22 = .ok (.aaload, 1) := by decide +kernel
theorem d_LT_step_23 : decode b_LT_step 23 = .ok (.astore_n 2, 1) := by decide +kernel
theorem d_LT_step_24 : decode b_LT_step 24 = .ok (.aload_n 2, 1) := by decide +kernel
theorem d_LT_step_25 : decode b_LT_step 25 = .ok (.getfield 60, 3) := by decide +kernel
theorem d_LT_step_28 : decode b_LT_step 28 = .ok (.ifCond .eq 13, 3) := by decide +kernel
theorem d_LT_step_31 : decode b_LT_step 31 = .ok (.new 64, 3) := by decide +kernel
theorem d_LT_step_34 : decode b_LT_step 34 = .ok (.dup, 1) := by decide +kernel
theorem d_LT_step_35 : decode b_LT_step 35 = .ok (.ldc 90, 2) := by decide +kernel
theorem d_LT_step_37 : decode b_LT_step 37 = .ok (.invokespecial 68, 3) := by decide +kernel
theorem d_LT_step_40 : decode b_LT_step 40 = .ok (.athrow, 1) := by decide +kernel
theorem d_LT_step_41 : decode b_LT_step 41 = .ok (.aload_n 0, 1) := by decide +kernel
theorem d_LT_step_42 : decode b_LT_step 42 = .ok (.aload_n 2, 1) := by decide +kernel
theorem d_LT_step_43 : decode b_LT_step 43 = .ok (.invokevirtual 92, 3) := by decide +kernel
theorem d_LT_step_46 : decode b_LT_step 46 = .ok (.istore_n 3, 1) := by decide +kernel
theorem d_LT_step_47 : decode b_LT_step 47 = .ok (.aload_n 2, 1) := by decide +kernel
theorem d_LT_step_48 : decode b_LT_step 48 = .ok (.dup, 1) := by decide +kernel
theorem d_LT_step_49 : decode b_LT_step 49 = .ok (.getfield 96, 3) := by decide +kernel
theorem d_LT_step_52 : decode b_LT_step 52 = .ok (.iconst 1, 1) := by decide +kernel
theorem d_LT_step_53 : decode b_LT_step 53 = .ok (.iadd, 1) := by decide +kernel
theorem d_LT_step_54 : decode b_LT_step 54 = .ok (.putfield 96, 3) := by decide +kernel
theorem d_LT_step_57 : decode b_LT_step 57 = .ok (.iload_n 3, 1) := by decide +kernel
theorem d_LT_step_58 : decode b_LT_step 58 = .ok (.iconst 1, 1) := by decide +kernel
theorem d_LT_step_59 : decode b_LT_step 59 = .ok (.if_icmp .ne 13, 3) := by decide +kernel
theorem d_LT_step_62 : decode b_LT_step 62 = .ok (.aload_n 2, 1) := by decide +kernel
theorem d_LT_step_63 : decode b_LT_step 63 = .ok (.dup, 1) := by decide +kernel
theorem d_LT_step_64 : decode b_LT_step 64 = .ok (.getfield 99, 3) := by decide +kernel
theorem d_LT_step_67 : decode b_LT_step 67 = .ok (.iconst 1, 1) := by decide +kernel
theorem d_LT_step_68 : decode b_LT_step 68 = .ok (.iadd, 1) := by decide +kernel
theorem d_LT_step_69 : decode b_LT_step 69 = .ok (.putfield 99, 3) := by decide +kernel
theorem d_LT_step_72 : decode b_LT_step 72 = .ok (.iload_n 3, 1) := by decide +kernel
theorem d_LT_step_73 : decode b_LT_step 73 = .ok (.ireturn, 1) := by decide +kernel
theorem d_LT_advance_0 : decode b_LT_advance 0 = .ok (.aload_n 1, 1) := by decide +kernel
theorem d_LT_advance_1 : decode b_LT_advance 1 = .ok (.getfield 69, 3) := by decide +kernel
theorem d_LT_advance_4 : decode b_LT_advance 4 = .ok (.iconst 3, 1) := by decide +kernel
theorem d_LT_advance_5 : decode b_LT_advance 5 = .ok (.if_icmp .ne 18, 3) := by decide +kernel
theorem d_LT_advance_8 : decode b_LT_advance 8 = .ok (.aload_n 1, 1) := by decide +kernel
theorem d_LT_advance_9 : decode b_LT_advance 9 = .ok (.getfield 172, 3) := by decide +kernel
theorem d_LT_advance_12 : decode b_LT_advance 12 = .ok (.iconst (-1), 1) := by decide +kernel
theorem d_LT_advance_13 : decode b_LT_advance 13 = .ok (.if_icmp .ne 10, 3) := by decide +kernel
theorem d_LT_advance_16 : decode b_LT_advance 16 = .ok (.aload_n 0, 1) := by decide +kernel
theorem d_LT_advance_17 : decode b_LT_advance 17 = .ok (.aload_n 1, 1) := by decide +kernel
theorem d_LT_advance_18 : decode b_LT_advance 18 = .ok (.iconst 0, 1) := by decide +kernel
theorem d_LT_advance_19 : decode b_LT_advance 19 = .ok (.invokevirtual 175, 3) := by decide +kernel
theorem d_LT_advance_22 : decode b_LT_advance 22 = .ok (.ireturn, 1) := by decide +kernel
theorem d_LT_advance_23 : decode b_LT_advance 23 = .ok (.aload_n 0, 1) := by decide +kernel
theorem d_LT_advance_24 : decode b_LT_advance 24 = .ok (.aload_n 1, 1) := by decide +kernel
theorem d_LT_advance_25 : decode b_LT_advance 25 = .ok (.getfield 118, 3) := by decide +kernel
theorem d_LT_advance_28 : decode b_LT_advance 28 = .ok (.invokevirtual 148, 3) := by decide +kernel
theorem d_LT_advance_31 : decode b_LT_advance 31 = .ok (.astore_n 2, 1) := by decide +kernel
theorem d_LT_advance_32 : decode b_LT_advance 32 = .ok (.aload_n 1, 1) := by decide +kernel
theorem d_LT_advance_33 : decode b_LT_advance 33 = .ok (.getfield 115, 3) := by decide +kernel
theorem d_LT_advance_36 : decode b_LT_advance 36 = .ok (.lookupswitch 42 #[(0, 28), (1, 35)], 28) := by decide +kernel
theorem d_LT_advance_64 : decode b_LT_advance 64 = .ok (.aload_n 0, 1) := by decide +kernel
theorem d_LT_advance_65 : decode b_LT_advance 65 = .ok (.aload_n 1, 1) := by decide +kernel
theorem d_LT_advance_66 : decode b_LT_advance 66 = .ok (.aload_n 2, 1) := by decide +kernel
theorem d_LT_advance_67 : decode b_LT_advance 67 = .ok (.invokevirtual 179, 3) := by decide +kernel
theorem d_LT_advance_70 : decode b_LT_advance 70 = .ok (.ireturn, 1) := by decide +kernel
theorem d_LT_advance_71 : decode b_LT_advance 71 = .ok (.aload_n 0, 1) := by decide +kernel
theorem d_LT_advance_72 : decode b_LT_advance 72 = .ok (.aload_n 1, 1) := by decide +kernel
theorem d_LT_advance_73 : decode b_LT_advance 73 = .ok (.aload_n 2, 1) := by decide +kernel
theorem d_LT_advance_74 : decode b_LT_advance 74 = .ok (.invokevirtual 183, 3) := by decide +kernel
theorem d_LT_advance_77 : decode b_LT_advance 77 = .ok (.ireturn, 1) := by decide +kernel
theorem d_LT_advance_78 : decode b_LT_advance 78 = .ok (.aload_n 0, 1) := by decide +kernel
theorem d_LT_advance_79 : decode b_LT_advance 79 = .ok (.aload_n 1, 1) := by decide +kernel
theorem d_LT_advance_80 : decode b_LT_advance 80 = .ok (.aload_n 2, 1) := by decide +kernel
theorem d_LT_advance_81 : decode b_LT_advance 81 = .ok (.invokevirtual 186, 3) := by decide +kernel
theorem d_LT_advance_84 : decode b_LT_advance 84 = .ok (.ireturn, 1) := by decide +kernel
theorem d_LT_finish_0 : decode b_LT_finish 0 = .ok (.aload_n 1, 1) := by decide +kernel
theorem d_LT_finish_1 : decode b_LT_finish 1 = .ok (.iconst 1, 1) := by decide +kernel
theorem d_LT_finish_2 : decode b_LT_finish 2 = .ok (.putfield 60, 3) := by decide +kernel
theorem d_LT_finish_5 : decode b_LT_finish 5 = .ok (.aload_n 1, 1) := by decide +kernel
theorem d_LT_finish_6 : decode b_LT_finish 6 = .ok (.iconst 1, 1) := by decide +kernel
theorem d_LT_finish_7 : decode b_LT_finish 7 = .ok (.putfield 102, 3) := by decide +kernel
theorem d_LT_finish_10 : decode b_LT_finish 10 = .ok (.aload_n 1, 1) := by decide +kernel
theorem d_LT_finish_11 : decode b_LT_finish 11 = .ok (.iload_n 2, 1) := by decide +kernel
theorem d_LT_finish_12 : decode b_LT_finish 12 = .ok (.putfield 110, 3) := by decide +kernel
theorem d_LT_finish_15 : decode b_LT_finish 15 = .ok (.iconst 0, 1) := by decide +kernel
theorem d_LT_finish_16 : decode b_LT_finish 16 = .ok (.istore_n 3, 1) := by decide +kernel
theorem d_LT_finish_17 : decode b_LT_finish 17 = .ok (.iload_n 3, 1) := by decide +kernel
theorem d_LT_finish_18 : decode b_LT_finish 18 = .ok (.bipush 24, 2) := by decide +kernel
theorem d_LT_finish_20 : decode b_LT_finish 20 = .ok (.if_icmp .ge 22, 3) := by decide +kernel
theorem d_LT_finish_23 : decode b_LT_finish 23 = .ok (.aload_n 0, 1) := by decide +kernel
theorem d_LT_finish_24 : decode b_LT_finish 24 = .ok (.getfield 11, 3) := by decide +kernel
theorem d_LT_finish_27 : decode b_LT_finish 27 = .ok (.iload_n 3, 1) := by decide +kernel
theorem d_LT_finish_28 : decode b_LT_finish 28 = .ok (.aaload, 1) := by decide +kernel
theorem d_LT_finish_29 : decode b_LT_finish 29 = .ok (.aload_n 1, 1) := by decide +kernel
theorem d_LT_finish_30 : decode b_LT_finish 30 = .ok (.getfield 223, 3) := by decide +kernel
theorem d_LT_finish_33 : decode b_LT_finish 33 = .ok (.invokevirtual 236, 3) := by decide +kernel
theorem d_LT_finish_36 : decode b_LT_finish 36 = .ok (.iinc 3 1, 3) := by decide +kernel
theorem d_LT_finish_39 : decode b_LT_finish 39 = .ok (.goto (-22), 3) := by decide +kernel
theorem d_LT_finish_42 : decode b_LT_finish 42 = .ok (.iconst 2, 1) := by decide +kernel
theorem d_LT_finish_43 : decode b_LT_finish 43 = .ok (.ireturn, 1) := by decide +kernel
theorem d_ND_awaitNoMore_0 : decode b_ND_awaitNoMore 0 = .ok (.aload_n 0, 1) := by decide +kernel
theorem d_ND_awaitNoMore_1 : decode b_ND_awaitNoMore 1 = .ok (.getfield 18, 3) := by decide +kernel
theorem d_ND_awaitNoMore_4 : decode b_ND_awaitNoMore 4 = .ok (.iconst 2, 1) := by decide +kernel
theorem d_ND_awaitNoMore_5 : decode b_ND_awaitNoMore 5 = .ok (.if_icmp .ne 17, 3) := by decide +kernel
theorem d_ND_awaitNoMore_8 : decode b_ND_awaitNoMore 8 = .ok (.aload_n 0, 1) := by decide +kernel
theorem d_ND_awaitNoMore_9 : decode b_ND_awaitNoMore 9 = .ok (.aload_n 0, 1) := by decide +kernel
theorem d_ND_awaitNoMore_10 : decode b_ND_awaitNoMore 10 = .ok (.getfield 66, 3) := by decide +kernel
theorem d_ND_awaitNoMore_13 : decode b_ND_awaitNoMore 13 = .ok (.iconst 1, 1) := by decide +kernel
theorem d_ND_awaitNoMore_14 : decode b_ND_awaitNoMore 14 = .ok (.iload_n 1, 1) := by decide +kernel
theorem d_ND_awaitNoMore_15 : decode b_ND_awaitNoMore 15 = .ok (.ishl, 1) := by decide +kernel
theorem d_ND_awaitNoMore_16 : decode b_ND_awaitNoMore 16 = .ok (.iconst (-1), 1) := by decide +kernel
theorem d_ND_awaitNoMore_17 : decode b_ND_awaitNoMore 17 = .ok (.ixor, 1) := by decide +kernel
theorem d_ND_awaitNoMore_18 : decode b_ND_awaitNoMore 18 = .ok (.iand, 1) := by decide +kernel
theorem d_ND_awaitNoMore_19 : decode b_ND_awaitNoMore 19 = .ok (.invokevirtual 69, 3) := by decide +kernel
theorem d_ND_awaitNoMore_22 : decode b_ND_awaitNoMore 22 = .ok (.return_, 1) := by decide +kernel
theorem d_ND_dieUntil_0 : decode b_ND_dieUntil 0 = .ok (.aload_n 0, 1) := by decide +kernel
theorem d_ND_dieUntil_1 : decode b_ND_dieUntil 1 = .ok (.iload_n 1, 1) := by decide +kernel
theorem d_ND_dieUntil_2 : decode b_ND_dieUntil 2 = .ok (.putfield 66, 3) := by decide +kernel
theorem d_ND_dieUntil_5 : decode b_ND_dieUntil 5 = .ok (.aload_n 0, 1) := by decide +kernel
theorem d_ND_dieUntil_6 : decode b_ND_dieUntil 6 = .ok (.aload_n 0, 1) := by decide +kernel
theorem d_ND_dieUntil_7 : decode b_ND_dieUntil 7 = .ok (.getfield 66, 3) := by decide +kernel
theorem d_ND_dieUntil_10 : decode b_ND_dieUntil 10 = .ok (.ifCond .ne 7, 3) := by decide +kernel
theorem d_ND_dieUntil_13 : decode b_ND_dieUntil 13 = .ok (.iconst 0, 1) := by decide +kernel
theorem d_ND_dieUntil_14 : decode b_ND_dieUntil 14 = .ok (.goto 4, 3) := by decide +kernel
theorem d_ND_dieUntil_17 : decode b_ND_dieUntil 17 = .ok (.iconst 2, 1) := by decide +kernel
theorem d_ND_dieUntil_18 : decode b_ND_dieUntil 18 = .ok (.putfield 18, 3) := by decide +kernel
theorem d_ND_dieUntil_21 : decode b_ND_dieUntil 21 = .ok (.return_, 1) := by decide +kernel
theorem d_LT_search_0 : decode b_LT_search 0 = .ok (.aload_n 2, 1) := by decide +kernel
theorem d_LT_search_1 : decode b_LT_search 1 = .ok (.aload_n 1, 1) := by decide +kernel
theorem d_LT_search_2 : decode b_LT_search 2 = .ok (.getfield 72, 3) := by decide +kernel
theorem d_LT_search_5 : decode b_LT_search 5 = .ok (.invokevirtual 189, 3) := by decide +kernel
theorem d_LT_search_8 : decode b_LT_search 8 = .ok (.ifCond .eq 9, 3) := by decide +kernel
theorem d_LT_search_11 : decode b_LT_search 11 = .ok (.aload_n 0, 1) := by decide +kernel
theorem d_LT_search_12 : decode b_LT_search 12 = .ok (.aload_n 1, 1) := by decide +kernel
theorem d_LT_search_13 : decode b_LT_search 13 = .ok (.invokevirtual 192, 3) := by decide +kernel
theorem d_LT_search_16 : decode b_LT_search 16 = .ok (.ireturn, 1) := by decide +kernel
theorem d_LT_search_17 : decode b_LT_search 17 = .ok (.aload_n 2, 1) := by decide +kernel
theorem d_LT_search_18 : decode b_LT_search 18 = .ok (.getfield 136, 3) := by decide +kernel
theorem d_LT_search_21 : decode b_LT_search 21 = .ok (.aload_n 1, 1) := by decide +kernel
theorem d_LT_search_22 : decode b_LT_search 22 = .ok (.getfield 72, 3) := by decide +kernel
theorem d_LT_search_25 : decode b_LT_search 25 = .ok (.if_icmp .ge 10, 3) := by decide +kernel
theorem d_LT_search_28 : decode b_LT_search 28 = .ok (.aload_n 0, 1) := by decide +kernel
theorem d_LT_search_29 : decode b_LT_search 29 = .ok (.aload_n 1, 1) := by decide +kernel
theorem d_LT_search_30 : decode b_LT_search 30 = .ok (.aload_n 2, 1) := by decide +kernel
theorem d_LT_search_31 : decode b_LT_search 31 = .ok (.invokevirtual 195, 3) := by decide +kernel
theorem d_LT_search_34 : decode b_LT_search 34 = .ok (.ireturn, 1) := by decide +kernel
theorem d_LT_search_35 : decode b_LT_search 35 = .ok (.aload_n 2, 1) := by decide +kernel
theorem d_LT_search_36 : decode b_LT_search 36 = .ok (.getfield 132, 3) := by decide +kernel
theorem d_LT_search_39 : decode b_LT_search 39 = .ok (.aload_n 1, 1) := by decide +kernel
theorem d_LT_search_40 : decode b_LT_search 40 = .ok (.getfield 78, 3) := by decide +kernel
theorem d_LT_search_43 : decode b_LT_search 43 = .ok (.if_icmp .le 29, 3) := by decide +kernel
theorem d_LT_search_46 : decode b_LT_search 46 = .ok (.aload_n 1, 1) := by decide +kernel
theorem d_LT_search_47 : decode b_LT_search 47 = .ok (.aload_n 2, 1) := by decide +kernel
theorem d_LT_search_48 : decode b_LT_search 48 = .ok (.getfield 132, 3) := by decide +kernel
theorem d_LT_search_51 : decode b_LT_search 51 = .ok (.aload_n 2, 1) := by decide +kernel
theorem d_LT_search_52 : decode b_LT_search 52 = .ok (.getfield 198, 3) := by decide +kernel
theorem d_LT_search_55 : decode b_LT_search 55 = .ok (.invokevirtual 201, 3) := by decide +kernel
theorem d_LT_search_58 : decode b_LT_search 58 = .ok (.aload_n 1, 1) := by decide +kernel
theorem d_LT_search_59 : decode b_LT_search 59 = .ok (.aload_n 2, 1) := by decide +kernel
theorem d_LT_search_60 : decode b_LT_search 60 = .ok (.aload_n 1, 1) := by decide +kernel
theorem d_LT_search_61 : decode b_LT_search 61 = .ok (.getfield 72, 3) := by decide +kernel
theorem d_LT_search_64 : decode b_LT_search 64 = .ok (.invokevirtual 205, 3) := by decide +kernel
theorem d_LT_search_67 : decode b_LT_search 67 = .ok (.putfield 118, 3) := by decide +kernel
theorem d_LT_search_70 : decode b_LT_search 70 = .ok (.iconst 0, 1) := by decide +kernel
theorem d_LT_search_71 : decode b_LT_search 71 = .ok (.ireturn, 1) := by decide +kernel
theorem d_LT_search_72 : decode b_LT_search 72 = .ok (.aload_n 2, 1) := by decide +kernel
theorem d_LT_search_73 : decode b_LT_search 73 = .ok (.getfield 132, 3) := by decide +kernel
theorem d_LT_search_76 : decode b_LT_search 76 = .ok (.aload_n 1, 1) := by decide +kernel
theorem d_LT_search_77 : decode b_LT_search 77 = .ok (.getfield 78, 3) := by decide +kernel
theorem d_LT_search_80 : decode b_LT_search 80 = .ok (.if_icmp .ge 9, 3) := by decide +kernel
theorem d_LT_search_83 : decode b_LT_search 83 = .ok (.aload_n 0, 1) := by decide +kernel
theorem d_LT_search_84 : decode b_LT_search 84 = .ok (.aload_n 1, 1) := by decide +kernel
theorem d_LT_search_85 : decode b_LT_search 85 = .ok (.invokevirtual 209, 3) := by decide +kernel
theorem d_LT_search_88 : decode b_LT_search 88 = .ok (.ireturn, 1) := by decide +kernel
theorem d_LT_search_89 : decode b_LT_search 89 = .ok (.aload_n 1, 1) := by decide +kernel
theorem d_LT_search_90 : decode b_LT_search 90 = .ok (.getfield 69, 3) := by decide +kernel
theorem d_LT_search_93 : decode b_LT_search 93 = .ok (.ifCond .ne 17, 3) := by decide +kernel
theorem d_LT_search_96 : decode b_LT_search 96 = .ok (.aload_n 0, 1) := by decide +kernel
theorem d_LT_search_97 : decode b_LT_search 97 = .ok (.aload_n 1, 1) := by decide +kernel
theorem d_LT_search_98 : decode b_LT_search 98 = .ok (.aload_n 2, 1) := by decide +kernel
theorem d_LT_search_99 : decode b_LT_search 99 = .ok (.aload_n 1, 1) := by decide +kernel
theorem d_LT_search_100 : decode b_LT_search 100 = .ok (.getfield 72, 3) := by decide +kernel
theorem d_LT_search_103 : decode b_LT_search 103 = .ok (.invokevirtual 212, 3) := by decide +kernel
theorem d_LT_search_106 : decode b_LT_search 106 = .ok (.invokevirtual 175, 3) := by decide +kernel
theorem d_LT_search_109 : decode b_LT_search 109 = .ok (.ireturn, 1) := by decide +kernel
theorem d_LT_search_110 : decode b_LT_search 110 = .ok (.aload_n 1, 1) := by decide +kernel
theorem d_LT_search_111 : decode b_LT_search 111 = .ok (.iconst 1, 1) := by decide +kernel
theorem d_LT_search_112 : decode b_LT_search 112 = .ok (.putfield 115, 3) := by decide +kernel
theorem d_LT_search_115 : decode b_LT_search 115 = .ok (.iconst 0, 1) := by decide +kernel
theorem d_LT_search_116 : decode b_LT_search 116 = .ok (.ireturn, 1) := by decide +kernel
theorem d_ND_isWrongFor_0 : decode b_ND_isWrongFor 0 = .ok (.aload_n 0, 1) := by decide +kernel
theorem d_ND_isWrongFor_1 : decode b_ND_isWrongFor 1 = .ok (.getfield 18, 3) := by decide +kernel
theorem d_ND_isWrongFor_4 : decode b_ND_isWrongFor 4 = .ok (.iconst 1, 1) := by decide +kernel
theorem d_ND_isWrongFor_5 : decode b_ND_isWrongFor 5 = .ok (.if_icmp .ne 11, 3) := by decide +kernel
theorem d_ND_isWrongFor_8 : decode b_ND_isWrongFor 8 = .ok (.aload_n 0, 1) := by decide +kernel
theorem d_ND_isWrongFor_9 : decode b_ND_isWrongFor 9 = .ok (.getfield 34, 3) := by decide +kernel
theorem d_ND_isWrongFor_12 : decode b_ND_isWrongFor 12 = .ok (.iload_n 1, 1) := by decide +kernel
theorem d_ND_isWrongFor_13 : decode b_ND_isWrongFor 13 = .ok (.if_icmp .lt 7, 3) := by decide +kernel
theorem d_ND_isWrongFor_16 : decode b_ND_isWrongFor 16 = .ok (.iconst 1, 1) := by decide +kernel
theorem d_ND_isWrongFor_17 : decode b_ND_isWrongFor 17 = .ok (.goto 4, 3) := by decide +kernel
theorem d_ND_isWrongFor_20 : decode b_ND_isWrongFor 20 = .ok (.iconst 0, 1) := by decide +kernel
theorem d_ND_isWrongFor_21 : decode b_ND_isWrongFor 21 = .ok (.ireturn, 1) := by decide +kernel
theorem d_LT_restart_0 : decode b_LT_restart 0 = .ok (.aload_n 1, 1) := by decide +kernel
theorem d_LT_restart_1 : decode b_LT_restart 1 = .ok (.dup, 1) := by decide +kernel
theorem d_LT_restart_2 : decode b_LT_restart 2 = .ok (.getfield 124, 3) := by decide +kernel
theorem d_LT_restart_5 : decode b_LT_restart 5 = .ok (.iconst 1, 1) := by decide +kernel
theorem d_LT_restart_6 : decode b_LT_restart 6 = .ok (.iadd, 1) := by decide +kernel
theorem d_LT_restart_7 : decode b_LT_restart 7 = .ok (.putfield 124, 3) := by decide +kernel
theorem d_LT_restart_10 : decode b_LT_restart 10 = .ok (.aload_n 1, 1) := by decide +kernel
theorem d_LT_restart_11 : decode b_LT_restart 11 = .ok (.aload_n 0, 1) := by decide +kernel
theorem d_LT_restart_12 : decode b_LT_restart 12 = .ok (.getfield 40, 3) := by decide +kernel
theorem d_LT_restart_15 : decode b_LT_restart 15 = .ok (.invokevirtual 81, 3) := by decide +kernel
theorem d_LT_restart_18 : decode b_LT_restart 18 = .ok (.iconst 0, 1) := by decide +kernel
theorem d_LT_restart_19 : decode b_LT_restart 19 = .ok (.ireturn, 1) := by decide +kernel
theorem d_LT_goRight_0 : decode b_LT_goRight 0 = .ok (.aload_n 1, 1) := by decide +kernel
theorem d_LT_goRight_1 : decode b_LT_goRight 1 = .ok (.dup, 1) := by decide +kernel
theorem d_LT_goRight_2 : decode b_LT_goRight 2 = .ok (.getfield 121, 3) := by decide +kernel
theorem d_LT_goRight_5 : decode b_LT_goRight 5 = .ok (.iconst 1, 1) := by decide +kernel
theorem d_LT_goRight_6 : decode b_LT_goRight 6 = .ok (.iadd, 1) := by decide +kernel
theorem d_LT_goRight_7 : decode b_LT_goRight 7 = .ok (.putfield 121, 3) := by decide +kernel
theorem d_LT_goRight_10 : decode b_LT_goRight 10 = .ok (.aload_n 1, 1) := by decide +kernel
theorem d_LT_goRight_11 : decode b_LT_goRight 11 = .ok (.aload_n 2, 1) := by decide +kernel
theorem d_LT_goRight_12 : decode b_LT_goRight 12 = .ok (.getfield 139, 3) := by decide +kernel
theorem d_LT_goRight_15 : decode b_LT_goRight 15 = .ok (.putfield 118, 3) := by decide +kernel
theorem d_LT_goRight_18 : decode b_LT_goRight 18 = .ok (.iconst 0, 1) := by decide +kernel
theorem d_LT_goRight_19 : decode b_LT_goRight 19 = .ok (.ireturn, 1) := by decide +kernel
theorem d_TA_note_0 : decode b_TA_note 0 = .ok (.iload_n 1, 1) := by decide +kernel
theorem d_TA_note_1 : decode b_TA_note 1 = .ok (.ifCond .lt 19, 3) := by decide +kernel
theorem d_TA_note_4 : decode b_TA_note 4 = .ok (.iload_n 1, 1) := by decide +kernel
theorem d_TA_note_5 : decode b_TA_note 5 = .ok (.aload_n 0, 1) := by decide +kernel
theorem d_TA_note_6 : decode b_TA_note 6 = .ok (.getfield 9, 3) := by decide +kernel
theorem d_TA_note_9 : decode b_TA_note 9 = .ok (.arraylength, 1) := by decide +kernel
theorem d_TA_note_10 : decode b_TA_note 10 = .ok (.if_icmp .ge 10, 3) := by decide +kernel
theorem d_TA_note_13 : decode b_TA_note 13 = .ok (.aload_n 0, 1) := by decide +kernel
theorem d_TA_note_14 : decode b_TA_note 14 = .ok (.getfield 9, 3) := by decide +kernel
theorem d_TA_note_17 : decode b_TA_note 17 = .ok (.iload_n 1, 1) := by decide +kernel
theorem d_TA_note_18 : decode b_TA_note 18 = .ok (.iload_n 2, 1) := by decide +kernel
theorem d_TA_note_19 : decode b_TA_note 19 = .ok (.iastore, 1) := by decide +kernel
theorem d_TA_note_20 : decode b_TA_note 20 = .ok (.return_, 1) := by decide +kernel
theorem d_ND_childFor_0 : decode b_ND_childFor 0 = .ok (.aload_n 0, 1) := by decide +kernel
theorem d_ND_childFor_1 : decode b_ND_childFor 1 = .ok (.iload_n 1, 1) := by decide +kernel
theorem d_ND_childFor_2 : decode b_ND_childFor 2 = .ok (.invokevirtual 43, 3) := by decide +kernel
theorem d_ND_childFor_5 : decode b_ND_childFor 5 = .ok (.istore_n 2, 1) := by decide +kernel
theorem d_ND_childFor_6 : decode b_ND_childFor 6 = .ok (.iload_n 2, 1) := by decide +kernel
theorem d_ND_childFor_7 : decode b_ND_childFor 7 = .ok (.aload_n 0, 1) := by decide +kernel
theorem d_ND_childFor_8 : decode b_ND_childFor 8 = .ok (.getfield 40, 3) := by decide +kernel
theorem d_ND_childFor_11 : decode b_ND_childFor 11 = .ok (.if_icmp .ge 12, 3) := by decide +kernel
theorem d_ND_childFor_14 : decode b_ND_childFor 14 = .ok (.aload_n 0, 1) := by decide +kernel
theorem d_ND_childFor_15 : decode b_ND_childFor 15 = .ok (.getfield 15, 3) := by decide +kernel
theorem d_ND_childFor_18 : decode b_ND_childFor 18 = .ok (.iload_n 2, 1) := by decide +kernel
theorem d_ND_childFor_19 : decode b_ND_childFor 19 = .ok (.iaload, 1) := by decide +kernel
theorem d_ND_childFor_20 : decode b_ND_childFor 20 = .ok (.goto 4, 3) := by decide +kernel
theorem d_ND_childFor_23 : decode b_ND_childFor 23 = .ok (.iconst (-1), 1) := by decide +kernel
theorem d_ND_childFor_24 : decode b_ND_childFor 24 = .ok (.ireturn, 1) := by decide +kernel
theorem d_ND_firstNotBelow_0 : decode b_ND_firstNotBelow 0 = .ok (.iconst 0, 1) := by decide +kernel
theorem d_ND_firstNotBelow_1 : decode b_ND_firstNotBelow 1 = .ok (.istore_n 2, 1) := by decide +kernel
theorem d_ND_firstNotBelow_2 : decode b_ND_firstNotBelow 2 = .ok (.iload_n 2, 1) := by decide +kernel
theorem d_ND_firstNotBelow_3 : decode b_ND_firstNotBelow 3 = .ok (.aload_n 0, 1) := by decide +kernel
theorem d_ND_firstNotBelow_4 : decode b_ND_firstNotBelow 4 = .ok (.getfield 40, 3) := by decide +kernel
theorem d_ND_firstNotBelow_7 : decode b_ND_firstNotBelow 7 = .ok (.if_icmp .ge 19, 3) := by decide +kernel
theorem d_ND_firstNotBelow_10 : decode b_ND_firstNotBelow 10 = .ok (.aload_n 0, 1) := by decide +kernel
theorem d_ND_firstNotBelow_11 : decode b_ND_firstNotBelow 11 = .ok (.getfield 9, 3) := by decide +kernel
theorem d_ND_firstNotBelow_14 : decode b_ND_firstNotBelow 14 = .ok (.iload_n 2, 1) := by decide +kernel
theorem d_ND_firstNotBelow_15 : decode b_ND_firstNotBelow 15 = .ok (.iaload, 1) := by decide +kernel
theorem d_ND_firstNotBelow_16 : decode b_ND_firstNotBelow 16 = .ok (.iload_n 1, 1) := by decide +kernel
theorem d_ND_firstNotBelow_17 : decode b_ND_firstNotBelow 17 = .ok (.if_icmp .ge 9, 3) := by decide +kernel
theorem d_ND_firstNotBelow_20 : decode b_ND_firstNotBelow 20 = .ok (.iinc 2 1, 3) := by decide +kernel
theorem d_ND_firstNotBelow_23 : decode b_ND_firstNotBelow 23 = .ok (.goto (-21), 3) := by decide +kernel
theorem d_ND_firstNotBelow_26 : decode b_ND_firstNotBelow 26 = .ok (.iload_n 2, 1) := by decide +kernel
theorem d_ND_firstNotBelow_27 : decode b_ND_firstNotBelow 27 = .ok (.ireturn, 1) := by decide +kernel
theorem d_LT_searchBelowWanted_0 : decode b_LT_searchBelowWanted 0 = .ok (.aload_n 1, 1) := by decide +kernel
theorem d_LT_searchBelowWanted_1 : decode b_LT_searchBelowWanted 1 = .ok (.getfield 69, 3) := by decide +kernel
theorem d_LT_searchBelowWanted_4 : decode b_LT_searchBelowWanted 4 = .ok (.iconst 3, 1) := by decide +kernel
theorem d_LT_searchBelowWanted_5 : decode b_LT_searchBelowWanted 5 = .ok (.if_icmp .ne 10, 3) := by decide +kernel
theorem d_LT_searchBelowWanted_8 : decode b_LT_searchBelowWanted 8 = .ok (.aload_n 0, 1) := by decide +kernel
theorem d_LT_searchBelowWanted_9 : decode b_LT_searchBelowWanted 9 = .ok (.aload_n 1, 1) := by decide +kernel
theorem d_LT_searchBelowWanted_10 : decode b_LT_searchBelowWanted 10 = .ok (.iconst 0, 1) := by decide +kernel
theorem d_LT_searchBelowWanted_11 : decode b_LT_searchBelowWanted 11 = .ok (.invokevirtual 175, 3) := by decide +kernel
theorem d_LT_searchBelowWanted_14 : decode b_LT_searchBelowWanted 14 = .ok (.ireturn, 1) := by decide +kernel
theorem d_LT_searchBelowWanted_15 : decode b_LT_searchBelowWanted 15 = .ok (.aload_n 0, 1) := by decide +kernel
theorem d_LT_searchBelowWanted_16 : decode b_LT_searchBelowWanted 16 = .ok (.aload_n 0, 1) := by decide +kernel
theorem d_LT_searchBelowWanted_17 : decode b_LT_searchBelowWanted 17 = .ok (.getfield 40, 3) := by decide +kernel
theorem d_LT_searchBelowWanted_20 : decode b_LT_searchBelowWanted 20 = .ok (.invokevirtual 148, 3) := by decide +kernel
theorem d_LT_searchBelowWanted_23 : decode b_LT_searchBelowWanted 23 = .ok (.astore_n 2, 1) := by decide +kernel
theorem d_LT_searchBelowWanted_24 : decode b_LT_searchBelowWanted 24 = .ok (.aload_n 2, 1) := by decide +kernel
theorem d_LT_searchBelowWanted_25 : decode b_LT_searchBelowWanted 25 = .ok (.getfield 132, 3) := by decide +kernel
theorem d_LT_searchBelowWanted_28 : decode b_LT_searchBelowWanted 28 = .ok (.aload_n 1, 1) := by decide +kernel
theorem d_LT_searchBelowWanted_29 : decode b_LT_searchBelowWanted 29 = .ok (.getfield 78, 3) := by decide +kernel
theorem d_LT_searchBelowWanted_32 : decode b_LT_searchBelowWanted 32 = .ok (.if_icmp .lt 9, 3) := by decide +kernel
theorem d_LT_searchBelowWanted_35 : decode b_LT_searchBelowWanted 35 = .ok (.aload_n 0, 1) := by decide +kernel
theorem d_LT_searchBelowWanted_36 : decode b_LT_searchBelowWanted 36 = .ok (.aload_n 1, 1) := by decide +kernel
theorem d_LT_searchBelowWanted_37 : decode b_LT_searchBelowWanted 37 = .ok (.invokevirtual 192, 3) := by decide +kernel
theorem d_LT_searchBelowWanted_40 : decode b_LT_searchBelowWanted 40 = .ok (.ireturn, 1) := by decide +kernel
theorem d_LT_searchBelowWanted_41 : decode b_LT_searchBelowWanted 41 = .ok (.aload_n 0, 1) := by decide +kernel
theorem d_LT_searchBelowWanted_42 : decode b_LT_searchBelowWanted 42 = .ok (.invokevirtual 215, 3) := by decide +kernel
theorem d_LT_searchBelowWanted_45 : decode b_LT_searchBelowWanted 45 = .ok (.astore_n 3, 1) := by decide +kernel
theorem d_LT_searchBelowWanted_46 : decode b_LT_searchBelowWanted 46 = .ok (.aload_n 3, 1) := by decide +kernel
theorem d_LT_searchBelowWanted_47 : decode b_LT_searchBelowWanted 47 = .ok (.ifnonnull 10, 3) := by decide +kernel
theorem d_LT_searchBelowWanted_50 : decode b_LT_searchBelowWanted 50 = .ok (.aload_n 0, 1) := by decide +kernel
theorem d_LT_searchBelowWanted_51 : decode b_LT_searchBelowWanted 51 = .ok (.aload_n 1, 1) := by decide +kernel
theorem d_LT_searchBelowWanted_52 : decode b_LT_searchBelowWanted 52 = .ok (.iconst (-1), 1) := by decide +kernel
theorem d_LT_searchBelowWanted_53 : decode b_LT_searchBelowWanted 53 = .ok (.invokevirtual 175, 3) := by decide +kernel
theorem d_LT_searchBelowWanted_56 : decode b_LT_searchBelowWanted 56 = .ok (.ireturn, 1) := by decide +kernel
theorem d_LT_searchBelowWanted_57 : decode b_LT_searchBelowWanted 57 = .ok (.aload_n 3, 1) := by decide +kernel
theorem d_LT_searchBelowWanted_58 : decode b_LT_searchBelowWanted 58 = .ok (.aload_n 2, 1) := by decide +kernel
theorem d_LT_searchBelowWanted_59 : decode b_LT_searchBelowWanted 59 = .ok (.getfield 132, 3) := by decide +kernel
theorem d_LT_searchBelowWanted_62 : decode b_LT_searchBelowWanted 62 = .ok (.iconst 1, 1) := by decide +kernel
theorem d_LT_searchBelowWanted_63 : decode b_LT_searchBelowWanted 63 = .ok (.iadd, 1) := by decide +kernel
theorem d_LT_searchBelowWanted_64 : decode b_LT_searchBelowWanted 64 = .ok (.iconst (-1), 1) := by decide +kernel
theorem d_LT_searchBelowWanted_65 : decode b_LT_searchBelowWanted 65 = .ok (.sipush 999, 3) := by decide +kernel
theorem d_LT_searchBelowWanted_68 : decode b_LT_searchBelowWanted 68 = .ok (.iconst (-1), 1) := by decide +kernel
theorem d_LT_searchBelowWanted_69 : decode b_LT_searchBelowWanted 69 = .ok (.invokevirtual 43, 3) := by decide +kernel
theorem d_LT_searchBelowWanted_72 : decode b_LT_searchBelowWanted 72 = .ok (.aload_n 3, 1) := by decide +kernel
theorem d_LT_searchBelowWanted_73 : decode b_LT_searchBelowWanted 73 = .ok (.iconst 0, 1) := by decide +kernel
theorem d_LT_searchBelowWanted_74 : decode b_LT_searchBelowWanted 74 = .ok (.sipush 999, 3) := by decide +kernel
theorem d_LT_searchBelowWanted_77 : decode b_LT_searchBelowWanted 77 = .ok (.aload_n 0, 1) := by decide +kernel
theorem d_LT_searchBelowWanted_78 : decode b_LT_searchBelowWanted 78 = .ok (.getfield 40, 3) := by decide +kernel
theorem d_LT_searchBelowWanted_81 : decode b_LT_searchBelowWanted 81 = .ok (.invokevirtual 219, 3) := by decide +kernel
theorem d_LT_searchBelowWanted_84 : decode b_LT_searchBelowWanted 84 = .ok (.aload_n 0, 1) := by decide +kernel
theorem d_LT_searchBelowWanted_85 : decode b_LT_searchBelowWanted 85 = .ok (.aload_n 3, 1) := by decide +kernel
theorem d_LT_searchBelowWanted_86 : decode b_LT_searchBelowWanted 86 = .ok (.getfield 198, 3) := by decide +kernel
theorem d_LT_searchBelowWanted_89 : decode b_LT_searchBelowWanted 89 = .ok (.putfield 40, 3) := by decide +kernel
theorem d_LT_searchBelowWanted_92 : decode b_LT_searchBelowWanted 92 = .ok (.aload_n 1, 1) := by decide +kernel
theorem d_LT_searchBelowWanted_93 : decode b_LT_searchBelowWanted 93 = .ok (.aload_n 0, 1) := by decide +kernel
theorem d_LT_searchBelowWanted_94 : decode b_LT_searchBelowWanted 94 = .ok (.getfield 40, 3) := by decide +kernel
theorem d_LT_searchBelowWanted_97 : decode b_LT_searchBelowWanted 97 = .ok (.putfield 118, 3) := by decide +kernel
theorem d_LT_searchBelowWanted_100 : decode b_LT_searchBelowWanted 100 = .ok (.iconst 0, 1) := by decide +kernel
theorem d_LT_searchBelowWanted_101 : decode b_LT_searchBelowWanted 101 = .ok (.ireturn, 1) := by decide +kernel
theorem d_LT_leastFreeNode_0 : decode b_LT_leastFreeNode 0 = .ok (.iconst 0, 1) := by decide +kernel
theorem d_LT_leastFreeNode_1 : decode b_LT_leastFreeNode 1 = .ok (.istore_n 1, 1) := by decide +kernel
theorem d_LT_leastFreeNode_2 : decode b_LT_leastFreeNode 2 = .ok (.iload_n 1, 1) := by decide +kernel
theorem d_LT_leastFreeNode_3 : decode b_LT_leastFreeNode 3 = .ok (.bipush 24, 2) := by decide +kernel
theorem d_LT_leastFreeNode_5 : decode b_LT_leastFreeNode 5 = .ok (.if_icmp .ge 28, 3) := by decide +kernel
theorem d_LT_leastFreeNode_8 : decode b_LT_leastFreeNode 8 = .ok (.aload_n 0, 1) := by decide +kernel
theorem d_LT_leastFreeNode_9 : decode b_LT_leastFreeNode 9 = .ok (.getfield 11, 3) := by decide +kernel
theorem d_LT_leastFreeNode_12 : decode b_LT_leastFreeNode 12 = .ok (.iload_n 1, 1) := by decide +kernel
theorem d_LT_leastFreeNode_13 : decode b_LT_leastFreeNode 13 = .ok (.aaload, 1) := by decide +kernel
theorem d_LT_leastFreeNode_14 : decode b_LT_leastFreeNode 14 = .ok (.getfield 22, 3) := by decide +kernel
theorem d_LT_leastFreeNode_17 : decode b_LT_leastFreeNode 17 = .ok (.ifCond .ne 10, 3) := by decide +kernel
theorem d_LT_leastFreeNode_20 : decode b_LT_leastFreeNode 20 = .ok (.aload_n 0, 1) := by decide +kernel
theorem d_LT_leastFreeNode_21 : decode b_LT_leastFreeNode 21 = .ok (.getfield 11, 3) := by decide +kernel
theorem d_LT_leastFreeNode_24 : decode b_LT_leastFreeNode 24 = .ok (.iload_n 1, 1) := by decide +kernel
theorem d_LT_leastFreeNode_25 : decode b_LT_leastFreeNode 25 = .ok (.aaload, 1) := by decide +kernel
theorem d_LT_leastFreeNode_26 : decode b_LT_leastFreeNode 26 = .ok (.areturn, 1) := by decide +kernel
theorem d_LT_leastFreeNode_27 : decode b_LT_leastFreeNode 27 = .ok (.iinc 1 1, 3) := by decide +kernel
theorem d_LT_leastFreeNode_30 : decode b_LT_leastFreeNode 30 = .ok (.goto (-28), 3) := by decide +kernel
theorem d_LT_leastFreeNode_33 : decode b_LT_leastFreeNode 33 = .ok (.aconst_null, 1) := by decide +kernel
theorem d_LT_leastFreeNode_34 : decode b_LT_leastFreeNode 34 = .ok (.areturn, 1) := by decide +kernel
theorem d_ND_insert_0 : decode b_ND_insert 0 = .ok (.iload_n 1, 1) := by decide +kernel
theorem d_ND_insert_1 : decode b_ND_insert 1 = .ok (.ifCond .lt 23, 3) := by decide +kernel
theorem d_ND_insert_4 : decode b_ND_insert 4 = .ok (.iload_n 1, 1) := by decide +kernel
theorem d_ND_insert_5 : decode b_ND_insert 5 = .ok (.aload_n 0, 1) := by decide +kernel
theorem d_ND_insert_6 : decode b_ND_insert 6 = .ok (.getfield 40, 3) := by decide +kernel
theorem d_ND_insert_9 : decode b_ND_insert 9 = .ok (.if_icmp .gt 15, 3) := by decide +kernel
theorem d_ND_insert_12 : decode b_ND_insert 12 = .ok (.aload_n 0, 1) := by decide +kernel
theorem d_ND_insert_13 : decode b_ND_insert 13 = .ok (.getfield 40, 3) := by decide +kernel
theorem d_ND_insert_16 : decode b_ND_insert 16 = .ok (.aload_n 0, 1) := by decide +kernel
theorem d_ND_insert_17 : decode b_ND_insert 17 = .ok (.getfield 9, 3) := by decide +kernel
theorem d_ND_insert_20 : decode b_ND_insert 20 = .ok (.arraylength, 1) := by decide +kernel
theorem d_ND_insert_21 : decode b_ND_insert 21 = .ok (.if_icmp .lt 4, 3) := by decide +kernel
theorem d_ND_insert_24 : decode b_ND_insert 24 = .ok (.return_, 1) := by decide +kernel
theorem d_ND_insert_25 : decode b_ND_insert 25 = .ok (.aload_n 0, 1) := by decide +kernel
theorem d_ND_insert_26 : decode b_ND_insert 26 = .ok (.getfield 40, 3) := by decide +kernel
theorem d_ND_insert_29 : decode b_ND_insert 29 = .ok (.istore 4, 2) := by decide +kernel
theorem d_ND_insert_31 : decode b_ND_insert 31 = .ok (.iload 4, 2) := by decide +kernel
theorem d_ND_insert_33 : decode b_ND_insert 33 = .ok (.iload_n 1, 1) := by decide +kernel
theorem d_ND_insert_34 : decode b_ND_insert 34 = .ok (.if_icmp .le 41, 3) := by decide +kernel
theorem d_ND_insert_37 : decode b_ND_insert 37 = .ok (.aload_n 0, 1) := by decide +kernel
theorem d_ND_insert_38 : decode b_ND_insert 38 = .ok (.getfield 9, 3) := by decide +kernel
theorem d_ND_insert_41 : decode b_ND_insert 41 = .ok (.iload 4, 2) := by decide +kernel
theorem d_ND_insert_43 : decode b_ND_insert 43 = .ok (.aload_n 0, 1) := by decide +kernel
theorem d_ND_insert_44 : decode b_ND_insert 44 = .ok (.getfield 9, 3) := by decide +kernel
theorem d_ND_insert_47 : decode b_ND_insert 47 = .ok (.iload 4, 2) := by decide +kernel
theorem d_ND_insert_49 : decode b_ND_insert 49 = .ok (.iconst 1, 1) := by decide +kernel
theorem d_ND_insert_50 : decode b_ND_insert 50 = .ok (.isub, 1) := by decide +kernel
theorem d_ND_insert_51 : decode b_ND_insert 51 = .ok (.iaload, 1) := by decide +kernel
theorem d_ND_insert_52 : decode b_ND_insert 52 = .ok (.iastore, 1) := by decide +kernel
theorem d_ND_insert_53 : decode b_ND_insert 53 = .ok (.aload_n 0, 1) := by decide +kernel
theorem d_ND_insert_54 : decode b_ND_insert 54 = .ok (.getfield 15, 3) := by decide +kernel
theorem d_ND_insert_57 : decode b_ND_insert 57 = .ok (.iload 4, 2) := by decide +kernel
theorem d_ND_insert_59 : decode b_ND_insert 59 = .ok (.aload_n 0, 1) := by decide +kernel
theorem d_ND_insert_60 : decode b_ND_insert 60 = .ok (.getfield 15, 3) := by decide +kernel
theorem d_ND_insert_63 : decode b_ND_insert 63 = .ok (.iload 4, 2) := by decide +kernel
theorem d_ND_insert_65 : decode b_ND_insert 65 = .ok (.iconst 1, 1) := by decide +kernel
theorem d_ND_insert_66 : decode b_ND_insert 66 = .ok (.isub, 1) := by decide +kernel
theorem d_ND_insert_67 : decode b_ND_insert 67 = .ok (.iaload, 1) := by decide +kernel
theorem d_ND_insert_68 : decode b_ND_insert 68 = .ok (.iastore, 1) := by decide +kernel
theorem d_ND_insert_69 : decode b_ND_insert 69 = .ok (.iinc 4 (-1), 3) := by decide +kernel
theorem d_ND_insert_72 : decode b_ND_insert 72 = .ok (.goto (-41), 3) := by decide +kernel
theorem d_ND_insert_75 : decode b_ND_insert 75 = .ok (.aload_n 0, 1) := by decide +kernel
theorem d_ND_insert_76 : decode b_ND_insert 76 = .ok (.getfield 9, 3) := by decide +kernel
theorem d_ND_insert_79 : decode b_ND_insert 79 = .ok (.iload_n 1, 1) := by decide +kernel
theorem d_ND_insert_80 : decode b_ND_insert 80 = .ok (.iload_n 2, 1) := by decide +kernel
theorem d_ND_insert_81 : decode b_ND_insert 81 = .ok (.iastore, 1) := by decide +kernel
theorem d_ND_insert_82 : decode b_ND_insert 82 = .ok (.aload_n 0, 1) := by decide +kernel
theorem d_ND_insert_83 : decode b_ND_insert 83 = .ok (.getfield 15, 3) := by decide +kernel
theorem d_ND_insert_86 : decode b_ND_insert 86 = .ok (.iload_n 1, 1) := by decide +kernel
theorem d_ND_insert_87 : decode b_ND_insert 87 = .ok (.iload_n 3, 1) := by decide +kernel
theorem d_ND_insert_88 : decode b_ND_insert 88 = .ok (.iastore, 1) := by decide +kernel
theorem d_ND_insert_89 : decode b_ND_insert 89 = .ok (.aload_n 0, 1) := by decide +kernel
theorem d_ND_insert_90 : decode b_ND_insert 90 = .ok (.dup, 1) := by decide +kernel
theorem d_ND_insert_91 : decode b_ND_insert 91 = .ok (.getfield 40, 3) := by decide +kernel
theorem d_ND_insert_94 : decode b_ND_insert 94 = .ok (.iconst 1, 1) := by decide +kernel
theorem d_ND_insert_95 : decode b_ND_insert 95 = .ok (.iadd, 1) := by decide +kernel
theorem d_ND_insert_96 : decode b_ND_insert 96 = .ok (.putfield 40, 3) := by decide +kernel
theorem d_ND_insert_99 : decode b_ND_insert 99 = .ok (.return_, 1) := by decide +kernel
theorem d_ND_valueOf_0 : decode b_ND_valueOf 0 = .ok (.aload_n 0, 1) := by decide +kernel
theorem d_ND_valueOf_1 : decode b_ND_valueOf 1 = .ok (.iload_n 1, 1) := by decide +kernel
theorem d_ND_valueOf_2 : decode b_ND_valueOf 2 = .ok (.invokevirtual 43, 3) := by decide +kernel
theorem d_ND_valueOf_5 : decode b_ND_valueOf 5 = .ok (.istore_n 2, 1) := by decide +kernel
theorem d_ND_valueOf_6 : decode b_ND_valueOf 6 = .ok (.aload_n 0, 1) := by decide +kernel
theorem d_ND_valueOf_7 : decode b_ND_valueOf 7 = .ok (.iload_n 2, 1) := by decide +kernel
theorem d_ND_valueOf_8 : decode b_ND_valueOf 8 = .ok (.iload_n 1, 1) := by decide +kernel
theorem d_ND_valueOf_9 : decode b_ND_valueOf 9 = .ok (.invokevirtual 47, 3) := by decide +kernel
theorem d_ND_valueOf_12 : decode b_ND_valueOf 12 = .ok (.ifCond .eq 12, 3) := by decide +kernel
theorem d_ND_valueOf_15 : decode b_ND_valueOf 15 = .ok (.aload_n 0, 1) := by decide +kernel
theorem d_ND_valueOf_16 : decode b_ND_valueOf 16 = .ok (.getfield 15, 3) := by decide +kernel
theorem d_ND_valueOf_19 : decode b_ND_valueOf 19 = .ok (.iload_n 2, 1) := by decide +kernel
theorem d_ND_valueOf_20 : decode b_ND_valueOf 20 = .ok (.iaload, 1) := by decide +kernel
theorem d_ND_valueOf_21 : decode b_ND_valueOf 21 = .ok (.goto 4, 3) := by decide +kernel
theorem d_ND_valueOf_24 : decode b_ND_valueOf 24 = .ok (.iconst (-1), 1) := by decide +kernel
theorem d_ND_valueOf_25 : decode b_ND_valueOf 25 = .ok (.ireturn, 1) := by decide +kernel
theorem d_ND_hasKeyAt_0 : decode b_ND_hasKeyAt 0 = .ok (.iload_n 1, 1) := by decide +kernel
theorem d_ND_hasKeyAt_1 : decode b_ND_hasKeyAt 1 = .ok (.aload_n 0, 1) := by decide +kernel
theorem d_ND_hasKeyAt_2 : decode b_ND_hasKeyAt 2 = .ok (.getfield 40, 3) := by decide +kernel
theorem d_ND_hasKeyAt_5 : decode b_ND_hasKeyAt 5 = .ok (.if_icmp .ge 17, 3) := by decide +kernel
theorem d_ND_hasKeyAt_8 : decode b_ND_hasKeyAt 8 = .ok (.aload_n 0, 1) := by decide +kernel
theorem d_ND_hasKeyAt_9 : decode b_ND_hasKeyAt 9 = .ok (.getfield 9, 3) := by decide +kernel
theorem d_ND_hasKeyAt_12 : decode b_ND_hasKeyAt 12 = .ok (.iload_n 1, 1) := by decide +kernel
theorem d_ND_hasKeyAt_13 : decode b_ND_hasKeyAt 13 = .ok (.iaload, 1) := by decide +kernel
theorem d_ND_hasKeyAt_14 : decode b_ND_hasKeyAt 14 = .ok (.iload_n 2, 1) := by decide +kernel
theorem d_ND_hasKeyAt_15 : decode b_ND_hasKeyAt 15 = .ok (.if_icmp .ne 7, 3) := by decide +kernel
theorem d_ND_hasKeyAt_18 : decode b_ND_hasKeyAt 18 = .ok (.iconst 1, 1) := by decide +kernel
theorem d_ND_hasKeyAt_19 : decode b_ND_hasKeyAt 19 = .ok (.goto 4, 3) := by decide +kernel
theorem d_ND_hasKeyAt_22 : decode b_ND_hasKeyAt 22 = .ok (.iconst 0, 1) := by decide +kernel
theorem d_ND_hasKeyAt_23 : decode b_ND_hasKeyAt 23 = .ok (.ireturn, 1) := by decide +kernel
theorem d_LT_lock_0 : decode b_LT_lock 0 = .ok (.aload_n 2, 1) := by decide +kernel
theorem d_LT_lock_1 : decode b_LT_lock 1 = .ok (.getfield 145, 3) := by decide +kernel
theorem d_LT_lock_4 : decode b_LT_lock 4 = .ok (.iconst (-1), 1) := by decide +kernel
theorem d_LT_lock_5 : decode b_LT_lock 5 = .ok (.if_icmp .eq 16, 3) := by decide +kernel
theorem d_LT_lock_8 : decode b_LT_lock 8 = .ok (.aload_n 2, 1) := by decide +kernel
theorem d_LT_lock_9 : decode b_LT_lock 9 = .ok (.getfield 145, 3) := by decide +kernel
theorem d_LT_lock_12 : decode b_LT_lock 12 = .ok (.aload_n 1, 1) := by decide +kernel
theorem d_LT_lock_13 : decode b_LT_lock 13 = .ok (.getfield 223, 3) := by decide +kernel
theorem d_LT_lock_16 : decode b_LT_lock 16 = .ok (.if_icmp .eq 5, 3) := by decide +kernel
theorem d_LT_lock_19 : decode b_LT_lock 19 = .ok (.iconst 1, 1) := by decide +kernel
theorem d_LT_lock_20 : decode b_LT_lock 20 = .ok (.ireturn, 1) := by decide +kernel
theorem d_LT_lock_21 : decode b_LT_lock 21 = .ok (.aload_n 2, 1) := by decide +kernel
theorem d_LT_lock_22 : decode b_LT_lock 22 = .ok (.aload_n 1, 1) := by decide +kernel
theorem d_LT_lock_23 : decode b_LT_lock 23 = .ok (.getfield 223, 3) := by decide +kernel
theorem d_LT_lock_26 : decode b_LT_lock 26 = .ok (.putfield 145, 3) := by decide +kernel
theorem d_LT_lock_29 : decode b_LT_lock 29 = .ok (.aload_n 1, 1) := by decide +kernel
theorem d_LT_lock_30 : decode b_LT_lock 30 = .ok (.iconst 2, 1) := by decide +kernel
theorem d_LT_lock_31 : decode b_LT_lock 31 = .ok (.putfield 115, 3) := by decide +kernel
theorem d_LT_lock_34 : decode b_LT_lock 34 = .ok (.iconst 0, 1) := by decide +kernel
theorem d_LT_lock_35 : decode b_LT_lock 35 = .ok (.ireturn, 1) := by decide +kernel
theorem d_LT_hold_0 : decode b_LT_hold 0 = .ok (.aload_n 2, 1) := by decide +kernel
theorem d_LT_hold_1 : decode b_LT_hold 1 = .ok (.aload_n 1, 1) := by decide +kernel
theorem d_LT_hold_2 : decode b_LT_hold 2 = .ok (.getfield 72, 3) := by decide +kernel
theorem d_LT_hold_5 : decode b_LT_hold 5 = .ok (.invokevirtual 189, 3) := by decide +kernel
theorem d_LT_hold_8 : decode b_LT_hold 8 = .ok (.ifCond .eq 12, 3) := by decide +kernel
theorem d_LT_hold_11 : decode b_LT_hold 11 = .ok (.aload_n 0, 1) := by decide +kernel
theorem d_LT_hold_12 : decode b_LT_hold 12 = .ok (.aload_n 1, 1) := by decide +kernel
theorem d_LT_hold_13 : decode b_LT_hold 13 = .ok (.invokevirtual 192, 3) := by decide +kernel
theorem d_LT_hold_16 : decode b_LT_hold 16 = .ok (.istore_n 3, 1) := by decide +kernel
theorem d_LT_hold_17 : decode b_LT_hold 17 = .ok (.goto 90, 3) := by decide +kernel
theorem d_LT_hold_20 : decode b_LT_hold 20 = .ok (.aload_n 2, 1) := by decide +kernel
theorem d_LT_hold_21 : decode b_LT_hold 21 = .ok (.getfield 136, 3) := by decide +kernel
theorem d_LT_hold_24 : decode b_LT_hold 24 = .ok (.aload_n 1, 1) := by decide +kernel
theorem d_LT_hold_25 : decode b_LT_hold 25 = .ok (.getfield 72, 3) := by decide +kernel
theorem d_LT_hold_28 : decode b_LT_hold 28 = .ok (.if_icmp .ge 18, 3) := by decide +kernel
theorem d_LT_hold_31 : decode b_LT_hold 31 = .ok (.aload_n 1, 1) := by decide +kernel
theorem d_LT_hold_32 : decode b_LT_hold 32 = .ok (.iconst 1, 1) := by decide +kernel
theorem d_LT_hold_33 : decode b_LT_hold 33 = .ok (.putfield 115, 3) := by decide +kernel
theorem d_LT_hold_36 : decode b_LT_hold 36 = .ok (.aload_n 0, 1) := by decide +kernel
theorem d_LT_hold_37 : decode b_LT_hold 37 = .ok (.aload_n 1, 1) := by decide +kernel
theorem d_LT_hold_38 : decode b_LT_hold 38 = .ok (.aload_n 2, 1) := by decide +kernel
theorem d_LT_hold_39 : decode b_LT_hold 39 = .ok (.invokevirtual 195, 3) := by decide +kernel
theorem d_LT_hold_42 : decode b_LT_hold 42 = .ok (.istore_n 3, 1) := by decide +kernel
theorem d_LT_hold_43 : decode b_LT_hold 43 = .ok (.goto 64, 3) := by decide +kernel
theorem d_LT_hold_46 : decode b_LT_hold 46 = .ok (.aload_n 1, 1) := by decide +kernel
theorem d_LT_hold_47 : decode b_LT_hold 47 = .ok (.getfield 69, 3) := by decide +kernel
theorem d_LT_hold_50 : decode b_LT_hold 50 = .ok (.iconst 1, 1) := by decide +kernel
theorem d_LT_hold_51 : decode b_LT_hold 51 = .ok (.if_icmp .ne 13, 3) := by decide +kernel
theorem d_LT_hold_54 : decode b_LT_hold 54 = .ok (.aload_n 0, 1) := by decide +kernel
theorem d_LT_hold_55 : decode b_LT_hold 55 = .ok (.aload_n 1, 1) := by decide +kernel
theorem d_LT_hold_56 : decode b_LT_hold 56 = .ok (.aload_n 2, 1) := by decide +kernel
theorem d_LT_hold_57 : decode b_LT_hold 57 = .ok (.invokevirtual 224, 3) := by decide +kernel
theorem d_LT_hold_60 : decode b_LT_hold 60 = .ok (.istore_n 3, 1) := by decide +kernel
theorem d_LT_hold_61 : decode b_LT_hold 61 = .ok (.goto 46, 3) := by decide +kernel
theorem d_LT_hold_64 : decode b_LT_hold 64 = .ok (.aload_n 1, 1) := by decide +kernel
theorem d_LT_hold_65 : decode b_LT_hold 65 = .ok (.getfield 69, 3) := by decide +kernel
theorem d_LT_hold_68 : decode b_LT_hold 68 = .ok (.iconst 2, 1) := by decide +kernel
theorem d_LT_hold_69 : decode b_LT_hold 69 = .ok (.if_icmp .ne 13, 3) := by decide +kernel
theorem d_LT_hold_72 : decode b_LT_hold 72 = .ok (.aload_n 0, 1) := by decide +kernel
theorem d_LT_hold_73 : decode b_LT_hold 73 = .ok (.aload_n 1, 1) := by decide +kernel
theorem d_LT_hold_74 : decode b_LT_hold 74 = .ok (.aload_n 2, 1) := by decide +kernel
theorem d_LT_hold_75 : decode b_LT_hold 75 = .ok (.invokevirtual 227, 3) := by decide +kernel
theorem d_LT_hold_78 : decode b_LT_hold 78 = .ok (.istore_n 3, 1) := by decide +kernel
theorem d_LT_hold_79 : decode b_LT_hold 79 = .ok (.goto 28, 3) := by decide +kernel
theorem d_LT_hold_82 : decode b_LT_hold 82 = .ok (.aload_n 1, 1) := by decide +kernel
theorem d_LT_hold_83 : decode b_LT_hold 83 = .ok (.getfield 69, 3) := by decide +kernel
theorem d_LT_hold_86 : decode b_LT_hold 86 = .ok (.iconst 3, 1) := by decide +kernel
theorem d_LT_hold_87 : decode b_LT_hold 87 = .ok (.if_icmp .ne 13, 3) := by decide +kernel
theorem d_LT_hold_90 : decode b_LT_hold 90 = .ok (.aload_n 0, 1) := by decide +kernel
theorem d_LT_hold_91 : decode b_LT_hold 91 = .ok (.aload_n 1, 1) := by decide +kernel
theorem d_LT_hold_92 : decode b_LT_hold 92 = .ok (.aload_n 2, 1) := by decide +kernel
theorem d_LT_hold_93 : decode b_LT_hold 93 = .ok (.invokevirtual 230, 3) := by decide +kernel
theorem d_LT_hold_96 : decode b_LT_hold 96 = .ok (.istore_n 3, 1) := by decide +kernel
theorem d_LT_hold_97 : decode b_LT_hold 97 = .ok (.goto 10, 3) := by decide +kernel
theorem d_LT_hold_100 : decode b_LT_hold 100 = .ok (.aload_n 0, 1) := by decide +kernel
theorem d_LT_hold_101 : decode b_LT_hold 101 = .ok (.aload_n 1, 1) := by decide +kernel
theorem d_LT_hold_102 : decode b_LT_hold 102 = .ok (.aload_n 2, 1) := by decide +kernel
theorem d_LT_hold_103 : decode b_LT_hold 103 = .ok (.invokevirtual 233, 3) := by decide +kernel
theorem d_LT_hold_106 : decode b_LT_hold 106 = .ok (.istore_n 3, 1) := by decide +kernel
theorem d_LT_hold_107 : decode b_LT_hold 107 = .ok (.iload_n 3, 1) := by decide +kernel
theorem d_LT_hold_108 : decode b_LT_hold 108 = .ok (.iconst 1, 1) := by decide +kernel
theorem d_LT_hold_109 : decode b_LT_hold 109 = .ok (.if_icmp .eq 8, 3) := by decide +kernel
theorem d_LT_hold_112 : decode b_LT_hold 112 = .ok (.aload_n 2, 1) := by decide +kernel
theorem d_LT_hold_113 : decode b_LT_hold 113 = .ok (.iconst (-1), 1) := by decide +kernel
theorem d_LT_hold_114 : decode b_LT_hold 114 = .ok (.putfield 145, 3) := by decide +kernel
theorem d_LT_hold_117 : decode b_LT_hold 117 = .ok (.iload_n 3, 1) := by decide +kernel
theorem d_LT_hold_118 : decode b_LT_hold 118 = .ok (.ireturn, 1) := by decide +kernel
theorem d_LT_put_0 : decode b_LT_put 0 = .ok (.aload_n 2, 1) := by decide +kernel
theorem d_LT_put_1 : decode b_LT_put 1 = .ok (.aload_n 1, 1) := by decide +kernel
theorem d_LT_put_2 : decode b_LT_put 2 = .ok (.getfield 72, 3) := by decide +kernel
theorem d_LT_put_5 : decode b_LT_put 5 = .ok (.invokevirtual 239, 3) := by decide +kernel
theorem d_LT_put_8 : decode b_LT_put 8 = .ok (.istore_n 3, 1) := by decide +kernel
theorem d_LT_put_9 : decode b_LT_put 9 = .ok (.aload_n 2, 1) := by decide +kernel
theorem d_LT_put_10 : decode b_LT_put 10 = .ok (.iload_n 3, 1) := by decide +kernel
theorem d_LT_put_11 : decode b_LT_put 11 = .ok (.aload_n 1, 1) := by decide +kernel
theorem d_LT_put_12 : decode b_LT_put 12 = .ok (.getfield 72, 3) := by decide +kernel
theorem d_LT_put_15 : decode b_LT_put 15 = .ok (.invokevirtual 242, 3) := by decide +kernel
theorem d_LT_put_18 : decode b_LT_put 18 = .ok (.ifCond .eq 29, 3) := by decide +kernel
theorem d_LT_put_21 : decode b_LT_put 21 = .ok (.aload_n 2, 1) := by decide +kernel
theorem d_LT_put_22 : decode b_LT_put 22 = .ok (.getfield 154, 3) := by decide +kernel
theorem d_LT_put_25 : decode b_LT_put 25 = .ok (.iload_n 3, 1) := by decide +kernel
theorem d_LT_put_26 : decode b_LT_put 26 = .ok (.iaload, 1) := by decide +kernel
theorem d_LT_put_27 : decode b_LT_put 27 = .ok (.istore 4, 2) := by decide +kernel
theorem d_LT_put_29 : decode b_LT_put 29 = .ok (.aload_n 2, 1) := by decide +kernel
theorem d_LT_put_30 : decode b_LT_put 30 = .ok (.getfield 154, 3) := by decide +kernel
theorem d_LT_put_33 : decode b_LT_put 33 = .ok (.iload_n 3, 1) := by decide +kernel
theorem d_LT_put_34 : decode b_LT_put 34 = .ok (.aload_n 1, 1) := by decide +kernel
theorem d_LT_put_35 : decode b_LT_put 35 = .ok (.getfield 75, 3) := by decide +kernel
theorem d_LT_put_38 : decode b_LT_put 38 = .ok (.iastore, 1) := by decide +kernel
theorem d_LT_put_39 : decode b_LT_put 39 = .ok (.aload_n 0, 1) := by decide +kernel
theorem d_LT_put_40 : decode b_LT_put 40 = .ok (.aload_n 1, 1) := by decide +kernel
theorem d_LT_put_41 : decode b_LT_put 41 = .ok (.iload 4, 2) := by decide +kernel
theorem d_LT_put_43 : decode b_LT_put 43 = .ok (.invokevirtual 175, 3) := by decide +kernel
theorem d_LT_put_46 : decode b_LT_put 46 = .ok (.ireturn, 1) := by decide +kernel
theorem d_LT_put_47 : decode b_LT_put 47 = .ok (.aload_n 2, 1) := by decide +kernel
theorem d_LT_put_48 : decode b_LT_put 48 = .ok (.getfield 142, 3) := by decide +kernel
theorem d_LT_put_51 : decode b_LT_put 51 = .ok (.iconst 4, 1) := by decide +kernel
theorem d_LT_put_52 : decode b_LT_put 52 = .ok (.if_icmp .ge 23, 3) := by decide +kernel
theorem d_LT_put_55 : decode b_LT_put 55 = .ok (.aload_n 2, 1) := by decide +kernel
theorem d_LT_put_56 : decode b_LT_put 56 = .ok (.iload_n 3, 1) := by decide +kernel
theorem d_LT_put_57 : decode b_LT_put 57 = .ok (.aload_n 1, 1) := by decide +kernel
theorem d_LT_put_58 : decode b_LT_put 58 = .ok (.getfield 72, 3) := by decide +kernel
theorem d_LT_put_61 : decode b_LT_put 61 = .ok (.aload_n 1, 1) := by decide +kernel
theorem d_LT_put_62 : decode b_LT_put 62 = .ok (.getfield 75, 3) := by decide +kernel
theorem d_LT_put_65 : decode b_LT_put 65 = .ok (.invokevirtual 219, 3) := by decide +kernel
theorem d_LT_put_68 : decode b_LT_put 68 = .ok (.aload_n 0, 1) := by decide +kernel
theorem d_LT_put_69 : decode b_LT_put 69 = .ok (.aload_n 1, 1) := by decide +kernel
theorem d_LT_put_70 : decode b_LT_put 70 = .ok (.iconst (-1), 1) := by decide +kernel
theorem d_LT_put_71 : decode b_LT_put 71 = .ok (.invokevirtual 175, 3) := by decide +kernel
theorem d_LT_put_74 : decode b_LT_put 74 = .ok (.ireturn, 1) := by decide +kernel
theorem d_LT_put_75 : decode b_LT_put 75 = .ok (.aload_n 0, 1) := by decide +kernel
theorem d_LT_put_76 : decode b_LT_put 76 = .ok (.invokevirtual 215, 3) := by decide +kernel
theorem d_LT_put_79 : decode b_LT_put 79 = .ok (.astore 4, 2) := by decide +kernel
theorem d_LT_put_81 : decode b_LT_put 81 = .ok (.aload 4, 2) := by decide +kernel
theorem d_LT_put_83 : decode b_LT_put 83 = .ok (.ifnonnull 11, 3) := by decide +kernel
theorem d_LT_put_86 : decode b_LT_put 86 = .ok (.aload_n 0, 1) := by decide +kernel
theorem d_LT_put_87 : decode b_LT_put 87 = .ok (.aload_n 1, 1) := by decide +kernel
theorem d_LT_put_88 : decode b_LT_put 88 = .ok (.bipush (-2), 2) := by decide +kernel
theorem d_LT_put_90 : decode b_LT_put 90 = .ok (.invokevirtual 175, 3) := by decide +kernel
theorem d_LT_put_93 : decode b_LT_put 93 = .ok (.ireturn, 1) := by decide +kernel
theorem d_LT_put_94 : decode b_LT_put 94 = .ok (.aload_n 2, 1) := by decide +kernel
theorem d_LT_put_95 : decode b_LT_put 95 = .ok (.iload_n 3, 1) := by decide +kernel
theorem d_LT_put_96 : decode b_LT_put 96 = .ok (.aload_n 1, 1) := by decide +kernel
theorem d_LT_put_97 : decode b_LT_put 97 = .ok (.getfield 72, 3) := by decide +kernel
theorem d_LT_put_100 : decode b_LT_put 100 = .ok (.aload_n 1, 1) := by decide +kernel
theorem d_LT_put_101 : decode b_LT_put 101 = .ok (.getfield 75, 3) := by decide +kernel
theorem d_LT_put_104 : decode b_LT_put 104 = .ok (.invokevirtual 219, 3) := by decide +kernel
theorem d_LT_put_107 : decode b_LT_put 107 = .ok (.aload_n 0, 1) := by decide +kernel
theorem d_LT_put_108 : decode b_LT_put 108 = .ok (.aload_n 1, 1) := by decide +kernel
theorem d_LT_put_109 : decode b_LT_put 109 = .ok (.aload_n 2, 1) := by decide +kernel
theorem d_LT_put_110 : decode b_LT_put 110 = .ok (.aload 4, 2) := by decide +kernel
theorem d_LT_put_112 : decode b_LT_put 112 = .ok (.invokevirtual 246, 3) := by decide +kernel
theorem d_LT_put_115 : decode b_LT_put 115 = .ok (.iconst 3, 1) := by decide +kernel
theorem d_LT_put_116 : decode b_LT_put 116 = .ok (.ireturn, 1) := by decide +kernel
theorem d_LT_split_0 : decode b_LT_split 0 = .ok (.aload_n 2, 1) := by decide +kernel
theorem d_LT_split_1 : decode b_LT_split 1 = .ok (.getfield 158, 3) := by decide +kernel
theorem d_LT_split_4 : decode b_LT_split 4 = .ok (.iconst 2, 1) := by decide +kernel
theorem d_LT_split_5 : decode b_LT_split 5 = .ok (.iaload, 1) := by decide +kernel
theorem d_LT_split_6 : decode b_LT_split 6 = .ok (.istore 4, 2) := by decide +kernel
theorem d_LT_split_8 : decode b_LT_split 8 = .ok (.aload_n 3, 1) := by decide +kernel
theorem d_LT_split_9 : decode b_LT_split 9 = .ok (.aload_n 2, 1) := by decide +kernel
theorem d_LT_split_10 : decode b_LT_split 10 = .ok (.getfield 132, 3) := by decide +kernel
theorem d_LT_split_13 : decode b_LT_split 13 = .ok (.iload 4, 2) := by decide +kernel
theorem d_LT_split_15 : decode b_LT_split 15 = .ok (.aload_n 2, 1) := by decide +kernel
theorem d_LT_split_16 : decode b_LT_split 16 = .ok (.getfield 136, 3) := by decide +kernel
theorem d_LT_split_19 : decode b_LT_split 19 = .ok (.aload_n 2, 1) := by decide +kernel
theorem d_LT_split_20 : decode b_LT_split 20 = .ok (.getfield 139, 3) := by decide +kernel
theorem d_LT_split_23 : decode b_LT_split 23 = .ok (.invokevirtual 43, 3) := by decide +kernel
theorem d_LT_split_26 : decode b_LT_split 26 = .ok (.iconst 3, 1) := by decide +kernel
theorem d_LT_split_27 : decode b_LT_split 27 = .ok (.istore 5, 2) := by decide +kernel
theorem d_LT_split_29 : decode b_LT_split 29 = .ok (.iload 5, 2) := by decide +kernel
theorem d_LT_split_31 : decode b_LT_split 31 = .ok (.aload_n 2, 1) := by decide +kernel
theorem d_LT_split_32 : decode b_LT_split 32 = .ok (.getfield 142, 3) := by decide +kernel
theorem d_LT_split_35 : decode b_LT_split 35 = .ok (.if_icmp .ge 31, 3) := by decide +kernel
theorem d_LT_split_38 : decode b_LT_split 38 = .ok (.aload_n 3, 1) := by decide +kernel
theorem d_LT_split_39 : decode b_LT_split 39 = .ok (.aload_n 3, 1) := by decide +kernel
theorem d_LT_split_40 : decode b_LT_split 40 = .ok (.getfield 142, 3) := by decide +kernel
theorem d_LT_split_43 : decode b_LT_split 43 = .ok (.aload_n 2, 1) := by decide +kernel
theorem d_LT_split_44 : decode b_LT_split 44 = .ok (.getfield 158, 3) := by decide +kernel
theorem d_LT_split_47 : decode b_LT_split 47 = .ok (.iload 5, 2) := by decide +kernel
theorem d_LT_split_49 : decode b_LT_split 49 = .ok (.iaload, 1) := by decide +kernel
theorem d_LT_split_50 : decode b_LT_split 50 = .ok (.aload_n 2, 1) := by decide +kernel
theorem d_LT_split_51 : decode b_LT_split 51 = .ok (.getfield 154, 3) := by decide +kernel
theorem d_LT_split_54 : decode b_LT_split 54 = .ok (.iload 5, 2) := by decide +kernel
theorem d_LT_split_56 : decode b_LT_split 56 = .ok (.iaload, 1) := by decide +kernel
theorem d_LT_split_57 : decode b_LT_split 57 = .ok (.invokevirtual 219, 3) := by decide +kernel
theorem d_LT_split_60 : decode b_LT_split 60 = .ok (.iinc 5 1, 3) := by decide +kernel
theorem d_LT_split_63 : decode b_LT_split 63 = .ok (.goto (-34), 3) := by decide +kernel
theorem d_LT_split_66 : decode b_LT_split 66 = .ok (.aload_n 2, 1) := by decide +kernel
theorem d_LT_split_67 : decode b_LT_split 67 = .ok (.iconst 3, 1) := by decide +kernel
theorem d_LT_split_68 : decode b_LT_split 68 = .ok (.putfield 142, 3) := by decide +kernel
theorem d_LT_split_71 : decode b_LT_split 71 = .ok (.aload_n 2, 1) := by decide +kernel
theorem d_LT_split_72 : decode b_LT_split 72 = .ok (.iload 4, 2) := by decide +kernel
theorem d_LT_split_74 : decode b_LT_split 74 = .ok (.putfield 136, 3) := by decide +kernel
theorem d_LT_split_77 : decode b_LT_split 77 = .ok (.aload_n 2, 1) := by decide +kernel
theorem d_LT_split_78 : decode b_LT_split 78 = .ok (.aload_n 3, 1) := by decide +kernel
theorem d_LT_split_79 : decode b_LT_split 79 = .ok (.getfield 198, 3) := by decide +kernel
theorem d_LT_split_82 : decode b_LT_split 82 = .ok (.putfield 139, 3) := by decide +kernel
theorem d_LT_split_85 : decode b_LT_split 85 = .ok (.aload_n 1, 1) := by decide +kernel
theorem d_LT_split_86 : decode b_LT_split 86 = .ok (.iconst 4, 1) := by decide +kernel
theorem d_LT_split_87 : decode b_LT_split 87 = .ok (.putfield 69, 3) := by decide +kernel
theorem d_LT_split_90 : decode b_LT_split 90 = .ok (.aload_n 1, 1) := by decide +kernel
theorem d_LT_split_91 : decode b_LT_split 91 = .ok (.aload_n 3, 1) := by decide +kernel
theorem d_LT_split_92 : decode b_LT_split 92 = .ok (.getfield 198, 3) := by decide +kernel
theorem d_LT_split_95 : decode b_LT_split 95 = .ok (.putfield 172, 3) := by decide +kernel
theorem d_LT_split_98 : decode b_LT_split 98 = .ok (.aload_n 1, 1) := by decide +kernel
theorem d_LT_split_99 : decode b_LT_split 99 = .ok (.iload 4, 2) := by decide +kernel
theorem d_LT_split_101 : decode b_LT_split 101 = .ok (.putfield 72, 3) := by decide +kernel
theorem d_LT_split_104 : decode b_LT_split 104 = .ok (.aload_n 1, 1) := by decide +kernel
theorem d_LT_split_105 : decode b_LT_split 105 = .ok (.aload_n 2, 1) := by decide +kernel
theorem d_LT_split_106 : decode b_LT_split 106 = .ok (.getfield 132, 3) := by decide +kernel
theorem d_LT_split_109 : decode b_LT_split 109 = .ok (.iconst 1, 1) := by decide +kernel
theorem d_LT_split_110 : decode b_LT_split 110 = .ok (.iadd, 1) := by decide +kernel
theorem d_LT_split_111 : decode b_LT_split 111 = .ok (.putfield 78, 3) := by decide +kernel
theorem d_LT_split_114 : decode b_LT_split 114 = .ok (.aload_n 1, 1) := by decide +kernel
theorem d_LT_split_115 : decode b_LT_split 115 = .ok (.iconst 0, 1) := by decide +kernel
theorem d_LT_split_116 : decode b_LT_split 116 = .ok (.putfield 115, 3) := by decide +kernel
theorem d_LT_split_119 : decode b_LT_split 119 = .ok (.aload_n 1, 1) := by decide +kernel
theorem d_LT_split_120 : decode b_LT_split 120 = .ok (.aload_n 1, 1) := by decide +kernel
theorem d_LT_split_121 : decode b_LT_split 121 = .ok (.getfield 78, 3) := by decide +kernel
theorem d_LT_split_124 : decode b_LT_split 124 = .ok (.invokevirtual 253, 3) := by decide +kernel
theorem d_LT_split_127 : decode b_LT_split 127 = .ok (.istore 5, 2) := by decide +kernel
theorem d_LT_split_129 : decode b_LT_split 129 = .ok (.aload_n 1, 1) := by decide +kernel
theorem d_LT_split_130 : decode b_LT_split 130 = .ok (.iload 5, 2) := by decide +kernel
theorem d_LT_split_132 : decode b_LT_split 132 = .ok (.iconst (-1), 1) := by decide +kernel
theorem d_LT_split_133 : decode b_LT_split 133 = .ok (.if_icmp .ne 10, 3) := by decide +kernel
theorem d_LT_split_136 : decode b_LT_split 136 = .ok (.aload_n 0, 1) := by decide +kernel
theorem d_LT_split_137 : decode b_LT_split 137 = .ok (.getfield 40, 3) := by decide +kernel
theorem d_LT_split_140 : decode b_LT_split 140 = .ok (.goto 5, 3) := by decide +kernel
theorem d_LT_split_143 : decode b_LT_split 143 = .ok (.iload 5, 2) := by decide +kernel
theorem d_LT_split_145 : decode b_LT_split 145 = .ok (.putfield 118, 3) := by decide +kernel
theorem d_LT_split_148 : decode b_LT_split 148 = .ok (.return_, 1) := by decide +kernel
theorem d_TA_notedAt_0 : decode b_TA_notedAt 0 = .ok (.iload_n 1, 1) := by decide +kernel
theorem d_TA_notedAt_1 : decode b_TA_notedAt 1 = .ok (.ifCond .lt 21, 3) := by decide +kernel
theorem d_TA_notedAt_4 : decode b_TA_notedAt 4 = .ok (.iload_n 1, 1) := by decide +kernel
theorem d_TA_notedAt_5 : decode b_TA_notedAt 5 = .ok (.aload_n 0, 1) := by decide +kernel
theorem d_TA_notedAt_6 : decode b_TA_notedAt 6 = .ok (.getfield 9, 3) := by decide +kernel
theorem d_TA_notedAt_9 : decode b_TA_notedAt 9 = .ok (.arraylength, 1) := by decide +kernel
theorem d_TA_notedAt_10 : decode b_TA_notedAt 10 = .ok (.if_icmp .ge 12, 3) := by decide +kernel
theorem d_TA_notedAt_13 : decode b_TA_notedAt 13 = .ok (.aload_n 0, 1) := by decide +kernel
theorem d_TA_notedAt_14 : decode b_TA_notedAt 14 = .ok (.getfield 9, 3) := by decide +kernel
theorem d_TA_notedAt_17 : decode b_TA_notedAt 17 = .ok (.iload_n 1, 1) := by decide +kernel
theorem d_TA_notedAt_18 : decode b_TA_notedAt 18 = .ok (.iaload, 1) := by decide +kernel
theorem d_TA_notedAt_19 : decode b_TA_notedAt 19 = .ok (.goto 4, 3) := by decide +kernel
theorem d_TA_notedAt_22 : decode b_TA_notedAt 22 = .ok (.iconst (-1), 1) := by decide +kernel
theorem d_TA_notedAt_23 : decode b_TA_notedAt 23 = .ok (.ireturn, 1) := by decide +kernel
theorem d_LT_remove_0 : decode b_LT_remove 0 = .ok (.aload_n 2, 1) := by decide +kernel
theorem d_LT_remove_1 : decode b_LT_remove 1 = .ok (.aload_n 1, 1) := by decide +kernel
theorem d_LT_remove_2 : decode b_LT_remove 2 = .ok (.getfield 72, 3) := by decide +kernel
theorem d_LT_remove_5 : decode b_LT_remove 5 = .ok (.invokevirtual 239, 3) := by decide +kernel
theorem d_LT_remove_8 : decode b_LT_remove 8 = .ok (.istore_n 3, 1) := by decide +kernel
theorem d_LT_remove_9 : decode b_LT_remove 9 = .ok (.aload_n 2, 1) := by decide +kernel
theorem d_LT_remove_10 : decode b_LT_remove 10 = .ok (.iload_n 3, 1) := by decide +kernel
theorem d_LT_remove_11 : decode b_LT_remove 11 = .ok (.aload_n 1, 1) := by decide +kernel
theorem d_LT_remove_12 : decode b_LT_remove 12 = .ok (.getfield 72, 3) := by decide +kernel
theorem d_LT_remove_15 : decode b_LT_remove 15 = .ok (.invokevirtual 242, 3) := by decide +kernel
theorem d_LT_remove_18 : decode b_LT_remove 18 = .ok (.ifCond .ne 10, 3) := by decide +kernel
theorem d_LT_remove_21 : decode b_LT_remove 21 = .ok (.aload_n 0, 1) := by decide +kernel
theorem d_LT_remove_22 : decode b_LT_remove 22 = .ok (.aload_n 1, 1) := by decide +kernel
theorem d_LT_remove_23 : decode b_LT_remove 23 = .ok (.iconst (-1), 1) := by decide +kernel
theorem d_LT_remove_24 : decode b_LT_remove 24 = .ok (.invokevirtual 175, 3) := by decide +kernel
theorem d_LT_remove_27 : decode b_LT_remove 27 = .ok (.ireturn, 1) := by decide +kernel
theorem d_LT_remove_28 : decode b_LT_remove 28 = .ok (.aload_n 2, 1) := by decide +kernel
theorem d_LT_remove_29 : decode b_LT_remove 29 = .ok (.getfield 154, 3) := by decide +kernel
theorem d_LT_remove_32 : decode b_LT_remove 32 = .ok (.iload_n 3, 1) := by decide +kernel
theorem d_LT_remove_33 : decode b_LT_remove 33 = .ok (.iaload, 1) := by decide +kernel
theorem d_LT_remove_34 : decode b_LT_remove 34 = .ok (.istore 4, 2) := by decide +kernel
theorem d_LT_remove_36 : decode b_LT_remove 36 = .ok (.aload_n 2, 1) := by decide +kernel
theorem d_LT_remove_37 : decode b_LT_remove 37 = .ok (.iload_n 3, 1) := by decide +kernel
theorem d_LT_remove_38 : decode b_LT_remove 38 = .ok (.invokevirtual 256, 3) := by decide +kernel
theorem d_LT_remove_41 : decode b_LT_remove 41 = .ok (.aload_n 2, 1) := by decide +kernel
theorem d_LT_remove_42 : decode b_LT_remove 42 = .ok (.getfield 142, 3) := by decide +kernel
theorem d_LT_remove_45 : decode b_LT_remove 45 = .ok (.iconst 2, 1) := by decide +kernel
theorem d_LT_remove_46 : decode b_LT_remove 46 = .ok (.if_icmp .ge 25, 3) := by decide +kernel
theorem d_LT_remove_49 : decode b_LT_remove 49 = .ok (.aload_n 2, 1) := by decide +kernel
theorem d_LT_remove_50 : decode b_LT_remove 50 = .ok (.getfield 198, 3) := by decide +kernel
theorem d_LT_remove_53 : decode b_LT_remove 53 = .ok (.aload_n 0, 1) := by decide +kernel
theorem d_LT_remove_54 : decode b_LT_remove 54 = .ok (.getfield 40, 3) := by decide +kernel
theorem d_LT_remove_57 : decode b_LT_remove 57 = .ok (.if_icmp .eq 14, 3) := by decide +kernel
theorem d_LT_remove_60 : decode b_LT_remove 60 = .ok (.aload_n 0, 1) := by decide +kernel
theorem d_LT_remove_61 : decode b_LT_remove 61 = .ok (.getfield 36, 3) := by decide +kernel
theorem d_LT_remove_64 : decode b_LT_remove 64 = .ok (.aload_n 2, 1) := by decide +kernel
theorem d_LT_remove_65 : decode b_LT_remove 65 = .ok (.getfield 198, 3) := by decide +kernel
theorem d_LT_remove_68 : decode b_LT_remove 68 = .ok (.invokevirtual 259, 3) := by decide +kernel
theorem d_LT_remove_71 : decode b_LT_remove 71 = .ok (.aload_n 0, 1) := by decide +kernel
theorem d_LT_remove_72 : decode b_LT_remove 72 = .ok (.aload_n 1, 1) := by decide +kernel
theorem d_LT_remove_73 : decode b_LT_remove 73 = .ok (.iload 4, 2) := by decide +kernel
theorem d_LT_remove_75 : decode b_LT_remove 75 = .ok (.invokevirtual 175, 3) := by decide +kernel
theorem d_LT_remove_78 : decode b_LT_remove 78 = .ok (.ireturn, 1) := by decide +kernel
theorem d_ND_delete_0 : decode b_ND_delete 0 = .ok (.iload_n 1, 1) := by decide +kernel
theorem d_ND_delete_1 : decode b_ND_delete 1 = .ok (.ifCond .lt 11, 3) := by decide +kernel
theorem d_ND_delete_4 : decode b_ND_delete 4 = .ok (.iload_n 1, 1) := by decide +kernel
theorem d_ND_delete_5 : decode b_ND_delete 5 = .ok (.aload_n 0, 1) := by decide +kernel
theorem d_ND_delete_6 : decode b_ND_delete 6 = .ok (.getfield 40, 3) := by decide +kernel
theorem d_ND_delete_9 : decode b_ND_delete 9 = .ok (.if_icmp .lt 4, 3) := by decide +kernel
theorem d_ND_delete_12 : decode b_ND_delete 12 = .ok (.return_, 1) := by decide +kernel
theorem d_ND_delete_13 : decode b_ND_delete 13 = .ok (.aload_n 0, 1) := by decide +kernel
theorem d_ND_delete_14 : decode b_ND_delete 14 = .ok (.dup, 1) := by decide +kernel
theorem d_ND_delete_15 : decode b_ND_delete 15 = .ok (.getfield 40, 3) := by decide +kernel
theorem d_ND_delete_18 : decode b_ND_delete 18 = .ok (.iconst 1, 1) := by decide +kernel
theorem d_ND_delete_19 : decode b_ND_delete 19 = .ok (.isub, 1) := by decide +kernel
theorem d_ND_delete_20 : decode b_ND_delete 20 = .ok (.putfield 40, 3) := by decide +kernel
theorem d_ND_delete_23 : decode b_ND_delete 23 = .ok (.iload_n 1, 1) := by decide +kernel
theorem d_ND_delete_24 : decode b_ND_delete 24 = .ok (.istore_n 2, 1) := by decide +kernel
theorem d_ND_delete_25 : decode b_ND_delete 25 = .ok (.iload_n 2, 1) := by decide +kernel
theorem d_ND_delete_26 : decode b_ND_delete 26 = .ok (.aload_n 0, 1) := by decide +kernel
theorem d_ND_delete_27 : decode b_ND_delete 27 = .ok (.getfield 40, 3) := by decide +kernel
theorem d_ND_delete_30 : decode b_ND_delete 30 = .ok (.if_icmp .ge 37, 3) := by decide +kernel
theorem d_ND_delete_33 : decode b_ND_delete 33 = .ok (.aload_n 0, 1) := by decide +kernel
theorem d_ND_delete_34 : decode b_ND_delete 34 = .ok (.getfield 9, 3) := by decide +kernel
theorem d_ND_delete_37 : decode b_ND_delete 37 = .ok (.iload_n 2, 1) := by decide +kernel
theorem d_ND_delete_38 : decode b_ND_delete 38 = .ok (.aload_n 0, 1) := by decide +kernel
theorem d_ND_delete_39 : decode b_ND_delete 39 = .ok (.getfield 9, 3) := by decide +kernel
theorem d_ND_delete_42 : decode b_ND_delete 42 = .ok (.iload_n 2, 1) := by decide +kernel
theorem d_ND_delete_43 : decode b_ND_delete 43 = .ok (.iconst 1, 1) := by decide +kernel
theorem d_ND_delete_44 : decode b_ND_delete 44 = .ok (.iadd, 1) := by decide +kernel
theorem d_ND_delete_45 : decode b_ND_delete 45 = .ok (.iaload, 1) := by decide +kernel
theorem d_ND_delete_46 : decode b_ND_delete 46 = .ok (.iastore, 1) := by decide +kernel
theorem d_ND_delete_47 : decode b_ND_delete 47 = .ok (.aload_n 0, 1) := by decide +kernel
theorem d_ND_delete_48 : decode b_ND_delete 48 = .ok (.getfield 15, 3) := by decide +kernel
theorem d_ND_delete_51 : decode b_ND_delete 51 = .ok (.iload_n 2, 1) := by decide +kernel
theorem d_ND_delete_52 : decode b_ND_delete 52 = .ok (.aload_n 0, 1) := by decide +kernel
theorem d_ND_delete_53 : decode b_ND_delete 53 = .ok (.getfield 15, 3) := by decide +kernel
theorem d_ND_delete_56 : decode b_ND_delete 56 = .ok (.iload_n 2, 1) := by decide +kernel
theorem d_ND_delete_57 : decode b_ND_delete 57 = .ok (.iconst 1, 1) := by decide +kernel
theorem d_ND_delete_58 : decode b_ND_delete 58 = .ok (.iadd, 1) := by decide +kernel
theorem d_ND_delete_59 : decode b_ND_delete 59 = .ok (.iaload, 1) := by decide +kernel
theorem d_ND_delete_60 : decode b_ND_delete 60 = .ok (.iastore, 1) := by decide +kernel
theorem d_ND_delete_61 : decode b_ND_delete 61 = .ok (.iinc 2 1, 3) := by decide +kernel
theorem d_ND_delete_64 : decode b_ND_delete 64 = .ok (.goto (-39), 3) := by decide +kernel
theorem d_ND_delete_67 : decode b_ND_delete 67 = .ok (.return_, 1) := by decide +kernel
theorem d_SP_add_0 : decode b_SP_add 0 = .ok (.aload_n 0, 1) := by decide +kernel
theorem d_SP_add_1 : decode b_SP_add 1 = .ok (.getfield 15, 3) := by decide +kernel
theorem d_SP_add_4 : decode b_SP_add 4 = .ok (.bipush 12, 2) := by decide +kernel
theorem d_SP_add_6 : decode b_SP_add 6 = .ok (.if_icmp .ge 31, 3) := by decide +kernel
theorem d_SP_add_9 : decode b_SP_add 9 = .ok (.aload_n 0, 1) := by decide +kernel
theorem d_SP_add_10 : decode b_SP_add 10 = .ok (.iload_n 1, 1) := by decide +kernel
theorem d_SP_add_11 : decode b_SP_add 11 = .ok (.invokevirtual 19, 3) := by decide +kernel
theorem d_SP_add_14 : decode b_SP_add 14 = .ok (.ifCond .ne 23, 3) := by decide +kernel
theorem d_SP_add_17 : decode b_SP_add 17 = .ok (.aload_n 0, 1) := by decide +kernel
theorem d_SP_add_18 : decode b_SP_add 18 = .ok (.getfield 9, 3) := by decide +kernel
theorem d_SP_add_21 : decode b_SP_add 21 = .ok (.aload_n 0, 1) := by decide +kernel
theorem d_SP_add_22 : decode b_SP_add 22 = .ok (.getfield 15, 3) := by decide +kernel
theorem d_SP_add_25 : decode b_SP_add 25 = .ok (.iload_n 1, 1) := by decide +kernel
theorem d_SP_add_26 : decode b_SP_add 26 = .ok (.iastore, 1) := by decide +kernel
theorem d_SP_add_27 : decode b_SP_add 27 = .ok (.aload_n 0, 1) := by decide +kernel
theorem d_SP_add_28 : decode b_SP_add 28 = .ok (.dup, 1) := by decide +kernel
theorem d_SP_add_29 : decode b_SP_add 29 = .ok (.getfield 15, 3) := by decide +kernel
theorem d_SP_add_32 : decode b_SP_add 32 = .ok (.iconst 1, 1) := by decide +kernel
theorem d_SP_add_33 : decode b_SP_add 33 = .ok (.iadd, 1) := by decide +kernel
theorem d_SP_add_34 : decode b_SP_add 34 = .ok (.putfield 15, 3) := by decide +kernel
theorem d_SP_add_37 : decode b_SP_add 37 = .ok (.return_, 1) := by decide +kernel
theorem d_SP_has_0 : decode b_SP_has 0 = .ok (.iconst 0, 1) := by decide +kernel
theorem d_SP_has_1 : decode b_SP_has 1 = .ok (.istore_n 2, 1) := by decide +kernel
theorem d_SP_has_2 : decode b_SP_has 2 = .ok (.iload_n 2, 1) := by decide +kernel
theorem d_SP_has_3 : decode b_SP_has 3 = .ok (.aload_n 0, 1) := by decide +kernel
theorem d_SP_has_4 : decode b_SP_has 4 = .ok (.getfield 15, 3) := by decide +kernel
theorem d_SP_has_7 : decode b_SP_has 7 = .ok (.if_icmp .ge 21, 3) := by decide +kernel
theorem d_SP_has_10 : decode b_SP_has 10 = .ok (.aload_n 0, 1) := by decide +kernel
theorem d_SP_has_11 : decode b_SP_has 11 = .ok (.getfield 9, 3) := by decide +kernel
theorem d_SP_has_14 : decode b_SP_has 14 = .ok (.iload_n 2, 1) := by decide +kernel
theorem d_SP_has_15 : decode b_SP_has 15 = .ok (.iaload, 1) := by decide +kernel
theorem d_SP_has_16 : decode b_SP_has 16 = .ok (.iload_n 1, 1) := by decide +kernel
theorem d_SP_has_17 : decode b_SP_has 17 = .ok (.if_icmp .ne 5, 3) := by decide +kernel
theorem d_SP_has_20 : decode b_SP_has 20 = .ok (.iconst 1, 1) := by decide +kernel
theorem d_SP_has_21 : decode b_SP_has 21 = .ok (.ireturn, 1) := by decide +kernel
theorem d_SP_has_22 : decode b_SP_has 22 = .ok (.iinc 2 1, 3) := by decide +kernel
theorem d_SP_has_25 : decode b_SP_has 25 = .ok (.goto (-23), 3) := by decide +kernel
theorem d_SP_has_28 : decode b_SP_has 28 = .ok (.iconst 0, 1) := by decide +kernel
theorem d_SP_has_29 : decode b_SP_has 29 = .ok (.ireturn, 1) := by decide +kernel
theorem d_LT_join_0 : decode b_LT_join 0 = .ok (.aload_n 2, 1) := by decide +kernel
theorem d_LT_join_1 : decode b_LT_join 1 = .ok (.aload_n 1, 1) := by decide +kernel
theorem d_LT_join_2 : decode b_LT_join 2 = .ok (.getfield 172, 3) := by decide +kernel
theorem d_LT_join_5 : decode b_LT_join 5 = .ok (.invokevirtual 262, 3) := by decide +kernel
theorem d_LT_join_8 : decode b_LT_join 8 = .ok (.istore_n 3, 1) := by decide +kernel
theorem d_LT_join_9 : decode b_LT_join 9 = .ok (.aload_n 0, 1) := by decide +kernel
theorem d_LT_join_10 : decode b_LT_join 10 = .ok (.aload_n 1, 1) := by decide +kernel
theorem d_LT_join_11 : decode b_LT_join 11 = .ok (.getfield 172, 3) := by decide +kernel
theorem d_LT_join_14 : decode b_LT_join 14 = .ok (.invokevirtual 148, 3) := by decide +kernel
theorem d_LT_join_17 : decode b_LT_join 17 = .ok (.getfield 22, 3) := by decide +kernel
theorem d_LT_join_20 : decode b_LT_join 20 = .ok (.iconst 1, 1) := by decide +kernel
theorem d_LT_join_21 : decode b_LT_join 21 = .ok (.if_icmp .ne 16, 3) := by decide +kernel
theorem d_LT_join_24 : decode b_LT_join 24 = .ok (.iload_n 3, 1) := by decide +kernel
theorem d_LT_join_25 : decode b_LT_join 25 = .ok (.iconst (-1), 1) := by decide +kernel
theorem d_LT_join_26 : decode b_LT_join 26 = .ok (.if_icmp .eq 11, 3) := by decide +kernel
theorem d_LT_join_29 : decode b_LT_join 29 = .ok (.aload_n 2, 1) := by decide +kernel
theorem d_LT_join_30 : decode b_LT_join 30 = .ok (.getfield 142, 3) := by decide +kernel
theorem d_LT_join_33 : decode b_LT_join 33 = .ok (.iconst 2, 1) := by decide +kernel
theorem d_LT_join_34 : decode b_LT_join 34 = .ok (.if_icmp .ge 10, 3) := by decide +kernel
theorem d_LT_join_37 : decode b_LT_join 37 = .ok (.aload_n 0, 1) := by decide +kernel
theorem d_LT_join_38 : decode b_LT_join 38 = .ok (.aload_n 1, 1) := by decide +kernel
theorem d_LT_join_39 : decode b_LT_join 39 = .ok (.iconst 0, 1) := by decide +kernel
theorem d_LT_join_40 : decode b_LT_join 40 = .ok (.invokevirtual 175, 3) := by decide +kernel
theorem d_LT_join_43 : decode b_LT_join 43 = .ok (.ireturn, 1) := by decide +kernel
theorem d_LT_join_44 : decode b_LT_join 44 = .ok (.iload_n 3, 1) := by decide +kernel
theorem d_LT_join_45 : decode b_LT_join 45 = .ok (.iconst 1, 1) := by decide +kernel
theorem d_LT_join_46 : decode b_LT_join 46 = .ok (.iadd, 1) := by decide +kernel
theorem d_LT_join_47 : decode b_LT_join 47 = .ok (.aload_n 2, 1) := by decide +kernel
theorem d_LT_join_48 : decode b_LT_join 48 = .ok (.getfield 142, 3) := by decide +kernel
theorem d_LT_join_51 : decode b_LT_join 51 = .ok (.if_icmp .ge 7, 3) := by decide +kernel
theorem d_LT_join_54 : decode b_LT_join 54 = .ok (.iload_n 3, 1) := by decide +kernel
theorem d_LT_join_55 : decode b_LT_join 55 = .ok (.goto 6, 3) := by decide +kernel
theorem d_LT_join_58 : decode b_LT_join 58 = .ok (.iload_n 3, 1) := by decide +kernel
theorem d_LT_join_59 : decode b_LT_join 59 = .ok (.iconst 1, 1) := by decide +kernel
theorem d_LT_join_60 : decode b_LT_join 60 = .ok (.isub, 1) := by decide +kernel
theorem d_LT_join_61 : decode b_LT_join 61 = .ok (.istore 4, 2) := by decide +kernel
theorem d_LT_join_63 : decode b_LT_join 63 = .ok (.aload_n 0, 1) := by decide +kernel
theorem d_LT_join_64 : decode b_LT_join 64 = .ok (.aload_n 2, 1) := by decide +kernel
theorem d_LT_join_65 : decode b_LT_join 65 = .ok (.getfield 154, 3) := by decide +kernel
theorem d_LT_join_68 : decode b_LT_join 68 = .ok (.iload 4, 2) := by decide +kernel
theorem d_LT_join_70 : decode b_LT_join 70 = .ok (.iaload, 1) := by decide +kernel
theorem d_LT_join_71 : decode b_LT_join 71 = .ok (.invokevirtual 148, 3) := by decide +kernel
theorem d_LT_join_74 : decode b_LT_join 74 = .ok (.astore 5, 2) := by decide +kernel
theorem d_LT_join_76 : decode b_LT_join 76 = .ok (.aload_n 0, 1) := by decide +kernel
theorem d_LT_join_77 : decode b_LT_join 77 = .ok (.aload_n 2, 1) := by decide +kernel
theorem d_LT_join_78 : decode b_LT_join 78 = .ok (.getfield 154, 3) := by decide +kernel
theorem d_LT_join_81 : decode b_LT_join 81 = .ok (.iload 4, 2) := by decide +kernel
theorem d_LT_join_83 : decode b_LT_join 83 = .ok (.iconst 1, 1) := by decide +kernel
theorem d_LT_join_84 : decode b_LT_join 84 = .ok (.iadd, 1) := by decide +kernel
theorem d_LT_join_85 : decode b_LT_join 85 = .ok (.iaload, 1) := by decide +kernel
theorem d_LT_join_86 : decode b_LT_join 86 = .ok (.invokevirtual 148, 3) := by decide +kernel
theorem d_LT_join_89 : decode b_LT_join 89 = .ok (.astore 6, 2) := by decide +kernel
theorem d_LT_join_91 : decode b_LT_join 91 = .ok (.aload 5, 2) := by decide +kernel
theorem d_LT_join_93 : decode b_LT_join 93 = .ok (.getfield 145, 3) := by decide +kernel
theorem d_LT_join_96 : decode b_LT_join 96 = .ok (.iconst (-1), 1) := by decide +kernel
theorem d_LT_join_97 : decode b_LT_join 97 = .ok (.if_icmp .ne 12, 3) := by decide +kernel
theorem d_LT_join_100 : decode b_LT_join 100 = .ok (.aload 6, 2) := by decide +kernel
theorem d_LT_join_102 : decode b_LT_join 102 = .ok (.getfield 145, 3) := by decide +kernel
theorem d_LT_join_105 : decode b_LT_join 105 = .ok (.iconst (-1), 1) := by decide +kernel
theorem d_LT_join_106 : decode b_LT_join 106 = .ok (.if_icmp .eq 5, 3) := by decide +kernel
theorem d_LT_join_109 : decode b_LT_join 109 = .ok (.iconst 1, 1) := by decide +kernel
theorem d_LT_join_110 : decode b_LT_join 110 = .ok (.ireturn, 1) := by decide +kernel
theorem d_LT_join_111 : decode b_LT_join 111 = .ok (.aload 5, 2) := by decide +kernel
theorem d_LT_join_113 : decode b_LT_join 113 = .ok (.getfield 136, 3) := by decide +kernel
theorem d_LT_join_116 : decode b_LT_join 116 = .ok (.aload_n 2, 1) := by decide +kernel
theorem d_LT_join_117 : decode b_LT_join 117 = .ok (.getfield 158, 3) := by decide +kernel
theorem d_LT_join_120 : decode b_LT_join 120 = .ok (.iload 4, 2) := by decide +kernel
theorem d_LT_join_122 : decode b_LT_join 122 = .ok (.iaload, 1) := by decide +kernel
theorem d_LT_join_123 : decode b_LT_join 123 = .ok (.if_icmp .ne 20, 3) := by decide +kernel
theorem d_LT_join_126 : decode b_LT_join 126 = .ok (.aload 6, 2) := by decide +kernel
theorem d_LT_join_128 : decode b_LT_join 128 = .ok (.getfield 136, 3) := by decide +kernel
theorem d_LT_join_131 : decode b_LT_join 131 = .ok (.aload_n 2, 1) := by decide +kernel
theorem d_LT_join_132 : decode b_LT_join 132 = .ok (.getfield 158, 3) := by decide +kernel
theorem d_LT_join_135 : decode b_LT_join 135 = .ok (.iload 4, 2) := by decide +kernel
theorem d_LT_join_137 : decode b_LT_join 137 = .ok (.iconst 1, 1) := by decide +kernel
theorem d_LT_join_138 : decode b_LT_join 138 = .ok (.iadd, 1) := by decide +kernel
theorem d_LT_join_139 : decode b_LT_join 139 = .ok (.iaload, 1) := by decide +kernel
theorem d_LT_join_140 : decode b_LT_join 140 = .ok (.if_icmp .eq 10, 3) := by decide +kernel
theorem d_LT_join_143 : decode b_LT_join 143 = .ok (.aload_n 0, 1) := by decide +kernel
theorem d_LT_join_144 : decode b_LT_join 144 = .ok (.aload_n 1, 1) := by decide +kernel
theorem d_LT_join_145 : decode b_LT_join 145 = .ok (.iconst 0, 1) := by decide +kernel
theorem d_LT_join_146 : decode b_LT_join 146 = .ok (.invokevirtual 175, 3) := by decide +kernel
theorem d_LT_join_149 : decode b_LT_join 149 = .ok (.ireturn, 1) := by decide +kernel
theorem d_LT_join_150 : decode b_LT_join 150 = .ok (.aload 5, 2) := by decide +kernel
theorem d_LT_join_152 : decode b_LT_join 152 = .ok (.getfield 142, 3) := by decide +kernel
theorem d_LT_join_155 : decode b_LT_join 155 = .ok (.aload 6, 2) := by decide +kernel
theorem d_LT_join_157 : decode b_LT_join 157 = .ok (.getfield 142, 3) := by decide +kernel
theorem d_LT_join_160 : decode b_LT_join 160 = .ok (.iadd, 1) := by decide +kernel
theorem d_LT_join_161 : decode b_LT_join 161 = .ok (.iconst 4, 1) := by decide +kernel
theorem d_LT_join_162 : decode b_LT_join 162 = .ok (.if_icmp .gt 38, 3) := by decide +kernel
theorem d_LT_join_165 : decode b_LT_join 165 = .ok (.aload 5, 2) := by decide +kernel
theorem d_LT_join_167 : decode b_LT_join 167 = .ok (.aload 6, 2) := by decide +kernel
theorem d_LT_join_169 : decode b_LT_join 169 = .ok (.invokevirtual 265, 3) := by decide +kernel
theorem d_LT_join_172 : decode b_LT_join 172 = .ok (.aload_n 0, 1) := by decide +kernel
theorem d_LT_join_173 : decode b_LT_join 173 = .ok (.aload 6, 2) := by decide +kernel
theorem d_LT_join_175 : decode b_LT_join 175 = .ok (.aload_n 1, 1) := by decide +kernel
theorem d_LT_join_176 : decode b_LT_join 176 = .ok (.invokevirtual 269, 3) := by decide +kernel
theorem d_LT_join_179 : decode b_LT_join 179 = .ok (.aload_n 2, 1) := by decide +kernel
theorem d_LT_join_180 : decode b_LT_join 180 = .ok (.iload 4, 2) := by decide +kernel
theorem d_LT_join_182 : decode b_LT_join 182 = .ok (.invokevirtual 256, 3) := by decide +kernel
theorem d_LT_join_185 : decode b_LT_join 185 = .ok (.aload_n 2, 1) := by decide +kernel
theorem d_LT_join_186 : decode b_LT_join 186 = .ok (.getfield 154, 3) := by decide +kernel
theorem d_LT_join_189 : decode b_LT_join 189 = .ok (.iload 4, 2) := by decide +kernel
theorem d_LT_join_191 : decode b_LT_join 191 = .ok (.aload 5, 2) := by decide +kernel
theorem d_LT_join_193 : decode b_LT_join 193 = .ok (.getfield 198, 3) := by decide +kernel
theorem d_LT_join_196 : decode b_LT_join 196 = .ok (.iastore, 1) := by decide +kernel
theorem d_LT_join_197 : decode b_LT_join 197 = .ok (.goto 22, 3) := by decide +kernel
theorem d_LT_join_200 : decode b_LT_join 200 = .ok (.aload 5, 2) := by decide +kernel
theorem d_LT_join_202 : decode b_LT_join 202 = .ok (.aload 6, 2) := by decide +kernel
theorem d_LT_join_204 : decode b_LT_join 204 = .ok (.invokevirtual 273, 3) := by decide +kernel
theorem d_LT_join_207 : decode b_LT_join 207 = .ok (.aload_n 2, 1) := by decide +kernel
theorem d_LT_join_208 : decode b_LT_join 208 = .ok (.getfield 158, 3) := by decide +kernel
theorem d_LT_join_211 : decode b_LT_join 211 = .ok (.iload 4, 2) := by decide +kernel
theorem d_LT_join_213 : decode b_LT_join 213 = .ok (.aload 5, 2) := by decide +kernel
theorem d_LT_join_215 : decode b_LT_join 215 = .ok (.getfield 136, 3) := by decide +kernel
theorem d_LT_join_218 : decode b_LT_join 218 = .ok (.iastore, 1) := by decide +kernel
theorem d_LT_join_219 : decode b_LT_join 219 = .ok (.aload_n 2, 1) := by decide +kernel
theorem d_LT_join_220 : decode b_LT_join 220 = .ok (.getfield 142, 3) := by decide +kernel
theorem d_LT_join_223 : decode b_LT_join 223 = .ok (.iconst 1, 1) := by decide +kernel
theorem d_LT_join_224 : decode b_LT_join 224 = .ok (.if_icmp .ne 9, 3) := by decide +kernel
theorem d_LT_join_227 : decode b_LT_join 227 = .ok (.aload_n 0, 1) := by decide +kernel
theorem d_LT_join_228 : decode b_LT_join 228 = .ok (.aload_n 2, 1) := by decide +kernel
theorem d_LT_join_229 : decode b_LT_join 229 = .ok (.aload_n 1, 1) := by decide +kernel
theorem d_LT_join_230 : decode b_LT_join 230 = .ok (.invokevirtual 276, 3) := by decide +kernel
theorem d_LT_join_233 : decode b_LT_join 233 = .ok (.aload_n 0, 1) := by decide +kernel
theorem d_LT_join_234 : decode b_LT_join 234 = .ok (.aload_n 1, 1) := by decide +kernel
theorem d_LT_join_235 : decode b_LT_join 235 = .ok (.iconst 1, 1) := by decide +kernel
theorem d_LT_join_236 : decode b_LT_join 236 = .ok (.invokevirtual 175, 3) := by decide +kernel
theorem d_LT_join_239 : decode b_LT_join 239 = .ok (.ireturn, 1) := by decide +kernel
theorem d_ND_entryOfChild_0 : decode b_ND_entryOfChild 0 = .ok (.iconst 0, 1) := by decide +kernel
theorem d_ND_entryOfChild_1 : decode b_ND_entryOfChild 1 = .ok (.istore_n 2, 1) := by decide +kernel
theorem d_ND_entryOfChild_2 : decode b_ND_entryOfChild 2 = .ok (.iload_n 2, 1) := by decide +kernel
theorem d_ND_entryOfChild_3 : decode b_ND_entryOfChild 3 = .ok (.aload_n 0, 1) := by decide +kernel
theorem d_ND_entryOfChild_4 : decode b_ND_entryOfChild 4 = .ok (.getfield 40, 3) := by decide +kernel
theorem d_ND_entryOfChild_7 : decode b_ND_entryOfChild 7 = .ok (.if_icmp .ge 21, 3) := by decide +kernel
theorem d_ND_entryOfChild_10 : decode b_ND_entryOfChild 10 = .ok (.aload_n 0, 1) := by decide +kernel
theorem d_ND_entryOfChild_11 : decode b_ND_entryOfChild 11 = .ok (.getfield 15, 3) := by decide +kernel
theorem d_ND_entryOfChild_14 : decode b_ND_entryOfChild 14 = .ok (.iload_n 2, 1) := by decide +kernel
theorem d_ND_entryOfChild_15 : decode b_ND_entryOfChild 15 = .ok (.iaload, 1) := by decide +kernel
theorem d_ND_entryOfChild_16 : decode b_ND_entryOfChild 16 = .ok (.iload_n 1, 1) := by decide +kernel
theorem d_ND_entryOfChild_17 : decode b_ND_entryOfChild 17 = .ok (.if_icmp .ne 5, 3) := by decide +kernel
theorem d_ND_entryOfChild_20 : decode b_ND_entryOfChild 20 = .ok (.iload_n 2, 1) := by decide +kernel
theorem d_ND_entryOfChild_21 : decode b_ND_entryOfChild 21 = .ok (.ireturn, 1) := by decide +kernel
theorem d_ND_entryOfChild_22 : decode b_ND_entryOfChild 22 = .ok (.iinc 2 1, 3) := by decide +kernel
theorem d_ND_entryOfChild_25 : decode b_ND_entryOfChild 25 = .ok (.goto (-23), 3) := by decide +kernel
theorem d_ND_entryOfChild_28 : decode b_ND_entryOfChild 28 = .ok (.iconst (-1), 1) := by decide +kernel
theorem d_ND_entryOfChild_29 : decode b_ND_entryOfChild 29 = .ok (.ireturn, 1) := by decide +kernel
theorem d_ND_takeAllOf_0 : decode b_ND_takeAllOf 0 = .ok (.aload_n 0, 1) := by decide +kernel
theorem d_ND_takeAllOf_1 : decode b_ND_takeAllOf 1 = .ok (.aload_n 1, 1) := by decide +kernel
theorem d_ND_takeAllOf_2 : decode b_ND_takeAllOf 2 = .ok (.aload_n 1, 1) := by decide +kernel
theorem d_ND_takeAllOf_3 : decode b_ND_takeAllOf 3 = .ok (.getfield 40, 3) := by decide +kernel
theorem d_ND_takeAllOf_6 : decode b_ND_takeAllOf 6 = .ok (.invokevirtual 55, 3) := by decide +kernel
theorem d_ND_takeAllOf_9 : decode b_ND_takeAllOf 9 = .ok (.aload_n 0, 1) := by decide +kernel
theorem d_ND_takeAllOf_10 : decode b_ND_takeAllOf 10 = .ok (.aload_n 1, 1) := by decide +kernel
theorem d_ND_takeAllOf_11 : decode b_ND_takeAllOf 11 = .ok (.getfield 37, 3) := by decide +kernel
theorem d_ND_takeAllOf_14 : decode b_ND_takeAllOf 14 = .ok (.putfield 37, 3) := by decide +kernel
theorem d_ND_takeAllOf_17 : decode b_ND_takeAllOf 17 = .ok (.aload_n 0, 1) := by decide +kernel
theorem d_ND_takeAllOf_18 : decode b_ND_takeAllOf 18 = .ok (.aload_n 1, 1) := by decide +kernel
theorem d_ND_takeAllOf_19 : decode b_ND_takeAllOf 19 = .ok (.getfield 22, 3) := by decide +kernel
theorem d_ND_takeAllOf_22 : decode b_ND_takeAllOf 22 = .ok (.putfield 22, 3) := by decide +kernel
theorem d_ND_takeAllOf_25 : decode b_ND_takeAllOf 25 = .ok (.return_, 1) := by decide +kernel
theorem d_ND_moveFirstOf_0 : decode b_ND_moveFirstOf 0 = .ok (.iconst 0, 1) := by decide +kernel
theorem d_ND_moveFirstOf_1 : decode b_ND_moveFirstOf 1 = .ok (.istore_n 3, 1) := by decide +kernel
theorem d_ND_moveFirstOf_2 : decode b_ND_moveFirstOf 2 = .ok (.iload_n 3, 1) := by decide +kernel
theorem d_ND_moveFirstOf_3 : decode b_ND_moveFirstOf 3 = .ok (.iload_n 2, 1) := by decide +kernel
theorem d_ND_moveFirstOf_4 : decode b_ND_moveFirstOf 4 = .ok (.if_icmp .ge 34, 3) := by decide +kernel
theorem d_ND_moveFirstOf_7 : decode b_ND_moveFirstOf 7 = .ok (.aload_n 0, 1) := by decide +kernel
theorem d_ND_moveFirstOf_8 : decode b_ND_moveFirstOf 8 = .ok (.aload_n 0, 1) := by decide +kernel
theorem d_ND_moveFirstOf_9 : decode b_ND_moveFirstOf 9 = .ok (.getfield 40, 3) := by decide +kernel
theorem d_ND_moveFirstOf_12 : decode b_ND_moveFirstOf 12 = .ok (.aload_n 1, 1) := by decide +kernel
theorem d_ND_moveFirstOf_13 : decode b_ND_moveFirstOf 13 = .ok (.getfield 9, 3) := by decide +kernel
theorem d_ND_moveFirstOf_16 : decode b_ND_moveFirstOf 16 = .ok (.iconst 0, 1) := by decide +kernel
theorem d_ND_moveFirstOf_17 : decode b_ND_moveFirstOf 17 = .ok (.iaload, 1) := by decide +kernel
theorem d_ND_moveFirstOf_18 : decode b_ND_moveFirstOf 18 = .ok (.aload_n 1, 1) := by decide +kernel
theorem d_ND_moveFirstOf_19 : decode b_ND_moveFirstOf 19 = .ok (.getfield 15, 3) := by decide +kernel
theorem d_ND_moveFirstOf_22 : decode b_ND_moveFirstOf 22 = .ok (.iconst 0, 1) := by decide +kernel
theorem d_ND_moveFirstOf_23 : decode b_ND_moveFirstOf 23 = .ok (.iaload, 1) := by decide +kernel
theorem d_ND_moveFirstOf_24 : decode b_ND_moveFirstOf 24 = .ok (.invokevirtual 51, 3) := by decide +kernel
theorem d_ND_moveFirstOf_27 : decode b_ND_moveFirstOf 27 = .ok (.aload_n 1, 1) := by decide +kernel
theorem d_ND_moveFirstOf_28 : decode b_ND_moveFirstOf 28 = .ok (.iconst 0, 1) := by decide +kernel
theorem d_ND_moveFirstOf_29 : decode b_ND_moveFirstOf 29 = .ok (.invokevirtual 62, 3) := by decide +kernel
theorem d_ND_moveFirstOf_32 : decode b_ND_moveFirstOf 32 = .ok (.iinc 3 1, 3) := by decide +kernel
theorem d_ND_moveFirstOf_35 : decode b_ND_moveFirstOf 35 = .ok (.goto (-33), 3) := by decide +kernel
theorem d_ND_moveFirstOf_38 : decode b_ND_moveFirstOf 38 = .ok (.return_, 1) := by decide +kernel
theorem d_LT_die_0 : decode b_LT_die 0 = .ok (.aload_n 0, 1) := by decide +kernel
theorem d_LT_die_1 : decode b_LT_die 1 = .ok (.getfield 36, 3) := by decide +kernel
theorem d_LT_die_4 : decode b_LT_die 4 = .ok (.aload_n 1, 1) := by decide +kernel
theorem d_LT_die_5 : decode b_LT_die 5 = .ok (.getfield 198, 3) := by decide +kernel
theorem d_LT_die_8 : decode b_LT_die 8 = .ok (.invokevirtual 279, 3) := by decide +kernel
theorem d_LT_die_11 : decode b_LT_die 11 = .ok (.iconst 0, 1) := by decide +kernel
theorem d_LT_die_12 : decode b_LT_die 12 = .ok (.istore_n 3, 1) := by decide +kernel
theorem d_LT_die_13 : decode b_LT_die 13 = .ok (.iconst 0, 1) := by decide +kernel
theorem d_LT_die_14 : decode b_LT_die 14 = .ok (.istore 4, 2) := by decide +kernel
theorem d_LT_die_16 : decode b_LT_die 16 = .ok (.iload 4, 2) := by decide +kernel
theorem d_LT_die_18 : decode b_LT_die 18 = .ok (.iconst 4, 1) := by decide +kernel
theorem d_LT_die_19 : decode b_LT_die 19 = .ok (.if_icmp .ge 38, 3) := by decide +kernel
theorem d_LT_die_22 : decode b_LT_die 22 = .ok (.iload 4, 2) := by decide +kernel
theorem d_LT_die_24 : decode b_LT_die 24 = .ok (.aload_n 2, 1) := by decide +kernel
theorem d_LT_die_25 : decode b_LT_die 25 = .ok (.getfield 223, 3) := by decide +kernel
theorem d_LT_die_28 : decode b_LT_die 28 = .ok (.if_icmp .eq 23, 3) := by decide +kernel
theorem d_LT_die_31 : decode b_LT_die 31 = .ok (.aload_n 0, 1) := by decide +kernel
theorem d_LT_die_32 : decode b_LT_die 32 = .ok (.getfield 28, 3) := by decide +kernel
theorem d_LT_die_35 : decode b_LT_die 35 = .ok (.iload 4, 2) := by decide +kernel
theorem d_LT_die_37 : decode b_LT_die 37 = .ok (.aaload, 1) := by decide +kernel
theorem d_LT_die_38 : decode b_LT_die 38 = .ok (.getfield 60, 3) := by decide +kernel
theorem d_LT_die_41 : decode b_LT_die 41 = .ok (.ifCond .ne 10, 3) := by decide +kernel
theorem d_LT_die_44 : decode b_LT_die 44 = .ok (.iload_n 3, 1) := by decide +kernel
theorem d_LT_die_45 : decode b_LT_die 45 = .ok (.iconst 1, 1) := by decide +kernel
theorem d_LT_die_46 : decode b_LT_die 46 = .ok (.iload 4, 2) := by decide +kernel
theorem d_LT_die_48 : decode b_LT_die 48 = .ok (.ishl, 1) := by decide +kernel
theorem d_LT_die_49 : decode b_LT_die 49 = .ok (.ior, 1) := by decide +kernel
theorem d_LT_die_50 : decode b_LT_die 50 = .ok (.istore_n 3, 1) := by decide +kernel
theorem d_LT_die_51 : decode b_LT_die 51 = .ok (.iinc 4 1, 3) := by decide +kernel
theorem d_LT_die_54 : decode b_LT_die 54 = .ok (.goto (-38), 3) := by decide +kernel
theorem d_LT_die_57 : decode b_LT_die 57 = .ok (.aload_n 1, 1) := by decide +kernel
theorem d_LT_die_58 : decode b_LT_die 58 = .ok (.iload_n 3, 1) := by decide +kernel
theorem d_LT_die_59 : decode b_LT_die 59 = .ok (.invokevirtual 282, 3) := by decide +kernel
theorem d_LT_die_62 : decode b_LT_die 62 = .ok (.return_, 1) := by decide +kernel
theorem d_ND_shareWith_0 : decode b_ND_shareWith 0 = .ok (.aload_n 0, 1) := by decide +kernel
theorem d_ND_shareWith_1 : decode b_ND_shareWith 1 = .ok (.getfield 40, 3) := by decide +kernel
theorem d_ND_shareWith_4 : decode b_ND_shareWith 4 = .ok (.aload_n 1, 1) := by decide +kernel
theorem d_ND_shareWith_5 : decode b_ND_shareWith 5 = .ok (.getfield 40, 3) := by decide +kernel
theorem d_ND_shareWith_8 : decode b_ND_shareWith 8 = .ok (.iadd, 1) := by decide +kernel
theorem d_ND_shareWith_9 : decode b_ND_shareWith 9 = .ok (.iconst 1, 1) := by decide +kernel
theorem d_ND_shareWith_10 : decode b_ND_shareWith 10 = .ok (.iadd, 1) := by decide +kernel
theorem d_ND_shareWith_11 : decode b_ND_shareWith 11 = .ok (.iconst 2, 1) := by decide +kernel
theorem d_ND_shareWith_12 : decode b_ND_shareWith 12 = .ok (.idiv, 1) := by decide +kernel
theorem d_ND_shareWith_13 : decode b_ND_shareWith 13 = .ok (.istore_n 2, 1) := by decide +kernel
theorem d_ND_shareWith_14 : decode b_ND_shareWith 14 = .ok (.aload_n 0, 1) := by decide +kernel
theorem d_ND_shareWith_15 : decode b_ND_shareWith 15 = .ok (.aload_n 1, 1) := by decide +kernel
theorem d_ND_shareWith_16 : decode b_ND_shareWith 16 = .ok (.iload_n 2, 1) := by decide +kernel
theorem d_ND_shareWith_17 : decode b_ND_shareWith 17 = .ok (.aload_n 0, 1) := by decide +kernel
theorem d_ND_shareWith_18 : decode b_ND_shareWith 18 = .ok (.getfield 40, 3) := by decide +kernel
theorem d_ND_shareWith_21 : decode b_ND_shareWith 21 = .ok (.isub, 1) := by decide +kernel
theorem d_ND_shareWith_22 : decode b_ND_shareWith 22 = .ok (.invokevirtual 55, 3) := by decide +kernel
theorem d_ND_shareWith_25 : decode b_ND_shareWith 25 = .ok (.aload_n 0, 1) := by decide +kernel
theorem d_ND_shareWith_26 : decode b_ND_shareWith 26 = .ok (.aload_n 1, 1) := by decide +kernel
theorem d_ND_shareWith_27 : decode b_ND_shareWith 27 = .ok (.aload_n 0, 1) := by decide +kernel
theorem d_ND_shareWith_28 : decode b_ND_shareWith 28 = .ok (.getfield 40, 3) := by decide +kernel
theorem d_ND_shareWith_31 : decode b_ND_shareWith 31 = .ok (.iload_n 2, 1) := by decide +kernel
theorem d_ND_shareWith_32 : decode b_ND_shareWith 32 = .ok (.isub, 1) := by decide +kernel
theorem d_ND_shareWith_33 : decode b_ND_shareWith 33 = .ok (.invokevirtual 59, 3) := by decide +kernel
theorem d_ND_shareWith_36 : decode b_ND_shareWith 36 = .ok (.aload_n 0, 1) := by decide +kernel
theorem d_ND_shareWith_37 : decode b_ND_shareWith 37 = .ok (.getfield 40, 3) := by decide +kernel
theorem d_ND_shareWith_40 : decode b_ND_shareWith 40 = .ok (.ifCond .le 26, 3) := by decide +kernel
theorem d_ND_shareWith_43 : decode b_ND_shareWith 43 = .ok (.aload_n 0, 1) := by decide +kernel
theorem d_ND_shareWith_44 : decode b_ND_shareWith 44 = .ok (.aload_n 0, 1) := by decide +kernel
theorem d_ND_shareWith_45 : decode b_ND_shareWith 45 = .ok (.getfield 9, 3) := by decide +kernel
theorem d_ND_shareWith_48 : decode b_ND_shareWith 48 = .ok (.aload_n 0, 1) := by decide +kernel
theorem d_ND_shareWith_49 : decode b_ND_shareWith 49 = .ok (.getfield 40, 3) := by decide +kernel
theorem d_ND_shareWith_52 : decode b_ND_shareWith 52 = .ok (.iconst 1, 1) := by decide +kernel
theorem d_ND_shareWith_53 : decode b_ND_shareWith 53 = .ok (.isub, 1) := by decide +kernel
theorem d_ND_shareWith_54 : decode b_ND_shareWith 54 = .ok (.iaload, 1) := by decide +kernel
theorem d_ND_shareWith_55 : decode b_ND_shareWith 55 = .ok (.putfield 37, 3) := by decide +kernel
theorem d_ND_shareWith_58 : decode b_ND_shareWith 58 = .ok (.aload_n 1, 1) := by decide +kernel
theorem d_ND_shareWith_59 : decode b_ND_shareWith 59 = .ok (.aload_n 0, 1) := by decide +kernel
theorem d_ND_shareWith_60 : decode b_ND_shareWith 60 = .ok (.getfield 37, 3) := by decide +kernel
theorem d_ND_shareWith_63 : decode b_ND_shareWith 63 = .ok (.putfield 34, 3) := by decide +kernel
theorem d_ND_shareWith_66 : decode b_ND_shareWith 66 = .ok (.return_, 1) := by decide +kernel
theorem d_ND_moveLastTo_0 : decode b_ND_moveLastTo 0 = .ok (.iconst 0, 1) := by decide +kernel
theorem d_ND_moveLastTo_1 : decode b_ND_moveLastTo 1 = .ok (.istore_n 3, 1) := by decide +kernel
theorem d_ND_moveLastTo_2 : decode b_ND_moveLastTo 2 = .ok (.iload_n 3, 1) := by decide +kernel
theorem d_ND_moveLastTo_3 : decode b_ND_moveLastTo 3 = .ok (.iload_n 2, 1) := by decide +kernel
theorem d_ND_moveLastTo_4 : decode b_ND_moveLastTo 4 = .ok (.if_icmp .ge 53, 3) := by decide +kernel
theorem d_ND_moveLastTo_7 : decode b_ND_moveLastTo 7 = .ok (.aload_n 0, 1) := by decide +kernel
theorem d_ND_moveLastTo_8 : decode b_ND_moveLastTo 8 = .ok (.getfield 40, 3) := by decide +kernel
theorem d_ND_moveLastTo_11 : decode b_ND_moveLastTo 11 = .ok (.ifCond .le 46, 3) := by decide +kernel
theorem d_ND_moveLastTo_14 : decode b_ND_moveLastTo 14 = .ok (.aload_n 1, 1) := by decide +kernel
theorem d_ND_moveLastTo_15 : decode b_ND_moveLastTo 15 = .ok (.iconst 0, 1) := by decide +kernel
theorem d_ND_moveLastTo_16 : decode b_ND_moveLastTo 16 = .ok (.aload_n 0, 1) := by decide +kernel
theorem d_ND_moveLastTo_17 : decode b_ND_moveLastTo 17 = .ok (.getfield 9, 3) := by decide +kernel
theorem d_ND_moveLastTo_20 : decode b_ND_moveLastTo 20 = .ok (.aload_n 0, 1) := by decide +kernel
theorem d_ND_moveLastTo_21 : decode b_ND_moveLastTo 21 = .ok (.getfield 40, 3) := by decide +kernel
theorem d_ND_moveLastTo_24 : decode b_ND_moveLastTo 24 = .ok (.iconst 1, 1) := by decide +kernel
theorem d_ND_moveLastTo_25 : decode b_ND_moveLastTo 25 = .ok (.isub, 1) := by decide +kernel
theorem d_ND_moveLastTo_26 : decode b_ND_moveLastTo 26 = .ok (.iaload, 1) := by decide +kernel
theorem d_ND_moveLastTo_27 : decode b_ND_moveLastTo 27 = .ok (.aload_n 0, 1) := by decide +kernel
theorem d_ND_moveLastTo_28 : decode b_ND_moveLastTo 28 = .ok (.getfield 15, 3) := by decide +kernel
theorem d_ND_moveLastTo_31 : decode b_ND_moveLastTo 31 = .ok (.aload_n 0, 1) := by decide +kernel
theorem d_ND_moveLastTo_32 : decode b_ND_moveLastTo 32 = .ok (.getfield 40, 3) := by decide +kernel
theorem d_ND_moveLastTo_35 : decode b_ND_moveLastTo 35 = .ok (.iconst 1, 1) := by decide +kernel
theorem d_ND_moveLastTo_36 : decode b_ND_moveLastTo 36 = .ok (.isub, 1) := by decide +kernel
theorem d_ND_moveLastTo_37 : decode b_ND_moveLastTo 37 = .ok (.iaload, 1) := by decide +kernel
theorem d_ND_moveLastTo_38 : decode b_ND_moveLastTo 38 = .ok (.invokevirtual 51, 3) := by decide +kernel
theorem d_ND_moveLastTo_41 : decode b_ND_moveLastTo 41 = .ok (.aload_n 0, 1) := by decide +kernel
theorem d_ND_moveLastTo_42 : decode b_ND_moveLastTo 42 = .ok (.dup, 1) := by decide +kernel
theorem d_ND_moveLastTo_43 : decode b_ND_moveLastTo 43 = .ok (.getfield 40, 3) := by decide +kernel
theorem d_ND_moveLastTo_46 : decode b_ND_moveLastTo 46 = .ok (.iconst 1, 1) := by decide +kernel
theorem d_ND_moveLastTo_47 : decode b_ND_moveLastTo 47 = .ok (.isub, 1) := by decide +kernel
theorem d_ND_moveLastTo_48 : decode b_ND_moveLastTo 48 = .ok (.putfield 40, 3) := by decide +kernel
theorem d_ND_moveLastTo_51 : decode b_ND_moveLastTo 51 = .ok (.iinc 3 1, 3) := by decide +kernel
theorem d_ND_moveLastTo_54 : decode b_ND_moveLastTo 54 = .ok (.goto (-52), 3) := by decide +kernel
theorem d_ND_moveLastTo_57 : decode b_ND_moveLastTo 57 = .ok (.return_, 1) := by decide +kernel
theorem d_LT_lowerOrQueue_0 : decode b_LT_lowerOrQueue 0 = .ok (.aload_n 1, 1) := by decide +kernel
theorem d_LT_lowerOrQueue_1 : decode b_LT_lowerOrQueue 1 = .ok (.getfield 198, 3) := by decide +kernel
theorem d_LT_lowerOrQueue_4 : decode b_LT_lowerOrQueue 4 = .ok (.aload_n 0, 1) := by decide +kernel
theorem d_LT_lowerOrQueue_5 : decode b_LT_lowerOrQueue 5 = .ok (.getfield 40, 3) := by decide +kernel
theorem d_LT_lowerOrQueue_8 : decode b_LT_lowerOrQueue 8 = .ok (.if_icmp .ne 30, 3) := by decide +kernel
theorem d_LT_lowerOrQueue_11 : decode b_LT_lowerOrQueue 11 = .ok (.aload_n 1, 1) := by decide +kernel
theorem d_LT_lowerOrQueue_12 : decode b_LT_lowerOrQueue 12 = .ok (.getfield 139, 3) := by decide +kernel
theorem d_LT_lowerOrQueue_15 : decode b_LT_lowerOrQueue 15 = .ok (.iconst (-1), 1) := by decide +kernel
theorem d_LT_lowerOrQueue_16 : decode b_LT_lowerOrQueue 16 = .ok (.if_icmp .ne 22, 3) := by decide +kernel
theorem d_LT_lowerOrQueue_19 : decode b_LT_lowerOrQueue 19 = .ok (.aload_n 0, 1) := by decide +kernel
theorem d_LT_lowerOrQueue_20 : decode b_LT_lowerOrQueue 20 = .ok (.aload_n 1, 1) := by decide +kernel
theorem d_LT_lowerOrQueue_21 : decode b_LT_lowerOrQueue 21 = .ok (.getfield 154, 3) := by decide +kernel
theorem d_LT_lowerOrQueue_24 : decode b_LT_lowerOrQueue 24 = .ok (.iconst 0, 1) := by decide +kernel
theorem d_LT_lowerOrQueue_25 : decode b_LT_lowerOrQueue 25 = .ok (.iaload, 1) := by decide +kernel
theorem d_LT_lowerOrQueue_26 : decode b_LT_lowerOrQueue 26 = .ok (.putfield 40, 3) := by decide +kernel
theorem d_LT_lowerOrQueue_29 : decode b_LT_lowerOrQueue 29 = .ok (.aload_n 0, 1) := by decide +kernel
theorem d_LT_lowerOrQueue_30 : decode b_LT_lowerOrQueue 30 = .ok (.aload_n 1, 1) := by decide +kernel
theorem d_LT_lowerOrQueue_31 : decode b_LT_lowerOrQueue 31 = .ok (.aload_n 2, 1) := by decide +kernel
theorem d_LT_lowerOrQueue_32 : decode b_LT_lowerOrQueue 32 = .ok (.invokevirtual 269, 3) := by decide +kernel
theorem d_LT_lowerOrQueue_35 : decode b_LT_lowerOrQueue 35 = .ok (.goto 14, 3) := by decide +kernel
theorem d_LT_lowerOrQueue_38 : decode b_LT_lowerOrQueue 38 = .ok (.aload_n 0, 1) := by decide +kernel
theorem d_LT_lowerOrQueue_39 : decode b_LT_lowerOrQueue 39 = .ok (.getfield 36, 3) := by decide +kernel
theorem d_LT_lowerOrQueue_42 : decode b_LT_lowerOrQueue 42 = .ok (.aload_n 1, 1) := by decide +kernel
theorem d_LT_lowerOrQueue_43 : decode b_LT_lowerOrQueue 43 = .ok (.getfield 198, 3) := by decide +kernel
theorem d_LT_lowerOrQueue_46 : decode b_LT_lowerOrQueue 46 = .ok (.invokevirtual 259, 3) := by decide +kernel
theorem d_LT_lowerOrQueue_49 : decode b_LT_lowerOrQueue 49 = .ok (.return_, 1) := by decide +kernel
theorem d_LT_post_0 : decode b_LT_post 0 = .ok (.aload_n 2, 1) := by decide +kernel
theorem d_LT_post_1 : decode b_LT_post 1 = .ok (.getfield 142, 3) := by decide +kernel
theorem d_LT_post_4 : decode b_LT_post 4 = .ok (.iconst 4, 1) := by decide +kernel
theorem d_LT_post_5 : decode b_LT_post 5 = .ok (.if_icmp .ge 22, 3) := by decide +kernel
theorem d_LT_post_8 : decode b_LT_post 8 = .ok (.aload_n 2, 1) := by decide +kernel
theorem d_LT_post_9 : decode b_LT_post 9 = .ok (.aload_n 1, 1) := by decide +kernel
theorem d_LT_post_10 : decode b_LT_post 10 = .ok (.getfield 72, 3) := by decide +kernel
theorem d_LT_post_13 : decode b_LT_post 13 = .ok (.aload_n 1, 1) := by decide +kernel
theorem d_LT_post_14 : decode b_LT_post 14 = .ok (.getfield 172, 3) := by decide +kernel
theorem d_LT_post_17 : decode b_LT_post 17 = .ok (.invokevirtual 250, 3) := by decide +kernel
theorem d_LT_post_20 : decode b_LT_post 20 = .ok (.aload_n 0, 1) := by decide +kernel
theorem d_LT_post_21 : decode b_LT_post 21 = .ok (.aload_n 1, 1) := by decide +kernel
theorem d_LT_post_22 : decode b_LT_post 22 = .ok (.iconst (-1), 1) := by decide +kernel
theorem d_LT_post_23 : decode b_LT_post 23 = .ok (.invokevirtual 175, 3) := by decide +kernel
theorem d_LT_post_26 : decode b_LT_post 26 = .ok (.ireturn, 1) := by decide +kernel
theorem d_LT_post_27 : decode b_LT_post 27 = .ok (.aload_n 0, 1) := by decide +kernel
theorem d_LT_post_28 : decode b_LT_post 28 = .ok (.invokevirtual 215, 3) := by decide +kernel
theorem d_LT_post_31 : decode b_LT_post 31 = .ok (.astore_n 3, 1) := by decide +kernel
theorem d_LT_post_32 : decode b_LT_post 32 = .ok (.aload_n 3, 1) := by decide +kernel
theorem d_LT_post_33 : decode b_LT_post 33 = .ok (.ifnonnull 10, 3) := by decide +kernel
theorem d_LT_post_36 : decode b_LT_post 36 = .ok (.aload_n 0, 1) := by decide +kernel
theorem d_LT_post_37 : decode b_LT_post 37 = .ok (.aload_n 1, 1) := by decide +kernel
theorem d_LT_post_38 : decode b_LT_post 38 = .ok (.iconst (-1), 1) := by decide +kernel
theorem d_LT_post_39 : decode b_LT_post 39 = .ok (.invokevirtual 175, 3) := by decide +kernel
theorem d_LT_post_42 : decode b_LT_post 42 = .ok (.ireturn, 1) := by decide +kernel
theorem d_LT_post_43 : decode b_LT_post 43 = .ok (.aload_n 2, 1) := by decide +kernel
theorem d_LT_post_44 : decode b_LT_post 44 = .ok (.aload_n 1, 1) := by decide +kernel
theorem d_LT_post_45 : decode b_LT_post 45 = .ok (.getfield 72, 3) := by decide +kernel
theorem d_LT_post_48 : decode b_LT_post 48 = .ok (.aload_n 1, 1) := by decide +kernel
theorem d_LT_post_49 : decode b_LT_post 49 = .ok (.getfield 172, 3) := by decide +kernel
theorem d_LT_post_52 : decode b_LT_post 52 = .ok (.invokevirtual 250, 3) := by decide +kernel
theorem d_LT_post_55 : decode b_LT_post 55 = .ok (.aload_n 0, 1) := by decide +kernel
theorem d_LT_post_56 : decode b_LT_post 56 = .ok (.aload_n 1, 1) := by decide +kernel
theorem d_LT_post_57 : decode b_LT_post 57 = .ok (.aload_n 2, 1) := by decide +kernel
theorem d_LT_post_58 : decode b_LT_post 58 = .ok (.aload_n 3, 1) := by decide +kernel
theorem d_LT_post_59 : decode b_LT_post 59 = .ok (.invokevirtual 246, 3) := by decide +kernel
theorem d_LT_post_62 : decode b_LT_post 62 = .ok (.iconst 0, 1) := by decide +kernel
theorem d_LT_post_63 : decode b_LT_post 63 = .ok (.ireturn, 1) := by decide +kernel
theorem d_ND_divideEntry_0 : decode b_ND_divideEntry 0 = .ok (.aload_n 0, 1) := by decide +kernel
theorem d_ND_divideEntry_1 : decode b_ND_divideEntry 1 = .ok (.iload_n 1, 1) := by decide +kernel
theorem d_ND_divideEntry_2 : decode b_ND_divideEntry 2 = .ok (.invokevirtual 43, 3) := by decide +kernel
theorem d_ND_divideEntry_5 : decode b_ND_divideEntry 5 = .ok (.istore_n 3, 1) := by decide +kernel
theorem d_ND_divideEntry_6 : decode b_ND_divideEntry 6 = .ok (.iload_n 3, 1) := by decide +kernel
theorem d_ND_divideEntry_7 : decode b_ND_divideEntry 7 = .ok (.aload_n 0, 1) := by decide +kernel
theorem d_ND_divideEntry_8 : decode b_ND_divideEntry 8 = .ok (.getfield 40, 3) := by decide +kernel
theorem d_ND_divideEntry_11 : decode b_ND_divideEntry 11 = .ok (.if_icmp .ge 36, 3) := by decide +kernel
theorem d_ND_divideEntry_14 : decode b_ND_divideEntry 14 = .ok (.aload_n 0, 1) := by decide +kernel
theorem d_ND_divideEntry_15 : decode b_ND_divideEntry 15 = .ok (.getfield 40, 3) := by decide +kernel
theorem d_ND_divideEntry_18 : decode b_ND_divideEntry 18 = .ok (.aload_n 0, 1) := by decide +kernel
theorem d_ND_divideEntry_19 : decode b_ND_divideEntry 19 = .ok (.getfield 9, 3) := by decide +kernel
theorem d_ND_divideEntry_22 : decode b_ND_divideEntry 22 = .ok (.arraylength, 1) := by decide +kernel
theorem d_ND_divideEntry_23 : decode b_ND_divideEntry 23 = .ok (.if_icmp .ge 24, 3) := by decide +kernel
theorem d_ND_divideEntry_26 : decode b_ND_divideEntry 26 = .ok (.aload_n 0, 1) := by decide +kernel
theorem d_ND_divideEntry_27 : decode b_ND_divideEntry 27 = .ok (.iload_n 3, 1) := by decide +kernel
theorem d_ND_divideEntry_28 : decode b_ND_divideEntry 28 = .ok (.iload_n 1, 1) := by decide +kernel
theorem d_ND_divideEntry_29 : decode b_ND_divideEntry 29 = .ok (.aload_n 0, 1) := by decide +kernel
theorem d_ND_divideEntry_30 : decode b_ND_divideEntry 30 = .ok (.getfield 15, 3) := by decide +kernel
theorem d_ND_divideEntry_33 : decode b_ND_divideEntry 33 = .ok (.iload_n 3, 1) := by decide +kernel
theorem d_ND_divideEntry_34 : decode b_ND_divideEntry 34 = .ok (.iaload, 1) := by decide +kernel
theorem d_ND_divideEntry_35 : decode b_ND_divideEntry 35 = .ok (.invokevirtual 51, 3) := by decide +kernel
theorem d_ND_divideEntry_38 : decode b_ND_divideEntry 38 = .ok (.aload_n 0, 1) := by decide +kernel
theorem d_ND_divideEntry_39 : decode b_ND_divideEntry 39 = .ok (.getfield 15, 3) := by decide +kernel
theorem d_ND_divideEntry_42 : decode b_ND_divideEntry 42 = .ok (.iload_n 3, 1) := by decide +kernel
theorem d_ND_divideEntry_43 : decode b_ND_divideEntry 43 = .ok (.iconst 1, 1) := by decide +kernel
theorem d_ND_divideEntry_44 : decode b_ND_divideEntry 44 = .ok (.iadd, 1) := by decide +kernel
theorem d_ND_divideEntry_45 : decode b_ND_divideEntry 45 = .ok (.iload_n 2, 1) := by decide +kernel
theorem d_ND_divideEntry_46 : decode b_ND_divideEntry 46 = .ok (.iastore, 1) := by decide +kernel
theorem d_ND_divideEntry_47 : decode b_ND_divideEntry 47 = .ok (.return_, 1) := by decide +kernel
theorem d_LT_answer_0 : decode b_LT_answer 0 = .ok (.iload_n 1, 1) := by decide +kernel
theorem d_LT_answer_1 : decode b_LT_answer 1 = .ok (.invokestatic 47, 3) := by decide +kernel
theorem d_LT_answer_4 : decode b_LT_answer 4 = .ok (.ifCond .ne 13, 3) := by decide +kernel
theorem d_LT_answer_7 : decode b_LT_answer 7 = .ok (.new 51, 3) := by decide +kernel
theorem d_LT_answer_10 : decode b_LT_answer 10 = .ok (.dup, 1) := by decide +kernel
theorem d_LT_answer_11 : decode b_LT_answer 11 = .ok (.ldc 88, 2) := by decide +kernel
theorem d_LT_answer_13 : decode b_LT_answer 13 = .ok (.invokespecial 55, 3) := by decide +kernel
theorem d_LT_answer_16 : decode b_LT_answer 16 = .ok (.athrow, 1) := by decide +kernel
theorem d_LT_answer_17 : decode b_LT_answer 17 = .ok (.aload_n 0, 1) := by decide +kernel
theorem d_LT_answer_18 : decode b_LT_answer 18 = .ok (.getfield 28, 3) := by decide +kernel
theorem d_LT_answer_21 : decode b_LT_answer 21 = .ok (.iload_n 1, 1) := by decide +kernel
theorem d_LT_answer_22 : decode b_LT_answer 22 = .ok (.aaload, 1) := by decide +kernel
theorem d_LT_answer_23 : decode b_LT_answer 23 = .ok (.astore_n 2, 1) := by decide +kernel
theorem d_LT_answer_24 : decode b_LT_answer 24 = .ok (.aload_n 2, 1) := by decide +kernel
theorem d_LT_answer_25 : decode b_LT_answer 25 = .ok (.getfield 102, 3) := by decide +kernel
theorem d_LT_answer_28 : decode b_LT_answer 28 = .ok (.ifCond .ne 13, 3) := by decide +kernel
theorem d_LT_answer_31 : decode b_LT_answer 31 = .ok (.new 105, 3) := by decide +kernel
theorem d_LT_answer_34 : decode b_LT_answer 34 = .ok (.dup, 1) := by decide +kernel
theorem d_LT_answer_35 : decode b_LT_answer 35 = .ok (.ldc 107, 2) := by decide +kernel
theorem d_LT_answer_37 : decode b_LT_answer 37 = .ok (.invokespecial 109, 3) := by decide +kernel
theorem d_LT_answer_40 : decode b_LT_answer 40 = .ok (.athrow, 1) := by decide +kernel
theorem d_LT_answer_41 : decode b_LT_answer 41 = .ok (.aload_n 2, 1) := by decide +kernel
theorem d_LT_answer_42 : decode b_LT_answer 42 = .ok (.getfield 110, 3) := by decide +kernel
theorem d_LT_answer_45 : decode b_LT_answer 45 = .ok (.ireturn, 1) := by decide +kernel
theorem d_LT_look_0 : decode b_LT_look 0 = .ok (.iload_n 1, 1) := by decide +kernel
theorem d_LT_look_1 : decode b_LT_look 1 = .ok (.invokestatic 47, 3) := by decide +kernel
theorem d_LT_look_4 : decode b_LT_look 4 = .ok (.ifCond .eq 13, 3) := by decide +kernel
theorem d_LT_look_7 : decode b_LT_look 7 = .ok (.iload_n 2, 1) := by decide +kernel
theorem d_LT_look_8 : decode b_LT_look 8 = .ok (.ifCond .lt 9, 3) := by decide +kernel
theorem d_LT_look_11 : decode b_LT_look 11 = .ok (.iload_n 2, 1) := by decide +kernel
theorem d_LT_look_12 : decode b_LT_look 12 = .ok (.bipush 8, 2) := by decide +kernel
theorem d_LT_look_14 : decode b_LT_look 14 = .ok (.if_icmp .le 13, 3) := by decide +kernel
theorem d_LT_look_17 : decode b_LT_look 17 = .ok (.new 51, 3) := by decide +kernel
theorem d_LT_look_20 : decode b_LT_look 20 = .ok (.dup, 1) := by decide +kernel
theorem d_LT_look_21 : decode b_LT_look 21 = .ok (.ldc 113, 2) := by decide +kernel
theorem d_LT_look_23 : decode b_LT_look 23 = .ok (.invokespecial 55, 3) := by decide +kernel
theorem d_LT_look_26 : decode b_LT_look 26 = .ok (.athrow, 1) := by decide +kernel
theorem d_LT_look_27 : decode b_LT_look 27 = .ok (.aload_n 0, 1) := by decide +kernel
theorem d_LT_look_28 : decode b_LT_look 28 = .ok (.getfield 28, 3) := by decide +kernel
theorem d_LT_look_31 : decode b_LT_look 31 = .ok (.iload_n 1, 1) := by decide +kernel
theorem d_LT_look_32 : decode b_LT_look 32 = .ok (.aaload, 1) := by decide +kernel
theorem d_LT_look_33 : decode b_LT_look 33 = .ok (.astore_n 3, 1) := by decide +kernel
theorem d_LT_look_34 : decode b_LT_look 34 = .ok (.aload_n 3, 1) := by decide +kernel
theorem d_LT_look_35 : decode b_LT_look 35 = .ok (.getfield 60, 3) := by decide +kernel
theorem d_LT_look_38 : decode b_LT_look 38 = .ok (.ifCond .eq 15, 3) := by decide +kernel
theorem d_LT_look_41 : decode b_LT_look 41 = .ok (.iload_n 2, 1) := by decide +kernel
theorem d_LT_look_42 : decode b_LT_look 42 = .ok (.iconst 1, 1) := by decide +kernel
theorem d_LT_look_43 : decode b_LT_look 43 = .ok (.if_icmp .lt 10, 3) := by decide +kernel
theorem d_LT_look_46 : decode b_LT_look 46 = .ok (.iload_n 2, 1) := by decide +kernel
theorem d_LT_look_47 : decode b_LT_look 47 = .ok (.iconst 4, 1) := by decide +kernel
theorem d_LT_look_48 : decode b_LT_look 48 = .ok (.if_icmp .gt 5, 3) := by decide +kernel
theorem d_LT_look_51 : decode b_LT_look 51 = .ok (.iconst (-1), 1) := by decide +kernel
theorem d_LT_look_52 : decode b_LT_look 52 = .ok (.ireturn, 1) := by decide +kernel
theorem d_LT_look_53 : decode b_LT_look 53 = .ok (.iload_n 2, 1) := by decide +kernel
theorem d_LT_look_54 : decode b_LT_look 54 = .ok (.tableswitch 94 0 7 #[46, 59, 64, 69, 74, 79, 84, 89], 46) := by decide +kernel
theorem d_LT_look_100 : decode b_LT_look 100 = .ok (.aload_n 3, 1) := by decide +kernel
theorem d_LT_look_101 : decode b_LT_look 101 = .ok (.getfield 60, 3) := by decide +kernel
theorem d_LT_look_104 : decode b_LT_look 104 = .ok (.ifCond .eq 7, 3) := by decide +kernel
theorem d_LT_look_107 : decode b_LT_look 107 = .ok (.iconst 1, 1) := by decide +kernel
theorem d_LT_look_108 : decode b_LT_look 108 = .ok (.goto 4, 3) := by decide +kernel
theorem d_LT_look_111 : decode b_LT_look 111 = .ok (.iconst 0, 1) := by decide +kernel
theorem d_LT_look_112 : decode b_LT_look 112 = .ok (.ireturn, 1) := by decide +kernel
theorem d_LT_look_113 : decode b_LT_look 113 = .ok (.aload_n 3, 1) := by decide +kernel
theorem d_LT_look_114 : decode b_LT_look 114 = .ok (.getfield 115, 3) := by decide +kernel
theorem d_LT_look_117 : decode b_LT_look 117 = .ok (.ireturn, 1) := by decide +kernel
theorem d_LT_look_118 : decode b_LT_look 118 = .ok (.aload_n 3, 1) := by decide +kernel
theorem d_LT_look_119 : decode b_LT_look 119 = .ok (.getfield 118, 3) := by decide +kernel
theorem d_LT_look_122 : decode b_LT_look 122 = .ok (.ireturn, 1) := by decide +kernel
theorem d_LT_look_123 : decode b_LT_look 123 = .ok (.aload_n 3, 1) := by decide +kernel
theorem d_LT_look_124 : decode b_LT_look 124 = .ok (.getfield 72, 3) := by decide +kernel
theorem d_LT_look_127 : decode b_LT_look 127 = .ok (.ireturn, 1) := by decide +kernel
theorem d_LT_look_128 : decode b_LT_look 128 = .ok (.aload_n 3, 1) := by decide +kernel
theorem d_LT_look_129 : decode b_LT_look 129 = .ok (.getfield 78, 3) := by decide +kernel
theorem d_LT_look_132 : decode b_LT_look 132 = .ok (.ireturn, 1) := by decide +kernel
theorem d_LT_look_133 : decode b_LT_look 133 = .ok (.aload_n 3, 1) := by decide +kernel
theorem d_LT_look_134 : decode b_LT_look 134 = .ok (.getfield 96, 3) := by decide +kernel
theorem d_LT_look_137 : decode b_LT_look 137 = .ok (.ireturn, 1) := by decide +kernel
theorem d_LT_look_138 : decode b_LT_look 138 = .ok (.aload_n 3, 1) := by decide +kernel
theorem d_LT_look_139 : decode b_LT_look 139 = .ok (.getfield 99, 3) := by decide +kernel
theorem d_LT_look_142 : decode b_LT_look 142 = .ok (.ireturn, 1) := by decide +kernel
theorem d_LT_look_143 : decode b_LT_look 143 = .ok (.aload_n 3, 1) := by decide +kernel
theorem d_LT_look_144 : decode b_LT_look 144 = .ok (.getfield 121, 3) := by decide +kernel
theorem d_LT_look_147 : decode b_LT_look 147 = .ok (.ireturn, 1) := by decide +kernel
theorem d_LT_look_148 : decode b_LT_look 148 = .ok (.aload_n 3, 1) := by decide +kernel
theorem d_LT_look_149 : decode b_LT_look 149 = .ok (.getfield 124, 3) := by decide +kernel
theorem d_LT_look_152 : decode b_LT_look 152 = .ok (.ireturn, 1) := by decide +kernel
theorem d_LT_page_0 : decode b_LT_page 0 = .ok (.iload_n 1, 1) := by decide +kernel
theorem d_LT_page_1 : decode b_LT_page 1 = .ok (.invokestatic 127, 3) := by decide +kernel
theorem d_LT_page_4 : decode b_LT_page 4 = .ok (.ifCond .eq 13, 3) := by decide +kernel
theorem d_LT_page_7 : decode b_LT_page 7 = .ok (.iload_n 2, 1) := by decide +kernel
theorem d_LT_page_8 : decode b_LT_page 8 = .ok (.ifCond .lt 9, 3) := by decide +kernel
theorem d_LT_page_11 : decode b_LT_page 11 = .ok (.iload_n 2, 1) := by decide +kernel
theorem d_LT_page_12 : decode b_LT_page 12 = .ok (.bipush 6, 2) := by decide +kernel
theorem d_LT_page_14 : decode b_LT_page 14 = .ok (.if_icmp .le 13, 3) := by decide +kernel
theorem d_LT_page_17 : decode b_LT_page 17 = .ok (.new 51, 3) := by decide +kernel
theorem d_LT_page_20 : decode b_LT_page 20 = .ok (.dup, 1) := by decide +kernel
theorem d_LT_page_21 : decode b_LT_page 21 = .ok (.ldc 130, 2) := by decide +kernel
theorem d_LT_page_23 : decode b_LT_page 23 = .ok (.invokespecial 55, 3) := by decide +kernel
theorem d_LT_page_26 : decode b_LT_page 26 = .ok (.athrow, 1) := by decide +kernel
theorem d_LT_page_27 : decode b_LT_page 27 = .ok (.aload_n 0, 1) := by decide +kernel
theorem d_LT_page_28 : decode b_LT_page 28 = .ok (.getfield 11, 3) := by decide +kernel
theorem d_LT_page_31 : decode b_LT_page 31 = .ok (.iload_n 1, 1) := by decide +kernel
theorem d_LT_page_32 : decode b_LT_page 32 = .ok (.aaload, 1) := by decide +kernel
theorem d_LT_page_33 : decode b_LT_page 33 = .ok (.astore_n 3, 1) := by decide +kernel
theorem d_LT_page_34 : decode b_LT_page 34 = .ok (.iload_n 2, 1) := by decide +kernel
theorem d_LT_page_35 : decode b_LT_page 35 = .ok (.ifCond .le 14, 3) := by decide +kernel
theorem d_LT_page_38 : decode b_LT_page 38 = .ok (.aload_n 3, 1) := by decide +kernel
theorem d_LT_page_39 : decode b_LT_page 39 = .ok (.getfield 22, 3) := by decide +kernel
theorem d_LT_page_42 : decode b_LT_page 42 = .ok (.iconst 1, 1) := by decide +kernel
theorem d_LT_page_43 : decode b_LT_page 43 = .ok (.if_icmp .eq 6, 3) := by decide +kernel
theorem d_LT_page_46 : decode b_LT_page 46 = .ok (.bipush (-2), 2) := by decide +kernel
theorem d_LT_page_48 : decode b_LT_page 48 = .ok (.ireturn, 1) := by decide +kernel
theorem d_LT_page_49 : decode b_LT_page 49 = .ok (.iload_n 2, 1) := by decide +kernel
theorem d_LT_page_50 : decode b_LT_page 50 = .ok (.tableswitch 68 0 5 #[38, 43, 48, 53, 58, 63], 38) := by decide +kernel
theorem d_LT_page_88 : decode b_LT_page 88 = .ok (.aload_n 3, 1) := by decide +kernel
theorem d_LT_page_89 : decode b_LT_page 89 = .ok (.getfield 22, 3) := by decide +kernel
theorem d_LT_page_92 : decode b_LT_page 92 = .ok (.ireturn, 1) := by decide +kernel
theorem d_LT_page_93 : decode b_LT_page 93 = .ok (.aload_n 3, 1) := by decide +kernel
theorem d_LT_page_94 : decode b_LT_page 94 = .ok (.getfield 132, 3) := by decide +kernel
theorem d_LT_page_97 : decode b_LT_page 97 = .ok (.ireturn, 1) := by decide +kernel
theorem d_LT_page_98 : decode b_LT_page 98 = .ok (.aload_n 3, 1) := by decide +kernel
theorem d_LT_page_99 : decode b_LT_page 99 = .ok (.getfield 133, 3) := by decide +kernel
theorem d_LT_page_102 : decode b_LT_page 102 = .ok (.ireturn, 1) := by decide +kernel
theorem d_LT_page_103 : decode b_LT_page 103 = .ok (.aload_n 3, 1) := by decide +kernel
theorem d_LT_page_104 : decode b_LT_page 104 = .ok (.getfield 136, 3) := by decide +kernel
theorem d_LT_page_107 : decode b_LT_page 107 = .ok (.ireturn, 1) := by decide +kernel
theorem d_LT_page_108 : decode b_LT_page 108 = .ok (.aload_n 3, 1) := by decide +kernel
theorem d_LT_page_109 : decode b_LT_page 109 = .ok (.getfield 139, 3) := by decide +kernel
theorem d_LT_page_112 : decode b_LT_page 112 = .ok (.ireturn, 1) := by decide +kernel
theorem d_LT_page_113 : decode b_LT_page 113 = .ok (.aload_n 3, 1) := by decide +kernel
theorem d_LT_page_114 : decode b_LT_page 114 = .ok (.getfield 142, 3) := by decide +kernel
theorem d_LT_page_117 : decode b_LT_page 117 = .ok (.ireturn, 1) := by decide +kernel
theorem d_LT_page_118 : decode b_LT_page 118 = .ok (.aload_n 3, 1) := by decide +kernel
theorem d_LT_page_119 : decode b_LT_page 119 = .ok (.getfield 145, 3) := by decide +kernel
theorem d_LT_page_122 : decode b_LT_page 122 = .ok (.ireturn, 1) := by decide +kernel
theorem d_LT_entry_0 : decode b_LT_entry 0 = .ok (.aload_n 0, 1) := by decide +kernel
theorem d_LT_entry_1 : decode b_LT_entry 1 = .ok (.iload_n 1, 1) := by decide +kernel
theorem d_LT_entry_2 : decode b_LT_entry 2 = .ok (.invokevirtual 148, 3) := by decide +kernel
theorem d_LT_entry_5 : decode b_LT_entry 5 = .ok (.astore 4, 2) := by decide +kernel
theorem d_LT_entry_7 : decode b_LT_entry 7 = .ok (.aload 4, 2) := by decide +kernel
theorem d_LT_entry_9 : decode b_LT_entry 9 = .ok (.getfield 22, 3) := by decide +kernel
theorem d_LT_entry_12 : decode b_LT_entry 12 = .ok (.iconst 1, 1) := by decide +kernel
theorem d_LT_entry_13 : decode b_LT_entry 13 = .ok (.if_icmp .ne 16, 3) := by decide +kernel
theorem d_LT_entry_16 : decode b_LT_entry 16 = .ok (.iload_n 2, 1) := by decide +kernel
theorem d_LT_entry_17 : decode b_LT_entry 17 = .ok (.ifCond .lt 12, 3) := by decide +kernel
theorem d_LT_entry_20 : decode b_LT_entry 20 = .ok (.iload_n 2, 1) := by decide +kernel
theorem d_LT_entry_21 : decode b_LT_entry 21 = .ok (.aload 4, 2) := by decide +kernel
theorem d_LT_entry_23 : decode b_LT_entry 23 = .ok (.getfield 142, 3) := by decide +kernel
theorem d_LT_entry_26 : decode b_LT_entry 26 = .ok (.if_icmp .lt 13, 3) := by decide +kernel
theorem d_LT_entry_29 : decode b_LT_entry 29 = .ok (.new 105, 3) := by decide +kernel
theorem d_LT_entry_32 : decode b_LT_entry 32 = .ok (.dup, 1) := by decide +kernel
theorem d_LT_entry_33 : decode b_LT_entry 33 = .ok (.ldc 152, 2) := by decide +kernel
theorem d_LT_entry_35 : decode b_LT_entry 35 = .ok (.invokespecial 109, 3) := by decide +kernel
theorem d_LT_entry_38 : decode b_LT_entry 38 = .ok (.athrow, 1) := by decide +kernel
theorem d_LT_entry_39 : decode b_LT_entry 39 = .ok (.iload_n 3, 1) := by decide +kernel
theorem d_LT_entry_40 : decode b_LT_entry 40 = .ok (.ifCond .eq 13, 3) := by decide +kernel
theorem d_LT_entry_43 : decode b_LT_entry 43 = .ok (.aload 4, 2) := by decide +kernel
theorem d_LT_entry_45 : decode b_LT_entry 45 = .ok (.getfield 154, 3) := by decide +kernel
theorem d_LT_entry_48 : decode b_LT_entry 48 = .ok (.iload_n 2, 1) := by decide +kernel
theorem d_LT_entry_49 : decode b_LT_entry 49 = .ok (.iaload, 1) := by decide +kernel
theorem d_LT_entry_50 : decode b_LT_entry 50 = .ok (.goto 10, 3) := by decide +kernel
theorem d_LT_entry_53 : decode b_LT_entry 53 = .ok (.aload 4, 2) := by decide +kernel
theorem d_LT_entry_55 : decode b_LT_entry 55 = .ok (.getfield 158, 3) := by decide +kernel
theorem d_LT_entry_58 : decode b_LT_entry 58 = .ok (.iload_n 2, 1) := by decide +kernel
theorem d_LT_entry_59 : decode b_LT_entry 59 = .ok (.iaload, 1) := by decide +kernel
theorem d_LT_entry_60 : decode b_LT_entry 60 = .ok (.ireturn, 1) := by decide +kernel
theorem d_LT_under_0 : decode b_LT_under 0 = .ok (.aload_n 0, 1) := by decide +kernel
theorem d_LT_under_1 : decode b_LT_under 1 = .ok (.iload_n 1, 1) := by decide +kernel
theorem d_LT_under_2 : decode b_LT_under 2 = .ok (.invokevirtual 148, 3) := by decide +kernel
theorem d_LT_under_5 : decode b_LT_under 5 = .ok (.astore_n 2, 1) := by decide +kernel
theorem d_LT_under_6 : decode b_LT_under 6 = .ok (.aload_n 2, 1) := by decide +kernel
theorem d_LT_under_7 : decode b_LT_under 7 = .ok (.getfield 22, 3) := by decide +kernel
theorem d_LT_under_10 : decode b_LT_under 10 = .ok (.iconst 1, 1) := by decide +kernel
theorem d_LT_under_11 : decode b_LT_under 11 = .ok (.if_icmp .eq 13, 3) := by decide +kernel
theorem d_LT_under_14 : decode b_LT_under 14 = .ok (.new 105, 3) := by decide +kernel
theorem d_LT_under_17 : decode b_LT_under 17 = .ok (.dup, 1) := by decide +kernel
theorem d_LT_under_18 : decode b_LT_under 18 = .ok (.ldc 162, 2) := by decide +kernel
theorem d_LT_under_20 : decode b_LT_under 20 = .ok (.invokespecial 109, 3) := by decide +kernel
theorem d_LT_under_23 : decode b_LT_under 23 = .ok (.athrow, 1) := by decide +kernel
theorem d_LT_under_24 : decode b_LT_under 24 = .ok (.aload_n 0, 1) := by decide +kernel
theorem d_LT_under_25 : decode b_LT_under 25 = .ok (.aload_n 2, 1) := by decide +kernel
theorem d_LT_under_26 : decode b_LT_under 26 = .ok (.iconst 0, 1) := by decide +kernel
theorem d_LT_under_27 : decode b_LT_under 27 = .ok (.invokevirtual 164, 3) := by decide +kernel
theorem d_LT_under_30 : decode b_LT_under 30 = .ok (.ireturn, 1) := by decide +kernel
theorem d_LT_leafEntries_0 : decode b_LT_leafEntries 0 = .ok (.aload_n 1, 1) := by decide +kernel
theorem d_LT_leafEntries_1 : decode b_LT_leafEntries 1 = .ok (.getfield 22, 3) := by decide +kernel
theorem d_LT_leafEntries_4 : decode b_LT_leafEntries 4 = .ok (.iconst 1, 1) := by decide +kernel
theorem d_LT_leafEntries_5 : decode b_LT_leafEntries 5 = .ok (.if_icmp .ne 9, 3) := by decide +kernel
theorem d_LT_leafEntries_8 : decode b_LT_leafEntries 8 = .ok (.iload_n 2, 1) := by decide +kernel
theorem d_LT_leafEntries_9 : decode b_LT_leafEntries 9 = .ok (.bipush 24, 2) := by decide +kernel
theorem d_LT_leafEntries_11 : decode b_LT_leafEntries 11 = .ok (.if_icmp .le 5, 3) := by decide +kernel
theorem d_LT_leafEntries_14 : decode b_LT_leafEntries 14 = .ok (.iconst 0, 1) := by decide +kernel
theorem d_LT_leafEntries_15 : decode b_LT_leafEntries 15 = .ok (.ireturn, 1) := by decide +kernel
theorem d_LT_leafEntries_16 : decode b_LT_leafEntries 16 = .ok (.aload_n 1, 1) := by decide +kernel
theorem d_LT_leafEntries_17 : decode b_LT_leafEntries 17 = .ok (.getfield 132, 3) := by decide +kernel
theorem d_LT_leafEntries_20 : decode b_LT_leafEntries 20 = .ok (.ifCond .ne 8, 3) := by decide +kernel
theorem d_LT_leafEntries_23 : decode b_LT_leafEntries 23 = .ok (.aload_n 1, 1) := by decide +kernel
theorem d_LT_leafEntries_24 : decode b_LT_leafEntries 24 = .ok (.getfield 142, 3) := by decide +kernel
theorem d_LT_leafEntries_27 : decode b_LT_leafEntries 27 = .ok (.ireturn, 1) := by decide +kernel
theorem d_LT_leafEntries_28 : decode b_LT_leafEntries 28 = .ok (.iconst 0, 1) := by decide +kernel
theorem d_LT_leafEntries_29 : decode b_LT_leafEntries 29 = .ok (.istore_n 3, 1) := by decide +kernel
theorem d_LT_leafEntries_30 : decode b_LT_leafEntries 30 = .ok (.iconst 0, 1) := by decide +kernel
theorem d_LT_leafEntries_31 : decode b_LT_leafEntries 31 = .ok (.istore 4, 2) := by decide +kernel
theorem d_LT_leafEntries_33 : decode b_LT_leafEntries 33 = .ok (.iload 4, 2) := by decide +kernel
theorem d_LT_leafEntries_35 : decode b_LT_leafEntries 35 = .ok (.aload_n 1, 1) := by decide +kernel
theorem d_LT_leafEntries_36 : decode b_LT_leafEntries 36 = .ok (.getfield 142, 3) := by decide +kernel
theorem d_LT_leafEntries_39 : decode b_LT_leafEntries 39 = .ok (.if_icmp .ge 30, 3) := by decide +kernel
theorem d_LT_leafEntries_42 : decode b_LT_leafEntries 42 = .ok (.iload_n 3, 1) := by decide +kernel
theorem d_LT_leafEntries_43 : decode b_LT_leafEntries 43 = .ok (.aload_n 0, 1) := by decide +kernel
theorem d_LT_leafEntries_44 : decode b_LT_leafEntries 44 = .ok (.aload_n 0, 1) := by decide +kernel
theorem d_LT_leafEntries_45 : decode b_LT_leafEntries 45 = .ok (.aload_n 1, 1) := by decide +kernel
theorem d_LT_leafEntries_46 : decode b_LT_leafEntries 46 = .ok (.getfield 154, 3) := by decide +kernel
theorem d_LT_leafEntries_49 : decode b_LT_leafEntries 49 = .ok (.iload 4, 2) := by decide +kernel
theorem d_LT_leafEntries_51 : decode b_LT_leafEntries 51 = .ok (.iaload, 1) := by decide +kernel
theorem d_LT_leafEntries_52 : decode b_LT_leafEntries 52 = .ok (.invokevirtual 148, 3) := by decide +kernel
theorem d_LT_leafEntries_55 : decode b_LT_leafEntries 55 = .ok (.iload_n 2, 1) := by decide +kernel
theorem d_LT_leafEntries_56 : decode b_LT_leafEntries 56 = .ok (.iconst 1, 1) := by decide +kernel
theorem d_LT_leafEntries_57 : decode b_LT_leafEntries 57 = .ok (.iadd, 1) := by decide +kernel
theorem d_LT_leafEntries_58 : decode b_LT_leafEntries 58 = .ok (.invokevirtual 164, 3) := by decide +kernel
theorem d_LT_leafEntries_61 : decode b_LT_leafEntries 61 = .ok (.iadd, 1) := by decide +kernel
theorem d_LT_leafEntries_62 : decode b_LT_leafEntries 62 = .ok (.istore_n 3, 1) := by decide +kernel
theorem d_LT_leafEntries_63 : decode b_LT_leafEntries 63 = .ok (.iinc 4 1, 3) := by decide +kernel
theorem d_LT_leafEntries_66 : decode b_LT_leafEntries 66 = .ok (.goto (-33), 3) := by decide +kernel
theorem d_LT_leafEntries_69 : decode b_LT_leafEntries 69 = .ok (.iload_n 3, 1) := by decide +kernel
theorem d_LT_leafEntries_70 : decode b_LT_leafEntries 70 = .ok (.ireturn, 1) := by decide +kernel

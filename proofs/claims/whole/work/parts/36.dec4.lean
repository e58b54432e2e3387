theorem dd_TC_init_0 : decode bb_TC_init 0 = .ok (.aload_n 0, 1) := by decide +kernel
theorem dd_TC_init_1 : decode bb_TC_init 1 = .ok (.invokespecial 1, 3) := by decide +kernel
theorem dd_TC_init_4 : decode bb_TC_init 4 = .ok (.aload_n 0, 1) := by decide +kernel
theorem dd_TC_init_5 : decode bb_TC_init 5 = .ok (.iconst 1, 1) := by decide +kernel
theorem dd_TC_init_6 : decode bb_TC_init 6 = .ok (.bipush 20, 2) := by decide +kernel
theorem dd_TC_init_8 : decode bb_TC_init 8 = .ok (.iload_n 1, 1) := by decide +kernel
theorem dd_TC_init_9 : decode bb_TC_init 9 = .ok (.invokestatic 9, 3) := by decide +kernel
theorem dd_TC_init_12 : decode bb_TC_init 12 = .ok (.invokestatic 15, 3) := by decide +kernel
theorem dd_TC_init_15 : decode bb_TC_init 15 = .ok (.putfield 18, 3) := by decide +kernel
theorem dd_TC_init_18 : decode bb_TC_init 18 = .ok (.aload_n 0, 1) := by decide +kernel
theorem dd_TC_init_19 : decode bb_TC_init 19 = .ok (.new 22, 3) := by decide +kernel
theorem dd_TC_init_22 : decode bb_TC_init 22 = .ok (.dup, 1) := by decide +kernel
theorem dd_TC_init_23 : decode bb_TC_init 23 = .ok (.invokespecial 24, 3) := by decide +kernel
theorem dd_TC_init_26 : decode bb_TC_init 26 = .ok (.putfield 25, 3) := by decide +kernel
theorem dd_TC_init_29 : decode bb_TC_init 29 = .ok (.aload_n 0, 1) := by decide +kernel
theorem dd_TC_init_30 : decode bb_TC_init 30 = .ok (.iconst 3, 1) := by decide +kernel
theorem dd_TC_init_31 : decode bb_TC_init 31 = .ok (.anewarray 29, 3) := by decide +kernel
theorem dd_TC_init_34 : decode bb_TC_init 34 = .ok (.putfield 31, 3) := by decide +kernel
theorem dd_TC_init_37 : decode bb_TC_init 37 = .ok (.iconst 0, 1) := by decide +kernel
theorem dd_TC_init_38 : decode bb_TC_init 38 = .ok (.istore_n 2, 1) := by decide +kernel
theorem dd_TC_init_39 : decode bb_TC_init 39 = .ok (.iload_n 2, 1) := by decide +kernel
theorem dd_TC_init_40 : decode bb_TC_init 40 = .ok (.iconst 3, 1) := by decide +kernel
theorem dd_TC_init_41 : decode bb_TC_init 41 = .ok (.if_icmp .ge 22, 3) := by decide +kernel
theorem dd_TC_init_44 : decode bb_TC_init 44 = .ok (.aload_n 0, 1) := by decide +kernel
theorem dd_TC_init_45 : decode bb_TC_init 45 = .ok (.getfield 31, 3) := by decide +kernel
theorem dd_TC_init_48 : decode bb_TC_init 48 = .ok (.iload_n 2, 1) := by decide +kernel
theorem dd_TC_init_49 : decode bb_TC_init 49 = .ok (.new 29, 3) := by decide +kernel
theorem dd_TC_init_52 : decode bb_TC_init 52 = .ok (.dup, 1) := by decide +kernel
theorem dd_TC_init_53 : decode bb_TC_init 53 = .ok (.invokespecial 35, 3) := by decide +kernel
theorem dd_TC_init_56 : decode bb_TC_init 56 = .ok (.aastore, 1) := by decide +kernel
theorem dd_TC_init_57 : decode bb_TC_init 57 = .ok (.iinc 2 1, 3) := by decide +kernel
theorem dd_TC_init_60 : decode bb_TC_init 60 = .ok (.goto (-21), 3) := by decide +kernel
theorem dd_TC_init_63 : decode bb_TC_init 63 = .ok (.aload_n 0, 1) := by decide +kernel
theorem dd_TC_init_64 : decode bb_TC_init 64 = .ok (.bipush 12, 2) := by decide +kernel
theorem dd_TC_init_66 : decode bb_TC_init 66 = .ok (.anewarray 36, 3) := by decide +kernel
theorem dd_TC_init_69 : decode bb_TC_init 69 = .ok (.putfield 38, 3) := by decide +kernel
theorem dd_TC_init_72 : decode bb_TC_init 72 = .ok (.iconst 0, 1) := by decide +kernel
theorem dd_TC_init_73 : decode bb_TC_init 73 = .ok (.istore_n 2, 1) := by decide +kernel
theorem dd_TC_init_74 : decode bb_TC_init 74 = .ok (.iload_n 2, 1) := by decide +kernel
theorem dd_TC_init_75 : decode bb_TC_init 75 = .ok (.bipush 12, 2) := by decide +kernel
theorem dd_TC_init_77 : decode bb_TC_init 77 = .ok (.if_icmp .ge 30, 3) := by decide +kernel
theorem dd_TC_init_80 : decode bb_TC_init 80 = .ok (.aload_n 0, 1) := by decide +kernel
theorem dd_TC_init_81 : decode bb_TC_init 81 = .ok (.getfield 38, 3) := by decide +kernel
theorem dd_TC_init_84 : decode bb_TC_init 84 = .ok (.iload_n 2, 1) := by decide +kernel
theorem dd_TC_init_85 : decode bb_TC_init 85 = .ok (.new 36, 3) := by decide +kernel
theorem dd_TC_init_88 : decode bb_TC_init 88 = .ok (.dup, 1) := by decide +kernel
theorem dd_TC_init_89 : decode bb_TC_init 89 = .ok (.aload_n 0, 1) := by decide +kernel
theorem dd_TC_init_90 : decode bb_TC_init 90 = .ok (.getfield 31, 3) := by decide +kernel
theorem dd_TC_init_93 : decode bb_TC_init 93 = .ok (.iload_n 2, 1) := by decide +kernel
theorem dd_TC_init_94 : decode bb_TC_init 94 = .ok (.iconst 4, 1) := by decide +kernel
theorem dd_TC_init_95 : decode bb_TC_init 95 = .ok (.idiv, 1) := by decide +kernel
theorem dd_TC_init_96 : decode bb_TC_init 96 = .ok (.aaload, 1) := by decide +kernel
theorem dd_TC_init_97 : decode bb_TC_init 97 = .ok (.invokespecial 42, 3) := by decide +kernel
theorem dd_TC_init_100 : decode bb_TC_init 100 = .ok (.aastore, 1) := by decide +kernel
theorem dd_TC_init_101 : decode bb_TC_init 101 = .ok (.iinc 2 1, 3) := by decide +kernel
theorem dd_TC_init_104 : decode bb_TC_init 104 = .ok (.goto (-30), 3) := by decide +kernel
theorem dd_TC_init_107 : decode bb_TC_init 107 = .ok (.aload_n 0, 1) := by decide +kernel
theorem dd_TC_init_108 : decode bb_TC_init 108 = .ok (.iconst 4, 1) := by decide +kernel
theorem dd_TC_init_109 : decode bb_TC_init 109 = .ok (.anewarray 45, 3) := by decide +kernel
theorem dd_TC_init_112 : decode bb_TC_init 112 = .ok (.putfield 47, 3) := by decide +kernel
theorem dd_TC_init_115 : decode bb_TC_init 115 = .ok (.iconst 0, 1) := by decide +kernel
theorem dd_TC_init_116 : decode bb_TC_init 116 = .ok (.istore_n 2, 1) := by decide +kernel
theorem dd_TC_init_117 : decode bb_TC_init 117 = .ok (.iload_n 2, 1) := by decide +kernel
theorem dd_TC_init_118 : decode bb_TC_init 118 = .ok (.iconst 4, 1) := by decide +kernel
theorem dd_TC_init_119 : decode bb_TC_init 119 = .ok (.if_icmp .ge 23, 3) := by decide +kernel
theorem dd_TC_init_122 : decode bb_TC_init 122 = .ok (.aload_n 0, 1) := by decide +kernel
theorem dd_TC_init_123 : decode bb_TC_init 123 = .ok (.getfield 47, 3) := by decide +kernel
theorem dd_TC_init_126 : decode bb_TC_init 126 = .ok (.iload_n 2, 1) := by decide +kernel
theorem dd_TC_init_127 : decode bb_TC_init 127 = .ok (.new 45, 3) := by decide +kernel
theorem dd_TC_init_130 : decode bb_TC_init 130 = .ok (.dup, 1) := by decide +kernel
theorem dd_TC_init_131 : decode bb_TC_init 131 = .ok (.iload_n 2, 1) := by decide +kernel
theorem dd_TC_init_132 : decode bb_TC_init 132 = .ok (.invokespecial 51, 3) := by decide +kernel
theorem dd_TC_init_135 : decode bb_TC_init 135 = .ok (.aastore, 1) := by decide +kernel
theorem dd_TC_init_136 : decode bb_TC_init 136 = .ok (.iinc 2 1, 3) := by decide +kernel
theorem dd_TC_init_139 : decode bb_TC_init 139 = .ok (.goto (-22), 3) := by decide +kernel
theorem dd_TC_init_142 : decode bb_TC_init 142 = .ok (.return_, 1) := by decide +kernel
theorem dd_TC_begin_0 : decode bb_TC_begin 0 = .ok (.iload_n 1, 1) := by decide +kernel
theorem dd_TC_begin_1 : decode bb_TC_begin 1 = .ok (.invokestatic 54, 3) := by decide +kernel
theorem dd_TC_begin_4 : decode bb_TC_begin 4 = .ok (.ifCond .ne 13, 3) := by decide +kernel
theorem dd_TC_begin_7 : decode bb_TC_begin 7 = .ok (.new 58, 3) := by decide +kernel
theorem dd_TC_begin_10 : decode bb_TC_begin 10 = .ok (.dup, 1) := by decide +kernel
theorem dd_TC_begin_11 : decode bb_TC_begin 11 = .ok (.ldc 60, 2) := by decide +kernel
theorem dd_TC_begin_13 : decode bb_TC_begin 13 = .ok (.invokespecial 62, 3) := by decide +kernel
theorem dd_TC_begin_16 : decode bb_TC_begin 16 = .ok (.athrow, 1) := by decide +kernel
theorem dd_TC_begin_17 : decode bb_TC_begin 17 = .ok (.aload_n 0, 1) := by decide +kernel
theorem dd_TC_begin_18 : decode bb_TC_begin 18 = .ok (.getfield 47, 3) := by decide +kernel
theorem dd_TC_begin_21 : decode bb_TC_begin 21 = .ok (.iload_n 1, 1) := by decide +kernel
theorem dd_TC_begin_22 : decode bb_TC_begin 22 = .ok (.aaload, 1) := by decide +kernel
theorem dd_TC_begin_23 : decode bb_TC_begin 23 = .ok (.astore_n 2, 1) := by decide +kernel
theorem dd_TC_begin_24 : decode bb_TC_begin 24 = .ok (.aload_n 2, 1) := by decide +kernel
theorem dd_TC_begin_25 : decode bb_TC_begin 25 = .ok (.getfield 65, 3) := by decide +kernel
theorem dd_TC_begin_28 : decode bb_TC_begin 28 = .ok (.ifCond .eq 13, 3) := by decide +kernel
theorem dd_TC_begin_31 : decode bb_TC_begin 31 = .ok (.new 69, 3) := by decide +kernel
theorem dd_TC_begin_34 : decode bb_TC_begin 34 = .ok (.dup, 1) := by decide +kernel
theorem dd_TC_begin_35 : decode bb_TC_begin 35 = .ok (.ldc 71, 2) := by decide +kernel
theorem dd_TC_begin_37 : decode bb_TC_begin 37 = .ok (.invokespecial 73, 3) := by decide +kernel
theorem dd_TC_begin_40 : decode bb_TC_begin 40 = .ok (.athrow, 1) := by decide +kernel
theorem dd_TC_begin_41 : decode bb_TC_begin 41 = .ok (.aload_n 2, 1) := by decide +kernel
theorem dd_TC_begin_42 : decode bb_TC_begin 42 = .ok (.aload_n 0, 1) := by decide +kernel
theorem dd_TC_begin_43 : decode bb_TC_begin 43 = .ok (.getfield 25, 3) := by decide +kernel
theorem dd_TC_begin_46 : decode bb_TC_begin 46 = .ok (.invokevirtual 74, 3) := by decide +kernel
theorem dd_TC_begin_49 : decode bb_TC_begin 49 = .ok (.invokevirtual 78, 3) := by decide +kernel
theorem dd_TC_begin_52 : decode bb_TC_begin 52 = .ok (.aload_n 2, 1) := by decide +kernel
theorem dd_TC_begin_53 : decode bb_TC_begin 53 = .ok (.getfield 81, 3) := by decide +kernel
theorem dd_TC_begin_56 : decode bb_TC_begin 56 = .ok (.ireturn, 1) := by decide +kernel
theorem dd_TC_get_0 : decode bb_TC_get 0 = .ok (.aload_n 0, 1) := by decide +kernel
theorem dd_TC_get_1 : decode bb_TC_get 1 = .ok (.iload_n 1, 1) := by decide +kernel
theorem dd_TC_get_2 : decode bb_TC_get 2 = .ok (.iload_n 2, 1) := by decide +kernel
theorem dd_TC_get_3 : decode bb_TC_get 3 = .ok (.invokevirtual 84, 3) := by decide +kernel
theorem dd_TC_get_6 : decode bb_TC_get 6 = .ok (.astore_n 3, 1) := by decide +kernel
theorem dd_TC_get_7 : decode bb_TC_get 7 = .ok (.aload_n 3, 1) := by decide +kernel
theorem dd_TC_get_8 : decode bb_TC_get 8 = .ok (.iload_n 2, 1) := by decide +kernel
theorem dd_TC_get_9 : decode bb_TC_get 9 = .ok (.invokevirtual 88, 3) := by decide +kernel
theorem dd_TC_get_12 : decode bb_TC_get 12 = .ok (.ifCond .eq 9, 3) := by decide +kernel
theorem dd_TC_get_15 : decode bb_TC_get 15 = .ok (.aload_n 3, 1) := by decide +kernel
theorem dd_TC_get_16 : decode bb_TC_get 16 = .ok (.iload_n 2, 1) := by decide +kernel
theorem dd_TC_get_17 : decode bb_TC_get 17 = .ok (.invokevirtual 91, 3) := by decide +kernel
theorem dd_TC_get_20 : decode bb_TC_get 20 = .ok (.ireturn, 1) := by decide +kernel
theorem dd_TC_get_21 : decode bb_TC_get 21 = .ok (.aload_n 0, 1) := by decide +kernel
theorem dd_TC_get_22 : decode bb_TC_get 22 = .ok (.getfield 38, 3) := by decide +kernel
theorem dd_TC_get_25 : decode bb_TC_get 25 = .ok (.iload_n 2, 1) := by decide +kernel
theorem dd_TC_get_26 : decode bb_TC_get 26 = .ok (.aaload, 1) := by decide +kernel
theorem dd_TC_get_27 : decode bb_TC_get 27 = .ok (.astore 4, 2) := by decide +kernel
theorem dd_TC_get_29 : decode bb_TC_get 29 = .ok (.aload 4, 2) := by decide +kernel
theorem dd_TC_get_31 : decode bb_TC_get 31 = .ok (.getfield 95, 3) := by decide +kernel
theorem dd_TC_get_34 : decode bb_TC_get 34 = .ok (.getfield 99, 3) := by decide +kernel
theorem dd_TC_get_37 : decode bb_TC_get 37 = .ok (.ifCond .ne 13, 3) := by decide +kernel
theorem dd_TC_get_40 : decode bb_TC_get 40 = .ok (.new 69, 3) := by decide +kernel
theorem dd_TC_get_43 : decode bb_TC_get 43 = .ok (.dup, 1) := by decide +kernel
theorem dd_TC_get_44 : decode bb_TC_get 44 = .ok (.ldc 102, 2) := by decide +kernel
theorem dd_TC_get_46 : decode bb_TC_get 46 = .ok (.invokespecial 73, 3) := by decide +kernel
theorem dd_TC_get_49 : decode bb_TC_get 49 = .ok (.athrow, 1) := by decide +kernel
theorem dd_TC_get_50 : decode bb_TC_get 50 = .ok (.aload 4, 2) := by decide +kernel
theorem dd_TC_get_52 : decode bb_TC_get 52 = .ok (.getfield 95, 3) := by decide +kernel
theorem dd_TC_get_55 : decode bb_TC_get 55 = .ok (.getfield 104, 3) := by decide +kernel
theorem dd_TC_get_58 : decode bb_TC_get 58 = .ok (.aload_n 3, 1) := by decide +kernel
theorem dd_TC_get_59 : decode bb_TC_get 59 = .ok (.getfield 81, 3) := by decide +kernel
theorem dd_TC_get_62 : decode bb_TC_get 62 = .ok (.if_icmp .le 13, 3) := by decide +kernel
theorem dd_TC_get_65 : decode bb_TC_get 65 = .ok (.new 107, 3) := by decide +kernel
theorem dd_TC_get_68 : decode bb_TC_get 68 = .ok (.dup, 1) := by decide +kernel
theorem dd_TC_get_69 : decode bb_TC_get 69 = .ok (.ldc 109, 2) := by decide +kernel
theorem dd_TC_get_71 : decode bb_TC_get 71 = .ok (.invokespecial 111, 3) := by decide +kernel
theorem dd_TC_get_74 : decode bb_TC_get 74 = .ok (.athrow, 1) := by decide +kernel
theorem dd_TC_get_75 : decode bb_TC_get 75 = .ok (.aload 4, 2) := by decide +kernel
theorem dd_TC_get_77 : decode bb_TC_get 77 = .ok (.aload_n 3, 1) := by decide +kernel
theorem dd_TC_get_78 : decode bb_TC_get 78 = .ok (.getfield 81, 3) := by decide +kernel
theorem dd_TC_get_81 : decode bb_TC_get 81 = .ok (.invokevirtual 112, 3) := by decide +kernel
theorem dd_TC_get_84 : decode bb_TC_get 84 = .ok (.ifCond .eq 24, 3) := by decide +kernel
theorem dd_TC_get_87 : decode bb_TC_get 87 = .ok (.aload_n 0, 1) := by decide +kernel
theorem dd_TC_get_88 : decode bb_TC_get 88 = .ok (.aload 4, 2) := by decide +kernel
theorem dd_TC_get_90 : decode bb_TC_get 90 = .ok (.invokevirtual 115, 3) := by decide +kernel
theorem dd_TC_get_93 : decode bb_TC_get 93 = .ok (.bipush (-2), 2) := by decide +kernel
theorem dd_TC_get_95 : decode bb_TC_get 95 = .ok (.if_icmp .ne 13, 3) := by decide +kernel
theorem dd_TC_get_98 : decode bb_TC_get 98 = .ok (.new 69, 3) := by decide +kernel
theorem dd_TC_get_101 : decode bb_TC_get 101 = .ok (.dup, 1) := by decide +kernel
theorem dd_TC_get_102 : decode bb_TC_get 102 = .ok (.ldc 119, 2) := by decide +kernel
theorem dd_TC_get_104 : decode bb_TC_get 104 = .ok (.invokespecial 73, 3) := by decide +kernel
theorem dd_TC_get_107 : decode bb_TC_get 107 = .ok (.athrow, 1) := by decide +kernel
theorem dd_TC_get_108 : decode bb_TC_get 108 = .ok (.aload 4, 2) := by decide +kernel
theorem dd_TC_get_110 : decode bb_TC_get 110 = .ok (.aload_n 3, 1) := by decide +kernel
theorem dd_TC_get_111 : decode bb_TC_get 111 = .ok (.getfield 81, 3) := by decide +kernel
theorem dd_TC_get_114 : decode bb_TC_get 114 = .ok (.invokevirtual 121, 3) := by decide +kernel
theorem dd_TC_get_117 : decode bb_TC_get 117 = .ok (.astore 5, 2) := by decide +kernel
theorem dd_TC_get_119 : decode bb_TC_get 119 = .ok (.aload 5, 2) := by decide +kernel
theorem dd_TC_get_121 : decode bb_TC_get 121 = .ok (.ifnull 12, 3) := by decide +kernel
theorem dd_TC_get_124 : decode bb_TC_get 124 = .ok (.aload 5, 2) := by decide +kernel
theorem dd_TC_get_126 : decode bb_TC_get 126 = .ok (.getfield 125, 3) := by decide +kernel
theorem dd_TC_get_129 : decode bb_TC_get 129 = .ok (.iconst 2, 1) := by decide +kernel
theorem dd_TC_get_130 : decode bb_TC_get 130 = .ok (.if_icmp .ne 13, 3) := by decide +kernel
theorem dd_TC_get_133 : decode bb_TC_get 133 = .ok (.new 130, 3) := by decide +kernel
theorem dd_TC_get_136 : decode bb_TC_get 136 = .ok (.dup, 1) := by decide +kernel
theorem dd_TC_get_137 : decode bb_TC_get 137 = .ok (.ldc 132, 2) := by decide +kernel
theorem dd_TC_get_139 : decode bb_TC_get 139 = .ok (.invokespecial 134, 3) := by decide +kernel
theorem dd_TC_get_142 : decode bb_TC_get 142 = .ok (.athrow, 1) := by decide +kernel
theorem dd_TC_get_143 : decode bb_TC_get 143 = .ok (.aload 5, 2) := by decide +kernel
theorem dd_TC_get_145 : decode bb_TC_get 145 = .ok (.getfield 135, 3) := by decide +kernel
theorem dd_TC_get_148 : decode bb_TC_get 148 = .ok (.ireturn, 1) := by decide +kernel
theorem dd_TC_set_0 : decode bb_TC_set 0 = .ok (.aload_n 0, 1) := by decide +kernel
theorem dd_TC_set_1 : decode bb_TC_set 1 = .ok (.iload_n 1, 1) := by decide +kernel
theorem dd_TC_set_2 : decode bb_TC_set 2 = .ok (.iload_n 2, 1) := by decide +kernel
theorem dd_TC_set_3 : decode bb_TC_set 3 = .ok (.invokevirtual 84, 3) := by decide +kernel
theorem dd_TC_set_6 : decode bb_TC_set 6 = .ok (.iload_n 2, 1) := by decide +kernel
theorem dd_TC_set_7 : decode bb_TC_set 7 = .ok (.iload_n 3, 1) := by decide +kernel
theorem dd_TC_set_8 : decode bb_TC_set 8 = .ok (.invokevirtual 138, 3) := by decide +kernel
theorem dd_TC_set_11 : decode bb_TC_set 11 = .ok (.return_, 1) := by decide +kernel
theorem dd_TC_erase_0 : decode bb_TC_erase 0 = .ok (.aload_n 0, 1) := by decide +kernel
theorem dd_TC_erase_1 : decode bb_TC_erase 1 = .ok (.iload_n 1, 1) := by decide +kernel
theorem dd_TC_erase_2 : decode bb_TC_erase 2 = .ok (.iload_n 2, 1) := by decide +kernel
theorem dd_TC_erase_3 : decode bb_TC_erase 3 = .ok (.invokevirtual 84, 3) := by decide +kernel
theorem dd_TC_erase_6 : decode bb_TC_erase 6 = .ok (.iload_n 2, 1) := by decide +kernel
theorem dd_TC_erase_7 : decode bb_TC_erase 7 = .ok (.invokevirtual 142, 3) := by decide +kernel
theorem dd_TC_erase_10 : decode bb_TC_erase 10 = .ok (.return_, 1) := by decide +kernel
theorem dd_TC_step_0 : decode bb_TC_step 0 = .ok (.iload_n 1, 1) := by decide +kernel
theorem dd_TC_step_1 : decode bb_TC_step 1 = .ok (.invokestatic 54, 3) := by decide +kernel
theorem dd_TC_step_4 : decode bb_TC_step 4 = .ok (.ifCond .ne 13, 3) := by decide +kernel
theorem dd_TC_step_7 : decode bb_TC_step 7 = .ok (.new 58, 3) := by decide +kernel
theorem dd_TC_step_10 : decode bb_TC_step 10 = .ok (.dup, 1) := by decide +kernel
theorem dd_TC_step_11 : decode bb_TC_step 11 = .ok (.ldc 60, 2) := by decide +kernel
theorem dd_TC_step_13 : decode bb_TC_step 13 = .ok (.invokespecial 62, 3) := by decide +kernel
theorem dd_TC_step_16 : decode bb_TC_step 16 = .ok (.athrow, 1) := by decide +kernel
theorem dd_TC_step_17 : decode bb_TC_step 17 = .ok (.aload_n 0, 1) := by decide +kernel
theorem dd_TC_step_18 : decode bb_TC_step 18 = .ok (.getfield 47, 3) := by decide +kernel
theorem dd_TC_step_21 : decode bb_TC_step 21 = .ok (.iload_n 1, 1) := by decide +kernel
theorem dd_TC_step_22 : decode bb_TC_step 22 = .ok (.aaload, 1) := by decide +kernel
theorem dd_TC_step_23 : decode bb_TC_step 23 = .ok (.astore_n 2, 1) := by decide +kernel
theorem dd_TC_step_24 : decode bb_TC_step 24 = .ok (.aload_n 2, 1) := by decide +kernel
theorem dd_TC_step_25 : decode bb_TC_step 25 = .ok (.getfield 65, 3) := by decide +kernel
theorem dd_TC_step_28 : decode bb_TC_step 28 = .ok (.ifCond .ne 13, 3) := by decide +kernel
theorem dd_TC_step_31 : decode bb_TC_step 31 = .ok (.new 130, 3) := by decide +kernel
theorem dd_TC_step_34 : decode bb_TC_step 34 = .ok (.dup, 1) := by decide +kernel
theorem dd_TC_step_35 : decode bb_TC_step 35 = .ok (.ldc 145, 2) := by decide +kernel
theorem dd_TC_step_37 : decode bb_TC_step 37 = .ok (.invokespecial 134, 3) := by decide +kernel
theorem dd_TC_step_40 : decode bb_TC_step 40 = .ok (.athrow, 1) := by decide +kernel
theorem dd_TC_step_41 : decode bb_TC_step 41 = .ok (.aload_n 2, 1) := by decide +kernel
theorem dd_TC_step_42 : decode bb_TC_step 42 = .ok (.iconst 1, 1) := by decide +kernel
theorem dd_TC_step_43 : decode bb_TC_step 43 = .ok (.putfield 147, 3) := by decide +kernel
theorem dd_TC_step_46 : decode bb_TC_step 46 = .ok (.aload_n 0, 1) := by decide +kernel
theorem dd_TC_step_47 : decode bb_TC_step 47 = .ok (.aload_n 2, 1) := by decide +kernel
theorem dd_TC_step_48 : decode bb_TC_step 48 = .ok (.invokevirtual 150, 3) := by decide +kernel
theorem dd_TC_step_51 : decode bb_TC_step 51 = .ok (.istore_n 3, 1) := by decide +kernel
theorem dd_TC_step_52 : decode bb_TC_step 52 = .ok (.iload_n 3, 1) := by decide +kernel
theorem dd_TC_step_53 : decode bb_TC_step 53 = .ok (.bipush (-2), 2) := by decide +kernel
theorem dd_TC_step_55 : decode bb_TC_step 55 = .ok (.if_icmp .ne 13, 3) := by decide +kernel
theorem dd_TC_step_58 : decode bb_TC_step 58 = .ok (.new 69, 3) := by decide +kernel
theorem dd_TC_step_61 : decode bb_TC_step 61 = .ok (.dup, 1) := by decide +kernel
theorem dd_TC_step_62 : decode bb_TC_step 62 = .ok (.ldc 119, 2) := by decide +kernel
theorem dd_TC_step_64 : decode bb_TC_step 64 = .ok (.invokespecial 73, 3) := by decide +kernel
theorem dd_TC_step_67 : decode bb_TC_step 67 = .ok (.athrow, 1) := by decide +kernel
theorem dd_TC_step_68 : decode bb_TC_step 68 = .ok (.iload_n 3, 1) := by decide +kernel
theorem dd_TC_step_69 : decode bb_TC_step 69 = .ok (.ireturn, 1) := by decide +kernel
theorem dd_TC_kill_0 : decode bb_TC_kill 0 = .ok (.iload_n 1, 1) := by decide +kernel
theorem dd_TC_kill_1 : decode bb_TC_kill 1 = .ok (.invokestatic 54, 3) := by decide +kernel
theorem dd_TC_kill_4 : decode bb_TC_kill 4 = .ok (.ifCond .eq 15, 3) := by decide +kernel
theorem dd_TC_kill_7 : decode bb_TC_kill 7 = .ok (.aload_n 0, 1) := by decide +kernel
theorem dd_TC_kill_8 : decode bb_TC_kill 8 = .ok (.getfield 47, 3) := by decide +kernel
theorem dd_TC_kill_11 : decode bb_TC_kill 11 = .ok (.iload_n 1, 1) := by decide +kernel
theorem dd_TC_kill_12 : decode bb_TC_kill 12 = .ok (.aaload, 1) := by decide +kernel
theorem dd_TC_kill_13 : decode bb_TC_kill 13 = .ok (.getfield 65, 3) := by decide +kernel
theorem dd_TC_kill_16 : decode bb_TC_kill 16 = .ok (.ifCond .ne 5, 3) := by decide +kernel
theorem dd_TC_kill_19 : decode bb_TC_kill 19 = .ok (.iconst 0, 1) := by decide +kernel
theorem dd_TC_kill_20 : decode bb_TC_kill 20 = .ok (.ireturn, 1) := by decide +kernel
theorem dd_TC_kill_21 : decode bb_TC_kill 21 = .ok (.aload_n 0, 1) := by decide +kernel
theorem dd_TC_kill_22 : decode bb_TC_kill 22 = .ok (.getfield 47, 3) := by decide +kernel
theorem dd_TC_kill_25 : decode bb_TC_kill 25 = .ok (.iload_n 1, 1) := by decide +kernel
theorem dd_TC_kill_26 : decode bb_TC_kill 26 = .ok (.aaload, 1) := by decide +kernel
theorem dd_TC_kill_27 : decode bb_TC_kill 27 = .ok (.invokevirtual 154, 3) := by decide +kernel
theorem dd_TC_kill_30 : decode bb_TC_kill 30 = .ok (.iconst 1, 1) := by decide +kernel
theorem dd_TC_kill_31 : decode bb_TC_kill 31 = .ok (.ireturn, 1) := by decide +kernel
theorem dd_TC_clear_0 : decode bb_TC_clear 0 = .ok (.iload_n 1, 1) := by decide +kernel
theorem dd_TC_clear_1 : decode bb_TC_clear 1 = .ok (.invokestatic 157, 3) := by decide +kernel
theorem dd_TC_clear_4 : decode bb_TC_clear 4 = .ok (.ifCond .ne 13, 3) := by decide +kernel
theorem dd_TC_clear_7 : decode bb_TC_clear 7 = .ok (.new 58, 3) := by decide +kernel
theorem dd_TC_clear_10 : decode bb_TC_clear 10 = .ok (.dup, 1) := by decide +kernel
theorem dd_TC_clear_11 : decode bb_TC_clear 11 = .ok (.ldc 160, 2) := by decide +kernel
theorem dd_TC_clear_13 : decode bb_TC_clear 13 = .ok (.invokespecial 62, 3) := by decide +kernel
theorem dd_TC_clear_16 : decode bb_TC_clear 16 = .ok (.athrow, 1) := by decide +kernel
theorem dd_TC_clear_17 : decode bb_TC_clear 17 = .ok (.aload_n 0, 1) := by decide +kernel
theorem dd_TC_clear_18 : decode bb_TC_clear 18 = .ok (.getfield 38, 3) := by decide +kernel
theorem dd_TC_clear_21 : decode bb_TC_clear 21 = .ok (.iload_n 1, 1) := by decide +kernel
theorem dd_TC_clear_22 : decode bb_TC_clear 22 = .ok (.aaload, 1) := by decide +kernel
theorem dd_TC_clear_23 : decode bb_TC_clear 23 = .ok (.getfield 95, 3) := by decide +kernel
theorem dd_TC_clear_26 : decode bb_TC_clear 26 = .ok (.getfield 99, 3) := by decide +kernel
theorem dd_TC_clear_29 : decode bb_TC_clear 29 = .ok (.ifCond .ne 13, 3) := by decide +kernel
theorem dd_TC_clear_32 : decode bb_TC_clear 32 = .ok (.new 69, 3) := by decide +kernel
theorem dd_TC_clear_35 : decode bb_TC_clear 35 = .ok (.dup, 1) := by decide +kernel
theorem dd_TC_clear_36 : decode bb_TC_clear 36 = .ok (.ldc 102, 2) := by decide +kernel
theorem dd_TC_clear_38 : decode bb_TC_clear 38 = .ok (.invokespecial 73, 3) := by decide +kernel
theorem dd_TC_clear_41 : decode bb_TC_clear 41 = .ok (.athrow, 1) := by decide +kernel
theorem dd_TC_clear_42 : decode bb_TC_clear 42 = .ok (.aload_n 0, 1) := by decide +kernel
theorem dd_TC_clear_43 : decode bb_TC_clear 43 = .ok (.aload_n 0, 1) := by decide +kernel
theorem dd_TC_clear_44 : decode bb_TC_clear 44 = .ok (.getfield 38, 3) := by decide +kernel
theorem dd_TC_clear_47 : decode bb_TC_clear 47 = .ok (.iload_n 1, 1) := by decide +kernel
theorem dd_TC_clear_48 : decode bb_TC_clear 48 = .ok (.aaload, 1) := by decide +kernel
theorem dd_TC_clear_49 : decode bb_TC_clear 49 = .ok (.invokevirtual 115, 3) := by decide +kernel
theorem dd_TC_clear_52 : decode bb_TC_clear 52 = .ok (.istore_n 2, 1) := by decide +kernel
theorem dd_TC_clear_53 : decode bb_TC_clear 53 = .ok (.iload_n 2, 1) := by decide +kernel
theorem dd_TC_clear_54 : decode bb_TC_clear 54 = .ok (.bipush (-2), 2) := by decide +kernel
theorem dd_TC_clear_56 : decode bb_TC_clear 56 = .ok (.if_icmp .ne 13, 3) := by decide +kernel
theorem dd_TC_clear_59 : decode bb_TC_clear 59 = .ok (.new 69, 3) := by decide +kernel
theorem dd_TC_clear_62 : decode bb_TC_clear 62 = .ok (.dup, 1) := by decide +kernel
theorem dd_TC_clear_63 : decode bb_TC_clear 63 = .ok (.ldc 119, 2) := by decide +kernel
theorem dd_TC_clear_65 : decode bb_TC_clear 65 = .ok (.invokespecial 73, 3) := by decide +kernel
theorem dd_TC_clear_68 : decode bb_TC_clear 68 = .ok (.athrow, 1) := by decide +kernel
theorem dd_TC_clear_69 : decode bb_TC_clear 69 = .ok (.iload_n 2, 1) := by decide +kernel
theorem dd_TC_clear_70 : decode bb_TC_clear 70 = .ok (.ireturn, 1) := by decide +kernel
theorem dd_TC_tick_0 : decode bb_TC_tick 0 = .ok (.iload_n 1, 1) := by decide +kernel
theorem dd_TC_tick_1 : decode bb_TC_tick 1 = .ok (.ifCond .lt 9, 3) := by decide +kernel
theorem dd_TC_tick_4 : decode bb_TC_tick 4 = .ok (.iload_n 1, 1) := by decide +kernel
theorem dd_TC_tick_5 : decode bb_TC_tick 5 = .ok (.bipush 50, 2) := by decide +kernel
theorem dd_TC_tick_7 : decode bb_TC_tick 7 = .ok (.if_icmp .le 5, 3) := by decide +kernel
theorem dd_TC_tick_10 : decode bb_TC_tick 10 = .ok (.iconst (-1), 1) := by decide +kernel
theorem dd_TC_tick_11 : decode bb_TC_tick 11 = .ok (.ireturn, 1) := by decide +kernel
theorem dd_TC_tick_12 : decode bb_TC_tick 12 = .ok (.aload_n 0, 1) := by decide +kernel
theorem dd_TC_tick_13 : decode bb_TC_tick 13 = .ok (.dup, 1) := by decide +kernel
theorem dd_TC_tick_14 : decode bb_TC_tick 14 = .ok (.getfield 162, 3) := by decide +kernel
theorem dd_TC_tick_17 : decode bb_TC_tick 17 = .ok (.iload_n 1, 1) := by decide +kernel
theorem dd_TC_tick_18 : decode bb_TC_tick 18 = .ok (.iadd, 1) := by decide +kernel
theorem dd_TC_tick_19 : decode bb_TC_tick 19 = .ok (.putfield 162, 3) := by decide +kernel
theorem dd_TC_tick_22 : decode bb_TC_tick 22 = .ok (.aload_n 0, 1) := by decide +kernel
theorem dd_TC_tick_23 : decode bb_TC_tick 23 = .ok (.getfield 162, 3) := by decide +kernel
theorem dd_TC_tick_26 : decode bb_TC_tick 26 = .ok (.ireturn, 1) := by decide +kernel
theorem dd_TC_crash_0 : decode bb_TC_crash 0 = .ok (.iload_n 1, 1) := by decide +kernel
theorem dd_TC_crash_1 : decode bb_TC_crash 1 = .ok (.invokestatic 165, 3) := by decide +kernel
theorem dd_TC_crash_4 : decode bb_TC_crash 4 = .ok (.ifCond .eq 15, 3) := by decide +kernel
theorem dd_TC_crash_7 : decode bb_TC_crash 7 = .ok (.aload_n 0, 1) := by decide +kernel
theorem dd_TC_crash_8 : decode bb_TC_crash 8 = .ok (.getfield 31, 3) := by decide +kernel
theorem dd_TC_crash_11 : decode bb_TC_crash 11 = .ok (.iload_n 1, 1) := by decide +kernel
theorem dd_TC_crash_12 : decode bb_TC_crash 12 = .ok (.aaload, 1) := by decide +kernel
theorem dd_TC_crash_13 : decode bb_TC_crash 13 = .ok (.getfield 99, 3) := by decide +kernel
theorem dd_TC_crash_16 : decode bb_TC_crash 16 = .ok (.ifCond .ne 5, 3) := by decide +kernel
theorem dd_TC_crash_19 : decode bb_TC_crash 19 = .ok (.iconst 0, 1) := by decide +kernel
theorem dd_TC_crash_20 : decode bb_TC_crash 20 = .ok (.ireturn, 1) := by decide +kernel
theorem dd_TC_crash_21 : decode bb_TC_crash 21 = .ok (.aload_n 0, 1) := by decide +kernel
theorem dd_TC_crash_22 : decode bb_TC_crash 22 = .ok (.getfield 31, 3) := by decide +kernel
theorem dd_TC_crash_25 : decode bb_TC_crash 25 = .ok (.iload_n 1, 1) := by decide +kernel
theorem dd_TC_crash_26 : decode bb_TC_crash 26 = .ok (.aaload, 1) := by decide +kernel
theorem dd_TC_crash_27 : decode bb_TC_crash 27 = .ok (.iconst 0, 1) := by decide +kernel
theorem dd_TC_crash_28 : decode bb_TC_crash 28 = .ok (.putfield 99, 3) := by decide +kernel
theorem dd_TC_crash_31 : decode bb_TC_crash 31 = .ok (.iconst 1, 1) := by decide +kernel
theorem dd_TC_crash_32 : decode bb_TC_crash 32 = .ok (.ireturn, 1) := by decide +kernel
theorem dd_TC_recover_0 : decode bb_TC_recover 0 = .ok (.iload_n 1, 1) := by decide +kernel
theorem dd_TC_recover_1 : decode bb_TC_recover 1 = .ok (.invokestatic 165, 3) := by decide +kernel
theorem dd_TC_recover_4 : decode bb_TC_recover 4 = .ok (.ifCond .eq 15, 3) := by decide +kernel
theorem dd_TC_recover_7 : decode bb_TC_recover 7 = .ok (.aload_n 0, 1) := by decide +kernel
theorem dd_TC_recover_8 : decode bb_TC_recover 8 = .ok (.getfield 31, 3) := by decide +kernel
theorem dd_TC_recover_11 : decode bb_TC_recover 11 = .ok (.iload_n 1, 1) := by decide +kernel
theorem dd_TC_recover_12 : decode bb_TC_recover 12 = .ok (.aaload, 1) := by decide +kernel
theorem dd_TC_recover_13 : decode bb_TC_recover 13 = .ok (.getfield 99, 3) := by decide +kernel
theorem dd_TC_recover_16 : decode bb_TC_recover 16 = .ok (.ifCond .eq 5, 3) := by decide +kernel
theorem dd_TC_recover_19 : decode bb_TC_recover 19 = .ok (.iconst 0, 1) := by decide +kernel
theorem dd_TC_recover_20 : decode bb_TC_recover 20 = .ok (.ireturn, 1) := by decide +kernel
theorem dd_TC_recover_21 : decode bb_TC_recover 21 = .ok (.aload_n 0, 1) := by decide +kernel
theorem dd_TC_recover_22 : decode bb_TC_recover 22 = .ok (.getfield 31, 3) := by decide +kernel
theorem dd_TC_recover_25 : decode bb_TC_recover 25 = .ok (.iload_n 1, 1) := by decide +kernel
theorem dd_TC_recover_26 : decode bb_TC_recover 26 = .ok (.aaload, 1) := by decide +kernel
theorem dd_TC_recover_27 : decode bb_TC_recover 27 = .ok (.invokevirtual 168, 3) := by decide +kernel
theorem dd_TC_recover_30 : decode bb_TC_recover 30 = .ok (.iconst 1, 1) := by decide +kernel
theorem dd_TC_recover_31 : decode bb_TC_recover 31 = .ok (.ireturn, 1) := by decide +kernel
theorem dd_TC_fail_0 : decode bb_TC_fail 0 = .ok (.iload_n 1, 1) := by decide +kernel
theorem dd_TC_fail_1 : decode bb_TC_fail 1 = .ok (.invokestatic 165, 3) := by decide +kernel
theorem dd_TC_fail_4 : decode bb_TC_fail 4 = .ok (.ifCond .eq 13, 3) := by decide +kernel
theorem dd_TC_fail_7 : decode bb_TC_fail 7 = .ok (.iload_n 2, 1) := by decide +kernel
theorem dd_TC_fail_8 : decode bb_TC_fail 8 = .ok (.ifCond .lt 9, 3) := by decide +kernel
theorem dd_TC_fail_11 : decode bb_TC_fail 11 = .ok (.iload_n 2, 1) := by decide +kernel
theorem dd_TC_fail_12 : decode bb_TC_fail 12 = .ok (.bipush 20, 2) := by decide +kernel
theorem dd_TC_fail_14 : decode bb_TC_fail 14 = .ok (.if_icmp .le 5, 3) := by decide +kernel
theorem dd_TC_fail_17 : decode bb_TC_fail 17 = .ok (.iconst 0, 1) := by decide +kernel
theorem dd_TC_fail_18 : decode bb_TC_fail 18 = .ok (.ireturn, 1) := by decide +kernel
theorem dd_TC_fail_19 : decode bb_TC_fail 19 = .ok (.aload_n 0, 1) := by decide +kernel
theorem dd_TC_fail_20 : decode bb_TC_fail 20 = .ok (.getfield 31, 3) := by decide +kernel
theorem dd_TC_fail_23 : decode bb_TC_fail 23 = .ok (.iload_n 1, 1) := by decide +kernel
theorem dd_TC_fail_24 : decode bb_TC_fail 24 = .ok (.aaload, 1) := by decide +kernel
theorem dd_TC_fail_25 : decode bb_TC_fail 25 = .ok (.iload_n 2, 1) := by decide +kernel
theorem dd_TC_fail_26 : decode bb_TC_fail 26 = .ok (.iload_n 3, 1) := by decide +kernel
theorem dd_TC_fail_27 : decode bb_TC_fail 27 = .ok (.invokevirtual 171, 3) := by decide +kernel
theorem dd_TC_fail_30 : decode bb_TC_fail 30 = .ok (.iconst 1, 1) := by decide +kernel
theorem dd_TC_fail_31 : decode bb_TC_fail 31 = .ok (.ireturn, 1) := by decide +kernel
theorem dd_TC_failOracle_0 : decode bb_TC_failOracle 0 = .ok (.aload_n 0, 1) := by decide +kernel
theorem dd_TC_failOracle_1 : decode bb_TC_failOracle 1 = .ok (.getfield 25, 3) := by decide +kernel
theorem dd_TC_failOracle_4 : decode bb_TC_failOracle 4 = .ok (.invokevirtual 175, 3) := by decide +kernel
theorem dd_TC_failOracle_7 : decode bb_TC_failOracle 7 = .ok (.ireturn, 1) := by decide +kernel
theorem dd_TC_sweep_0 : decode bb_TC_sweep 0 = .ok (.aload_n 0, 1) := by decide +kernel
theorem dd_TC_sweep_1 : decode bb_TC_sweep 1 = .ok (.iload_n 1, 1) := by decide +kernel
theorem dd_TC_sweep_2 : decode bb_TC_sweep 2 = .ok (.invokevirtual 178, 3) := by decide +kernel
theorem dd_TC_sweep_5 : decode bb_TC_sweep 5 = .ok (.ifCond .ne 5, 3) := by decide +kernel
theorem dd_TC_sweep_8 : decode bb_TC_sweep 8 = .ok (.iconst (-1), 1) := by decide +kernel
theorem dd_TC_sweep_9 : decode bb_TC_sweep 9 = .ok (.ireturn, 1) := by decide +kernel
theorem dd_TC_sweep_10 : decode bb_TC_sweep 10 = .ok (.iconst 0, 1) := by decide +kernel
theorem dd_TC_sweep_11 : decode bb_TC_sweep 11 = .ok (.istore_n 2, 1) := by decide +kernel
theorem dd_TC_sweep_12 : decode bb_TC_sweep 12 = .ok (.iconst 0, 1) := by decide +kernel
theorem dd_TC_sweep_13 : decode bb_TC_sweep 13 = .ok (.istore_n 3, 1) := by decide +kernel
theorem dd_TC_sweep_14 : decode bb_TC_sweep 14 = .ok (.iload_n 3, 1) := by decide +kernel
theorem dd_TC_sweep_15 : decode bb_TC_sweep 15 = .ok (.iconst 3, 1) := by decide +kernel
theorem dd_TC_sweep_16 : decode bb_TC_sweep 16 = .ok (.if_icmp .ge 36, 3) := by decide +kernel
theorem dd_TC_sweep_19 : decode bb_TC_sweep 19 = .ok (.aload_n 0, 1) := by decide +kernel
theorem dd_TC_sweep_20 : decode bb_TC_sweep 20 = .ok (.iload_n 3, 1) := by decide +kernel
theorem dd_TC_sweep_21 : decode bb_TC_sweep 21 = .ok (.iload_n 1, 1) := by decide +kernel
theorem dd_TC_sweep_22 : decode bb_TC_sweep 22 = .ok (.invokevirtual 181, 3) := by decide +kernel
theorem dd_TC_sweep_25 : decode bb_TC_sweep 25 = .ok (.ifCond .eq 6, 3) := by decide +kernel
theorem dd_TC_sweep_28 : decode bb_TC_sweep 28 = .ok (.iinc 2 1, 3) := by decide +kernel
theorem dd_TC_sweep_31 : decode bb_TC_sweep 31 = .ok (.aload_n 0, 1) := by decide +kernel
theorem dd_TC_sweep_32 : decode bb_TC_sweep 32 = .ok (.getfield 31, 3) := by decide +kernel
theorem dd_TC_sweep_35 : decode bb_TC_sweep 35 = .ok (.iload_n 3, 1) := by decide +kernel
theorem dd_TC_sweep_36 : decode bb_TC_sweep 36 = .ok (.aaload, 1) := by decide +kernel
theorem dd_TC_sweep_37 : decode bb_TC_sweep 37 = .ok (.getfield 99, 3) := by decide +kernel
theorem dd_TC_sweep_40 : decode bb_TC_sweep 40 = .ok (.ifCond .ne 6, 3) := by decide +kernel
theorem dd_TC_sweep_43 : decode bb_TC_sweep 43 = .ok (.goto 9, 3) := by decide +kernel
theorem dd_TC_sweep_46 : decode bb_TC_sweep 46 = .ok (.iinc 3 1, 3) := by decide +kernel
theorem dd_TC_sweep_49 : decode bb_TC_sweep 49 = .ok (.goto (-35), 3) := by decide +kernel
theorem dd_TC_sweep_52 : decode bb_TC_sweep 52 = .ok (.iload_n 2, 1) := by decide +kernel
theorem dd_TC_sweep_53 : decode bb_TC_sweep 53 = .ok (.ireturn, 1) := by decide +kernel
theorem dd_TC_transaction_0 : decode bb_TC_transaction 0 = .ok (.iload_n 1, 1) := by decide +kernel
theorem dd_TC_transaction_1 : decode bb_TC_transaction 1 = .ok (.invokestatic 54, 3) := by decide +kernel
theorem dd_TC_transaction_4 : decode bb_TC_transaction 4 = .ok (.ifCond .eq 16, 3) := by decide +kernel
theorem dd_TC_transaction_7 : decode bb_TC_transaction 7 = .ok (.aload_n 0, 1) := by decide +kernel
theorem dd_TC_transaction_8 : decode bb_TC_transaction 8 = .ok (.getfield 47, 3) := by decide +kernel
theorem dd_TC_transaction_11 : decode bb_TC_transaction 11 = .ok (.iload_n 1, 1) := by decide +kernel
theorem dd_TC_transaction_12 : decode bb_TC_transaction 12 = .ok (.aaload, 1) := by decide +kernel
theorem dd_TC_transaction_13 : decode bb_TC_transaction 13 = .ok (.iload_n 2, 1) := by decide +kernel
theorem dd_TC_transaction_14 : decode bb_TC_transaction 14 = .ok (.invokevirtual 185, 3) := by decide +kernel
theorem dd_TC_transaction_17 : decode bb_TC_transaction 17 = .ok (.goto 4, 3) := by decide +kernel
theorem dd_TC_transaction_20 : decode bb_TC_transaction 20 = .ok (.iconst (-1), 1) := by decide +kernel
theorem dd_TC_transaction_21 : decode bb_TC_transaction 21 = .ok (.ireturn, 1) := by decide +kernel
theorem dd_TC_lock_0 : decode bb_TC_lock 0 = .ok (.iload_n 1, 1) := by decide +kernel
theorem dd_TC_lock_1 : decode bb_TC_lock 1 = .ok (.invokestatic 157, 3) := by decide +kernel
theorem dd_TC_lock_4 : decode bb_TC_lock 4 = .ok (.ifCond .eq 18, 3) := by decide +kernel
theorem dd_TC_lock_7 : decode bb_TC_lock 7 = .ok (.aload_n 0, 1) := by decide +kernel
theorem dd_TC_lock_8 : decode bb_TC_lock 8 = .ok (.getfield 38, 3) := by decide +kernel
theorem dd_TC_lock_11 : decode bb_TC_lock 11 = .ok (.iload_n 1, 1) := by decide +kernel
theorem dd_TC_lock_12 : decode bb_TC_lock 12 = .ok (.aaload, 1) := by decide +kernel
theorem dd_TC_lock_13 : decode bb_TC_lock 13 = .ok (.getfield 95, 3) := by decide +kernel
theorem dd_TC_lock_16 : decode bb_TC_lock 16 = .ok (.getfield 99, 3) := by decide +kernel
theorem dd_TC_lock_19 : decode bb_TC_lock 19 = .ok (.ifCond .ne 5, 3) := by decide +kernel
theorem dd_TC_lock_22 : decode bb_TC_lock 22 = .ok (.iconst (-1), 1) := by decide +kernel
theorem dd_TC_lock_23 : decode bb_TC_lock 23 = .ok (.ireturn, 1) := by decide +kernel
theorem dd_TC_lock_24 : decode bb_TC_lock 24 = .ok (.aload_n 0, 1) := by decide +kernel
theorem dd_TC_lock_25 : decode bb_TC_lock 25 = .ok (.getfield 38, 3) := by decide +kernel
theorem dd_TC_lock_28 : decode bb_TC_lock 28 = .ok (.iload_n 1, 1) := by decide +kernel
theorem dd_TC_lock_29 : decode bb_TC_lock 29 = .ok (.aaload, 1) := by decide +kernel
theorem dd_TC_lock_30 : decode bb_TC_lock 30 = .ok (.getfield 188, 3) := by decide +kernel
theorem dd_TC_lock_33 : decode bb_TC_lock 33 = .ok (.astore_n 3, 1) := by decide +kernel
theorem dd_TC_lock_34 : decode bb_TC_lock 34 = .ok (.aload_n 3, 1) := by decide +kernel
theorem dd_TC_lock_35 : decode bb_TC_lock 35 = .ok (.ifnonnull 5, 3) := by decide +kernel
theorem dd_TC_lock_38 : decode bb_TC_lock 38 = .ok (.iconst (-1), 1) := by decide +kernel
theorem dd_TC_lock_39 : decode bb_TC_lock 39 = .ok (.ireturn, 1) := by decide +kernel
theorem dd_TC_lock_40 : decode bb_TC_lock 40 = .ok (.iload_n 2, 1) := by decide +kernel
theorem dd_TC_lock_41 : decode bb_TC_lock 41 = .ok (.iconst 4, 1) := by decide +kernel
theorem dd_TC_lock_42 : decode bb_TC_lock 42 = .ok (.if_icmp .ne 14, 3) := by decide +kernel
theorem dd_TC_lock_45 : decode bb_TC_lock 45 = .ok (.aload_n 0, 1) := by decide +kernel
theorem dd_TC_lock_46 : decode bb_TC_lock 46 = .ok (.aload_n 3, 1) := by decide +kernel
theorem dd_TC_lock_47 : decode bb_TC_lock 47 = .ok (.invokevirtual 192, 3) := by decide +kernel
theorem dd_TC_lock_50 : decode bb_TC_lock 50 = .ok (.invokestatic 196, 3) := by decide +kernel
theorem dd_TC_lock_53 : decode bb_TC_lock 53 = .ok (.goto 8, 3) := by decide +kernel
theorem dd_TC_lock_56 : decode bb_TC_lock 56 = .ok (.aload_n 3, 1) := by decide +kernel
theorem dd_TC_lock_57 : decode bb_TC_lock 57 = .ok (.iload_n 2, 1) := by decide +kernel
theorem dd_TC_lock_58 : decode bb_TC_lock 58 = .ok (.invokevirtual 200, 3) := by decide +kernel
theorem dd_TC_lock_61 : decode bb_TC_lock 61 = .ok (.ireturn, 1) := by decide +kernel
theorem dd_TC_record_0 : decode bb_TC_record 0 = .ok (.iload_n 1, 1) := by decide +kernel
theorem dd_TC_record_1 : decode bb_TC_record 1 = .ok (.invokestatic 157, 3) := by decide +kernel
theorem dd_TC_record_4 : decode bb_TC_record 4 = .ok (.ifCond .eq 18, 3) := by decide +kernel
theorem dd_TC_record_7 : decode bb_TC_record 7 = .ok (.aload_n 0, 1) := by decide +kernel
theorem dd_TC_record_8 : decode bb_TC_record 8 = .ok (.getfield 38, 3) := by decide +kernel
theorem dd_TC_record_11 : decode bb_TC_record 11 = .ok (.iload_n 1, 1) := by decide +kernel
theorem dd_TC_record_12 : decode bb_TC_record 12 = .ok (.aaload, 1) := by decide +kernel
theorem dd_TC_record_13 : decode bb_TC_record 13 = .ok (.getfield 95, 3) := by decide +kernel
theorem dd_TC_record_16 : decode bb_TC_record 16 = .ok (.getfield 99, 3) := by decide +kernel
theorem dd_TC_record_19 : decode bb_TC_record 19 = .ok (.ifCond .ne 5, 3) := by decide +kernel
theorem dd_TC_record_22 : decode bb_TC_record 22 = .ok (.iconst (-1), 1) := by decide +kernel
theorem dd_TC_record_23 : decode bb_TC_record 23 = .ok (.ireturn, 1) := by decide +kernel
theorem dd_TC_record_24 : decode bb_TC_record 24 = .ok (.aload_n 0, 1) := by decide +kernel
theorem dd_TC_record_25 : decode bb_TC_record 25 = .ok (.getfield 38, 3) := by decide +kernel
theorem dd_TC_record_28 : decode bb_TC_record 28 = .ok (.iload_n 1, 1) := by decide +kernel
theorem dd_TC_record_29 : decode bb_TC_record 29 = .ok (.aaload, 1) := by decide +kernel
theorem dd_TC_record_30 : decode bb_TC_record 30 = .ok (.iload_n 2, 1) := by decide +kernel
theorem dd_TC_record_31 : decode bb_TC_record 31 = .ok (.invokevirtual 203, 3) := by decide +kernel
theorem dd_TC_record_34 : decode bb_TC_record 34 = .ok (.astore 4, 2) := by decide +kernel
theorem dd_TC_record_36 : decode bb_TC_record 36 = .ok (.aload 4, 2) := by decide +kernel
theorem dd_TC_record_38 : decode bb_TC_record 38 = .ok (.ifnonnull 7, 3) := by decide +kernel
theorem dd_TC_record_41 : decode bb_TC_record 41 = .ok (.iconst (-1), 1) := by decide +kernel
theorem dd_TC_record_42 : decode bb_TC_record 42 = .ok (.goto 9, 3) := by decide +kernel
theorem dd_TC_record_45 : decode bb_TC_record 45 = .ok (.aload 4, 2) := by decide +kernel
theorem dd_TC_record_47 : decode bb_TC_record 47 = .ok (.iload_n 3, 1) := by decide +kernel
theorem dd_TC_record_48 : decode bb_TC_record 48 = .ok (.invokevirtual 206, 3) := by decide +kernel
theorem dd_TC_record_51 : decode bb_TC_record 51 = .ok (.ireturn, 1) := by decide +kernel
theorem dd_TC_tablet_0 : decode bb_TC_tablet 0 = .ok (.iload_n 1, 1) := by decide +kernel
theorem dd_TC_tablet_1 : decode bb_TC_tablet 1 = .ok (.invokestatic 165, 3) := by decide +kernel
theorem dd_TC_tablet_4 : decode bb_TC_tablet 4 = .ok (.ifCond .eq 16, 3) := by decide +kernel
theorem dd_TC_tablet_7 : decode bb_TC_tablet 7 = .ok (.aload_n 0, 1) := by decide +kernel
theorem dd_TC_tablet_8 : decode bb_TC_tablet 8 = .ok (.getfield 31, 3) := by decide +kernel
theorem dd_TC_tablet_11 : decode bb_TC_tablet 11 = .ok (.iload_n 1, 1) := by decide +kernel
theorem dd_TC_tablet_12 : decode bb_TC_tablet 12 = .ok (.aaload, 1) := by decide +kernel
theorem dd_TC_tablet_13 : decode bb_TC_tablet 13 = .ok (.iload_n 2, 1) := by decide +kernel
theorem dd_TC_tablet_14 : decode bb_TC_tablet 14 = .ok (.invokevirtual 207, 3) := by decide +kernel
theorem dd_TC_tablet_17 : decode bb_TC_tablet 17 = .ok (.goto 4, 3) := by decide +kernel
theorem dd_TC_tablet_20 : decode bb_TC_tablet 20 = .ok (.iconst (-1), 1) := by decide +kernel
theorem dd_TC_tablet_21 : decode bb_TC_tablet 21 = .ok (.ireturn, 1) := by decide +kernel
theorem dd_TC_oracle_0 : decode bb_TC_oracle 0 = .ok (.iload_n 1, 1) := by decide +kernel
theorem dd_TC_oracle_1 : decode bb_TC_oracle 1 = .ok (.tableswitch 48 0 2 #[27, 35, 43], 27) := by decide +kernel
theorem dd_TC_oracle_28 : decode bb_TC_oracle 28 = .ok (.aload_n 0, 1) := by decide +kernel
theorem dd_TC_oracle_29 : decode bb_TC_oracle 29 = .ok (.getfield 25, 3) := by decide +kernel
theorem dd_TC_oracle_32 : decode bb_TC_oracle 32 = .ok (.getfield 208, 3) := by decide +kernel
theorem dd_TC_oracle_35 : decode bb_TC_oracle 35 = .ok (.ireturn, 1) := by decide +kernel
theorem dd_TC_oracle_36 : decode bb_TC_oracle 36 = .ok (.aload_n 0, 1) := by decide +kernel
theorem dd_TC_oracle_37 : decode bb_TC_oracle 37 = .ok (.getfield 25, 3) := by decide +kernel
theorem dd_TC_oracle_40 : decode bb_TC_oracle 40 = .ok (.getfield 211, 3) := by decide +kernel
theorem dd_TC_oracle_43 : decode bb_TC_oracle 43 = .ok (.ireturn, 1) := by decide +kernel
theorem dd_TC_oracle_44 : decode bb_TC_oracle 44 = .ok (.aload_n 0, 1) := by decide +kernel
theorem dd_TC_oracle_45 : decode bb_TC_oracle 45 = .ok (.getfield 162, 3) := by decide +kernel
theorem dd_TC_oracle_48 : decode bb_TC_oracle 48 = .ok (.ireturn, 1) := by decide +kernel
theorem dd_TC_oracle_49 : decode bb_TC_oracle 49 = .ok (.iconst (-1), 1) := by decide +kernel
theorem dd_TC_oracle_50 : decode bb_TC_oracle 50 = .ok (.ireturn, 1) := by decide +kernel
theorem dd_TC_readingTransaction_0 : decode bb_TC_readingTransaction 0 = .ok (.iload_n 1, 1) := by decide +kernel
theorem dd_TC_readingTransaction_1 : decode bb_TC_readingTransaction 1 = .ok (.invokestatic 54, 3) := by decide +kernel
theorem dd_TC_readingTransaction_4 : decode bb_TC_readingTransaction 4 = .ok (.ifCond .eq 10, 3) := by decide +kernel
theorem dd_TC_readingTransaction_7 : decode bb_TC_readingTransaction 7 = .ok (.iload_n 2, 1) := by decide +kernel
theorem dd_TC_readingTransaction_8 : decode bb_TC_readingTransaction 8 = .ok (.invokestatic 157, 3) := by decide +kernel
theorem dd_TC_readingTransaction_11 : decode bb_TC_readingTransaction 11 = .ok (.ifCond .ne 13, 3) := by decide +kernel
theorem dd_TC_readingTransaction_14 : decode bb_TC_readingTransaction 14 = .ok (.new 58, 3) := by decide +kernel
theorem dd_TC_readingTransaction_17 : decode bb_TC_readingTransaction 17 = .ok (.dup, 1) := by decide +kernel
theorem dd_TC_readingTransaction_18 : decode bb_TC_readingTransaction 18 = .ok (.ldc 214, 2) := by decide +kernel
theorem dd_TC_readingTransaction_20 : decode bb_TC_readingTransaction 20 = .ok (.invokespecial 62, 3) := by decide +kernel
theorem dd_TC_readingTransaction_23 : decode bb_TC_readingTransaction 23 = .ok (.athrow, 1) := by decide +kernel
theorem dd_TC_readingTransaction_24 : decode bb_TC_readingTransaction 24 = .ok (.aload_n 0, 1) := by decide +kernel
theorem dd_TC_readingTransaction_25 : decode bb_TC_readingTransaction 25 = .ok (.getfield 47, 3) := by decide +kernel
theorem dd_TC_readingTransaction_28 : decode bb_TC_readingTransaction 28 = .ok (.iload_n 1, 1) := by decide +kernel
theorem dd_TC_readingTransaction_29 : decode bb_TC_readingTransaction 29 = .ok (.aaload, 1) := by decide +kernel
theorem dd_TC_readingTransaction_30 : decode bb_TC_readingTransaction 30 = .ok (.astore_n 3, 1) := by decide +kernel
theorem dd_TC_readingTransaction_31 : decode bb_TC_readingTransaction 31 = .ok (.aload_n 3, 1) := by decide +kernel
theorem dd_TC_readingTransaction_32 : decode bb_TC_readingTransaction 32 = .ok (.getfield 65, 3) := by decide +kernel
theorem dd_TC_readingTransaction_35 : decode bb_TC_readingTransaction 35 = .ok (.ifCond .eq 10, 3) := by decide +kernel
theorem dd_TC_readingTransaction_38 : decode bb_TC_readingTransaction 38 = .ok (.aload_n 3, 1) := by decide +kernel
theorem dd_TC_readingTransaction_39 : decode bb_TC_readingTransaction 39 = .ok (.getfield 147, 3) := by decide +kernel
theorem dd_TC_readingTransaction_42 : decode bb_TC_readingTransaction 42 = .ok (.ifCond .eq 13, 3) := by decide +kernel
theorem dd_TC_readingTransaction_45 : decode bb_TC_readingTransaction 45 = .ok (.new 69, 3) := by decide +kernel
theorem dd_TC_readingTransaction_48 : decode bb_TC_readingTransaction 48 = .ok (.dup, 1) := by decide +kernel
theorem dd_TC_readingTransaction_49 : decode bb_TC_readingTransaction 49 = .ok (.ldc 216, 2) := by decide +kernel
theorem dd_TC_readingTransaction_51 : decode bb_TC_readingTransaction 51 = .ok (.invokespecial 73, 3) := by decide +kernel
theorem dd_TC_readingTransaction_54 : decode bb_TC_readingTransaction 54 = .ok (.athrow, 1) := by decide +kernel
theorem dd_TC_readingTransaction_55 : decode bb_TC_readingTransaction 55 = .ok (.aload_n 3, 1) := by decide +kernel
theorem dd_TC_readingTransaction_56 : decode bb_TC_readingTransaction 56 = .ok (.areturn, 1) := by decide +kernel
theorem dd_TC_advance_0 : decode bb_TC_advance 0 = .ok (.aload_n 1, 1) := by decide +kernel
theorem dd_TC_advance_1 : decode bb_TC_advance 1 = .ok (.getfield 218, 3) := by decide +kernel
theorem dd_TC_advance_4 : decode bb_TC_advance 4 = .ok (.ifCond .ne 10, 3) := by decide +kernel
theorem dd_TC_advance_7 : decode bb_TC_advance 7 = .ok (.aload_n 1, 1) := by decide +kernel
theorem dd_TC_advance_8 : decode bb_TC_advance 8 = .ok (.invokevirtual 154, 3) := by decide +kernel
theorem dd_TC_advance_11 : decode bb_TC_advance 11 = .ok (.bipush 7, 2) := by decide +kernel
theorem dd_TC_advance_13 : decode bb_TC_advance 13 = .ok (.ireturn, 1) := by decide +kernel
theorem dd_TC_advance_14 : decode bb_TC_advance 14 = .ok (.aload_n 1, 1) := by decide +kernel
theorem dd_TC_advance_15 : decode bb_TC_advance 15 = .ok (.getfield 221, 3) := by decide +kernel
theorem dd_TC_advance_18 : decode bb_TC_advance 18 = .ok (.aload_n 1, 1) := by decide +kernel
theorem dd_TC_advance_19 : decode bb_TC_advance 19 = .ok (.getfield 218, 3) := by decide +kernel
theorem dd_TC_advance_22 : decode bb_TC_advance 22 = .ok (.if_icmp .eq 9, 3) := by decide +kernel
theorem dd_TC_advance_25 : decode bb_TC_advance 25 = .ok (.aload_n 0, 1) := by decide +kernel
theorem dd_TC_advance_26 : decode bb_TC_advance 26 = .ok (.aload_n 1, 1) := by decide +kernel
theorem dd_TC_advance_27 : decode bb_TC_advance 27 = .ok (.invokevirtual 224, 3) := by decide +kernel
theorem dd_TC_advance_30 : decode bb_TC_advance 30 = .ok (.ireturn, 1) := by decide +kernel
theorem dd_TC_advance_31 : decode bb_TC_advance 31 = .ok (.aload_n 1, 1) := by decide +kernel
theorem dd_TC_advance_32 : decode bb_TC_advance 32 = .ok (.getfield 227, 3) := by decide +kernel
theorem dd_TC_advance_35 : decode bb_TC_advance 35 = .ok (.ifCond .ne 16, 3) := by decide +kernel
theorem dd_TC_advance_38 : decode bb_TC_advance 38 = .ok (.aload_n 1, 1) := by decide +kernel
theorem dd_TC_advance_39 : decode bb_TC_advance 39 = .ok (.aload_n 0, 1) := by decide +kernel
theorem dd_TC_advance_40 : decode bb_TC_advance 40 = .ok (.getfield 25, 3) := by decide +kernel
theorem dd_TC_advance_43 : decode bb_TC_advance 43 = .ok (.invokevirtual 74, 3) := by decide +kernel
theorem dd_TC_advance_46 : decode bb_TC_advance 46 = .ok (.putfield 227, 3) := by decide +kernel
theorem dd_TC_advance_49 : decode bb_TC_advance 49 = .ok (.iconst 2, 1) := by decide +kernel
theorem dd_TC_advance_50 : decode bb_TC_advance 50 = .ok (.ireturn, 1) := by decide +kernel
theorem dd_TC_advance_51 : decode bb_TC_advance 51 = .ok (.aload_n 1, 1) := by decide +kernel
theorem dd_TC_advance_52 : decode bb_TC_advance 52 = .ok (.getfield 230, 3) := by decide +kernel
theorem dd_TC_advance_55 : decode bb_TC_advance 55 = .ok (.ifCond .eq 11, 3) := by decide +kernel
theorem dd_TC_advance_58 : decode bb_TC_advance 58 = .ok (.aload_n 0, 1) := by decide +kernel
theorem dd_TC_advance_59 : decode bb_TC_advance 59 = .ok (.aload_n 1, 1) := by decide +kernel
theorem dd_TC_advance_60 : decode bb_TC_advance 60 = .ok (.invokevirtual 233, 3) := by decide +kernel
theorem dd_TC_advance_63 : decode bb_TC_advance 63 = .ok (.goto 8, 3) := by decide +kernel
theorem dd_TC_advance_66 : decode bb_TC_advance 66 = .ok (.aload_n 0, 1) := by decide +kernel
theorem dd_TC_advance_67 : decode bb_TC_advance 67 = .ok (.aload_n 1, 1) := by decide +kernel
theorem dd_TC_advance_68 : decode bb_TC_advance 68 = .ok (.invokevirtual 236, 3) := by decide +kernel
theorem dd_TC_advance_71 : decode bb_TC_advance 71 = .ok (.ireturn, 1) := by decide +kernel
theorem dd_TC_prewrite_0 : decode bb_TC_prewrite 0 = .ok (.aload_n 1, 1) := by decide +kernel
theorem dd_TC_prewrite_1 : decode bb_TC_prewrite 1 = .ok (.getfield 218, 3) := by decide +kernel
theorem dd_TC_prewrite_4 : decode bb_TC_prewrite 4 = .ok (.aload_n 1, 1) := by decide +kernel
theorem dd_TC_prewrite_5 : decode bb_TC_prewrite 5 = .ok (.getfield 221, 3) := by decide +kernel
theorem dd_TC_prewrite_8 : decode bb_TC_prewrite 8 = .ok (.iconst (-1), 1) := by decide +kernel
theorem dd_TC_prewrite_9 : decode bb_TC_prewrite 9 = .ok (.ixor, 1) := by decide +kernel
theorem dd_TC_prewrite_10 : decode bb_TC_prewrite 10 = .ok (.iand, 1) := by decide +kernel
theorem dd_TC_prewrite_11 : decode bb_TC_prewrite 11 = .ok (.invokestatic 239, 3) := by decide +kernel
theorem dd_TC_prewrite_14 : decode bb_TC_prewrite 14 = .ok (.istore_n 2, 1) := by decide +kernel
theorem dd_TC_prewrite_15 : decode bb_TC_prewrite 15 = .ok (.aload_n 0, 1) := by decide +kernel
theorem dd_TC_prewrite_16 : decode bb_TC_prewrite 16 = .ok (.getfield 38, 3) := by decide +kernel
theorem dd_TC_prewrite_19 : decode bb_TC_prewrite 19 = .ok (.iload_n 2, 1) := by decide +kernel
theorem dd_TC_prewrite_20 : decode bb_TC_prewrite 20 = .ok (.aaload, 1) := by decide +kernel
theorem dd_TC_prewrite_21 : decode bb_TC_prewrite 21 = .ok (.getfield 95, 3) := by decide +kernel
theorem dd_TC_prewrite_24 : decode bb_TC_prewrite 24 = .ok (.getfield 99, 3) := by decide +kernel
theorem dd_TC_prewrite_27 : decode bb_TC_prewrite 27 = .ok (.ifCond .ne 6, 3) := by decide +kernel
theorem dd_TC_prewrite_30 : decode bb_TC_prewrite 30 = .ok (.bipush (-2), 2) := by decide +kernel
theorem dd_TC_prewrite_32 : decode bb_TC_prewrite 32 = .ok (.ireturn, 1) := by decide +kernel
theorem dd_TC_prewrite_33 : decode bb_TC_prewrite 33 = .ok (.aload_n 0, 1) := by decide +kernel
theorem dd_TC_prewrite_34 : decode bb_TC_prewrite 34 = .ok (.getfield 38, 3) := by decide +kernel
theorem dd_TC_prewrite_37 : decode bb_TC_prewrite 37 = .ok (.iload_n 2, 1) := by decide +kernel
theorem dd_TC_prewrite_38 : decode bb_TC_prewrite 38 = .ok (.aaload, 1) := by decide +kernel
theorem dd_TC_prewrite_39 : decode bb_TC_prewrite 39 = .ok (.aload_n 1, 1) := by decide +kernel
theorem dd_TC_prewrite_40 : decode bb_TC_prewrite 40 = .ok (.getfield 81, 3) := by decide +kernel
theorem dd_TC_prewrite_43 : decode bb_TC_prewrite 43 = .ok (.invokevirtual 242, 3) := by decide +kernel
theorem dd_TC_prewrite_46 : decode bb_TC_prewrite 46 = .ok (.ifCond .ne 17, 3) := by decide +kernel
theorem dd_TC_prewrite_49 : decode bb_TC_prewrite 49 = .ok (.aload_n 0, 1) := by decide +kernel
theorem dd_TC_prewrite_50 : decode bb_TC_prewrite 50 = .ok (.aload_n 1, 1) := by decide +kernel
theorem dd_TC_prewrite_51 : decode bb_TC_prewrite 51 = .ok (.iload_n 2, 1) := by decide +kernel
theorem dd_TC_prewrite_52 : decode bb_TC_prewrite 52 = .ok (.invokevirtual 245, 3) := by decide +kernel
theorem dd_TC_prewrite_55 : decode bb_TC_prewrite 55 = .ok (.istore_n 3, 1) := by decide +kernel
theorem dd_TC_prewrite_56 : decode bb_TC_prewrite 56 = .ok (.iload_n 3, 1) := by decide +kernel
theorem dd_TC_prewrite_57 : decode bb_TC_prewrite 57 = .ok (.iconst 1, 1) := by decide +kernel
theorem dd_TC_prewrite_58 : decode bb_TC_prewrite 58 = .ok (.if_icmp .eq 5, 3) := by decide +kernel
theorem dd_TC_prewrite_61 : decode bb_TC_prewrite 61 = .ok (.iload_n 3, 1) := by decide +kernel
theorem dd_TC_prewrite_62 : decode bb_TC_prewrite 62 = .ok (.ireturn, 1) := by decide +kernel
theorem dd_TC_prewrite_63 : decode bb_TC_prewrite 63 = .ok (.aload_n 1, 1) := by decide +kernel
theorem dd_TC_prewrite_64 : decode bb_TC_prewrite 64 = .ok (.dup, 1) := by decide +kernel
theorem dd_TC_prewrite_65 : decode bb_TC_prewrite 65 = .ok (.getfield 221, 3) := by decide +kernel
theorem dd_TC_prewrite_68 : decode bb_TC_prewrite 68 = .ok (.iconst 1, 1) := by decide +kernel
theorem dd_TC_prewrite_69 : decode bb_TC_prewrite 69 = .ok (.iload_n 2, 1) := by decide +kernel
theorem dd_TC_prewrite_70 : decode bb_TC_prewrite 70 = .ok (.ishl, 1) := by decide +kernel
theorem dd_TC_prewrite_71 : decode bb_TC_prewrite 71 = .ok (.ior, 1) := by decide +kernel
theorem dd_TC_prewrite_72 : decode bb_TC_prewrite 72 = .ok (.putfield 221, 3) := by decide +kernel
theorem dd_TC_prewrite_75 : decode bb_TC_prewrite 75 = .ok (.iconst 1, 1) := by decide +kernel
theorem dd_TC_prewrite_76 : decode bb_TC_prewrite 76 = .ok (.ireturn, 1) := by decide +kernel
theorem dd_TC_takeLock_0 : decode bb_TC_takeLock 0 = .ok (.aload_n 0, 1) := by decide +kernel
theorem dd_TC_takeLock_1 : decode bb_TC_takeLock 1 = .ok (.getfield 38, 3) := by decide +kernel
theorem dd_TC_takeLock_4 : decode bb_TC_takeLock 4 = .ok (.iload_n 2, 1) := by decide +kernel
theorem dd_TC_takeLock_5 : decode bb_TC_takeLock 5 = .ok (.aaload, 1) := by decide +kernel
theorem dd_TC_takeLock_6 : decode bb_TC_takeLock 6 = .ok (.astore_n 3, 1) := by decide +kernel
theorem dd_TC_takeLock_7 : decode bb_TC_takeLock 7 = .ok (.aload_n 3, 1) := by decide +kernel
theorem dd_TC_takeLock_8 : decode bb_TC_takeLock 8 = .ok (.getfield 95, 3) := by decide +kernel
theorem dd_TC_takeLock_11 : decode bb_TC_takeLock 11 = .ok (.getfield 104, 3) := by decide +kernel
theorem dd_TC_takeLock_14 : decode bb_TC_takeLock 14 = .ok (.aload_n 1, 1) := by decide +kernel
theorem dd_TC_takeLock_15 : decode bb_TC_takeLock 15 = .ok (.getfield 81, 3) := by decide +kernel
theorem dd_TC_takeLock_18 : decode bb_TC_takeLock 18 = .ok (.if_icmp .gt 14, 3) := by decide +kernel
theorem dd_TC_takeLock_21 : decode bb_TC_takeLock 21 = .ok (.aload_n 3, 1) := by decide +kernel
theorem dd_TC_takeLock_22 : decode bb_TC_takeLock 22 = .ok (.aload_n 1, 1) := by decide +kernel
theorem dd_TC_takeLock_23 : decode bb_TC_takeLock 23 = .ok (.getfield 81, 3) := by decide +kernel
theorem dd_TC_takeLock_26 : decode bb_TC_takeLock 26 = .ok (.invokevirtual 249, 3) := by decide +kernel
theorem dd_TC_takeLock_29 : decode bb_TC_takeLock 29 = .ok (.ifCond .eq 8, 3) := by decide +kernel
theorem dd_TC_takeLock_32 : decode bb_TC_takeLock 32 = .ok (.aload_n 1, 1) := by decide +kernel
theorem dd_TC_takeLock_33 : decode bb_TC_takeLock 33 = .ok (.invokestatic 252, 3) := by decide +kernel
theorem dd_TC_takeLock_36 : decode bb_TC_takeLock 36 = .ok (.ireturn, 1) := by decide +kernel
theorem dd_TC_takeLock_37 : decode bb_TC_takeLock 37 = .ok (.aload_n 0, 1) := by decide +kernel
theorem dd_TC_takeLock_38 : decode bb_TC_takeLock 38 = .ok (.aload_n 3, 1) := by decide +kernel
theorem dd_TC_takeLock_39 : decode bb_TC_takeLock 39 = .ok (.invokevirtual 115, 3) := by decide +kernel
theorem dd_TC_takeLock_42 : decode bb_TC_takeLock 42 = .ok (.bipush (-2), 2) := by decide +kernel
theorem dd_TC_takeLock_44 : decode bb_TC_takeLock 44 = .ok (.if_icmp .ne 6, 3) := by decide +kernel
theorem dd_TC_takeLock_47 : decode bb_TC_takeLock 47 = .ok (.bipush (-2), 2) := by decide +kernel
theorem dd_TC_takeLock_49 : decode bb_TC_takeLock 49 = .ok (.ireturn, 1) := by decide +kernel
theorem dd_TC_takeLock_50 : decode bb_TC_takeLock 50 = .ok (.aload_n 3, 1) := by decide +kernel
theorem dd_TC_takeLock_51 : decode bb_TC_takeLock 51 = .ok (.aload_n 1, 1) := by decide +kernel
theorem dd_TC_takeLock_52 : decode bb_TC_takeLock 52 = .ok (.getfield 81, 3) := by decide +kernel
theorem dd_TC_takeLock_55 : decode bb_TC_takeLock 55 = .ok (.invokevirtual 249, 3) := by decide +kernel
theorem dd_TC_takeLock_58 : decode bb_TC_takeLock 58 = .ok (.ifCond .eq 8, 3) := by decide +kernel
theorem dd_TC_takeLock_61 : decode bb_TC_takeLock 61 = .ok (.aload_n 1, 1) := by decide +kernel
theorem dd_TC_takeLock_62 : decode bb_TC_takeLock 62 = .ok (.invokestatic 252, 3) := by decide +kernel
theorem dd_TC_takeLock_65 : decode bb_TC_takeLock 65 = .ok (.ireturn, 1) := by decide +kernel
theorem dd_TC_takeLock_66 : decode bb_TC_takeLock 66 = .ok (.aload_n 3, 1) := by decide +kernel
theorem dd_TC_takeLock_67 : decode bb_TC_takeLock 67 = .ok (.aload_n 1, 1) := by decide +kernel
theorem dd_TC_takeLock_68 : decode bb_TC_takeLock 68 = .ok (.iload_n 2, 1) := by decide +kernel
theorem dd_TC_takeLock_69 : decode bb_TC_takeLock 69 = .ok (.aload_n 0, 1) := by decide +kernel
theorem dd_TC_takeLock_70 : decode bb_TC_takeLock 70 = .ok (.getfield 162, 3) := by decide +kernel
theorem dd_TC_takeLock_73 : decode bb_TC_takeLock 73 = .ok (.invokevirtual 255, 3) := by decide +kernel
theorem dd_TC_takeLock_76 : decode bb_TC_takeLock 76 = .ok (.invokevirtual 259, 3) := by decide +kernel
theorem dd_TC_takeLock_79 : decode bb_TC_takeLock 79 = .ok (.ifCond .eq 7, 3) := by decide +kernel
theorem dd_TC_takeLock_82 : decode bb_TC_takeLock 82 = .ok (.iconst 1, 1) := by decide +kernel
theorem dd_TC_takeLock_83 : decode bb_TC_takeLock 83 = .ok (.goto 5, 3) := by decide +kernel
theorem dd_TC_takeLock_86 : decode bb_TC_takeLock 86 = .ok (.bipush (-2), 2) := by decide +kernel
theorem dd_TC_takeLock_88 : decode bb_TC_takeLock 88 = .ok (.ireturn, 1) := by decide +kernel
theorem dd_TC_decide_0 : decode bb_TC_decide 0 = .ok (.aload_n 0, 1) := by decide +kernel
theorem dd_TC_decide_1 : decode bb_TC_decide 1 = .ok (.getfield 38, 3) := by decide +kernel
theorem dd_TC_decide_4 : decode bb_TC_decide 4 = .ok (.aload_n 1, 1) := by decide +kernel
theorem dd_TC_decide_5 : decode bb_TC_decide 5 = .ok (.invokevirtual 262, 3) := by decide +kernel
theorem dd_TC_decide_8 : decode bb_TC_decide 8 = .ok (.aaload, 1) := by decide +kernel
theorem dd_TC_decide_9 : decode bb_TC_decide 9 = .ok (.astore_n 2, 1) := by decide +kernel
theorem dd_TC_decide_10 : decode bb_TC_decide 10 = .ok (.aload_n 2, 1) := by decide +kernel
theorem dd_TC_decide_11 : decode bb_TC_decide 11 = .ok (.getfield 95, 3) := by decide +kernel
theorem dd_TC_decide_14 : decode bb_TC_decide 14 = .ok (.getfield 99, 3) := by decide +kernel
theorem dd_TC_decide_17 : decode bb_TC_decide 17 = .ok (.ifCond .ne 6, 3) := by decide +kernel
theorem dd_TC_decide_20 : decode bb_TC_decide 20 = .ok (.bipush (-2), 2) := by decide +kernel
theorem dd_TC_decide_22 : decode bb_TC_decide 22 = .ok (.ireturn, 1) := by decide +kernel
theorem dd_TC_decide_23 : decode bb_TC_decide 23 = .ok (.aload_n 2, 1) := by decide +kernel
theorem dd_TC_decide_24 : decode bb_TC_decide 24 = .ok (.aload_n 1, 1) := by decide +kernel
theorem dd_TC_decide_25 : decode bb_TC_decide 25 = .ok (.getfield 81, 3) := by decide +kernel
theorem dd_TC_decide_28 : decode bb_TC_decide 28 = .ok (.invokevirtual 265, 3) := by decide +kernel
theorem dd_TC_decide_31 : decode bb_TC_decide 31 = .ok (.ifnonnull 33, 3) := by decide +kernel
theorem dd_TC_decide_34 : decode bb_TC_decide 34 = .ok (.aload_n 2, 1) := by decide +kernel
theorem dd_TC_decide_35 : decode bb_TC_decide 35 = .ok (.aload_n 1, 1) := by decide +kernel
theorem dd_TC_decide_36 : decode bb_TC_decide 36 = .ok (.getfield 81, 3) := by decide +kernel
theorem dd_TC_decide_39 : decode bb_TC_decide 39 = .ok (.invokevirtual 242, 3) := by decide +kernel
theorem dd_TC_decide_42 : decode bb_TC_decide 42 = .ok (.ifCond .ne 8, 3) := by decide +kernel
theorem dd_TC_decide_45 : decode bb_TC_decide 45 = .ok (.aload_n 1, 1) := by decide +kernel
theorem dd_TC_decide_46 : decode bb_TC_decide 46 = .ok (.invokestatic 252, 3) := by decide +kernel
theorem dd_TC_decide_49 : decode bb_TC_decide 49 = .ok (.ireturn, 1) := by decide +kernel
theorem dd_TC_decide_50 : decode bb_TC_decide 50 = .ok (.aload_n 2, 1) := by decide +kernel
theorem dd_TC_decide_51 : decode bb_TC_decide 51 = .ok (.aload_n 1, 1) := by decide +kernel
theorem dd_TC_decide_52 : decode bb_TC_decide 52 = .ok (.getfield 227, 3) := by decide +kernel
theorem dd_TC_decide_55 : decode bb_TC_decide 55 = .ok (.invokevirtual 268, 3) := by decide +kernel
theorem dd_TC_decide_58 : decode bb_TC_decide 58 = .ok (.ifCond .ne 6, 3) := by decide +kernel
theorem dd_TC_decide_61 : decode bb_TC_decide 61 = .ok (.bipush (-2), 2) := by decide +kernel
theorem dd_TC_decide_63 : decode bb_TC_decide 63 = .ok (.ireturn, 1) := by decide +kernel
theorem dd_TC_decide_64 : decode bb_TC_decide 64 = .ok (.aload_n 1, 1) := by decide +kernel
theorem dd_TC_decide_65 : decode bb_TC_decide 65 = .ok (.iconst 1, 1) := by decide +kernel
theorem dd_TC_decide_66 : decode bb_TC_decide 66 = .ok (.putfield 230, 3) := by decide +kernel
theorem dd_TC_decide_69 : decode bb_TC_decide 69 = .ok (.aload_n 1, 1) := by decide +kernel
theorem dd_TC_decide_70 : decode bb_TC_decide 70 = .ok (.iconst 1, 1) := by decide +kernel
theorem dd_TC_decide_71 : decode bb_TC_decide 71 = .ok (.aload_n 1, 1) := by decide +kernel
theorem dd_TC_decide_72 : decode bb_TC_decide 72 = .ok (.invokevirtual 262, 3) := by decide +kernel
theorem dd_TC_decide_75 : decode bb_TC_decide 75 = .ok (.ishl, 1) := by decide +kernel
theorem dd_TC_decide_76 : decode bb_TC_decide 76 = .ok (.putfield 271, 3) := by decide +kernel
theorem dd_TC_decide_79 : decode bb_TC_decide 79 = .ok (.aload_n 1, 1) := by decide +kernel
theorem dd_TC_decide_80 : decode bb_TC_decide 80 = .ok (.invokevirtual 274, 3) := by decide +kernel
theorem dd_TC_decide_83 : decode bb_TC_decide 83 = .ok (.ifCond .eq 7, 3) := by decide +kernel
theorem dd_TC_decide_86 : decode bb_TC_decide 86 = .ok (.iconst 4, 1) := by decide +kernel
theorem dd_TC_decide_87 : decode bb_TC_decide 87 = .ok (.goto 4, 3) := by decide +kernel
theorem dd_TC_decide_90 : decode bb_TC_decide 90 = .ok (.iconst 3, 1) := by decide +kernel
theorem dd_TC_decide_91 : decode bb_TC_decide 91 = .ok (.ireturn, 1) := by decide +kernel
theorem dd_TC_follow_0 : decode bb_TC_follow 0 = .ok (.aload_n 1, 1) := by decide +kernel
theorem dd_TC_follow_1 : decode bb_TC_follow 1 = .ok (.getfield 218, 3) := by decide +kernel
theorem dd_TC_follow_4 : decode bb_TC_follow 4 = .ok (.aload_n 1, 1) := by decide +kernel
theorem dd_TC_follow_5 : decode bb_TC_follow 5 = .ok (.getfield 271, 3) := by decide +kernel
theorem dd_TC_follow_8 : decode bb_TC_follow 8 = .ok (.iconst (-1), 1) := by decide +kernel
theorem dd_TC_follow_9 : decode bb_TC_follow 9 = .ok (.ixor, 1) := by decide +kernel
theorem dd_TC_follow_10 : decode bb_TC_follow 10 = .ok (.iand, 1) := by decide +kernel
theorem dd_TC_follow_11 : decode bb_TC_follow 11 = .ok (.invokestatic 239, 3) := by decide +kernel
theorem dd_TC_follow_14 : decode bb_TC_follow 14 = .ok (.istore_n 2, 1) := by decide +kernel
theorem dd_TC_follow_15 : decode bb_TC_follow 15 = .ok (.aload_n 0, 1) := by decide +kernel
theorem dd_TC_follow_16 : decode bb_TC_follow 16 = .ok (.getfield 38, 3) := by decide +kernel
theorem dd_TC_follow_19 : decode bb_TC_follow 19 = .ok (.iload_n 2, 1) := by decide +kernel
theorem dd_TC_follow_20 : decode bb_TC_follow 20 = .ok (.aaload, 1) := by decide +kernel
theorem dd_TC_follow_21 : decode bb_TC_follow 21 = .ok (.astore_n 3, 1) := by decide +kernel
theorem dd_TC_follow_22 : decode bb_TC_follow 22 = .ok (.aload_n 3, 1) := by decide +kernel
theorem dd_TC_follow_23 : decode bb_TC_follow 23 = .ok (.getfield 95, 3) := by decide +kernel
theorem dd_TC_follow_26 : decode bb_TC_follow 26 = .ok (.getfield 99, 3) := by decide +kernel
theorem dd_TC_follow_29 : decode bb_TC_follow 29 = .ok (.ifCond .ne 6, 3) := by decide +kernel
theorem dd_TC_follow_32 : decode bb_TC_follow 32 = .ok (.bipush (-2), 2) := by decide +kernel
theorem dd_TC_follow_34 : decode bb_TC_follow 34 = .ok (.ireturn, 1) := by decide +kernel
theorem dd_TC_follow_35 : decode bb_TC_follow 35 = .ok (.aload_n 3, 1) := by decide +kernel
theorem dd_TC_follow_36 : decode bb_TC_follow 36 = .ok (.aload_n 1, 1) := by decide +kernel
theorem dd_TC_follow_37 : decode bb_TC_follow 37 = .ok (.getfield 81, 3) := by decide +kernel
theorem dd_TC_follow_40 : decode bb_TC_follow 40 = .ok (.invokevirtual 242, 3) := by decide +kernel
theorem dd_TC_follow_43 : decode bb_TC_follow 43 = .ok (.ifCond .eq 17, 3) := by decide +kernel
theorem dd_TC_follow_46 : decode bb_TC_follow 46 = .ok (.aload_n 3, 1) := by decide +kernel
theorem dd_TC_follow_47 : decode bb_TC_follow 47 = .ok (.aload_n 1, 1) := by decide +kernel
theorem dd_TC_follow_48 : decode bb_TC_follow 48 = .ok (.getfield 227, 3) := by decide +kernel
theorem dd_TC_follow_51 : decode bb_TC_follow 51 = .ok (.invokevirtual 268, 3) := by decide +kernel
theorem dd_TC_follow_54 : decode bb_TC_follow 54 = .ok (.ifCond .ne 6, 3) := by decide +kernel
theorem dd_TC_follow_57 : decode bb_TC_follow 57 = .ok (.bipush (-2), 2) := by decide +kernel
theorem dd_TC_follow_59 : decode bb_TC_follow 59 = .ok (.ireturn, 1) := by decide +kernel
theorem dd_TC_follow_60 : decode bb_TC_follow 60 = .ok (.aload_n 1, 1) := by decide +kernel
theorem dd_TC_follow_61 : decode bb_TC_follow 61 = .ok (.dup, 1) := by decide +kernel
theorem dd_TC_follow_62 : decode bb_TC_follow 62 = .ok (.getfield 271, 3) := by decide +kernel
theorem dd_TC_follow_65 : decode bb_TC_follow 65 = .ok (.iconst 1, 1) := by decide +kernel
theorem dd_TC_follow_66 : decode bb_TC_follow 66 = .ok (.iload_n 2, 1) := by decide +kernel
theorem dd_TC_follow_67 : decode bb_TC_follow 67 = .ok (.ishl, 1) := by decide +kernel
theorem dd_TC_follow_68 : decode bb_TC_follow 68 = .ok (.ior, 1) := by decide +kernel
theorem dd_TC_follow_69 : decode bb_TC_follow 69 = .ok (.putfield 271, 3) := by decide +kernel
theorem dd_TC_follow_72 : decode bb_TC_follow 72 = .ok (.aload_n 1, 1) := by decide +kernel
theorem dd_TC_follow_73 : decode bb_TC_follow 73 = .ok (.invokevirtual 274, 3) := by decide +kernel
theorem dd_TC_follow_76 : decode bb_TC_follow 76 = .ok (.ifCond .eq 8, 3) := by decide +kernel
theorem dd_TC_follow_79 : decode bb_TC_follow 79 = .ok (.bipush 6, 2) := by decide +kernel
theorem dd_TC_follow_81 : decode bb_TC_follow 81 = .ok (.goto 4, 3) := by decide +kernel
theorem dd_TC_follow_84 : decode bb_TC_follow 84 = .ok (.iconst 5, 1) := by decide +kernel
theorem dd_TC_follow_85 : decode bb_TC_follow 85 = .ok (.ireturn, 1) := by decide +kernel
theorem dd_TC_clearUp_0 : decode bb_TC_clearUp 0 = .ok (.aload_n 1, 1) := by decide +kernel
theorem dd_TC_clearUp_1 : decode bb_TC_clearUp 1 = .ok (.getfield 188, 3) := by decide +kernel
theorem dd_TC_clearUp_4 : decode bb_TC_clearUp 4 = .ok (.astore_n 2, 1) := by decide +kernel
theorem dd_TC_clearUp_5 : decode bb_TC_clearUp 5 = .ok (.aload_n 2, 1) := by decide +kernel
theorem dd_TC_clearUp_6 : decode bb_TC_clearUp 6 = .ok (.ifnonnull 5, 3) := by decide +kernel
theorem dd_TC_clearUp_9 : decode bb_TC_clearUp 9 = .ok (.iconst 0, 1) := by decide +kernel
theorem dd_TC_clearUp_10 : decode bb_TC_clearUp 10 = .ok (.ireturn, 1) := by decide +kernel
theorem dd_TC_clearUp_11 : decode bb_TC_clearUp 11 = .ok (.aload_n 0, 1) := by decide +kernel
theorem dd_TC_clearUp_12 : decode bb_TC_clearUp 12 = .ok (.getfield 38, 3) := by decide +kernel
theorem dd_TC_clearUp_15 : decode bb_TC_clearUp 15 = .ok (.aload_n 2, 1) := by decide +kernel
theorem dd_TC_clearUp_16 : decode bb_TC_clearUp 16 = .ok (.getfield 278, 3) := by decide +kernel
theorem dd_TC_clearUp_19 : decode bb_TC_clearUp 19 = .ok (.aaload, 1) := by decide +kernel
theorem dd_TC_clearUp_20 : decode bb_TC_clearUp 20 = .ok (.astore_n 3, 1) := by decide +kernel
theorem dd_TC_clearUp_21 : decode bb_TC_clearUp 21 = .ok (.aload_n 3, 1) := by decide +kernel
theorem dd_TC_clearUp_22 : decode bb_TC_clearUp 22 = .ok (.getfield 95, 3) := by decide +kernel
theorem dd_TC_clearUp_25 : decode bb_TC_clearUp 25 = .ok (.getfield 99, 3) := by decide +kernel
theorem dd_TC_clearUp_28 : decode bb_TC_clearUp 28 = .ok (.ifCond .ne 6, 3) := by decide +kernel
theorem dd_TC_clearUp_31 : decode bb_TC_clearUp 31 = .ok (.bipush (-2), 2) := by decide +kernel
theorem dd_TC_clearUp_33 : decode bb_TC_clearUp 33 = .ok (.ireturn, 1) := by decide +kernel
theorem dd_TC_clearUp_34 : decode bb_TC_clearUp 34 = .ok (.aload_n 3, 1) := by decide +kernel
theorem dd_TC_clearUp_35 : decode bb_TC_clearUp 35 = .ok (.aload_n 2, 1) := by decide +kernel
theorem dd_TC_clearUp_36 : decode bb_TC_clearUp 36 = .ok (.getfield 280, 3) := by decide +kernel
theorem dd_TC_clearUp_39 : decode bb_TC_clearUp 39 = .ok (.invokevirtual 265, 3) := by decide +kernel
theorem dd_TC_clearUp_42 : decode bb_TC_clearUp 42 = .ok (.astore 4, 2) := by decide +kernel
theorem dd_TC_clearUp_44 : decode bb_TC_clearUp 44 = .ok (.aload 4, 2) := by decide +kernel
theorem dd_TC_clearUp_46 : decode bb_TC_clearUp 46 = .ok (.ifnull 22, 3) := by decide +kernel
theorem dd_TC_clearUp_49 : decode bb_TC_clearUp 49 = .ok (.aload_n 1, 1) := by decide +kernel
theorem dd_TC_clearUp_50 : decode bb_TC_clearUp 50 = .ok (.aload 4, 2) := by decide +kernel
theorem dd_TC_clearUp_52 : decode bb_TC_clearUp 52 = .ok (.getfield 281, 3) := by decide +kernel
theorem dd_TC_clearUp_55 : decode bb_TC_clearUp 55 = .ok (.invokevirtual 268, 3) := by decide +kernel
theorem dd_TC_clearUp_58 : decode bb_TC_clearUp 58 = .ok (.ifCond .eq 7, 3) := by decide +kernel
theorem dd_TC_clearUp_61 : decode bb_TC_clearUp 61 = .ok (.iconst 1, 1) := by decide +kernel
theorem dd_TC_clearUp_62 : decode bb_TC_clearUp 62 = .ok (.goto 5, 3) := by decide +kernel
theorem dd_TC_clearUp_65 : decode bb_TC_clearUp 65 = .ok (.bipush (-2), 2) := by decide +kernel
theorem dd_TC_clearUp_67 : decode bb_TC_clearUp 67 = .ok (.ireturn, 1) := by decide +kernel
theorem dd_TC_clearUp_68 : decode bb_TC_clearUp 68 = .ok (.aload_n 3, 1) := by decide +kernel
theorem dd_TC_clearUp_69 : decode bb_TC_clearUp 69 = .ok (.aload_n 2, 1) := by decide +kernel
theorem dd_TC_clearUp_70 : decode bb_TC_clearUp 70 = .ok (.getfield 280, 3) := by decide +kernel
theorem dd_TC_clearUp_73 : decode bb_TC_clearUp 73 = .ok (.invokevirtual 242, 3) := by decide +kernel
theorem dd_TC_clearUp_76 : decode bb_TC_clearUp 76 = .ok (.ifCond .eq 35, 3) := by decide +kernel
theorem dd_TC_clearUp_79 : decode bb_TC_clearUp 79 = .ok (.aload_n 0, 1) := by decide +kernel
theorem dd_TC_clearUp_80 : decode bb_TC_clearUp 80 = .ok (.aload_n 3, 1) := by decide +kernel
theorem dd_TC_clearUp_81 : decode bb_TC_clearUp 81 = .ok (.getfield 188, 3) := by decide +kernel
theorem dd_TC_clearUp_84 : decode bb_TC_clearUp 84 = .ok (.invokevirtual 192, 3) := by decide +kernel
theorem dd_TC_clearUp_87 : decode bb_TC_clearUp 87 = .ok (.ifCond .eq 14, 3) := by decide +kernel
theorem dd_TC_clearUp_90 : decode bb_TC_clearUp 90 = .ok (.aload_n 3, 1) := by decide +kernel
theorem dd_TC_clearUp_91 : decode bb_TC_clearUp 91 = .ok (.aload_n 2, 1) := by decide +kernel
theorem dd_TC_clearUp_92 : decode bb_TC_clearUp 92 = .ok (.getfield 280, 3) := by decide +kernel
theorem dd_TC_clearUp_95 : decode bb_TC_clearUp 95 = .ok (.invokevirtual 284, 3) := by decide +kernel
theorem dd_TC_clearUp_98 : decode bb_TC_clearUp 98 = .ok (.ifCond .ne 6, 3) := by decide +kernel
theorem dd_TC_clearUp_101 : decode bb_TC_clearUp 101 = .ok (.bipush (-2), 2) := by decide +kernel
theorem dd_TC_clearUp_103 : decode bb_TC_clearUp 103 = .ok (.ireturn, 1) := by decide +kernel
theorem dd_TC_clearUp_104 : decode bb_TC_clearUp 104 = .ok (.aload_n 3, 1) := by decide +kernel
theorem dd_TC_clearUp_105 : decode bb_TC_clearUp 105 = .ok (.aload_n 1, 1) := by decide +kernel
theorem dd_TC_clearUp_106 : decode bb_TC_clearUp 106 = .ok (.if_acmp .ne 5, 3) := by decide +kernel
theorem dd_TC_clearUp_109 : decode bb_TC_clearUp 109 = .ok (.iconst 2, 1) := by decide +kernel
theorem dd_TC_clearUp_110 : decode bb_TC_clearUp 110 = .ok (.ireturn, 1) := by decide +kernel
theorem dd_TC_clearUp_111 : decode bb_TC_clearUp 111 = .ok (.aload_n 1, 1) := by decide +kernel
theorem dd_TC_clearUp_112 : decode bb_TC_clearUp 112 = .ok (.aload_n 2, 1) := by decide +kernel
theorem dd_TC_clearUp_113 : decode bb_TC_clearUp 113 = .ok (.getfield 280, 3) := by decide +kernel
theorem dd_TC_clearUp_116 : decode bb_TC_clearUp 116 = .ok (.invokevirtual 284, 3) := by decide +kernel
theorem dd_TC_clearUp_119 : decode bb_TC_clearUp 119 = .ok (.ifCond .eq 7, 3) := by decide +kernel
theorem dd_TC_clearUp_122 : decode bb_TC_clearUp 122 = .ok (.iconst 2, 1) := by decide +kernel
theorem dd_TC_clearUp_123 : decode bb_TC_clearUp 123 = .ok (.goto 5, 3) := by decide +kernel
theorem dd_TC_clearUp_126 : decode bb_TC_clearUp 126 = .ok (.bipush (-2), 2) := by decide +kernel
theorem dd_TC_clearUp_128 : decode bb_TC_clearUp 128 = .ok (.ireturn, 1) := by decide +kernel
theorem dd_TC_isLoose_0 : decode bb_TC_isLoose 0 = .ok (.aload_n 0, 1) := by decide +kernel
theorem dd_TC_isLoose_1 : decode bb_TC_isLoose 1 = .ok (.getfield 47, 3) := by decide +kernel
theorem dd_TC_isLoose_4 : decode bb_TC_isLoose 4 = .ok (.aload_n 1, 1) := by decide +kernel
theorem dd_TC_isLoose_5 : decode bb_TC_isLoose 5 = .ok (.getfield 287, 3) := by decide +kernel
theorem dd_TC_isLoose_8 : decode bb_TC_isLoose 8 = .ok (.aaload, 1) := by decide +kernel
theorem dd_TC_isLoose_9 : decode bb_TC_isLoose 9 = .ok (.astore_n 2, 1) := by decide +kernel
theorem dd_TC_isLoose_10 : decode bb_TC_isLoose 10 = .ok (.aload_n 2, 1) := by decide +kernel
theorem dd_TC_isLoose_11 : decode bb_TC_isLoose 11 = .ok (.getfield 65, 3) := by decide +kernel
theorem dd_TC_isLoose_14 : decode bb_TC_isLoose 14 = .ok (.ifCond .eq 30, 3) := by decide +kernel
theorem dd_TC_isLoose_17 : decode bb_TC_isLoose 17 = .ok (.aload_n 2, 1) := by decide +kernel
theorem dd_TC_isLoose_18 : decode bb_TC_isLoose 18 = .ok (.getfield 81, 3) := by decide +kernel
theorem dd_TC_isLoose_21 : decode bb_TC_isLoose 21 = .ok (.aload_n 1, 1) := by decide +kernel
theorem dd_TC_isLoose_22 : decode bb_TC_isLoose 22 = .ok (.getfield 280, 3) := by decide +kernel
theorem dd_TC_isLoose_25 : decode bb_TC_isLoose 25 = .ok (.if_icmp .ne 19, 3) := by decide +kernel
theorem dd_TC_isLoose_28 : decode bb_TC_isLoose 28 = .ok (.aload_n 0, 1) := by decide +kernel
theorem dd_TC_isLoose_29 : decode bb_TC_isLoose 29 = .ok (.getfield 162, 3) := by decide +kernel
theorem dd_TC_isLoose_32 : decode bb_TC_isLoose 32 = .ok (.aload_n 1, 1) := by decide +kernel
theorem dd_TC_isLoose_33 : decode bb_TC_isLoose 33 = .ok (.getfield 290, 3) := by decide +kernel
theorem dd_TC_isLoose_36 : decode bb_TC_isLoose 36 = .ok (.isub, 1) := by decide +kernel
theorem dd_TC_isLoose_37 : decode bb_TC_isLoose 37 = .ok (.aload_n 0, 1) := by decide +kernel
theorem dd_TC_isLoose_38 : decode bb_TC_isLoose 38 = .ok (.getfield 18, 3) := by decide +kernel
theorem dd_TC_isLoose_41 : decode bb_TC_isLoose 41 = .ok (.if_icmp .lt 7, 3) := by decide +kernel
theorem dd_TC_isLoose_44 : decode bb_TC_isLoose 44 = .ok (.iconst 1, 1) := by decide +kernel
theorem dd_TC_isLoose_45 : decode bb_TC_isLoose 45 = .ok (.goto 4, 3) := by decide +kernel
theorem dd_TC_isLoose_48 : decode bb_TC_isLoose 48 = .ok (.iconst 0, 1) := by decide +kernel
theorem dd_TC_isLoose_49 : decode bb_TC_isLoose 49 = .ok (.ireturn, 1) := by decide +kernel
theorem dd_TC_maySweep_0 : decode bb_TC_maySweep 0 = .ok (.iload_n 1, 1) := by decide +kernel
theorem dd_TC_maySweep_1 : decode bb_TC_maySweep 1 = .ok (.iconst 1, 1) := by decide +kernel
theorem dd_TC_maySweep_2 : decode bb_TC_maySweep 2 = .ok (.if_icmp .lt 14, 3) := by decide +kernel
theorem dd_TC_maySweep_5 : decode bb_TC_maySweep 5 = .ok (.iload_n 1, 1) := by decide +kernel
theorem dd_TC_maySweep_6 : decode bb_TC_maySweep 6 = .ok (.aload_n 0, 1) := by decide +kernel
theorem dd_TC_maySweep_7 : decode bb_TC_maySweep 7 = .ok (.getfield 25, 3) := by decide +kernel
theorem dd_TC_maySweep_10 : decode bb_TC_maySweep 10 = .ok (.getfield 208, 3) := by decide +kernel
theorem dd_TC_maySweep_13 : decode bb_TC_maySweep 13 = .ok (.if_icmp .le 5, 3) := by decide +kernel
theorem dd_TC_maySweep_16 : decode bb_TC_maySweep 16 = .ok (.iconst 0, 1) := by decide +kernel
theorem dd_TC_maySweep_17 : decode bb_TC_maySweep 17 = .ok (.ireturn, 1) := by decide +kernel
theorem dd_TC_maySweep_18 : decode bb_TC_maySweep 18 = .ok (.aload_n 0, 1) := by decide +kernel
theorem dd_TC_maySweep_19 : decode bb_TC_maySweep 19 = .ok (.getfield 31, 3) := by decide +kernel
theorem dd_TC_maySweep_22 : decode bb_TC_maySweep 22 = .ok (.astore_n 2, 1) := by decide +kernel
theorem dd_TC_maySweep_23 : decode bb_TC_maySweep 23 = .ok (.aload_n 2, 1) := by decide +kernel
theorem dd_TC_maySweep_24 : decode bb_TC_maySweep 24 = .ok (.arraylength, 1) := by decide +kernel
theorem dd_TC_maySweep_25 : decode bb_TC_maySweep 25 = .ok (.istore_n 3, 1) := by decide +kernel
theorem dd_TC_maySweep_26 : decode bb_TC_maySweep 26 = .ok (.iconst 0, 1) := by decide +kernel
theorem dd_TC_maySweep_27 : decode bb_TC_maySweep 27 = .ok (.istore 4, 2) := by decide +kernel
theorem dd_TC_maySweep_29 : decode bb_TC_maySweep 29 = .ok (.iload 4, 2) := by decide +kernel
theorem dd_TC_maySweep_31 : decode bb_TC_maySweep 31 = .ok (.iload_n 3, 1) := by decide +kernel
theorem dd_TC_maySweep_32 : decode bb_TC_maySweep 32 = .ok (.if_icmp .ge 34, 3) := by decide +kernel
theorem dd_TC_maySweep_35 : decode bb_TC_maySweep 35 = .ok (.aload_n 2, 1) := by decide +kernel
theorem dd_TC_maySweep_36 : decode bb_TC_maySweep 36 = .ok (.iload 4, 2) := by decide +kernel
theorem dd_TC_maySweep_38 : decode bb_TC_maySweep 38 = .ok (.aaload, 1) := by decide +kernel
theorem dd_TC_maySweep_39 : decode bb_TC_maySweep 39 = .ok (.astore 5, 2) := by decide +kernel
theorem dd_TC_maySweep_41 : decode bb_TC_maySweep 41 = .ok (.aload 5, 2) := by decide +kernel
theorem dd_TC_maySweep_43 : decode bb_TC_maySweep 43 = .ok (.getfield 99, 3) := by decide +kernel
theorem dd_TC_maySweep_46 : decode bb_TC_maySweep 46 = .ok (.ifCond .eq 12, 3) := by decide +kernel
theorem dd_TC_maySweep_49 : decode bb_TC_maySweep 49 = .ok (.iload_n 1, 1) := by decide +kernel
theorem dd_TC_maySweep_50 : decode bb_TC_maySweep 50 = .ok (.aload 5, 2) := by decide +kernel
theorem dd_TC_maySweep_52 : decode bb_TC_maySweep 52 = .ok (.getfield 104, 3) := by decide +kernel
theorem dd_TC_maySweep_55 : decode bb_TC_maySweep 55 = .ok (.if_icmp .gt 5, 3) := by decide +kernel
theorem dd_TC_maySweep_58 : decode bb_TC_maySweep 58 = .ok (.iconst 0, 1) := by decide +kernel
theorem dd_TC_maySweep_59 : decode bb_TC_maySweep 59 = .ok (.ireturn, 1) := by decide +kernel
theorem dd_TC_maySweep_60 : decode bb_TC_maySweep 60 = .ok (.iinc 4 1, 3) := by decide +kernel
theorem dd_TC_maySweep_63 : decode bb_TC_maySweep 63 = .ok (.goto (-34), 3) := by decide +kernel
theorem dd_TC_maySweep_66 : decode bb_TC_maySweep 66 = .ok (.aload_n 0, 1) := by decide +kernel
theorem dd_TC_maySweep_67 : decode bb_TC_maySweep 67 = .ok (.getfield 38, 3) := by decide +kernel
theorem dd_TC_maySweep_70 : decode bb_TC_maySweep 70 = .ok (.astore_n 2, 1) := by decide +kernel
theorem dd_TC_maySweep_71 : decode bb_TC_maySweep 71 = .ok (.aload_n 2, 1) := by decide +kernel
theorem dd_TC_maySweep_72 : decode bb_TC_maySweep 72 = .ok (.arraylength, 1) := by decide +kernel
theorem dd_TC_maySweep_73 : decode bb_TC_maySweep 73 = .ok (.istore_n 3, 1) := by decide +kernel
theorem dd_TC_maySweep_74 : decode bb_TC_maySweep 74 = .ok (.iconst 0, 1) := by decide +kernel
theorem dd_TC_maySweep_75 : decode bb_TC_maySweep 75 = .ok (.istore 4, 2) := by decide +kernel
theorem dd_TC_maySweep_77 : decode bb_TC_maySweep 77 = .ok (.iload 4, 2) := by decide +kernel
theorem dd_TC_maySweep_79 : decode bb_TC_maySweep 79 = .ok (.iload_n 3, 1) := by decide +kernel
theorem dd_TC_maySweep_80 : decode bb_TC_maySweep 80 = .ok (.if_icmp .ge 26, 3) := by decide +kernel
theorem dd_TC_maySweep_83 : decode bb_TC_maySweep 83 = .ok (.aload_n 2, 1) := by decide +kernel
theorem dd_TC_maySweep_84 : decode bb_TC_maySweep 84 = .ok (.iload 4, 2) := by decide +kernel
theorem dd_TC_maySweep_86 : decode bb_TC_maySweep 86 = .ok (.aaload, 1) := by decide +kernel
theorem dd_TC_maySweep_87 : decode bb_TC_maySweep 87 = .ok (.astore 5, 2) := by decide +kernel
theorem dd_TC_maySweep_89 : decode bb_TC_maySweep 89 = .ok (.aload 5, 2) := by decide +kernel
theorem dd_TC_maySweep_91 : decode bb_TC_maySweep 91 = .ok (.iload_n 1, 1) := by decide +kernel
theorem dd_TC_maySweep_92 : decode bb_TC_maySweep 92 = .ok (.invokevirtual 112, 3) := by decide +kernel
theorem dd_TC_maySweep_95 : decode bb_TC_maySweep 95 = .ok (.ifCond .eq 5, 3) := by decide +kernel
theorem dd_TC_maySweep_98 : decode bb_TC_maySweep 98 = .ok (.iconst 0, 1) := by decide +kernel
theorem dd_TC_maySweep_99 : decode bb_TC_maySweep 99 = .ok (.ireturn, 1) := by decide +kernel
theorem dd_TC_maySweep_100 : decode bb_TC_maySweep 100 = .ok (.iinc 4 1, 3) := by decide +kernel
theorem dd_TC_maySweep_103 : decode bb_TC_maySweep 103 = .ok (.goto (-26), 3) := by decide +kernel
theorem dd_TC_maySweep_106 : decode bb_TC_maySweep 106 = .ok (.aload_n 0, 1) := by decide +kernel
theorem dd_TC_maySweep_107 : decode bb_TC_maySweep 107 = .ok (.getfield 47, 3) := by decide +kernel
theorem dd_TC_maySweep_110 : decode bb_TC_maySweep 110 = .ok (.astore_n 2, 1) := by decide +kernel
theorem dd_TC_maySweep_111 : decode bb_TC_maySweep 111 = .ok (.aload_n 2, 1) := by decide +kernel
theorem dd_TC_maySweep_112 : decode bb_TC_maySweep 112 = .ok (.arraylength, 1) := by decide +kernel
theorem dd_TC_maySweep_113 : decode bb_TC_maySweep 113 = .ok (.istore_n 3, 1) := by decide +kernel
theorem dd_TC_maySweep_114 : decode bb_TC_maySweep 114 = .ok (.iconst 0, 1) := by decide +kernel
theorem dd_TC_maySweep_115 : decode bb_TC_maySweep 115 = .ok (.istore 4, 2) := by decide +kernel
theorem dd_TC_maySweep_117 : decode bb_TC_maySweep 117 = .ok (.iload 4, 2) := by decide +kernel
theorem dd_TC_maySweep_119 : decode bb_TC_maySweep 119 = .ok (.iload_n 3, 1) := by decide +kernel
theorem dd_TC_maySweep_120 : decode bb_TC_maySweep 120 = .ok (.if_icmp .ge 42, 3) := by decide +kernel
theorem dd_TC_maySweep_123 : decode bb_TC_maySweep 123 = .ok (.aload_n 2, 1) := by decide +kernel
theorem dd_TC_maySweep_124 : decode bb_TC_maySweep 124 = .ok (.iload 4, 2) := by decide +kernel
theorem dd_TC_maySweep_126 : decode bb_TC_maySweep 126 = .ok (.aaload, 1) := by decide +kernel
theorem dd_TC_maySweep_127 : decode bb_TC_maySweep 127 = .ok (.astore 5, 2) := by decide +kernel
theorem dd_TC_maySweep_129 : decode bb_TC_maySweep 129 = .ok (.aload 5, 2) := by decide +kernel
theorem dd_TC_maySweep_131 : decode bb_TC_maySweep 131 = .ok (.getfield 65, 3) := by decide +kernel
theorem dd_TC_maySweep_134 : decode bb_TC_maySweep 134 = .ok (.ifCond .eq 22, 3) := by decide +kernel
theorem dd_TC_maySweep_137 : decode bb_TC_maySweep 137 = .ok (.aload 5, 2) := by decide +kernel
theorem dd_TC_maySweep_139 : decode bb_TC_maySweep 139 = .ok (.getfield 147, 3) := by decide +kernel
theorem dd_TC_maySweep_142 : decode bb_TC_maySweep 142 = .ok (.ifCond .eq 14, 3) := by decide +kernel
theorem dd_TC_maySweep_145 : decode bb_TC_maySweep 145 = .ok (.aload 5, 2) := by decide +kernel
theorem dd_TC_maySweep_147 : decode bb_TC_maySweep 147 = .ok (.getfield 81, 3) := by decide +kernel
theorem dd_TC_maySweep_150 : decode bb_TC_maySweep 150 = .ok (.iload_n 1, 1) := by decide +kernel
theorem dd_TC_maySweep_151 : decode bb_TC_maySweep 151 = .ok (.if_icmp .ge 5, 3) := by decide +kernel
theorem dd_TC_maySweep_154 : decode bb_TC_maySweep 154 = .ok (.iconst 0, 1) := by decide +kernel
theorem dd_TC_maySweep_155 : decode bb_TC_maySweep 155 = .ok (.ireturn, 1) := by decide +kernel
theorem dd_TC_maySweep_156 : decode bb_TC_maySweep 156 = .ok (.iinc 4 1, 3) := by decide +kernel
theorem dd_TC_maySweep_159 : decode bb_TC_maySweep 159 = .ok (.goto (-42), 3) := by decide +kernel
theorem dd_TC_maySweep_162 : decode bb_TC_maySweep 162 = .ok (.iconst 1, 1) := by decide +kernel
theorem dd_TC_maySweep_163 : decode bb_TC_maySweep 163 = .ok (.ireturn, 1) := by decide +kernel
theorem dd_TC_writeSweep_0 : decode bb_TC_writeSweep 0 = .ok (.aload_n 0, 1) := by decide +kernel
theorem dd_TC_writeSweep_1 : decode bb_TC_writeSweep 1 = .ok (.getfield 31, 3) := by decide +kernel
theorem dd_TC_writeSweep_4 : decode bb_TC_writeSweep 4 = .ok (.iload_n 1, 1) := by decide +kernel
theorem dd_TC_writeSweep_5 : decode bb_TC_writeSweep 5 = .ok (.aaload, 1) := by decide +kernel
theorem dd_TC_writeSweep_6 : decode bb_TC_writeSweep 6 = .ok (.astore_n 3, 1) := by decide +kernel
theorem dd_TC_writeSweep_7 : decode bb_TC_writeSweep 7 = .ok (.aload_n 3, 1) := by decide +kernel
theorem dd_TC_writeSweep_8 : decode bb_TC_writeSweep 8 = .ok (.invokevirtual 293, 3) := by decide +kernel
theorem dd_TC_writeSweep_11 : decode bb_TC_writeSweep 11 = .ok (.ifCond .ne 5, 3) := by decide +kernel
theorem dd_TC_writeSweep_14 : decode bb_TC_writeSweep 14 = .ok (.iconst 0, 1) := by decide +kernel
theorem dd_TC_writeSweep_15 : decode bb_TC_writeSweep 15 = .ok (.ireturn, 1) := by decide +kernel
theorem dd_TC_writeSweep_16 : decode bb_TC_writeSweep 16 = .ok (.aload_n 3, 1) := by decide +kernel
theorem dd_TC_writeSweep_17 : decode bb_TC_writeSweep 17 = .ok (.iload_n 2, 1) := by decide +kernel
theorem dd_TC_writeSweep_18 : decode bb_TC_writeSweep 18 = .ok (.putfield 104, 3) := by decide +kernel
theorem dd_TC_writeSweep_21 : decode bb_TC_writeSweep 21 = .ok (.aload_n 0, 1) := by decide +kernel
theorem dd_TC_writeSweep_22 : decode bb_TC_writeSweep 22 = .ok (.getfield 38, 3) := by decide +kernel
theorem dd_TC_writeSweep_25 : decode bb_TC_writeSweep 25 = .ok (.astore 4, 2) := by decide +kernel
theorem dd_TC_writeSweep_27 : decode bb_TC_writeSweep 27 = .ok (.aload 4, 2) := by decide +kernel
theorem dd_TC_writeSweep_29 : decode bb_TC_writeSweep 29 = .ok (.arraylength, 1) := by decide +kernel
theorem dd_TC_writeSweep_30 : decode bb_TC_writeSweep 30 = .ok (.istore 5, 2) := by decide +kernel
theorem dd_TC_writeSweep_32 : decode bb_TC_writeSweep 32 = .ok (.iconst 0, 1) := by decide +kernel
theorem dd_TC_writeSweep_33 : decode bb_TC_writeSweep 33 = .ok (.istore 6, 2) := by decide +kernel
theorem dd_TC_writeSweep_35 : decode bb_TC_writeSweep 35 = .ok (.iload 6, 2) := by decide +kernel
theorem dd_TC_writeSweep_37 : decode bb_TC_writeSweep 37 = .ok (.iload 5, 2) := by decide +kernel
theorem dd_TC_writeSweep_39 : decode bb_TC_writeSweep 39 = .ok (.if_icmp .ge 31, 3) := by decide +kernel
theorem dd_TC_writeSweep_42 : decode bb_TC_writeSweep 42 = .ok (.aload 4, 2) := by decide +kernel
theorem dd_TC_writeSweep_44 : decode bb_TC_writeSweep 44 = .ok (.iload 6, 2) := by decide +kernel
theorem dd_TC_writeSweep_46 : decode bb_TC_writeSweep 46 = .ok (.aaload, 1) := by decide +kernel
theorem dd_TC_writeSweep_47 : decode bb_TC_writeSweep 47 = .ok (.astore 7, 2) := by decide +kernel
theorem dd_TC_writeSweep_49 : decode bb_TC_writeSweep 49 = .ok (.aload 7, 2) := by decide +kernel
theorem dd_TC_writeSweep_51 : decode bb_TC_writeSweep 51 = .ok (.getfield 95, 3) := by decide +kernel
theorem dd_TC_writeSweep_54 : decode bb_TC_writeSweep 54 = .ok (.aload_n 3, 1) := by decide +kernel
theorem dd_TC_writeSweep_55 : decode bb_TC_writeSweep 55 = .ok (.if_acmp .ne 9, 3) := by decide +kernel
theorem dd_TC_writeSweep_58 : decode bb_TC_writeSweep 58 = .ok (.aload 7, 2) := by decide +kernel
theorem dd_TC_writeSweep_60 : decode bb_TC_writeSweep 60 = .ok (.iload_n 2, 1) := by decide +kernel
theorem dd_TC_writeSweep_61 : decode bb_TC_writeSweep 61 = .ok (.invokevirtual 296, 3) := by decide +kernel
theorem dd_TC_writeSweep_64 : decode bb_TC_writeSweep 64 = .ok (.iinc 6 1, 3) := by decide +kernel
theorem dd_TC_writeSweep_67 : decode bb_TC_writeSweep 67 = .ok (.goto (-32), 3) := by decide +kernel
theorem dd_TC_writeSweep_70 : decode bb_TC_writeSweep 70 = .ok (.iconst 1, 1) := by decide +kernel
theorem dd_TC_writeSweep_71 : decode bb_TC_writeSweep 71 = .ok (.ireturn, 1) := by decide +kernel

theorem dd_Mo_in_0 : decode bb_Mo_in 0 = .ok (.iload_n 0, 1) := by decide +kernel
theorem dd_Mo_in_1 : decode bb_Mo_in 1 = .ok (.iload_n 1, 1) := by decide +kernel
theorem dd_Mo_in_2 : decode bb_Mo_in 2 = .ok (.if_icmp .lt 12, 3) := by decide +kernel
theorem dd_Mo_in_5 : decode bb_Mo_in 5 = .ok (.iload_n 0, 1) := by decide +kernel
theorem dd_Mo_in_6 : decode bb_Mo_in 6 = .ok (.iload_n 2, 1) := by decide +kernel
theorem dd_Mo_in_7 : decode bb_Mo_in 7 = .ok (.if_icmp .gt 7, 3) := by decide +kernel
theorem dd_Mo_in_10 : decode bb_Mo_in 10 = .ok (.iconst 1, 1) := by decide +kernel
theorem dd_Mo_in_11 : decode bb_Mo_in 11 = .ok (.goto 4, 3) := by decide +kernel
theorem dd_Mo_in_14 : decode bb_Mo_in 14 = .ok (.iconst 0, 1) := by decide +kernel
theorem dd_Mo_in_15 : decode bb_Mo_in 15 = .ok (.ireturn, 1) := by decide +kernel
theorem dd_Mo_thrown_0 : decode bb_Mo_thrown 0 = .ok (.aload_n 0, 1) := by decide +kernel
theorem dd_Mo_thrown_1 : decode bb_Mo_thrown 1 = .ok (.getfield 93, 3) := by decide +kernel
theorem dd_Mo_thrown_4 : decode bb_Mo_thrown 4 = .ok (.ireturn, 1) := by decide +kernel
theorem dd_Mo_fails_0 : decode bb_Mo_fails 0 = .ok (.aload_n 0, 1) := by decide +kernel
theorem dd_Mo_fails_1 : decode bb_Mo_fails 1 = .ok (.iload_n 1, 1) := by decide +kernel
theorem dd_Mo_fails_2 : decode bb_Mo_fails 2 = .ok (.putfield 93, 3) := by decide +kernel
theorem dd_Mo_fails_5 : decode bb_Mo_fails 5 = .ok (.iconst 0, 1) := by decide +kernel
theorem dd_Mo_fails_6 : decode bb_Mo_fails 6 = .ok (.ireturn, 1) := by decide +kernel
theorem dd_Mo_handOut_0 : decode bb_Mo_handOut 0 = .ok (.aload_n 0, 1) := by decide +kernel
theorem dd_Mo_handOut_1 : decode bb_Mo_handOut 1 = .ok (.aload_n 0, 1) := by decide +kernel
theorem dd_Mo_handOut_2 : decode bb_Mo_handOut 2 = .ok (.getfield 7, 3) := by decide +kernel
theorem dd_Mo_handOut_5 : decode bb_Mo_handOut 5 = .ok (.aload_n 0, 1) := by decide +kernel
theorem dd_Mo_handOut_6 : decode bb_Mo_handOut 6 = .ok (.getfield 96, 3) := by decide +kernel
theorem dd_Mo_handOut_9 : decode bb_Mo_handOut 9 = .ok (.if_icmp .le 13, 3) := by decide +kernel
theorem dd_Mo_handOut_12 : decode bb_Mo_handOut 12 = .ok (.aload_n 0, 1) := by decide +kernel
theorem dd_Mo_handOut_13 : decode bb_Mo_handOut 13 = .ok (.getfield 7, 3) := by decide +kernel
theorem dd_Mo_handOut_16 : decode bb_Mo_handOut 16 = .ok (.bipush 7, 2) := by decide +kernel
theorem dd_Mo_handOut_18 : decode bb_Mo_handOut 18 = .ok (.iadd, 1) := by decide +kernel
theorem dd_Mo_handOut_19 : decode bb_Mo_handOut 19 = .ok (.goto 7, 3) := by decide +kernel
theorem dd_Mo_handOut_22 : decode bb_Mo_handOut 22 = .ok (.aload_n 0, 1) := by decide +kernel
theorem dd_Mo_handOut_23 : decode bb_Mo_handOut 23 = .ok (.getfield 96, 3) := by decide +kernel
theorem dd_Mo_handOut_26 : decode bb_Mo_handOut 26 = .ok (.putfield 96, 3) := by decide +kernel
theorem dd_Mo_handOut_29 : decode bb_Mo_handOut 29 = .ok (.aload_n 0, 1) := by decide +kernel
theorem dd_Mo_handOut_30 : decode bb_Mo_handOut 30 = .ok (.dup, 1) := by decide +kernel
theorem dd_Mo_handOut_31 : decode bb_Mo_handOut 31 = .ok (.getfield 7, 3) := by decide +kernel
theorem dd_Mo_handOut_34 : decode bb_Mo_handOut 34 = .ok (.iconst 1, 1) := by decide +kernel
theorem dd_Mo_handOut_35 : decode bb_Mo_handOut 35 = .ok (.iadd, 1) := by decide +kernel
theorem dd_Mo_handOut_36 : decode bb_Mo_handOut 36 = .ok (.putfield 7, 3) := by decide +kernel
theorem dd_Mo_handOut_39 : decode bb_Mo_handOut 39 = .ok (.aload_n 0, 1) := by decide +kernel
theorem dd_Mo_handOut_40 : decode bb_Mo_handOut 40 = .ok (.getfield 7, 3) := by decide +kernel
theorem dd_Mo_handOut_43 : decode bb_Mo_handOut 43 = .ok (.iconst 1, 1) := by decide +kernel
theorem dd_Mo_handOut_44 : decode bb_Mo_handOut 44 = .ok (.isub, 1) := by decide +kernel
theorem dd_Mo_handOut_45 : decode bb_Mo_handOut 45 = .ok (.ireturn, 1) := by decide +kernel
theorem dd_Mo_entry_0 : decode bb_Mo_entry 0 = .ok (.aload_n 0, 1) := by decide +kernel
theorem dd_Mo_entry_1 : decode bb_Mo_entry 1 = .ok (.getfield 54, 3) := by decide +kernel
theorem dd_Mo_entry_4 : decode bb_Mo_entry 4 = .ok (.iload_n 1, 1) := by decide +kernel
theorem dd_Mo_entry_5 : decode bb_Mo_entry 5 = .ok (.iaload, 1) := by decide +kernel
theorem dd_Mo_entry_6 : decode bb_Mo_entry 6 = .ok (.bipush 8, 2) := by decide +kernel
theorem dd_Mo_entry_8 : decode bb_Mo_entry 8 = .ok (.if_icmp .ne 10, 3) := by decide +kernel
theorem dd_Mo_entry_11 : decode bb_Mo_entry 11 = .ok (.aload_n 0, 1) := by decide +kernel
theorem dd_Mo_entry_12 : decode bb_Mo_entry 12 = .ok (.getfield 54, 3) := by decide +kernel
theorem dd_Mo_entry_15 : decode bb_Mo_entry 15 = .ok (.iload_n 1, 1) := by decide +kernel
theorem dd_Mo_entry_16 : decode bb_Mo_entry 16 = .ok (.iconst 0, 1) := by decide +kernel
theorem dd_Mo_entry_17 : decode bb_Mo_entry 17 = .ok (.iastore, 1) := by decide +kernel
theorem dd_Mo_entry_18 : decode bb_Mo_entry 18 = .ok (.aload_n 0, 1) := by decide +kernel
theorem dd_Mo_entry_19 : decode bb_Mo_entry 19 = .ok (.getfield 57, 3) := by decide +kernel
theorem dd_Mo_entry_22 : decode bb_Mo_entry 22 = .ok (.iload_n 1, 1) := by decide +kernel
theorem dd_Mo_entry_23 : decode bb_Mo_entry 23 = .ok (.dup2, 1) := by decide +kernel
theorem dd_Mo_entry_24 : decode bb_Mo_entry 24 = .ok (.iaload, 1) := by decide +kernel
theorem dd_Mo_entry_25 : decode bb_Mo_entry 25 = .ok (.iconst 1, 1) := by decide +kernel
theorem dd_Mo_entry_26 : decode bb_Mo_entry 26 = .ok (.iadd, 1) := by decide +kernel
theorem dd_Mo_entry_27 : decode bb_Mo_entry 27 = .ok (.iastore, 1) := by decide +kernel
theorem dd_Mo_entry_28 : decode bb_Mo_entry 28 = .ok (.aload_n 0, 1) := by decide +kernel
theorem dd_Mo_entry_29 : decode bb_Mo_entry 29 = .ok (.getfield 60, 3) := by decide +kernel
theorem dd_Mo_entry_32 : decode bb_Mo_entry 32 = .ok (.iload_n 1, 1) := by decide +kernel
theorem dd_Mo_entry_33 : decode bb_Mo_entry 33 = .ok (.aload_n 0, 1) := by decide +kernel
theorem dd_Mo_entry_34 : decode bb_Mo_entry 34 = .ok (.getfield 60, 3) := by decide +kernel
theorem dd_Mo_entry_37 : decode bb_Mo_entry 37 = .ok (.iload_n 1, 1) := by decide +kernel
theorem dd_Mo_entry_38 : decode bb_Mo_entry 38 = .ok (.iaload, 1) := by decide +kernel
theorem dd_Mo_entry_39 : decode bb_Mo_entry 39 = .ok (.ifCond .le 14, 3) := by decide +kernel
theorem dd_Mo_entry_42 : decode bb_Mo_entry 42 = .ok (.aload_n 0, 1) := by decide +kernel
theorem dd_Mo_entry_43 : decode bb_Mo_entry 43 = .ok (.getfield 60, 3) := by decide +kernel
theorem dd_Mo_entry_46 : decode bb_Mo_entry 46 = .ok (.iload_n 1, 1) := by decide +kernel
theorem dd_Mo_entry_47 : decode bb_Mo_entry 47 = .ok (.iaload, 1) := by decide +kernel
theorem dd_Mo_entry_48 : decode bb_Mo_entry 48 = .ok (.iconst 1, 1) := by decide +kernel
theorem dd_Mo_entry_49 : decode bb_Mo_entry 49 = .ok (.isub, 1) := by decide +kernel
theorem dd_Mo_entry_50 : decode bb_Mo_entry 50 = .ok (.goto 4, 3) := by decide +kernel
theorem dd_Mo_entry_53 : decode bb_Mo_entry 53 = .ok (.iconst (-1), 1) := by decide +kernel
theorem dd_Mo_entry_54 : decode bb_Mo_entry 54 = .ok (.iastore, 1) := by decide +kernel
theorem dd_Mo_entry_55 : decode bb_Mo_entry 55 = .ok (.aload_n 0, 1) := by decide +kernel
theorem dd_Mo_entry_56 : decode bb_Mo_entry 56 = .ok (.getfield 60, 3) := by decide +kernel
theorem dd_Mo_entry_59 : decode bb_Mo_entry 59 = .ok (.iload_n 1, 1) := by decide +kernel
theorem dd_Mo_entry_60 : decode bb_Mo_entry 60 = .ok (.iaload, 1) := by decide +kernel
theorem dd_Mo_entry_61 : decode bb_Mo_entry 61 = .ok (.ifCond .ne 7, 3) := by decide +kernel
theorem dd_Mo_entry_64 : decode bb_Mo_entry 64 = .ok (.iconst 1, 1) := by decide +kernel
theorem dd_Mo_entry_65 : decode bb_Mo_entry 65 = .ok (.goto 4, 3) := by decide +kernel
theorem dd_Mo_entry_68 : decode bb_Mo_entry 68 = .ok (.iconst 0, 1) := by decide +kernel
theorem dd_Mo_entry_69 : decode bb_Mo_entry 69 = .ok (.istore_n 2, 1) := by decide +kernel
theorem dd_Mo_entry_70 : decode bb_Mo_entry 70 = .ok (.aload_n 0, 1) := by decide +kernel
theorem dd_Mo_entry_71 : decode bb_Mo_entry 71 = .ok (.getfield 47, 3) := by decide +kernel
theorem dd_Mo_entry_74 : decode bb_Mo_entry 74 = .ok (.iload_n 1, 1) := by decide +kernel
theorem dd_Mo_entry_75 : decode bb_Mo_entry 75 = .ok (.aload_n 0, 1) := by decide +kernel
theorem dd_Mo_entry_76 : decode bb_Mo_entry 76 = .ok (.getfield 47, 3) := by decide +kernel
theorem dd_Mo_entry_79 : decode bb_Mo_entry 79 = .ok (.iload_n 1, 1) := by decide +kernel
theorem dd_Mo_entry_80 : decode bb_Mo_entry 80 = .ok (.baload, 1) := by decide +kernel
theorem dd_Mo_entry_81 : decode bb_Mo_entry 81 = .ok (.ifCond .ne 7, 3) := by decide +kernel
theorem dd_Mo_entry_84 : decode bb_Mo_entry 84 = .ok (.iload_n 2, 1) := by decide +kernel
theorem dd_Mo_entry_85 : decode bb_Mo_entry 85 = .ok (.ifCond .eq 7, 3) := by decide +kernel
theorem dd_Mo_entry_88 : decode bb_Mo_entry 88 = .ok (.iconst 1, 1) := by decide +kernel
theorem dd_Mo_entry_89 : decode bb_Mo_entry 89 = .ok (.goto 4, 3) := by decide +kernel
theorem dd_Mo_entry_92 : decode bb_Mo_entry 92 = .ok (.iconst 0, 1) := by decide +kernel
theorem dd_Mo_entry_93 : decode bb_Mo_entry 93 = .ok (.bastore, 1) := by decide +kernel
theorem dd_Mo_entry_94 : decode bb_Mo_entry 94 = .ok (.iload_n 2, 1) := by decide +kernel
theorem dd_Mo_entry_95 : decode bb_Mo_entry 95 = .ok (.ifCond .eq 12, 3) := by decide +kernel
theorem dd_Mo_entry_98 : decode bb_Mo_entry 98 = .ok (.aload_n 0, 1) := by decide +kernel
theorem dd_Mo_entry_99 : decode bb_Mo_entry 99 = .ok (.getfield 63, 3) := by decide +kernel
theorem dd_Mo_entry_102 : decode bb_Mo_entry 102 = .ok (.iload_n 1, 1) := by decide +kernel
theorem dd_Mo_entry_103 : decode bb_Mo_entry 103 = .ok (.baload, 1) := by decide +kernel
theorem dd_Mo_entry_104 : decode bb_Mo_entry 104 = .ok (.ifCond .eq 7, 3) := by decide +kernel
theorem dd_Mo_entry_107 : decode bb_Mo_entry 107 = .ok (.iconst 1, 1) := by decide +kernel
theorem dd_Mo_entry_108 : decode bb_Mo_entry 108 = .ok (.goto 4, 3) := by decide +kernel
theorem dd_Mo_entry_111 : decode bb_Mo_entry 111 = .ok (.iconst 0, 1) := by decide +kernel
theorem dd_Mo_entry_112 : decode bb_Mo_entry 112 = .ok (.istore_n 3, 1) := by decide +kernel
theorem dd_Mo_entry_113 : decode bb_Mo_entry 113 = .ok (.aload_n 0, 1) := by decide +kernel
theorem dd_Mo_entry_114 : decode bb_Mo_entry 114 = .ok (.getfield 54, 3) := by decide +kernel
theorem dd_Mo_entry_117 : decode bb_Mo_entry 117 = .ok (.iload_n 1, 1) := by decide +kernel
theorem dd_Mo_entry_118 : decode bb_Mo_entry 118 = .ok (.dup2, 1) := by decide +kernel
theorem dd_Mo_entry_119 : decode bb_Mo_entry 119 = .ok (.iaload, 1) := by decide +kernel
theorem dd_Mo_entry_120 : decode bb_Mo_entry 120 = .ok (.iload_n 3, 1) := by decide +kernel
theorem dd_Mo_entry_121 : decode bb_Mo_entry 121 = .ok (.ifCond .eq 7, 3) := by decide +kernel
theorem dd_Mo_entry_124 : decode bb_Mo_entry 124 = .ok (.iconst 1, 1) := by decide +kernel
theorem dd_Mo_entry_125 : decode bb_Mo_entry 125 = .ok (.goto 4, 3) := by decide +kernel
theorem dd_Mo_entry_128 : decode bb_Mo_entry 128 = .ok (.iconst 0, 1) := by decide +kernel
theorem dd_Mo_entry_129 : decode bb_Mo_entry 129 = .ok (.iadd, 1) := by decide +kernel
theorem dd_Mo_entry_130 : decode bb_Mo_entry 130 = .ok (.iastore, 1) := by decide +kernel
theorem dd_Mo_entry_131 : decode bb_Mo_entry 131 = .ok (.iload_n 3, 1) := by decide +kernel
theorem dd_Mo_entry_132 : decode bb_Mo_entry 132 = .ok (.ireturn, 1) := by decide +kernel
theorem dd_Mo_put_0 : decode bb_Mo_put 0 = .ok (.aload_n 0, 1) := by decide +kernel
theorem dd_Mo_put_1 : decode bb_Mo_put 1 = .ok (.getfield 32, 3) := by decide +kernel
theorem dd_Mo_put_4 : decode bb_Mo_put 4 = .ok (.aload_n 0, 1) := by decide +kernel
theorem dd_Mo_put_5 : decode bb_Mo_put 5 = .ok (.getfield 99, 3) := by decide +kernel
theorem dd_Mo_put_8 : decode bb_Mo_put 8 = .ok (.iload_n 1, 1) := by decide +kernel
theorem dd_Mo_put_9 : decode bb_Mo_put 9 = .ok (.iastore, 1) := by decide +kernel
theorem dd_Mo_put_10 : decode bb_Mo_put 10 = .ok (.aload_n 0, 1) := by decide +kernel
theorem dd_Mo_put_11 : decode bb_Mo_put 11 = .ok (.getfield 35, 3) := by decide +kernel
theorem dd_Mo_put_14 : decode bb_Mo_put 14 = .ok (.aload_n 0, 1) := by decide +kernel
theorem dd_Mo_put_15 : decode bb_Mo_put 15 = .ok (.getfield 99, 3) := by decide +kernel
theorem dd_Mo_put_18 : decode bb_Mo_put 18 = .ok (.iload_n 2, 1) := by decide +kernel
theorem dd_Mo_put_19 : decode bb_Mo_put 19 = .ok (.iastore, 1) := by decide +kernel
theorem dd_Mo_put_20 : decode bb_Mo_put 20 = .ok (.aload_n 0, 1) := by decide +kernel
theorem dd_Mo_put_21 : decode bb_Mo_put 21 = .ok (.getfield 38, 3) := by decide +kernel
theorem dd_Mo_put_24 : decode bb_Mo_put 24 = .ok (.aload_n 0, 1) := by decide +kernel
theorem dd_Mo_put_25 : decode bb_Mo_put 25 = .ok (.getfield 99, 3) := by decide +kernel
theorem dd_Mo_put_28 : decode bb_Mo_put 28 = .ok (.iload_n 3, 1) := by decide +kernel
theorem dd_Mo_put_29 : decode bb_Mo_put 29 = .ok (.iastore, 1) := by decide +kernel
theorem dd_Mo_put_30 : decode bb_Mo_put 30 = .ok (.aload_n 0, 1) := by decide +kernel
theorem dd_Mo_put_31 : decode bb_Mo_put 31 = .ok (.getfield 41, 3) := by decide +kernel
theorem dd_Mo_put_34 : decode bb_Mo_put 34 = .ok (.aload_n 0, 1) := by decide +kernel
theorem dd_Mo_put_35 : decode bb_Mo_put 35 = .ok (.getfield 99, 3) := by decide +kernel
theorem dd_Mo_put_38 : decode bb_Mo_put 38 = .ok (.iload 4, 2) := by decide +kernel
theorem dd_Mo_put_40 : decode bb_Mo_put 40 = .ok (.iastore, 1) := by decide +kernel
theorem dd_Mo_put_41 : decode bb_Mo_put 41 = .ok (.aload_n 0, 1) := by decide +kernel
theorem dd_Mo_put_42 : decode bb_Mo_put 42 = .ok (.getfield 44, 3) := by decide +kernel
theorem dd_Mo_put_45 : decode bb_Mo_put 45 = .ok (.aload_n 0, 1) := by decide +kernel
theorem dd_Mo_put_46 : decode bb_Mo_put 46 = .ok (.getfield 99, 3) := by decide +kernel
theorem dd_Mo_put_49 : decode bb_Mo_put 49 = .ok (.iload 5, 2) := by decide +kernel
theorem dd_Mo_put_51 : decode bb_Mo_put 51 = .ok (.iastore, 1) := by decide +kernel
theorem dd_Mo_put_52 : decode bb_Mo_put 52 = .ok (.aload_n 0, 1) := by decide +kernel
theorem dd_Mo_put_53 : decode bb_Mo_put 53 = .ok (.dup, 1) := by decide +kernel
theorem dd_Mo_put_54 : decode bb_Mo_put 54 = .ok (.getfield 99, 3) := by decide +kernel
theorem dd_Mo_put_57 : decode bb_Mo_put 57 = .ok (.iconst 1, 1) := by decide +kernel
theorem dd_Mo_put_58 : decode bb_Mo_put 58 = .ok (.iadd, 1) := by decide +kernel
theorem dd_Mo_put_59 : decode bb_Mo_put 59 = .ok (.putfield 99, 3) := by decide +kernel
theorem dd_Mo_put_62 : decode bb_Mo_put 62 = .ok (.return_, 1) := by decide +kernel
theorem dd_Mo_done_0 : decode bb_Mo_done 0 = .ok (.aload_n 0, 1) := by decide +kernel
theorem dd_Mo_done_1 : decode bb_Mo_done 1 = .ok (.iload_n 1, 1) := by decide +kernel
theorem dd_Mo_done_2 : decode bb_Mo_done 2 = .ok (.iconst 4, 1) := by decide +kernel
theorem dd_Mo_done_3 : decode bb_Mo_done 3 = .ok (.idiv, 1) := by decide +kernel
theorem dd_Mo_done_4 : decode bb_Mo_done 4 = .ok (.invokevirtual 102, 3) := by decide +kernel
theorem dd_Mo_done_7 : decode bb_Mo_done 7 = .ok (.istore_n 3, 1) := by decide +kernel
theorem dd_Mo_done_8 : decode bb_Mo_done 8 = .ok (.iload_n 3, 1) := by decide +kernel
theorem dd_Mo_done_9 : decode bb_Mo_done 9 = .ok (.ifCond .eq 34, 3) := by decide +kernel
theorem dd_Mo_done_12 : decode bb_Mo_done 12 = .ok (.aload_n 0, 1) := by decide +kernel
theorem dd_Mo_done_13 : decode bb_Mo_done 13 = .ok (.iload_n 1, 1) := by decide +kernel
theorem dd_Mo_done_14 : decode bb_Mo_done 14 = .ok (.iload_n 2, 1) := by decide +kernel
theorem dd_Mo_done_15 : decode bb_Mo_done 15 = .ok (.aload_n 0, 1) := by decide +kernel
theorem dd_Mo_done_16 : decode bb_Mo_done 16 = .ok (.getfield 13, 3) := by decide +kernel
theorem dd_Mo_done_19 : decode bb_Mo_done 19 = .ok (.iload_n 1, 1) := by decide +kernel
theorem dd_Mo_done_20 : decode bb_Mo_done 20 = .ok (.iaload, 1) := by decide +kernel
theorem dd_Mo_done_21 : decode bb_Mo_done 21 = .ok (.aload_n 0, 1) := by decide +kernel
theorem dd_Mo_done_22 : decode bb_Mo_done 22 = .ok (.getfield 26, 3) := by decide +kernel
theorem dd_Mo_done_25 : decode bb_Mo_done 25 = .ok (.iload_n 1, 1) := by decide +kernel
theorem dd_Mo_done_26 : decode bb_Mo_done 26 = .ok (.iaload, 1) := by decide +kernel
theorem dd_Mo_done_27 : decode bb_Mo_done 27 = .ok (.aload_n 0, 1) := by decide +kernel
theorem dd_Mo_done_28 : decode bb_Mo_done 28 = .ok (.getfield 29, 3) := by decide +kernel
theorem dd_Mo_done_31 : decode bb_Mo_done 31 = .ok (.iload_n 1, 1) := by decide +kernel
theorem dd_Mo_done_32 : decode bb_Mo_done 32 = .ok (.iaload, 1) := by decide +kernel
theorem dd_Mo_done_33 : decode bb_Mo_done 33 = .ok (.invokevirtual 106, 3) := by decide +kernel
theorem dd_Mo_done_36 : decode bb_Mo_done 36 = .ok (.aload_n 0, 1) := by decide +kernel
theorem dd_Mo_done_37 : decode bb_Mo_done 37 = .ok (.getfield 13, 3) := by decide +kernel
theorem dd_Mo_done_40 : decode bb_Mo_done 40 = .ok (.iload_n 1, 1) := by decide +kernel
theorem dd_Mo_done_41 : decode bb_Mo_done 41 = .ok (.iconst 0, 1) := by decide +kernel
theorem dd_Mo_done_42 : decode bb_Mo_done 42 = .ok (.iastore, 1) := by decide +kernel
theorem dd_Mo_done_43 : decode bb_Mo_done 43 = .ok (.aload_n 0, 1) := by decide +kernel
theorem dd_Mo_done_44 : decode bb_Mo_done 44 = .ok (.getfield 47, 3) := by decide +kernel
theorem dd_Mo_done_47 : decode bb_Mo_done 47 = .ok (.iload_n 1, 1) := by decide +kernel
theorem dd_Mo_done_48 : decode bb_Mo_done 48 = .ok (.iconst 4, 1) := by decide +kernel
theorem dd_Mo_done_49 : decode bb_Mo_done 49 = .ok (.idiv, 1) := by decide +kernel
theorem dd_Mo_done_50 : decode bb_Mo_done 50 = .ok (.baload, 1) := by decide +kernel
theorem dd_Mo_done_51 : decode bb_Mo_done 51 = .ok (.ifCond .ne 7, 3) := by decide +kernel
theorem dd_Mo_done_54 : decode bb_Mo_done 54 = .ok (.iconst 1, 1) := by decide +kernel
theorem dd_Mo_done_55 : decode bb_Mo_done 55 = .ok (.goto 4, 3) := by decide +kernel
theorem dd_Mo_done_58 : decode bb_Mo_done 58 = .ok (.iconst 0, 1) := by decide +kernel
theorem dd_Mo_done_59 : decode bb_Mo_done 59 = .ok (.ireturn, 1) := by decide +kernel
theorem dd_Mo_voids_0 : decode bb_Mo_voids 0 = .ok (.aload_n 0, 1) := by decide +kernel
theorem dd_Mo_voids_1 : decode bb_Mo_voids 1 = .ok (.iload_n 1, 1) := by decide +kernel
theorem dd_Mo_voids_2 : decode bb_Mo_voids 2 = .ok (.iconst 4, 1) := by decide +kernel
theorem dd_Mo_voids_3 : decode bb_Mo_voids 3 = .ok (.idiv, 1) := by decide +kernel
theorem dd_Mo_voids_4 : decode bb_Mo_voids 4 = .ok (.invokevirtual 102, 3) := by decide +kernel
theorem dd_Mo_voids_7 : decode bb_Mo_voids 7 = .ok (.istore_n 3, 1) := by decide +kernel
theorem dd_Mo_voids_8 : decode bb_Mo_voids 8 = .ok (.iload_n 3, 1) := by decide +kernel
theorem dd_Mo_voids_9 : decode bb_Mo_voids 9 = .ok (.ifCond .eq 38, 3) := by decide +kernel
theorem dd_Mo_voids_12 : decode bb_Mo_voids 12 = .ok (.aload_n 0, 1) := by decide +kernel
theorem dd_Mo_voids_13 : decode bb_Mo_voids 13 = .ok (.iload_n 1, 1) := by decide +kernel
theorem dd_Mo_voids_14 : decode bb_Mo_voids 14 = .ok (.iload_n 2, 1) := by decide +kernel
theorem dd_Mo_voids_15 : decode bb_Mo_voids 15 = .ok (.iload_n 2, 1) := by decide +kernel
theorem dd_Mo_voids_16 : decode bb_Mo_voids 16 = .ok (.iconst 3, 1) := by decide +kernel
theorem dd_Mo_voids_17 : decode bb_Mo_voids 17 = .ok (.iconst 0, 1) := by decide +kernel
theorem dd_Mo_voids_18 : decode bb_Mo_voids 18 = .ok (.invokevirtual 106, 3) := by decide +kernel
theorem dd_Mo_voids_21 : decode bb_Mo_voids 21 = .ok (.aload_n 0, 1) := by decide +kernel
theorem dd_Mo_voids_22 : decode bb_Mo_voids 22 = .ok (.getfield 13, 3) := by decide +kernel
theorem dd_Mo_voids_25 : decode bb_Mo_voids 25 = .ok (.iload_n 1, 1) := by decide +kernel
theorem dd_Mo_voids_26 : decode bb_Mo_voids 26 = .ok (.aload_n 0, 1) := by decide +kernel
theorem dd_Mo_voids_27 : decode bb_Mo_voids 27 = .ok (.getfield 13, 3) := by decide +kernel
theorem dd_Mo_voids_30 : decode bb_Mo_voids 30 = .ok (.iload_n 1, 1) := by decide +kernel
theorem dd_Mo_voids_31 : decode bb_Mo_voids 31 = .ok (.iaload, 1) := by decide +kernel
theorem dd_Mo_voids_32 : decode bb_Mo_voids 32 = .ok (.iload_n 2, 1) := by decide +kernel
theorem dd_Mo_voids_33 : decode bb_Mo_voids 33 = .ok (.if_icmp .ne 7, 3) := by decide +kernel
theorem dd_Mo_voids_36 : decode bb_Mo_voids 36 = .ok (.iconst 0, 1) := by decide +kernel
theorem dd_Mo_voids_37 : decode bb_Mo_voids 37 = .ok (.goto 9, 3) := by decide +kernel
theorem dd_Mo_voids_40 : decode bb_Mo_voids 40 = .ok (.aload_n 0, 1) := by decide +kernel
theorem dd_Mo_voids_41 : decode bb_Mo_voids 41 = .ok (.getfield 13, 3) := by decide +kernel
theorem dd_Mo_voids_44 : decode bb_Mo_voids 44 = .ok (.iload_n 1, 1) := by decide +kernel
theorem dd_Mo_voids_45 : decode bb_Mo_voids 45 = .ok (.iaload, 1) := by decide +kernel
theorem dd_Mo_voids_46 : decode bb_Mo_voids 46 = .ok (.iastore, 1) := by decide +kernel
theorem dd_Mo_voids_47 : decode bb_Mo_voids 47 = .ok (.aload_n 0, 1) := by decide +kernel
theorem dd_Mo_voids_48 : decode bb_Mo_voids 48 = .ok (.getfield 47, 3) := by decide +kernel
theorem dd_Mo_voids_51 : decode bb_Mo_voids 51 = .ok (.iload_n 1, 1) := by decide +kernel
theorem dd_Mo_voids_52 : decode bb_Mo_voids 52 = .ok (.iconst 4, 1) := by decide +kernel
theorem dd_Mo_voids_53 : decode bb_Mo_voids 53 = .ok (.idiv, 1) := by decide +kernel
theorem dd_Mo_voids_54 : decode bb_Mo_voids 54 = .ok (.baload, 1) := by decide +kernel
theorem dd_Mo_voids_55 : decode bb_Mo_voids 55 = .ok (.ifCond .ne 7, 3) := by decide +kernel
theorem dd_Mo_voids_58 : decode bb_Mo_voids 58 = .ok (.iconst 1, 1) := by decide +kernel
theorem dd_Mo_voids_59 : decode bb_Mo_voids 59 = .ok (.goto 4, 3) := by decide +kernel
theorem dd_Mo_voids_62 : decode bb_Mo_voids 62 = .ok (.iconst 0, 1) := by decide +kernel
theorem dd_Mo_voids_63 : decode bb_Mo_voids 63 = .ok (.ireturn, 1) := by decide +kernel
theorem dd_Mo_locks_0 : decode bb_Mo_locks 0 = .ok (.aload_n 0, 1) := by decide +kernel
theorem dd_Mo_locks_1 : decode bb_Mo_locks 1 = .ok (.iload_n 2, 1) := by decide +kernel
theorem dd_Mo_locks_2 : decode bb_Mo_locks 2 = .ok (.iconst 4, 1) := by decide +kernel
theorem dd_Mo_locks_3 : decode bb_Mo_locks 3 = .ok (.idiv, 1) := by decide +kernel
theorem dd_Mo_locks_4 : decode bb_Mo_locks 4 = .ok (.invokevirtual 102, 3) := by decide +kernel
theorem dd_Mo_locks_7 : decode bb_Mo_locks 7 = .ok (.istore 4, 2) := by decide +kernel
theorem dd_Mo_locks_9 : decode bb_Mo_locks 9 = .ok (.iload 4, 2) := by decide +kernel
theorem dd_Mo_locks_11 : decode bb_Mo_locks 11 = .ok (.ifCond .eq 73, 3) := by decide +kernel
theorem dd_Mo_locks_14 : decode bb_Mo_locks 14 = .ok (.aload_n 0, 1) := by decide +kernel
theorem dd_Mo_locks_15 : decode bb_Mo_locks 15 = .ok (.getfield 13, 3) := by decide +kernel
theorem dd_Mo_locks_18 : decode bb_Mo_locks 18 = .ok (.iload_n 2, 1) := by decide +kernel
theorem dd_Mo_locks_19 : decode bb_Mo_locks 19 = .ok (.aload_n 0, 1) := by decide +kernel
theorem dd_Mo_locks_20 : decode bb_Mo_locks 20 = .ok (.getfield 69, 3) := by decide +kernel
theorem dd_Mo_locks_23 : decode bb_Mo_locks 23 = .ok (.iload_n 1, 1) := by decide +kernel
theorem dd_Mo_locks_24 : decode bb_Mo_locks 24 = .ok (.iaload, 1) := by decide +kernel
theorem dd_Mo_locks_25 : decode bb_Mo_locks 25 = .ok (.iastore, 1) := by decide +kernel
theorem dd_Mo_locks_26 : decode bb_Mo_locks 26 = .ok (.aload_n 0, 1) := by decide +kernel
theorem dd_Mo_locks_27 : decode bb_Mo_locks 27 = .ok (.getfield 17, 3) := by decide +kernel
theorem dd_Mo_locks_30 : decode bb_Mo_locks 30 = .ok (.iload_n 2, 1) := by decide +kernel
theorem dd_Mo_locks_31 : decode bb_Mo_locks 31 = .ok (.iload_n 3, 1) := by decide +kernel
theorem dd_Mo_locks_32 : decode bb_Mo_locks 32 = .ok (.iastore, 1) := by decide +kernel
theorem dd_Mo_locks_33 : decode bb_Mo_locks 33 = .ok (.aload_n 0, 1) := by decide +kernel
theorem dd_Mo_locks_34 : decode bb_Mo_locks 34 = .ok (.getfield 20, 3) := by decide +kernel
theorem dd_Mo_locks_37 : decode bb_Mo_locks 37 = .ok (.iload_n 2, 1) := by decide +kernel
theorem dd_Mo_locks_38 : decode bb_Mo_locks 38 = .ok (.iload_n 1, 1) := by decide +kernel
theorem dd_Mo_locks_39 : decode bb_Mo_locks 39 = .ok (.iastore, 1) := by decide +kernel
theorem dd_Mo_locks_40 : decode bb_Mo_locks 40 = .ok (.aload_n 0, 1) := by decide +kernel
theorem dd_Mo_locks_41 : decode bb_Mo_locks 41 = .ok (.getfield 23, 3) := by decide +kernel
theorem dd_Mo_locks_44 : decode bb_Mo_locks 44 = .ok (.iload_n 2, 1) := by decide +kernel
theorem dd_Mo_locks_45 : decode bb_Mo_locks 45 = .ok (.aload_n 0, 1) := by decide +kernel
theorem dd_Mo_locks_46 : decode bb_Mo_locks 46 = .ok (.getfield 110, 3) := by decide +kernel
theorem dd_Mo_locks_49 : decode bb_Mo_locks 49 = .ok (.iastore, 1) := by decide +kernel
theorem dd_Mo_locks_50 : decode bb_Mo_locks 50 = .ok (.aload_n 0, 1) := by decide +kernel
theorem dd_Mo_locks_51 : decode bb_Mo_locks 51 = .ok (.getfield 26, 3) := by decide +kernel
theorem dd_Mo_locks_54 : decode bb_Mo_locks 54 = .ok (.iload_n 2, 1) := by decide +kernel
theorem dd_Mo_locks_55 : decode bb_Mo_locks 55 = .ok (.aload_n 0, 1) := by decide +kernel
theorem dd_Mo_locks_56 : decode bb_Mo_locks 56 = .ok (.getfield 78, 3) := by decide +kernel
theorem dd_Mo_locks_59 : decode bb_Mo_locks 59 = .ok (.bipush 12, 2) := by decide +kernel
theorem dd_Mo_locks_61 : decode bb_Mo_locks 61 = .ok (.iload_n 1, 1) := by decide +kernel
theorem dd_Mo_locks_62 : decode bb_Mo_locks 62 = .ok (.imul, 1) := by decide +kernel
theorem dd_Mo_locks_63 : decode bb_Mo_locks 63 = .ok (.iload_n 2, 1) := by decide +kernel
theorem dd_Mo_locks_64 : decode bb_Mo_locks 64 = .ok (.iadd, 1) := by decide +kernel
theorem dd_Mo_locks_65 : decode bb_Mo_locks 65 = .ok (.iaload, 1) := by decide +kernel
theorem dd_Mo_locks_66 : decode bb_Mo_locks 66 = .ok (.iastore, 1) := by decide +kernel
theorem dd_Mo_locks_67 : decode bb_Mo_locks 67 = .ok (.aload_n 0, 1) := by decide +kernel
theorem dd_Mo_locks_68 : decode bb_Mo_locks 68 = .ok (.getfield 29, 3) := by decide +kernel
theorem dd_Mo_locks_71 : decode bb_Mo_locks 71 = .ok (.iload_n 2, 1) := by decide +kernel
theorem dd_Mo_locks_72 : decode bb_Mo_locks 72 = .ok (.aload_n 0, 1) := by decide +kernel
theorem dd_Mo_locks_73 : decode bb_Mo_locks 73 = .ok (.getfield 81, 3) := by decide +kernel
theorem dd_Mo_locks_76 : decode bb_Mo_locks 76 = .ok (.bipush 12, 2) := by decide +kernel
theorem dd_Mo_locks_78 : decode bb_Mo_locks 78 = .ok (.iload_n 1, 1) := by decide +kernel
theorem dd_Mo_locks_79 : decode bb_Mo_locks 79 = .ok (.imul, 1) := by decide +kernel
theorem dd_Mo_locks_80 : decode bb_Mo_locks 80 = .ok (.iload_n 2, 1) := by decide +kernel
theorem dd_Mo_locks_81 : decode bb_Mo_locks 81 = .ok (.iadd, 1) := by decide +kernel
theorem dd_Mo_locks_82 : decode bb_Mo_locks 82 = .ok (.iaload, 1) := by decide +kernel
theorem dd_Mo_locks_83 : decode bb_Mo_locks 83 = .ok (.iastore, 1) := by decide +kernel
theorem dd_Mo_locks_84 : decode bb_Mo_locks 84 = .ok (.aload_n 0, 1) := by decide +kernel
theorem dd_Mo_locks_85 : decode bb_Mo_locks 85 = .ok (.getfield 47, 3) := by decide +kernel
theorem dd_Mo_locks_88 : decode bb_Mo_locks 88 = .ok (.iload_n 2, 1) := by decide +kernel
theorem dd_Mo_locks_89 : decode bb_Mo_locks 89 = .ok (.iconst 4, 1) := by decide +kernel
theorem dd_Mo_locks_90 : decode bb_Mo_locks 90 = .ok (.idiv, 1) := by decide +kernel
theorem dd_Mo_locks_91 : decode bb_Mo_locks 91 = .ok (.baload, 1) := by decide +kernel
theorem dd_Mo_locks_92 : decode bb_Mo_locks 92 = .ok (.ifCond .ne 7, 3) := by decide +kernel
theorem dd_Mo_locks_95 : decode bb_Mo_locks 95 = .ok (.iconst 1, 1) := by decide +kernel
theorem dd_Mo_locks_96 : decode bb_Mo_locks 96 = .ok (.goto 4, 3) := by decide +kernel
theorem dd_Mo_locks_99 : decode bb_Mo_locks 99 = .ok (.iconst 0, 1) := by decide +kernel
theorem dd_Mo_locks_100 : decode bb_Mo_locks 100 = .ok (.ireturn, 1) := by decide +kernel
theorem dd_Mo_loose_0 : decode bb_Mo_loose 0 = .ok (.aload_n 0, 1) := by decide +kernel
theorem dd_Mo_loose_1 : decode bb_Mo_loose 1 = .ok (.getfield 20, 3) := by decide +kernel
theorem dd_Mo_loose_4 : decode bb_Mo_loose 4 = .ok (.iload_n 1, 1) := by decide +kernel
theorem dd_Mo_loose_5 : decode bb_Mo_loose 5 = .ok (.iaload, 1) := by decide +kernel
theorem dd_Mo_loose_6 : decode bb_Mo_loose 6 = .ok (.istore_n 2, 1) := by decide +kernel
theorem dd_Mo_loose_7 : decode bb_Mo_loose 7 = .ok (.aload_n 0, 1) := by decide +kernel
theorem dd_Mo_loose_8 : decode bb_Mo_loose 8 = .ok (.getfield 66, 3) := by decide +kernel
theorem dd_Mo_loose_11 : decode bb_Mo_loose 11 = .ok (.iload_n 2, 1) := by decide +kernel
theorem dd_Mo_loose_12 : decode bb_Mo_loose 12 = .ok (.iaload, 1) := by decide +kernel
theorem dd_Mo_loose_13 : decode bb_Mo_loose 13 = .ok (.ifCond .eq 36, 3) := by decide +kernel
theorem dd_Mo_loose_16 : decode bb_Mo_loose 16 = .ok (.aload_n 0, 1) := by decide +kernel
theorem dd_Mo_loose_17 : decode bb_Mo_loose 17 = .ok (.getfield 69, 3) := by decide +kernel
theorem dd_Mo_loose_20 : decode bb_Mo_loose 20 = .ok (.iload_n 2, 1) := by decide +kernel
theorem dd_Mo_loose_21 : decode bb_Mo_loose 21 = .ok (.iaload, 1) := by decide +kernel
theorem dd_Mo_loose_22 : decode bb_Mo_loose 22 = .ok (.aload_n 0, 1) := by decide +kernel
theorem dd_Mo_loose_23 : decode bb_Mo_loose 23 = .ok (.getfield 13, 3) := by decide +kernel
theorem dd_Mo_loose_26 : decode bb_Mo_loose 26 = .ok (.iload_n 1, 1) := by decide +kernel
theorem dd_Mo_loose_27 : decode bb_Mo_loose 27 = .ok (.iaload, 1) := by decide +kernel
theorem dd_Mo_loose_28 : decode bb_Mo_loose 28 = .ok (.if_icmp .ne 21, 3) := by decide +kernel
theorem dd_Mo_loose_31 : decode bb_Mo_loose 31 = .ok (.aload_n 0, 1) := by decide +kernel
theorem dd_Mo_loose_32 : decode bb_Mo_loose 32 = .ok (.getfield 110, 3) := by decide +kernel
theorem dd_Mo_loose_35 : decode bb_Mo_loose 35 = .ok (.aload_n 0, 1) := by decide +kernel
theorem dd_Mo_loose_36 : decode bb_Mo_loose 36 = .ok (.getfield 23, 3) := by decide +kernel
theorem dd_Mo_loose_39 : decode bb_Mo_loose 39 = .ok (.iload_n 1, 1) := by decide +kernel
theorem dd_Mo_loose_40 : decode bb_Mo_loose 40 = .ok (.iaload, 1) := by decide +kernel
theorem dd_Mo_loose_41 : decode bb_Mo_loose 41 = .ok (.isub, 1) := by decide +kernel
theorem dd_Mo_loose_42 : decode bb_Mo_loose 42 = .ok (.aload_n 0, 1) := by decide +kernel
theorem dd_Mo_loose_43 : decode bb_Mo_loose 43 = .ok (.getfield 90, 3) := by decide +kernel
theorem dd_Mo_loose_46 : decode bb_Mo_loose 46 = .ok (.if_icmp .lt 7, 3) := by decide +kernel
theorem dd_Mo_loose_49 : decode bb_Mo_loose 49 = .ok (.iconst 1, 1) := by decide +kernel
theorem dd_Mo_loose_50 : decode bb_Mo_loose 50 = .ok (.goto 4, 3) := by decide +kernel
theorem dd_Mo_loose_53 : decode bb_Mo_loose 53 = .ok (.iconst 0, 1) := by decide +kernel
theorem dd_Mo_loose_54 : decode bb_Mo_loose 54 = .ok (.ireturn, 1) := by decide +kernel
theorem dd_Mo_decision_0 : decode bb_Mo_decision 0 = .ok (.iconst 0, 1) := by decide +kernel
theorem dd_Mo_decision_1 : decode bb_Mo_decision 1 = .ok (.istore_n 3, 1) := by decide +kernel
theorem dd_Mo_decision_2 : decode bb_Mo_decision 2 = .ok (.iconst 0, 1) := by decide +kernel
theorem dd_Mo_decision_3 : decode bb_Mo_decision 3 = .ok (.istore 4, 2) := by decide +kernel
theorem dd_Mo_decision_5 : decode bb_Mo_decision 5 = .ok (.iload 4, 2) := by decide +kernel
theorem dd_Mo_decision_7 : decode bb_Mo_decision 7 = .ok (.aload_n 0, 1) := by decide +kernel
theorem dd_Mo_decision_8 : decode bb_Mo_decision 8 = .ok (.getfield 99, 3) := by decide +kernel
theorem dd_Mo_decision_11 : decode bb_Mo_decision 11 = .ok (.if_icmp .ge 61, 3) := by decide +kernel
theorem dd_Mo_decision_14 : decode bb_Mo_decision 14 = .ok (.aload_n 0, 1) := by decide +kernel
theorem dd_Mo_decision_15 : decode bb_Mo_decision 15 = .ok (.getfield 32, 3) := by decide +kernel
theorem dd_Mo_decision_18 : decode bb_Mo_decision 18 = .ok (.iload 4, 2) := by decide +kernel
theorem dd_Mo_decision_20 : decode bb_Mo_decision 20 = .ok (.iaload, 1) := by decide +kernel
theorem dd_Mo_decision_21 : decode bb_Mo_decision 21 = .ok (.iload_n 1, 1) := by decide +kernel
theorem dd_Mo_decision_22 : decode bb_Mo_decision 22 = .ok (.if_icmp .ne 44, 3) := by decide +kernel
theorem dd_Mo_decision_25 : decode bb_Mo_decision 25 = .ok (.aload_n 0, 1) := by decide +kernel
theorem dd_Mo_decision_26 : decode bb_Mo_decision 26 = .ok (.getfield 38, 3) := by decide +kernel
theorem dd_Mo_decision_29 : decode bb_Mo_decision 29 = .ok (.iload 4, 2) := by decide +kernel
theorem dd_Mo_decision_31 : decode bb_Mo_decision 31 = .ok (.iaload, 1) := by decide +kernel
theorem dd_Mo_decision_32 : decode bb_Mo_decision 32 = .ok (.iload_n 2, 1) := by decide +kernel
theorem dd_Mo_decision_33 : decode bb_Mo_decision 33 = .ok (.if_icmp .ne 33, 3) := by decide +kernel
theorem dd_Mo_decision_36 : decode bb_Mo_decision 36 = .ok (.aload_n 0, 1) := by decide +kernel
theorem dd_Mo_decision_37 : decode bb_Mo_decision 37 = .ok (.getfield 41, 3) := by decide +kernel
theorem dd_Mo_decision_40 : decode bb_Mo_decision 40 = .ok (.iload 4, 2) := by decide +kernel
theorem dd_Mo_decision_42 : decode bb_Mo_decision 42 = .ok (.iaload, 1) := by decide +kernel
theorem dd_Mo_decision_43 : decode bb_Mo_decision 43 = .ok (.iconst 1, 1) := by decide +kernel
theorem dd_Mo_decision_44 : decode bb_Mo_decision 44 = .ok (.if_icmp .eq 14, 3) := by decide +kernel
theorem dd_Mo_decision_47 : decode bb_Mo_decision 47 = .ok (.aload_n 0, 1) := by decide +kernel
theorem dd_Mo_decision_48 : decode bb_Mo_decision 48 = .ok (.getfield 41, 3) := by decide +kernel
theorem dd_Mo_decision_51 : decode bb_Mo_decision 51 = .ok (.iload 4, 2) := by decide +kernel
theorem dd_Mo_decision_53 : decode bb_Mo_decision 53 = .ok (.iaload, 1) := by decide +kernel
theorem dd_Mo_decision_54 : decode bb_Mo_decision 54 = .ok (.iconst 2, 1) := by decide +kernel
theorem dd_Mo_decision_55 : decode bb_Mo_decision 55 = .ok (.if_icmp .ne 11, 3) := by decide +kernel
theorem dd_Mo_decision_58 : decode bb_Mo_decision 58 = .ok (.aload_n 0, 1) := by decide +kernel
theorem dd_Mo_decision_59 : decode bb_Mo_decision 59 = .ok (.getfield 35, 3) := by decide +kernel
theorem dd_Mo_decision_62 : decode bb_Mo_decision 62 = .ok (.iload 4, 2) := by decide +kernel
theorem dd_Mo_decision_64 : decode bb_Mo_decision 64 = .ok (.iaload, 1) := by decide +kernel
theorem dd_Mo_decision_65 : decode bb_Mo_decision 65 = .ok (.istore_n 3, 1) := by decide +kernel
theorem dd_Mo_decision_66 : decode bb_Mo_decision 66 = .ok (.iinc 4 1, 3) := by decide +kernel
theorem dd_Mo_decision_69 : decode bb_Mo_decision 69 = .ok (.goto (-64), 3) := by decide +kernel
theorem dd_Mo_decision_72 : decode bb_Mo_decision 72 = .ok (.iload_n 3, 1) := by decide +kernel
theorem dd_Mo_decision_73 : decode bb_Mo_decision 73 = .ok (.ireturn, 1) := by decide +kernel
theorem dd_Mo_overtaken_0 : decode bb_Mo_overtaken 0 = .ok (.iconst 0, 1) := by decide +kernel
theorem dd_Mo_overtaken_1 : decode bb_Mo_overtaken 1 = .ok (.istore_n 3, 1) := by decide +kernel
theorem dd_Mo_overtaken_2 : decode bb_Mo_overtaken 2 = .ok (.iconst 0, 1) := by decide +kernel
theorem dd_Mo_overtaken_3 : decode bb_Mo_overtaken 3 = .ok (.istore 4, 2) := by decide +kernel
theorem dd_Mo_overtaken_5 : decode bb_Mo_overtaken 5 = .ok (.iload 4, 2) := by decide +kernel
theorem dd_Mo_overtaken_7 : decode bb_Mo_overtaken 7 = .ok (.aload_n 0, 1) := by decide +kernel
theorem dd_Mo_overtaken_8 : decode bb_Mo_overtaken 8 = .ok (.getfield 99, 3) := by decide +kernel
theorem dd_Mo_overtaken_11 : decode bb_Mo_overtaken 11 = .ok (.if_icmp .ge 97, 3) := by decide +kernel
theorem dd_Mo_overtaken_14 : decode bb_Mo_overtaken 14 = .ok (.aload_n 0, 1) := by decide +kernel
theorem dd_Mo_overtaken_15 : decode bb_Mo_overtaken 15 = .ok (.getfield 41, 3) := by decide +kernel
theorem dd_Mo_overtaken_18 : decode bb_Mo_overtaken 18 = .ok (.iload 4, 2) := by decide +kernel
theorem dd_Mo_overtaken_20 : decode bb_Mo_overtaken 20 = .ok (.iaload, 1) := by decide +kernel
theorem dd_Mo_overtaken_21 : decode bb_Mo_overtaken 21 = .ok (.iconst 1, 1) := by decide +kernel
theorem dd_Mo_overtaken_22 : decode bb_Mo_overtaken 22 = .ok (.if_icmp .eq 14, 3) := by decide +kernel
theorem dd_Mo_overtaken_25 : decode bb_Mo_overtaken 25 = .ok (.aload_n 0, 1) := by decide +kernel
theorem dd_Mo_overtaken_26 : decode bb_Mo_overtaken 26 = .ok (.getfield 41, 3) := by decide +kernel
theorem dd_Mo_overtaken_29 : decode bb_Mo_overtaken 29 = .ok (.iload 4, 2) := by decide +kernel
theorem dd_Mo_overtaken_31 : decode bb_Mo_overtaken 31 = .ok (.iaload, 1) := by decide +kernel
theorem dd_Mo_overtaken_32 : decode bb_Mo_overtaken 32 = .ok (.iconst 2, 1) := by decide +kernel
theorem dd_Mo_overtaken_33 : decode bb_Mo_overtaken 33 = .ok (.if_icmp .ne 18, 3) := by decide +kernel
theorem dd_Mo_overtaken_36 : decode bb_Mo_overtaken 36 = .ok (.aload_n 0, 1) := by decide +kernel
theorem dd_Mo_overtaken_37 : decode bb_Mo_overtaken 37 = .ok (.getfield 35, 3) := by decide +kernel
theorem dd_Mo_overtaken_40 : decode bb_Mo_overtaken 40 = .ok (.iload 4, 2) := by decide +kernel
theorem dd_Mo_overtaken_42 : decode bb_Mo_overtaken 42 = .ok (.iaload, 1) := by decide +kernel
theorem dd_Mo_overtaken_43 : decode bb_Mo_overtaken 43 = .ok (.iload_n 2, 1) := by decide +kernel
theorem dd_Mo_overtaken_44 : decode bb_Mo_overtaken 44 = .ok (.if_icmp .le 7, 3) := by decide +kernel
theorem dd_Mo_overtaken_47 : decode bb_Mo_overtaken 47 = .ok (.iconst 1, 1) := by decide +kernel
theorem dd_Mo_overtaken_48 : decode bb_Mo_overtaken 48 = .ok (.goto 4, 3) := by decide +kernel
theorem dd_Mo_overtaken_51 : decode bb_Mo_overtaken 51 = .ok (.iconst 0, 1) := by decide +kernel
theorem dd_Mo_overtaken_52 : decode bb_Mo_overtaken 52 = .ok (.istore 5, 2) := by decide +kernel
theorem dd_Mo_overtaken_54 : decode bb_Mo_overtaken 54 = .ok (.iload_n 3, 1) := by decide +kernel
theorem dd_Mo_overtaken_55 : decode bb_Mo_overtaken 55 = .ok (.ifCond .ne 41, 3) := by decide +kernel
theorem dd_Mo_overtaken_58 : decode bb_Mo_overtaken 58 = .ok (.aload_n 0, 1) := by decide +kernel
theorem dd_Mo_overtaken_59 : decode bb_Mo_overtaken 59 = .ok (.getfield 32, 3) := by decide +kernel
theorem dd_Mo_overtaken_62 : decode bb_Mo_overtaken 62 = .ok (.iload 4, 2) := by decide +kernel
theorem dd_Mo_overtaken_64 : decode bb_Mo_overtaken 64 = .ok (.iaload, 1) := by decide +kernel
theorem dd_Mo_overtaken_65 : decode bb_Mo_overtaken 65 = .ok (.iload_n 1, 1) := by decide +kernel
theorem dd_Mo_overtaken_66 : decode bb_Mo_overtaken 66 = .ok (.if_icmp .ne 34, 3) := by decide +kernel
theorem dd_Mo_overtaken_69 : decode bb_Mo_overtaken 69 = .ok (.iload 5, 2) := by decide +kernel
theorem dd_Mo_overtaken_71 : decode bb_Mo_overtaken 71 = .ok (.ifCond .ne 25, 3) := by decide +kernel
theorem dd_Mo_overtaken_74 : decode bb_Mo_overtaken 74 = .ok (.aload_n 0, 1) := by decide +kernel
theorem dd_Mo_overtaken_75 : decode bb_Mo_overtaken 75 = .ok (.getfield 41, 3) := by decide +kernel
theorem dd_Mo_overtaken_78 : decode bb_Mo_overtaken 78 = .ok (.iload 4, 2) := by decide +kernel
theorem dd_Mo_overtaken_80 : decode bb_Mo_overtaken 80 = .ok (.iaload, 1) := by decide +kernel
theorem dd_Mo_overtaken_81 : decode bb_Mo_overtaken 81 = .ok (.iconst 3, 1) := by decide +kernel
theorem dd_Mo_overtaken_82 : decode bb_Mo_overtaken 82 = .ok (.if_icmp .ne 18, 3) := by decide +kernel
theorem dd_Mo_overtaken_85 : decode bb_Mo_overtaken 85 = .ok (.aload_n 0, 1) := by decide +kernel
theorem dd_Mo_overtaken_86 : decode bb_Mo_overtaken 86 = .ok (.getfield 38, 3) := by decide +kernel
theorem dd_Mo_overtaken_89 : decode bb_Mo_overtaken 89 = .ok (.iload 4, 2) := by decide +kernel
theorem dd_Mo_overtaken_91 : decode bb_Mo_overtaken 91 = .ok (.iaload, 1) := by decide +kernel
theorem dd_Mo_overtaken_92 : decode bb_Mo_overtaken 92 = .ok (.iload_n 2, 1) := by decide +kernel
theorem dd_Mo_overtaken_93 : decode bb_Mo_overtaken 93 = .ok (.if_icmp .ne 7, 3) := by decide +kernel
theorem dd_Mo_overtaken_96 : decode bb_Mo_overtaken 96 = .ok (.iconst 1, 1) := by decide +kernel
theorem dd_Mo_overtaken_97 : decode bb_Mo_overtaken 97 = .ok (.goto 4, 3) := by decide +kernel
theorem dd_Mo_overtaken_100 : decode bb_Mo_overtaken 100 = .ok (.iconst 0, 1) := by decide +kernel
theorem dd_Mo_overtaken_101 : decode bb_Mo_overtaken 101 = .ok (.istore_n 3, 1) := by decide +kernel
theorem dd_Mo_overtaken_102 : decode bb_Mo_overtaken 102 = .ok (.iinc 4 1, 3) := by decide +kernel
theorem dd_Mo_overtaken_105 : decode bb_Mo_overtaken 105 = .ok (.goto (-100), 3) := by decide +kernel
theorem dd_Mo_overtaken_108 : decode bb_Mo_overtaken 108 = .ok (.iload_n 3, 1) := by decide +kernel
theorem dd_Mo_overtaken_109 : decode bb_Mo_overtaken 109 = .ok (.ireturn, 1) := by decide +kernel
theorem dd_Mo_latest_0 : decode bb_Mo_latest 0 = .ok (.iconst (-1), 1) := by decide +kernel
theorem dd_Mo_latest_1 : decode bb_Mo_latest 1 = .ok (.istore_n 3, 1) := by decide +kernel
theorem dd_Mo_latest_2 : decode bb_Mo_latest 2 = .ok (.iconst 0, 1) := by decide +kernel
theorem dd_Mo_latest_3 : decode bb_Mo_latest 3 = .ok (.istore 4, 2) := by decide +kernel
theorem dd_Mo_latest_5 : decode bb_Mo_latest 5 = .ok (.iload 4, 2) := by decide +kernel
theorem dd_Mo_latest_7 : decode bb_Mo_latest 7 = .ok (.aload_n 0, 1) := by decide +kernel
theorem dd_Mo_latest_8 : decode bb_Mo_latest 8 = .ok (.getfield 99, 3) := by decide +kernel
theorem dd_Mo_latest_11 : decode bb_Mo_latest 11 = .ok (.if_icmp .ge 92, 3) := by decide +kernel
theorem dd_Mo_latest_14 : decode bb_Mo_latest 14 = .ok (.aload_n 0, 1) := by decide +kernel
theorem dd_Mo_latest_15 : decode bb_Mo_latest 15 = .ok (.getfield 32, 3) := by decide +kernel
theorem dd_Mo_latest_18 : decode bb_Mo_latest 18 = .ok (.iload 4, 2) := by decide +kernel
theorem dd_Mo_latest_20 : decode bb_Mo_latest 20 = .ok (.iaload, 1) := by decide +kernel
theorem dd_Mo_latest_21 : decode bb_Mo_latest 21 = .ok (.iload_n 1, 1) := by decide +kernel
theorem dd_Mo_latest_22 : decode bb_Mo_latest 22 = .ok (.if_icmp .ne 40, 3) := by decide +kernel
theorem dd_Mo_latest_25 : decode bb_Mo_latest 25 = .ok (.aload_n 0, 1) := by decide +kernel
theorem dd_Mo_latest_26 : decode bb_Mo_latest 26 = .ok (.getfield 41, 3) := by decide +kernel
theorem dd_Mo_latest_29 : decode bb_Mo_latest 29 = .ok (.iload 4, 2) := by decide +kernel
theorem dd_Mo_latest_31 : decode bb_Mo_latest 31 = .ok (.iaload, 1) := by decide +kernel
theorem dd_Mo_latest_32 : decode bb_Mo_latest 32 = .ok (.iconst 1, 1) := by decide +kernel
theorem dd_Mo_latest_33 : decode bb_Mo_latest 33 = .ok (.if_icmp .eq 14, 3) := by decide +kernel
theorem dd_Mo_latest_36 : decode bb_Mo_latest 36 = .ok (.aload_n 0, 1) := by decide +kernel
theorem dd_Mo_latest_37 : decode bb_Mo_latest 37 = .ok (.getfield 41, 3) := by decide +kernel
theorem dd_Mo_latest_40 : decode bb_Mo_latest 40 = .ok (.iload 4, 2) := by decide +kernel
theorem dd_Mo_latest_42 : decode bb_Mo_latest 42 = .ok (.iaload, 1) := by decide +kernel
theorem dd_Mo_latest_43 : decode bb_Mo_latest 43 = .ok (.iconst 2, 1) := by decide +kernel
theorem dd_Mo_latest_44 : decode bb_Mo_latest 44 = .ok (.if_icmp .ne 18, 3) := by decide +kernel
theorem dd_Mo_latest_47 : decode bb_Mo_latest 47 = .ok (.aload_n 0, 1) := by decide +kernel
theorem dd_Mo_latest_48 : decode bb_Mo_latest 48 = .ok (.getfield 35, 3) := by decide +kernel
theorem dd_Mo_latest_51 : decode bb_Mo_latest 51 = .ok (.iload 4, 2) := by decide +kernel
theorem dd_Mo_latest_53 : decode bb_Mo_latest 53 = .ok (.iaload, 1) := by decide +kernel
theorem dd_Mo_latest_54 : decode bb_Mo_latest 54 = .ok (.iload_n 2, 1) := by decide +kernel
theorem dd_Mo_latest_55 : decode bb_Mo_latest 55 = .ok (.if_icmp .ge 7, 3) := by decide +kernel
theorem dd_Mo_latest_58 : decode bb_Mo_latest 58 = .ok (.iconst 1, 1) := by decide +kernel
theorem dd_Mo_latest_59 : decode bb_Mo_latest 59 = .ok (.goto 4, 3) := by decide +kernel
theorem dd_Mo_latest_62 : decode bb_Mo_latest 62 = .ok (.iconst 0, 1) := by decide +kernel
theorem dd_Mo_latest_63 : decode bb_Mo_latest 63 = .ok (.istore 5, 2) := by decide +kernel
theorem dd_Mo_latest_65 : decode bb_Mo_latest 65 = .ok (.iload 5, 2) := by decide +kernel
theorem dd_Mo_latest_67 : decode bb_Mo_latest 67 = .ok (.ifCond .eq 28, 3) := by decide +kernel
theorem dd_Mo_latest_70 : decode bb_Mo_latest 70 = .ok (.iload_n 3, 1) := by decide +kernel
theorem dd_Mo_latest_71 : decode bb_Mo_latest 71 = .ok (.ifCond .lt 19, 3) := by decide +kernel
theorem dd_Mo_latest_74 : decode bb_Mo_latest 74 = .ok (.aload_n 0, 1) := by decide +kernel
theorem dd_Mo_latest_75 : decode bb_Mo_latest 75 = .ok (.getfield 35, 3) := by decide +kernel
theorem dd_Mo_latest_78 : decode bb_Mo_latest 78 = .ok (.iload 4, 2) := by decide +kernel
theorem dd_Mo_latest_80 : decode bb_Mo_latest 80 = .ok (.iaload, 1) := by decide +kernel
theorem dd_Mo_latest_81 : decode bb_Mo_latest 81 = .ok (.aload_n 0, 1) := by decide +kernel
theorem dd_Mo_latest_82 : decode bb_Mo_latest 82 = .ok (.getfield 35, 3) := by decide +kernel
theorem dd_Mo_latest_85 : decode bb_Mo_latest 85 = .ok (.iload_n 3, 1) := by decide +kernel
theorem dd_Mo_latest_86 : decode bb_Mo_latest 86 = .ok (.iaload, 1) := by decide +kernel
theorem dd_Mo_latest_87 : decode bb_Mo_latest 87 = .ok (.if_icmp .le 8, 3) := by decide +kernel
theorem dd_Mo_latest_90 : decode bb_Mo_latest 90 = .ok (.iload 4, 2) := by decide +kernel
theorem dd_Mo_latest_92 : decode bb_Mo_latest 92 = .ok (.goto 4, 3) := by decide +kernel
theorem dd_Mo_latest_95 : decode bb_Mo_latest 95 = .ok (.iload_n 3, 1) := by decide +kernel
theorem dd_Mo_latest_96 : decode bb_Mo_latest 96 = .ok (.istore_n 3, 1) := by decide +kernel
theorem dd_Mo_latest_97 : decode bb_Mo_latest 97 = .ok (.iinc 4 1, 3) := by decide +kernel
theorem dd_Mo_latest_100 : decode bb_Mo_latest 100 = .ok (.goto (-95), 3) := by decide +kernel
theorem dd_Mo_latest_103 : decode bb_Mo_latest 103 = .ok (.iload_n 3, 1) := by decide +kernel
theorem dd_Mo_latest_104 : decode bb_Mo_latest 104 = .ok (.ireturn, 1) := by decide +kernel
theorem dd_Mo_clearing_0 : decode bb_Mo_clearing 0 = .ok (.aload_n 0, 1) := by decide +kernel
theorem dd_Mo_clearing_1 : decode bb_Mo_clearing 1 = .ok (.getfield 13, 3) := by decide +kernel
theorem dd_Mo_clearing_4 : decode bb_Mo_clearing 4 = .ok (.iload_n 1, 1) := by decide +kernel
theorem dd_Mo_clearing_5 : decode bb_Mo_clearing 5 = .ok (.iaload, 1) := by decide +kernel
theorem dd_Mo_clearing_6 : decode bb_Mo_clearing 6 = .ok (.istore_n 2, 1) := by decide +kernel
theorem dd_Mo_clearing_7 : decode bb_Mo_clearing 7 = .ok (.aload_n 0, 1) := by decide +kernel
theorem dd_Mo_clearing_8 : decode bb_Mo_clearing 8 = .ok (.getfield 17, 3) := by decide +kernel
theorem dd_Mo_clearing_11 : decode bb_Mo_clearing 11 = .ok (.iload_n 1, 1) := by decide +kernel
theorem dd_Mo_clearing_12 : decode bb_Mo_clearing 12 = .ok (.iaload, 1) := by decide +kernel
theorem dd_Mo_clearing_13 : decode bb_Mo_clearing 13 = .ok (.istore_n 3, 1) := by decide +kernel
theorem dd_Mo_clearing_14 : decode bb_Mo_clearing 14 = .ok (.aload_n 0, 1) := by decide +kernel
theorem dd_Mo_clearing_15 : decode bb_Mo_clearing 15 = .ok (.getfield 47, 3) := by decide +kernel
theorem dd_Mo_clearing_18 : decode bb_Mo_clearing 18 = .ok (.iload_n 3, 1) := by decide +kernel
theorem dd_Mo_clearing_19 : decode bb_Mo_clearing 19 = .ok (.iconst 4, 1) := by decide +kernel
theorem dd_Mo_clearing_20 : decode bb_Mo_clearing 20 = .ok (.idiv, 1) := by decide +kernel
theorem dd_Mo_clearing_21 : decode bb_Mo_clearing 21 = .ok (.baload, 1) := by decide +kernel
theorem dd_Mo_clearing_22 : decode bb_Mo_clearing 22 = .ok (.ifCond .eq 5, 3) := by decide +kernel
theorem dd_Mo_clearing_25 : decode bb_Mo_clearing 25 = .ok (.iconst 0, 1) := by decide +kernel
theorem dd_Mo_clearing_26 : decode bb_Mo_clearing 26 = .ok (.ireturn, 1) := by decide +kernel
theorem dd_Mo_clearing_27 : decode bb_Mo_clearing 27 = .ok (.aload_n 0, 1) := by decide +kernel
theorem dd_Mo_clearing_28 : decode bb_Mo_clearing 28 = .ok (.iload_n 3, 1) := by decide +kernel
theorem dd_Mo_clearing_29 : decode bb_Mo_clearing 29 = .ok (.iload_n 2, 1) := by decide +kernel
theorem dd_Mo_clearing_30 : decode bb_Mo_clearing 30 = .ok (.invokevirtual 113, 3) := by decide +kernel
theorem dd_Mo_clearing_33 : decode bb_Mo_clearing 33 = .ok (.istore 4, 2) := by decide +kernel
theorem dd_Mo_clearing_35 : decode bb_Mo_clearing 35 = .ok (.iload 4, 2) := by decide +kernel
theorem dd_Mo_clearing_37 : decode bb_Mo_clearing 37 = .ok (.ifCond .le 19, 3) := by decide +kernel
theorem dd_Mo_clearing_40 : decode bb_Mo_clearing 40 = .ok (.aload_n 0, 1) := by decide +kernel
theorem dd_Mo_clearing_41 : decode bb_Mo_clearing 41 = .ok (.iload_n 1, 1) := by decide +kernel
theorem dd_Mo_clearing_42 : decode bb_Mo_clearing 42 = .ok (.iload 4, 2) := by decide +kernel
theorem dd_Mo_clearing_44 : decode bb_Mo_clearing 44 = .ok (.invokevirtual 117, 3) := by decide +kernel
theorem dd_Mo_clearing_47 : decode bb_Mo_clearing 47 = .ok (.ifCond .eq 7, 3) := by decide +kernel
theorem dd_Mo_clearing_50 : decode bb_Mo_clearing 50 = .ok (.iconst 2, 1) := by decide +kernel
theorem dd_Mo_clearing_51 : decode bb_Mo_clearing 51 = .ok (.goto 4, 3) := by decide +kernel
theorem dd_Mo_clearing_54 : decode bb_Mo_clearing 54 = .ok (.iconst 0, 1) := by decide +kernel
theorem dd_Mo_clearing_55 : decode bb_Mo_clearing 55 = .ok (.ireturn, 1) := by decide +kernel
theorem dd_Mo_clearing_56 : decode bb_Mo_clearing 56 = .ok (.aload_n 0, 1) := by decide +kernel
theorem dd_Mo_clearing_57 : decode bb_Mo_clearing 57 = .ok (.getfield 13, 3) := by decide +kernel
theorem dd_Mo_clearing_60 : decode bb_Mo_clearing 60 = .ok (.iload_n 3, 1) := by decide +kernel
theorem dd_Mo_clearing_61 : decode bb_Mo_clearing 61 = .ok (.iaload, 1) := by decide +kernel
theorem dd_Mo_clearing_62 : decode bb_Mo_clearing 62 = .ok (.iload_n 2, 1) := by decide +kernel
theorem dd_Mo_clearing_63 : decode bb_Mo_clearing 63 = .ok (.if_icmp .ne 31, 3) := by decide +kernel
theorem dd_Mo_clearing_66 : decode bb_Mo_clearing 66 = .ok (.aload_n 0, 1) := by decide +kernel
theorem dd_Mo_clearing_67 : decode bb_Mo_clearing 67 = .ok (.iload_n 3, 1) := by decide +kernel
theorem dd_Mo_clearing_68 : decode bb_Mo_clearing 68 = .ok (.invokevirtual 121, 3) := by decide +kernel
theorem dd_Mo_clearing_71 : decode bb_Mo_clearing 71 = .ok (.ifCond .ne 5, 3) := by decide +kernel
theorem dd_Mo_clearing_74 : decode bb_Mo_clearing 74 = .ok (.iconst 1, 1) := by decide +kernel
theorem dd_Mo_clearing_75 : decode bb_Mo_clearing 75 = .ok (.ireturn, 1) := by decide +kernel
theorem dd_Mo_clearing_76 : decode bb_Mo_clearing 76 = .ok (.aload_n 0, 1) := by decide +kernel
theorem dd_Mo_clearing_77 : decode bb_Mo_clearing 77 = .ok (.iload_n 3, 1) := by decide +kernel
theorem dd_Mo_clearing_78 : decode bb_Mo_clearing 78 = .ok (.iload_n 2, 1) := by decide +kernel
theorem dd_Mo_clearing_79 : decode bb_Mo_clearing 79 = .ok (.invokevirtual 124, 3) := by decide +kernel
theorem dd_Mo_clearing_82 : decode bb_Mo_clearing 82 = .ok (.ifCond .ne 5, 3) := by decide +kernel
theorem dd_Mo_clearing_85 : decode bb_Mo_clearing 85 = .ok (.iconst 0, 1) := by decide +kernel
theorem dd_Mo_clearing_86 : decode bb_Mo_clearing 86 = .ok (.ireturn, 1) := by decide +kernel
theorem dd_Mo_clearing_87 : decode bb_Mo_clearing 87 = .ok (.iload_n 3, 1) := by decide +kernel
theorem dd_Mo_clearing_88 : decode bb_Mo_clearing 88 = .ok (.iload_n 1, 1) := by decide +kernel
theorem dd_Mo_clearing_89 : decode bb_Mo_clearing 89 = .ok (.if_icmp .ne 5, 3) := by decide +kernel
theorem dd_Mo_clearing_92 : decode bb_Mo_clearing 92 = .ok (.iconst 3, 1) := by decide +kernel
theorem dd_Mo_clearing_93 : decode bb_Mo_clearing 93 = .ok (.ireturn, 1) := by decide +kernel
theorem dd_Mo_clearing_94 : decode bb_Mo_clearing 94 = .ok (.aload_n 0, 1) := by decide +kernel
theorem dd_Mo_clearing_95 : decode bb_Mo_clearing 95 = .ok (.iload_n 1, 1) := by decide +kernel
theorem dd_Mo_clearing_96 : decode bb_Mo_clearing 96 = .ok (.iload_n 2, 1) := by decide +kernel
theorem dd_Mo_clearing_97 : decode bb_Mo_clearing 97 = .ok (.invokevirtual 124, 3) := by decide +kernel
theorem dd_Mo_clearing_100 : decode bb_Mo_clearing 100 = .ok (.ifCond .eq 7, 3) := by decide +kernel
theorem dd_Mo_clearing_103 : decode bb_Mo_clearing 103 = .ok (.iconst 3, 1) := by decide +kernel
theorem dd_Mo_clearing_104 : decode bb_Mo_clearing 104 = .ok (.goto 4, 3) := by decide +kernel
theorem dd_Mo_clearing_107 : decode bb_Mo_clearing 107 = .ok (.iconst 0, 1) := by decide +kernel
theorem dd_Mo_clearing_108 : decode bb_Mo_clearing 108 = .ok (.ireturn, 1) := by decide +kernel
theorem dd_Mo_isClient_0 : decode bb_Mo_isClient 0 = .ok (.iload_n 1, 1) := by decide +kernel
theorem dd_Mo_isClient_1 : decode bb_Mo_isClient 1 = .ok (.iconst 0, 1) := by decide +kernel
theorem dd_Mo_isClient_2 : decode bb_Mo_isClient 2 = .ok (.iconst 3, 1) := by decide +kernel
theorem dd_Mo_isClient_3 : decode bb_Mo_isClient 3 = .ok (.invokestatic 127, 3) := by decide +kernel
theorem dd_Mo_isClient_6 : decode bb_Mo_isClient 6 = .ok (.ireturn, 1) := by decide +kernel
theorem dd_Mo_isCell_0 : decode bb_Mo_isCell 0 = .ok (.iload_n 0, 1) := by decide +kernel
theorem dd_Mo_isCell_1 : decode bb_Mo_isCell 1 = .ok (.iconst 0, 1) := by decide +kernel
theorem dd_Mo_isCell_2 : decode bb_Mo_isCell 2 = .ok (.bipush 11, 2) := by decide +kernel
theorem dd_Mo_isCell_4 : decode bb_Mo_isCell 4 = .ok (.invokestatic 127, 3) := by decide +kernel
theorem dd_Mo_isCell_7 : decode bb_Mo_isCell 7 = .ok (.ireturn, 1) := by decide +kernel
theorem dd_Mo_begin_0 : decode bb_Mo_begin 0 = .ok (.aload_n 0, 1) := by decide +kernel
theorem dd_Mo_begin_1 : decode bb_Mo_begin 1 = .ok (.iconst 0, 1) := by decide +kernel
theorem dd_Mo_begin_2 : decode bb_Mo_begin 2 = .ok (.putfield 93, 3) := by decide +kernel
theorem dd_Mo_begin_5 : decode bb_Mo_begin 5 = .ok (.aload_n 0, 1) := by decide +kernel
theorem dd_Mo_begin_6 : decode bb_Mo_begin 6 = .ok (.iload_n 1, 1) := by decide +kernel
theorem dd_Mo_begin_7 : decode bb_Mo_begin 7 = .ok (.invokevirtual 131, 3) := by decide +kernel
theorem dd_Mo_begin_10 : decode bb_Mo_begin 10 = .ok (.ifCond .ne 9, 3) := by decide +kernel
theorem dd_Mo_begin_13 : decode bb_Mo_begin 13 = .ok (.aload_n 0, 1) := by decide +kernel
theorem dd_Mo_begin_14 : decode bb_Mo_begin 14 = .ok (.iconst 1, 1) := by decide +kernel
theorem dd_Mo_begin_15 : decode bb_Mo_begin 15 = .ok (.invokevirtual 134, 3) := by decide +kernel
theorem dd_Mo_begin_18 : decode bb_Mo_begin 18 = .ok (.ireturn, 1) := by decide +kernel
theorem dd_Mo_begin_19 : decode bb_Mo_begin 19 = .ok (.aload_n 0, 1) := by decide +kernel
theorem dd_Mo_begin_20 : decode bb_Mo_begin 20 = .ok (.getfield 66, 3) := by decide +kernel
theorem dd_Mo_begin_23 : decode bb_Mo_begin 23 = .ok (.iload_n 1, 1) := by decide +kernel
theorem dd_Mo_begin_24 : decode bb_Mo_begin 24 = .ok (.iaload, 1) := by decide +kernel
theorem dd_Mo_begin_25 : decode bb_Mo_begin 25 = .ok (.ifCond .eq 9, 3) := by decide +kernel
theorem dd_Mo_begin_28 : decode bb_Mo_begin 28 = .ok (.aload_n 0, 1) := by decide +kernel
theorem dd_Mo_begin_29 : decode bb_Mo_begin 29 = .ok (.iconst 2, 1) := by decide +kernel
theorem dd_Mo_begin_30 : decode bb_Mo_begin 30 = .ok (.invokevirtual 134, 3) := by decide +kernel
theorem dd_Mo_begin_33 : decode bb_Mo_begin 33 = .ok (.ireturn, 1) := by decide +kernel
theorem dd_Mo_begin_34 : decode bb_Mo_begin 34 = .ok (.aload_n 0, 1) := by decide +kernel
theorem dd_Mo_begin_35 : decode bb_Mo_begin 35 = .ok (.getfield 69, 3) := by decide +kernel
theorem dd_Mo_begin_38 : decode bb_Mo_begin 38 = .ok (.iload_n 1, 1) := by decide +kernel
theorem dd_Mo_begin_39 : decode bb_Mo_begin 39 = .ok (.aload_n 0, 1) := by decide +kernel
theorem dd_Mo_begin_40 : decode bb_Mo_begin 40 = .ok (.invokevirtual 138, 3) := by decide +kernel
theorem dd_Mo_begin_43 : decode bb_Mo_begin 43 = .ok (.iastore, 1) := by decide +kernel
theorem dd_Mo_begin_44 : decode bb_Mo_begin 44 = .ok (.aload_n 0, 1) := by decide +kernel
theorem dd_Mo_begin_45 : decode bb_Mo_begin 45 = .ok (.getfield 66, 3) := by decide +kernel
theorem dd_Mo_begin_48 : decode bb_Mo_begin 48 = .ok (.iload_n 1, 1) := by decide +kernel
theorem dd_Mo_begin_49 : decode bb_Mo_begin 49 = .ok (.iconst 1, 1) := by decide +kernel
theorem dd_Mo_begin_50 : decode bb_Mo_begin 50 = .ok (.iastore, 1) := by decide +kernel
theorem dd_Mo_begin_51 : decode bb_Mo_begin 51 = .ok (.aload_n 0, 1) := by decide +kernel
theorem dd_Mo_begin_52 : decode bb_Mo_begin 52 = .ok (.getfield 72, 3) := by decide +kernel
theorem dd_Mo_begin_55 : decode bb_Mo_begin 55 = .ok (.iload_n 1, 1) := by decide +kernel
theorem dd_Mo_begin_56 : decode bb_Mo_begin 56 = .ok (.iconst 0, 1) := by decide +kernel
theorem dd_Mo_begin_57 : decode bb_Mo_begin 57 = .ok (.iastore, 1) := by decide +kernel
theorem dd_Mo_begin_58 : decode bb_Mo_begin 58 = .ok (.aload_n 0, 1) := by decide +kernel
theorem dd_Mo_begin_59 : decode bb_Mo_begin 59 = .ok (.getfield 75, 3) := by decide +kernel
theorem dd_Mo_begin_62 : decode bb_Mo_begin 62 = .ok (.iload_n 1, 1) := by decide +kernel
theorem dd_Mo_begin_63 : decode bb_Mo_begin 63 = .ok (.iconst 0, 1) := by decide +kernel
theorem dd_Mo_begin_64 : decode bb_Mo_begin 64 = .ok (.bastore, 1) := by decide +kernel
theorem dd_Mo_begin_65 : decode bb_Mo_begin 65 = .ok (.bipush 12, 2) := by decide +kernel
theorem dd_Mo_begin_67 : decode bb_Mo_begin 67 = .ok (.iload_n 1, 1) := by decide +kernel
theorem dd_Mo_begin_68 : decode bb_Mo_begin 68 = .ok (.imul, 1) := by decide +kernel
theorem dd_Mo_begin_69 : decode bb_Mo_begin 69 = .ok (.istore_n 2, 1) := by decide +kernel
theorem dd_Mo_begin_70 : decode bb_Mo_begin 70 = .ok (.iload_n 2, 1) := by decide +kernel
theorem dd_Mo_begin_71 : decode bb_Mo_begin 71 = .ok (.bipush 12, 2) := by decide +kernel
theorem dd_Mo_begin_73 : decode bb_Mo_begin 73 = .ok (.iload_n 1, 1) := by decide +kernel
theorem dd_Mo_begin_74 : decode bb_Mo_begin 74 = .ok (.imul, 1) := by decide +kernel
theorem dd_Mo_begin_75 : decode bb_Mo_begin 75 = .ok (.bipush 12, 2) := by decide +kernel
theorem dd_Mo_begin_77 : decode bb_Mo_begin 77 = .ok (.iadd, 1) := by decide +kernel
theorem dd_Mo_begin_78 : decode bb_Mo_begin 78 = .ok (.if_icmp .ge 37, 3) := by decide +kernel
theorem dd_Mo_begin_81 : decode bb_Mo_begin 81 = .ok (.aload_n 0, 1) := by decide +kernel
theorem dd_Mo_begin_82 : decode bb_Mo_begin 82 = .ok (.getfield 78, 3) := by decide +kernel
theorem dd_Mo_begin_85 : decode bb_Mo_begin 85 = .ok (.iload_n 2, 1) := by decide +kernel
theorem dd_Mo_begin_86 : decode bb_Mo_begin 86 = .ok (.iconst 0, 1) := by decide +kernel
theorem dd_Mo_begin_87 : decode bb_Mo_begin 87 = .ok (.iastore, 1) := by decide +kernel
theorem dd_Mo_begin_88 : decode bb_Mo_begin 88 = .ok (.aload_n 0, 1) := by decide +kernel
theorem dd_Mo_begin_89 : decode bb_Mo_begin 89 = .ok (.getfield 81, 3) := by decide +kernel
theorem dd_Mo_begin_92 : decode bb_Mo_begin 92 = .ok (.iload_n 2, 1) := by decide +kernel
theorem dd_Mo_begin_93 : decode bb_Mo_begin 93 = .ok (.iconst 0, 1) := by decide +kernel
theorem dd_Mo_begin_94 : decode bb_Mo_begin 94 = .ok (.iastore, 1) := by decide +kernel
theorem dd_Mo_begin_95 : decode bb_Mo_begin 95 = .ok (.aload_n 0, 1) := by decide +kernel
theorem dd_Mo_begin_96 : decode bb_Mo_begin 96 = .ok (.getfield 84, 3) := by decide +kernel
theorem dd_Mo_begin_99 : decode bb_Mo_begin 99 = .ok (.iload_n 2, 1) := by decide +kernel
theorem dd_Mo_begin_100 : decode bb_Mo_begin 100 = .ok (.iconst 0, 1) := by decide +kernel
theorem dd_Mo_begin_101 : decode bb_Mo_begin 101 = .ok (.bastore, 1) := by decide +kernel
theorem dd_Mo_begin_102 : decode bb_Mo_begin 102 = .ok (.aload_n 0, 1) := by decide +kernel
theorem dd_Mo_begin_103 : decode bb_Mo_begin 103 = .ok (.getfield 87, 3) := by decide +kernel
theorem dd_Mo_begin_106 : decode bb_Mo_begin 106 = .ok (.iload_n 2, 1) := by decide +kernel
theorem dd_Mo_begin_107 : decode bb_Mo_begin 107 = .ok (.iconst 0, 1) := by decide +kernel
theorem dd_Mo_begin_108 : decode bb_Mo_begin 108 = .ok (.bastore, 1) := by decide +kernel
theorem dd_Mo_begin_109 : decode bb_Mo_begin 109 = .ok (.iinc 2 1, 3) := by decide +kernel
theorem dd_Mo_begin_112 : decode bb_Mo_begin 112 = .ok (.goto (-42), 3) := by decide +kernel
theorem dd_Mo_begin_115 : decode bb_Mo_begin 115 = .ok (.aload_n 0, 1) := by decide +kernel
theorem dd_Mo_begin_116 : decode bb_Mo_begin 116 = .ok (.getfield 69, 3) := by decide +kernel
theorem dd_Mo_begin_119 : decode bb_Mo_begin 119 = .ok (.iload_n 1, 1) := by decide +kernel
theorem dd_Mo_begin_120 : decode bb_Mo_begin 120 = .ok (.iaload, 1) := by decide +kernel
theorem dd_Mo_begin_121 : decode bb_Mo_begin 121 = .ok (.ireturn, 1) := by decide +kernel
theorem dd_Mo_get_0 : decode bb_Mo_get 0 = .ok (.aload_n 0, 1) := by decide +kernel
theorem dd_Mo_get_1 : decode bb_Mo_get 1 = .ok (.iconst 0, 1) := by decide +kernel
theorem dd_Mo_get_2 : decode bb_Mo_get 2 = .ok (.putfield 93, 3) := by decide +kernel
theorem dd_Mo_get_5 : decode bb_Mo_get 5 = .ok (.aload_n 0, 1) := by decide +kernel
theorem dd_Mo_get_6 : decode bb_Mo_get 6 = .ok (.iload_n 1, 1) := by decide +kernel
theorem dd_Mo_get_7 : decode bb_Mo_get 7 = .ok (.invokevirtual 131, 3) := by decide +kernel
theorem dd_Mo_get_10 : decode bb_Mo_get 10 = .ok (.ifCond .eq 10, 3) := by decide +kernel
theorem dd_Mo_get_13 : decode bb_Mo_get 13 = .ok (.iload_n 2, 1) := by decide +kernel
theorem dd_Mo_get_14 : decode bb_Mo_get 14 = .ok (.invokestatic 142, 3) := by decide +kernel
theorem dd_Mo_get_17 : decode bb_Mo_get 17 = .ok (.ifCond .ne 9, 3) := by decide +kernel
theorem dd_Mo_get_20 : decode bb_Mo_get 20 = .ok (.aload_n 0, 1) := by decide +kernel
theorem dd_Mo_get_21 : decode bb_Mo_get 21 = .ok (.iconst 1, 1) := by decide +kernel
theorem dd_Mo_get_22 : decode bb_Mo_get 22 = .ok (.invokevirtual 134, 3) := by decide +kernel
theorem dd_Mo_get_25 : decode bb_Mo_get 25 = .ok (.ireturn, 1) := by decide +kernel
theorem dd_Mo_get_26 : decode bb_Mo_get 26 = .ok (.aload_n 0, 1) := by decide +kernel
theorem dd_Mo_get_27 : decode bb_Mo_get 27 = .ok (.getfield 66, 3) := by decide +kernel
theorem dd_Mo_get_30 : decode bb_Mo_get 30 = .ok (.iload_n 1, 1) := by decide +kernel
theorem dd_Mo_get_31 : decode bb_Mo_get 31 = .ok (.iaload, 1) := by decide +kernel
theorem dd_Mo_get_32 : decode bb_Mo_get 32 = .ok (.iconst 1, 1) := by decide +kernel
theorem dd_Mo_get_33 : decode bb_Mo_get 33 = .ok (.if_icmp .eq 9, 3) := by decide +kernel
theorem dd_Mo_get_36 : decode bb_Mo_get 36 = .ok (.aload_n 0, 1) := by decide +kernel
theorem dd_Mo_get_37 : decode bb_Mo_get 37 = .ok (.iconst 2, 1) := by decide +kernel
theorem dd_Mo_get_38 : decode bb_Mo_get 38 = .ok (.invokevirtual 134, 3) := by decide +kernel
theorem dd_Mo_get_41 : decode bb_Mo_get 41 = .ok (.ireturn, 1) := by decide +kernel
theorem dd_Mo_get_42 : decode bb_Mo_get 42 = .ok (.aload_n 0, 1) := by decide +kernel
theorem dd_Mo_get_43 : decode bb_Mo_get 43 = .ok (.getfield 78, 3) := by decide +kernel
theorem dd_Mo_get_46 : decode bb_Mo_get 46 = .ok (.bipush 12, 2) := by decide +kernel
theorem dd_Mo_get_48 : decode bb_Mo_get 48 = .ok (.iload_n 1, 1) := by decide +kernel
theorem dd_Mo_get_49 : decode bb_Mo_get 49 = .ok (.imul, 1) := by decide +kernel
theorem dd_Mo_get_50 : decode bb_Mo_get 50 = .ok (.iload_n 2, 1) := by decide +kernel
theorem dd_Mo_get_51 : decode bb_Mo_get 51 = .ok (.iadd, 1) := by decide +kernel
theorem dd_Mo_get_52 : decode bb_Mo_get 52 = .ok (.iaload, 1) := by decide +kernel
theorem dd_Mo_get_53 : decode bb_Mo_get 53 = .ok (.istore_n 3, 1) := by decide +kernel
theorem dd_Mo_get_54 : decode bb_Mo_get 54 = .ok (.iload_n 3, 1) := by decide +kernel
theorem dd_Mo_get_55 : decode bb_Mo_get 55 = .ok (.ifCond .le 28, 3) := by decide +kernel
theorem dd_Mo_get_58 : decode bb_Mo_get 58 = .ok (.iload_n 3, 1) := by decide +kernel
theorem dd_Mo_get_59 : decode bb_Mo_get 59 = .ok (.iconst 1, 1) := by decide +kernel
theorem dd_Mo_get_60 : decode bb_Mo_get 60 = .ok (.if_icmp .ne 17, 3) := by decide +kernel
theorem dd_Mo_get_63 : decode bb_Mo_get 63 = .ok (.aload_n 0, 1) := by decide +kernel
theorem dd_Mo_get_64 : decode bb_Mo_get 64 = .ok (.getfield 81, 3) := by decide +kernel
theorem dd_Mo_get_67 : decode bb_Mo_get 67 = .ok (.bipush 12, 2) := by decide +kernel
theorem dd_Mo_get_69 : decode bb_Mo_get 69 = .ok (.iload_n 1, 1) := by decide +kernel
theorem dd_Mo_get_70 : decode bb_Mo_get 70 = .ok (.imul, 1) := by decide +kernel
theorem dd_Mo_get_71 : decode bb_Mo_get 71 = .ok (.iload_n 2, 1) := by decide +kernel
theorem dd_Mo_get_72 : decode bb_Mo_get 72 = .ok (.iadd, 1) := by decide +kernel
theorem dd_Mo_get_73 : decode bb_Mo_get 73 = .ok (.iaload, 1) := by decide +kernel
theorem dd_Mo_get_74 : decode bb_Mo_get 74 = .ok (.goto 8, 3) := by decide +kernel
theorem dd_Mo_get_77 : decode bb_Mo_get 77 = .ok (.aload_n 0, 1) := by decide +kernel
theorem dd_Mo_get_78 : decode bb_Mo_get 78 = .ok (.iconst 3, 1) := by decide +kernel
theorem dd_Mo_get_79 : decode bb_Mo_get 79 = .ok (.invokevirtual 134, 3) := by decide +kernel
theorem dd_Mo_get_82 : decode bb_Mo_get 82 = .ok (.ireturn, 1) := by decide +kernel
theorem dd_Mo_get_83 : decode bb_Mo_get 83 = .ok (.aload_n 0, 1) := by decide +kernel
theorem dd_Mo_get_84 : decode bb_Mo_get 84 = .ok (.getfield 47, 3) := by decide +kernel
theorem dd_Mo_get_87 : decode bb_Mo_get 87 = .ok (.iload_n 2, 1) := by decide +kernel
theorem dd_Mo_get_88 : decode bb_Mo_get 88 = .ok (.iconst 4, 1) := by decide +kernel
theorem dd_Mo_get_89 : decode bb_Mo_get 89 = .ok (.idiv, 1) := by decide +kernel
theorem dd_Mo_get_90 : decode bb_Mo_get 90 = .ok (.baload, 1) := by decide +kernel
theorem dd_Mo_get_91 : decode bb_Mo_get 91 = .ok (.ifCond .eq 9, 3) := by decide +kernel
theorem dd_Mo_get_94 : decode bb_Mo_get 94 = .ok (.aload_n 0, 1) := by decide +kernel
theorem dd_Mo_get_95 : decode bb_Mo_get 95 = .ok (.iconst 2, 1) := by decide +kernel
theorem dd_Mo_get_96 : decode bb_Mo_get 96 = .ok (.invokevirtual 134, 3) := by decide +kernel
theorem dd_Mo_get_99 : decode bb_Mo_get 99 = .ok (.ireturn, 1) := by decide +kernel
theorem dd_Mo_get_100 : decode bb_Mo_get 100 = .ok (.aload_n 0, 1) := by decide +kernel
theorem dd_Mo_get_101 : decode bb_Mo_get 101 = .ok (.getfield 51, 3) := by decide +kernel
theorem dd_Mo_get_104 : decode bb_Mo_get 104 = .ok (.iload_n 2, 1) := by decide +kernel
theorem dd_Mo_get_105 : decode bb_Mo_get 105 = .ok (.iconst 4, 1) := by decide +kernel
theorem dd_Mo_get_106 : decode bb_Mo_get 106 = .ok (.idiv, 1) := by decide +kernel
theorem dd_Mo_get_107 : decode bb_Mo_get 107 = .ok (.iaload, 1) := by decide +kernel
theorem dd_Mo_get_108 : decode bb_Mo_get 108 = .ok (.aload_n 0, 1) := by decide +kernel
theorem dd_Mo_get_109 : decode bb_Mo_get 109 = .ok (.getfield 69, 3) := by decide +kernel
theorem dd_Mo_get_112 : decode bb_Mo_get 112 = .ok (.iload_n 1, 1) := by decide +kernel
theorem dd_Mo_get_113 : decode bb_Mo_get 113 = .ok (.iaload, 1) := by decide +kernel
theorem dd_Mo_get_114 : decode bb_Mo_get 114 = .ok (.if_icmp .le 9, 3) := by decide +kernel
theorem dd_Mo_get_117 : decode bb_Mo_get 117 = .ok (.aload_n 0, 1) := by decide +kernel
theorem dd_Mo_get_118 : decode bb_Mo_get 118 = .ok (.iconst 4, 1) := by decide +kernel
theorem dd_Mo_get_119 : decode bb_Mo_get 119 = .ok (.invokevirtual 134, 3) := by decide +kernel
theorem dd_Mo_get_122 : decode bb_Mo_get 122 = .ok (.ireturn, 1) := by decide +kernel
theorem dd_Mo_get_123 : decode bb_Mo_get 123 = .ok (.aload_n 0, 1) := by decide +kernel
theorem dd_Mo_get_124 : decode bb_Mo_get 124 = .ok (.getfield 13, 3) := by decide +kernel
theorem dd_Mo_get_127 : decode bb_Mo_get 127 = .ok (.iload_n 2, 1) := by decide +kernel
theorem dd_Mo_get_128 : decode bb_Mo_get 128 = .ok (.iaload, 1) := by decide +kernel
theorem dd_Mo_get_129 : decode bb_Mo_get 129 = .ok (.ifCond .le 42, 3) := by decide +kernel
theorem dd_Mo_get_132 : decode bb_Mo_get 132 = .ok (.aload_n 0, 1) := by decide +kernel
theorem dd_Mo_get_133 : decode bb_Mo_get 133 = .ok (.getfield 13, 3) := by decide +kernel
theorem dd_Mo_get_136 : decode bb_Mo_get 136 = .ok (.iload_n 2, 1) := by decide +kernel
theorem dd_Mo_get_137 : decode bb_Mo_get 137 = .ok (.iaload, 1) := by decide +kernel
theorem dd_Mo_get_138 : decode bb_Mo_get 138 = .ok (.aload_n 0, 1) := by decide +kernel
theorem dd_Mo_get_139 : decode bb_Mo_get 139 = .ok (.getfield 69, 3) := by decide +kernel
theorem dd_Mo_get_142 : decode bb_Mo_get 142 = .ok (.iload_n 1, 1) := by decide +kernel
theorem dd_Mo_get_143 : decode bb_Mo_get 143 = .ok (.iaload, 1) := by decide +kernel
theorem dd_Mo_get_144 : decode bb_Mo_get 144 = .ok (.if_icmp .ge 27, 3) := by decide +kernel
theorem dd_Mo_get_147 : decode bb_Mo_get 147 = .ok (.aload_n 0, 1) := by decide +kernel
theorem dd_Mo_get_148 : decode bb_Mo_get 148 = .ok (.iload_n 2, 1) := by decide +kernel
theorem dd_Mo_get_149 : decode bb_Mo_get 149 = .ok (.invokevirtual 145, 3) := by decide +kernel
theorem dd_Mo_get_152 : decode bb_Mo_get 152 = .ok (.istore 4, 2) := by decide +kernel
theorem dd_Mo_get_154 : decode bb_Mo_get 154 = .ok (.iload 4, 2) := by decide +kernel
theorem dd_Mo_get_156 : decode bb_Mo_get 156 = .ok (.iconst 1, 1) := by decide +kernel
theorem dd_Mo_get_157 : decode bb_Mo_get 157 = .ok (.if_icmp .eq 8, 3) := by decide +kernel
theorem dd_Mo_get_160 : decode bb_Mo_get 160 = .ok (.iload 4, 2) := by decide +kernel
theorem dd_Mo_get_162 : decode bb_Mo_get 162 = .ok (.ifCond .ne 9, 3) := by decide +kernel
theorem dd_Mo_get_165 : decode bb_Mo_get 165 = .ok (.aload_n 0, 1) := by decide +kernel
theorem dd_Mo_get_166 : decode bb_Mo_get 166 = .ok (.iconst 2, 1) := by decide +kernel
theorem dd_Mo_get_167 : decode bb_Mo_get 167 = .ok (.invokevirtual 134, 3) := by decide +kernel
theorem dd_Mo_get_170 : decode bb_Mo_get 170 = .ok (.ireturn, 1) := by decide +kernel
theorem dd_Mo_get_171 : decode bb_Mo_get 171 = .ok (.aload_n 0, 1) := by decide +kernel
theorem dd_Mo_get_172 : decode bb_Mo_get 172 = .ok (.iload_n 2, 1) := by decide +kernel
theorem dd_Mo_get_173 : decode bb_Mo_get 173 = .ok (.aload_n 0, 1) := by decide +kernel
theorem dd_Mo_get_174 : decode bb_Mo_get 174 = .ok (.getfield 69, 3) := by decide +kernel
theorem dd_Mo_get_177 : decode bb_Mo_get 177 = .ok (.iload_n 1, 1) := by decide +kernel
theorem dd_Mo_get_178 : decode bb_Mo_get 178 = .ok (.iaload, 1) := by decide +kernel
theorem dd_Mo_get_179 : decode bb_Mo_get 179 = .ok (.invokevirtual 148, 3) := by decide +kernel
theorem dd_Mo_get_182 : decode bb_Mo_get 182 = .ok (.istore 4, 2) := by decide +kernel
theorem dd_Mo_get_184 : decode bb_Mo_get 184 = .ok (.iload 4, 2) := by decide +kernel
theorem dd_Mo_get_186 : decode bb_Mo_get 186 = .ok (.ifCond .lt 14, 3) := by decide +kernel
theorem dd_Mo_get_189 : decode bb_Mo_get 189 = .ok (.aload_n 0, 1) := by decide +kernel
theorem dd_Mo_get_190 : decode bb_Mo_get 190 = .ok (.getfield 41, 3) := by decide +kernel
theorem dd_Mo_get_193 : decode bb_Mo_get 193 = .ok (.iload 4, 2) := by decide +kernel
theorem dd_Mo_get_195 : decode bb_Mo_get 195 = .ok (.iaload, 1) := by decide +kernel
theorem dd_Mo_get_196 : decode bb_Mo_get 196 = .ok (.iconst 2, 1) := by decide +kernel
theorem dd_Mo_get_197 : decode bb_Mo_get 197 = .ok (.if_icmp .ne 11, 3) := by decide +kernel
theorem dd_Mo_get_200 : decode bb_Mo_get 200 = .ok (.aload_n 0, 1) := by decide +kernel
theorem dd_Mo_get_201 : decode bb_Mo_get 201 = .ok (.iconst 3, 1) := by decide +kernel
theorem dd_Mo_get_202 : decode bb_Mo_get 202 = .ok (.invokevirtual 134, 3) := by decide +kernel
theorem dd_Mo_get_205 : decode bb_Mo_get 205 = .ok (.goto 10, 3) := by decide +kernel
theorem dd_Mo_get_208 : decode bb_Mo_get 208 = .ok (.aload_n 0, 1) := by decide +kernel
theorem dd_Mo_get_209 : decode bb_Mo_get 209 = .ok (.getfield 44, 3) := by decide +kernel
theorem dd_Mo_get_212 : decode bb_Mo_get 212 = .ok (.iload 4, 2) := by decide +kernel
theorem dd_Mo_get_214 : decode bb_Mo_get 214 = .ok (.iaload, 1) := by decide +kernel
theorem dd_Mo_get_215 : decode bb_Mo_get 215 = .ok (.ireturn, 1) := by decide +kernel
theorem dd_Mo_change_0 : decode bb_Mo_change 0 = .ok (.aload_n 0, 1) := by decide +kernel
theorem dd_Mo_change_1 : decode bb_Mo_change 1 = .ok (.iconst 0, 1) := by decide +kernel
theorem dd_Mo_change_2 : decode bb_Mo_change 2 = .ok (.putfield 93, 3) := by decide +kernel
theorem dd_Mo_change_5 : decode bb_Mo_change 5 = .ok (.aload_n 0, 1) := by decide +kernel
theorem dd_Mo_change_6 : decode bb_Mo_change 6 = .ok (.iload_n 1, 1) := by decide +kernel
theorem dd_Mo_change_7 : decode bb_Mo_change 7 = .ok (.invokevirtual 131, 3) := by decide +kernel
theorem dd_Mo_change_10 : decode bb_Mo_change 10 = .ok (.ifCond .eq 10, 3) := by decide +kernel
theorem dd_Mo_change_13 : decode bb_Mo_change 13 = .ok (.iload_n 2, 1) := by decide +kernel
theorem dd_Mo_change_14 : decode bb_Mo_change 14 = .ok (.invokestatic 142, 3) := by decide +kernel
theorem dd_Mo_change_17 : decode bb_Mo_change 17 = .ok (.ifCond .ne 11, 3) := by decide +kernel
theorem dd_Mo_change_20 : decode bb_Mo_change 20 = .ok (.aload_n 0, 1) := by decide +kernel
theorem dd_Mo_change_21 : decode bb_Mo_change 21 = .ok (.iconst 1, 1) := by decide +kernel
theorem dd_Mo_change_22 : decode bb_Mo_change 22 = .ok (.putfield 93, 3) := by decide +kernel
theorem dd_Mo_change_25 : decode bb_Mo_change 25 = .ok (.goto 46, 3) := by decide +kernel
theorem dd_Mo_change_28 : decode bb_Mo_change 28 = .ok (.aload_n 0, 1) := by decide +kernel
theorem dd_Mo_change_29 : decode bb_Mo_change 29 = .ok (.getfield 66, 3) := by decide +kernel
theorem dd_Mo_change_32 : decode bb_Mo_change 32 = .ok (.iload_n 1, 1) := by decide +kernel
theorem dd_Mo_change_33 : decode bb_Mo_change 33 = .ok (.iaload, 1) := by decide +kernel
theorem dd_Mo_change_34 : decode bb_Mo_change 34 = .ok (.iconst 1, 1) := by decide +kernel
theorem dd_Mo_change_35 : decode bb_Mo_change 35 = .ok (.if_icmp .eq 11, 3) := by decide +kernel
theorem dd_Mo_change_38 : decode bb_Mo_change 38 = .ok (.aload_n 0, 1) := by decide +kernel
theorem dd_Mo_change_39 : decode bb_Mo_change 39 = .ok (.iconst 2, 1) := by decide +kernel
theorem dd_Mo_change_40 : decode bb_Mo_change 40 = .ok (.putfield 93, 3) := by decide +kernel
theorem dd_Mo_change_43 : decode bb_Mo_change 43 = .ok (.goto 28, 3) := by decide +kernel
theorem dd_Mo_change_46 : decode bb_Mo_change 46 = .ok (.aload_n 0, 1) := by decide +kernel
theorem dd_Mo_change_47 : decode bb_Mo_change 47 = .ok (.getfield 78, 3) := by decide +kernel
theorem dd_Mo_change_50 : decode bb_Mo_change 50 = .ok (.bipush 12, 2) := by decide +kernel
theorem dd_Mo_change_52 : decode bb_Mo_change 52 = .ok (.iload_n 1, 1) := by decide +kernel
theorem dd_Mo_change_53 : decode bb_Mo_change 53 = .ok (.imul, 1) := by decide +kernel
theorem dd_Mo_change_54 : decode bb_Mo_change 54 = .ok (.iload_n 2, 1) := by decide +kernel
theorem dd_Mo_change_55 : decode bb_Mo_change 55 = .ok (.iadd, 1) := by decide +kernel
theorem dd_Mo_change_56 : decode bb_Mo_change 56 = .ok (.iload_n 3, 1) := by decide +kernel
theorem dd_Mo_change_57 : decode bb_Mo_change 57 = .ok (.iastore, 1) := by decide +kernel
theorem dd_Mo_change_58 : decode bb_Mo_change 58 = .ok (.aload_n 0, 1) := by decide +kernel
theorem dd_Mo_change_59 : decode bb_Mo_change 59 = .ok (.getfield 81, 3) := by decide +kernel
theorem dd_Mo_change_62 : decode bb_Mo_change 62 = .ok (.bipush 12, 2) := by decide +kernel
theorem dd_Mo_change_64 : decode bb_Mo_change 64 = .ok (.iload_n 1, 1) := by decide +kernel
theorem dd_Mo_change_65 : decode bb_Mo_change 65 = .ok (.imul, 1) := by decide +kernel
theorem dd_Mo_change_66 : decode bb_Mo_change 66 = .ok (.iload_n 2, 1) := by decide +kernel
theorem dd_Mo_change_67 : decode bb_Mo_change 67 = .ok (.iadd, 1) := by decide +kernel
theorem dd_Mo_change_68 : decode bb_Mo_change 68 = .ok (.iload 4, 2) := by decide +kernel
theorem dd_Mo_change_70 : decode bb_Mo_change 70 = .ok (.iastore, 1) := by decide +kernel
theorem dd_Mo_change_71 : decode bb_Mo_change 71 = .ok (.return_, 1) := by decide +kernel
theorem dd_Mo_set_0 : decode bb_Mo_set 0 = .ok (.aload_n 0, 1) := by decide +kernel
theorem dd_Mo_set_1 : decode bb_Mo_set 1 = .ok (.iload_n 1, 1) := by decide +kernel
theorem dd_Mo_set_2 : decode bb_Mo_set 2 = .ok (.iload_n 2, 1) := by decide +kernel
theorem dd_Mo_set_3 : decode bb_Mo_set 3 = .ok (.iconst 1, 1) := by decide +kernel
theorem dd_Mo_set_4 : decode bb_Mo_set 4 = .ok (.iload_n 3, 1) := by decide +kernel
theorem dd_Mo_set_5 : decode bb_Mo_set 5 = .ok (.invokevirtual 151, 3) := by decide +kernel
theorem dd_Mo_set_8 : decode bb_Mo_set 8 = .ok (.return_, 1) := by decide +kernel
theorem dd_Mo_erase_0 : decode bb_Mo_erase 0 = .ok (.aload_n 0, 1) := by decide +kernel
theorem dd_Mo_erase_1 : decode bb_Mo_erase 1 = .ok (.iload_n 1, 1) := by decide +kernel
theorem dd_Mo_erase_2 : decode bb_Mo_erase 2 = .ok (.iload_n 2, 1) := by decide +kernel
theorem dd_Mo_erase_3 : decode bb_Mo_erase 3 = .ok (.iconst 2, 1) := by decide +kernel
theorem dd_Mo_erase_4 : decode bb_Mo_erase 4 = .ok (.iconst 0, 1) := by decide +kernel
theorem dd_Mo_erase_5 : decode bb_Mo_erase 5 = .ok (.invokevirtual 151, 3) := by decide +kernel
theorem dd_Mo_erase_8 : decode bb_Mo_erase 8 = .ok (.return_, 1) := by decide +kernel
theorem dd_Mo_first_0 : decode bb_Mo_first 0 = .ok (.iconst 0, 1) := by decide +kernel
theorem dd_Mo_first_1 : decode bb_Mo_first 1 = .ok (.istore_n 2, 1) := by decide +kernel
theorem dd_Mo_first_2 : decode bb_Mo_first 2 = .ok (.iload_n 2, 1) := by decide +kernel
theorem dd_Mo_first_3 : decode bb_Mo_first 3 = .ok (.bipush 11, 2) := by decide +kernel
theorem dd_Mo_first_5 : decode bb_Mo_first 5 = .ok (.if_icmp .ge 23, 3) := by decide +kernel
theorem dd_Mo_first_8 : decode bb_Mo_first 8 = .ok (.aload_n 0, 1) := by decide +kernel
theorem dd_Mo_first_9 : decode bb_Mo_first 9 = .ok (.getfield 78, 3) := by decide +kernel
theorem dd_Mo_first_12 : decode bb_Mo_first 12 = .ok (.bipush 12, 2) := by decide +kernel
theorem dd_Mo_first_14 : decode bb_Mo_first 14 = .ok (.iload_n 1, 1) := by decide +kernel
theorem dd_Mo_first_15 : decode bb_Mo_first 15 = .ok (.imul, 1) := by decide +kernel
theorem dd_Mo_first_16 : decode bb_Mo_first 16 = .ok (.iload_n 2, 1) := by decide +kernel
theorem dd_Mo_first_17 : decode bb_Mo_first 17 = .ok (.iadd, 1) := by decide +kernel
theorem dd_Mo_first_18 : decode bb_Mo_first 18 = .ok (.iaload, 1) := by decide +kernel
theorem dd_Mo_first_19 : decode bb_Mo_first 19 = .ok (.ifCond .ne 9, 3) := by decide +kernel
theorem dd_Mo_first_22 : decode bb_Mo_first 22 = .ok (.iinc 2 1, 3) := by decide +kernel
theorem dd_Mo_first_25 : decode bb_Mo_first 25 = .ok (.goto (-23), 3) := by decide +kernel
theorem dd_Mo_first_28 : decode bb_Mo_first 28 = .ok (.iload_n 2, 1) := by decide +kernel
theorem dd_Mo_first_29 : decode bb_Mo_first 29 = .ok (.ireturn, 1) := by decide +kernel
theorem dd_Mo_nextCell_0 : decode bb_Mo_nextCell 0 = .ok (.aload_n 0, 1) := by decide +kernel
theorem dd_Mo_nextCell_1 : decode bb_Mo_nextCell 1 = .ok (.iload_n 1, 1) := by decide +kernel
theorem dd_Mo_nextCell_2 : decode bb_Mo_nextCell 2 = .ok (.invokevirtual 155, 3) := by decide +kernel
theorem dd_Mo_nextCell_5 : decode bb_Mo_nextCell 5 = .ok (.istore_n 3, 1) := by decide +kernel
theorem dd_Mo_nextCell_6 : decode bb_Mo_nextCell 6 = .ok (.iconst 0, 1) := by decide +kernel
theorem dd_Mo_nextCell_7 : decode bb_Mo_nextCell 7 = .ok (.istore 4, 2) := by decide +kernel
theorem dd_Mo_nextCell_9 : decode bb_Mo_nextCell 9 = .ok (.iload 4, 2) := by decide +kernel
theorem dd_Mo_nextCell_11 : decode bb_Mo_nextCell 11 = .ok (.bipush 12, 2) := by decide +kernel
theorem dd_Mo_nextCell_13 : decode bb_Mo_nextCell 13 = .ok (.if_icmp .ge 81, 3) := by decide +kernel
theorem dd_Mo_nextCell_16 : decode bb_Mo_nextCell 16 = .ok (.bipush 12, 2) := by decide +kernel
theorem dd_Mo_nextCell_18 : decode bb_Mo_nextCell 18 = .ok (.iload_n 1, 1) := by decide +kernel
theorem dd_Mo_nextCell_19 : decode bb_Mo_nextCell 19 = .ok (.imul, 1) := by decide +kernel
theorem dd_Mo_nextCell_20 : decode bb_Mo_nextCell 20 = .ok (.iload 4, 2) := by decide +kernel
theorem dd_Mo_nextCell_22 : decode bb_Mo_nextCell 22 = .ok (.iadd, 1) := by decide +kernel
theorem dd_Mo_nextCell_23 : decode bb_Mo_nextCell 23 = .ok (.istore 5, 2) := by decide +kernel
theorem dd_Mo_nextCell_25 : decode bb_Mo_nextCell 25 = .ok (.iload_n 2, 1) := by decide +kernel
theorem dd_Mo_nextCell_26 : decode bb_Mo_nextCell 26 = .ok (.ifCond .eq 27, 3) := by decide +kernel
theorem dd_Mo_nextCell_29 : decode bb_Mo_nextCell 29 = .ok (.iload 4, 2) := by decide +kernel
theorem dd_Mo_nextCell_31 : decode bb_Mo_nextCell 31 = .ok (.iload_n 3, 1) := by decide +kernel
theorem dd_Mo_nextCell_32 : decode bb_Mo_nextCell 32 = .ok (.if_icmp .eq 17, 3) := by decide +kernel
theorem dd_Mo_nextCell_35 : decode bb_Mo_nextCell 35 = .ok (.aload_n 0, 1) := by decide +kernel
theorem dd_Mo_nextCell_36 : decode bb_Mo_nextCell 36 = .ok (.getfield 87, 3) := by decide +kernel
theorem dd_Mo_nextCell_39 : decode bb_Mo_nextCell 39 = .ok (.iload 5, 2) := by decide +kernel
theorem dd_Mo_nextCell_41 : decode bb_Mo_nextCell 41 = .ok (.baload, 1) := by decide +kernel
theorem dd_Mo_nextCell_42 : decode bb_Mo_nextCell 42 = .ok (.ifCond .ne 7, 3) := by decide +kernel
theorem dd_Mo_nextCell_45 : decode bb_Mo_nextCell 45 = .ok (.iconst 1, 1) := by decide +kernel
theorem dd_Mo_nextCell_46 : decode bb_Mo_nextCell 46 = .ok (.goto 22, 3) := by decide +kernel
theorem dd_Mo_nextCell_49 : decode bb_Mo_nextCell 49 = .ok (.iconst 0, 1) := by decide +kernel
theorem dd_Mo_nextCell_50 : decode bb_Mo_nextCell 50 = .ok (.goto 18, 3) := by decide +kernel
theorem dd_Mo_nextCell_53 : decode bb_Mo_nextCell 53 = .ok (.aload_n 0, 1) := by decide +kernel
theorem dd_Mo_nextCell_54 : decode bb_Mo_nextCell 54 = .ok (.getfield 84, 3) := by decide +kernel
theorem dd_Mo_nextCell_57 : decode bb_Mo_nextCell 57 = .ok (.iload 5, 2) := by decide +kernel
theorem dd_Mo_nextCell_59 : decode bb_Mo_nextCell 59 = .ok (.baload, 1) := by decide +kernel
theorem dd_Mo_nextCell_60 : decode bb_Mo_nextCell 60 = .ok (.ifCond .ne 7, 3) := by decide +kernel
theorem dd_Mo_nextCell_63 : decode bb_Mo_nextCell 63 = .ok (.iconst 1, 1) := by decide +kernel
theorem dd_Mo_nextCell_64 : decode bb_Mo_nextCell 64 = .ok (.goto 4, 3) := by decide +kernel
theorem dd_Mo_nextCell_67 : decode bb_Mo_nextCell 67 = .ok (.iconst 0, 1) := by decide +kernel
theorem dd_Mo_nextCell_68 : decode bb_Mo_nextCell 68 = .ok (.istore 6, 2) := by decide +kernel
theorem dd_Mo_nextCell_70 : decode bb_Mo_nextCell 70 = .ok (.aload_n 0, 1) := by decide +kernel
theorem dd_Mo_nextCell_71 : decode bb_Mo_nextCell 71 = .ok (.getfield 78, 3) := by decide +kernel
theorem dd_Mo_nextCell_74 : decode bb_Mo_nextCell 74 = .ok (.iload 5, 2) := by decide +kernel
theorem dd_Mo_nextCell_76 : decode bb_Mo_nextCell 76 = .ok (.iaload, 1) := by decide +kernel
theorem dd_Mo_nextCell_77 : decode bb_Mo_nextCell 77 = .ok (.ifCond .le 11, 3) := by decide +kernel
theorem dd_Mo_nextCell_80 : decode bb_Mo_nextCell 80 = .ok (.iload 6, 2) := by decide +kernel
theorem dd_Mo_nextCell_82 : decode bb_Mo_nextCell 82 = .ok (.ifCond .eq 6, 3) := by decide +kernel
theorem dd_Mo_nextCell_85 : decode bb_Mo_nextCell 85 = .ok (.iload 4, 2) := by decide +kernel
theorem dd_Mo_nextCell_87 : decode bb_Mo_nextCell 87 = .ok (.ireturn, 1) := by decide +kernel
theorem dd_Mo_nextCell_88 : decode bb_Mo_nextCell 88 = .ok (.iinc 4 1, 3) := by decide +kernel
theorem dd_Mo_nextCell_91 : decode bb_Mo_nextCell 91 = .ok (.goto (-82), 3) := by decide +kernel
theorem dd_Mo_nextCell_94 : decode bb_Mo_nextCell 94 = .ok (.bipush 12, 2) := by decide +kernel
theorem dd_Mo_nextCell_96 : decode bb_Mo_nextCell 96 = .ok (.ireturn, 1) := by decide +kernel
theorem dd_Mo_ends_0 : decode bb_Mo_ends 0 = .ok (.aload_n 0, 1) := by decide +kernel
theorem dd_Mo_ends_1 : decode bb_Mo_ends 1 = .ok (.getfield 66, 3) := by decide +kernel
theorem dd_Mo_ends_4 : decode bb_Mo_ends 4 = .ok (.iload_n 1, 1) := by decide +kernel
theorem dd_Mo_ends_5 : decode bb_Mo_ends 5 = .ok (.iconst 0, 1) := by decide +kernel
theorem dd_Mo_ends_6 : decode bb_Mo_ends 6 = .ok (.iastore, 1) := by decide +kernel
theorem dd_Mo_ends_7 : decode bb_Mo_ends 7 = .ok (.iload_n 2, 1) := by decide +kernel
theorem dd_Mo_ends_8 : decode bb_Mo_ends 8 = .ok (.ireturn, 1) := by decide +kernel

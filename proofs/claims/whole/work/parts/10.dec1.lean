theorem dd_Or_init_0 : decode bb_Or_init 0 = .ok (.aload_n 0, 1) := by decide +kernel
theorem dd_Or_init_1 : decode bb_Or_init 1 = .ok (.invokespecial 3, 3) := by decide +kernel
theorem dd_Or_init_4 : decode bb_Or_init 4 = .ok (.aload_n 0, 1) := by decide +kernel
theorem dd_Or_init_5 : decode bb_Or_init 5 = .ok (.iconst 1, 1) := by decide +kernel
theorem dd_Or_init_6 : decode bb_Or_init 6 = .ok (.putfield 9, 3) := by decide +kernel
theorem dd_Or_init_9 : decode bb_Or_init 9 = .ok (.aload_n 0, 1) := by decide +kernel
theorem dd_Or_init_10 : decode bb_Or_init 10 = .ok (.iconst 0, 1) := by decide +kernel
theorem dd_Or_init_11 : decode bb_Or_init 11 = .ok (.putfield 15, 3) := by decide +kernel
theorem dd_Or_init_14 : decode bb_Or_init 14 = .ok (.return_, 1) := by decide +kernel
theorem dd_Or_handOut_0 : decode bb_Or_handOut 0 = .ok (.aload_n 0, 1) := by decide +kernel
theorem dd_Or_handOut_1 : decode bb_Or_handOut 1 = .ok (.getfield 9, 3) := by decide +kernel
theorem dd_Or_handOut_4 : decode bb_Or_handOut 4 = .ok (.aload_n 0, 1) := by decide +kernel
theorem dd_Or_handOut_5 : decode bb_Or_handOut 5 = .ok (.getfield 15, 3) := by decide +kernel
theorem dd_Or_handOut_8 : decode bb_Or_handOut 8 = .ok (.if_icmp .le 14, 3) := by decide +kernel
theorem dd_Or_handOut_11 : decode bb_Or_handOut 11 = .ok (.aload_n 0, 1) := by decide +kernel
theorem dd_Or_handOut_12 : decode bb_Or_handOut 12 = .ok (.aload_n 0, 1) := by decide +kernel
theorem dd_Or_handOut_13 : decode bb_Or_handOut 13 = .ok (.getfield 9, 3) := by decide +kernel
theorem dd_Or_handOut_16 : decode bb_Or_handOut 16 = .ok (.bipush 7, 2) := by decide +kernel
theorem dd_Or_handOut_18 : decode bb_Or_handOut 18 = .ok (.iadd, 1) := by decide +kernel
theorem dd_Or_handOut_19 : decode bb_Or_handOut 19 = .ok (.putfield 15, 3) := by decide +kernel
theorem dd_Or_handOut_22 : decode bb_Or_handOut 22 = .ok (.aload_n 0, 1) := by decide +kernel
theorem dd_Or_handOut_23 : decode bb_Or_handOut 23 = .ok (.getfield 9, 3) := by decide +kernel
theorem dd_Or_handOut_26 : decode bb_Or_handOut 26 = .ok (.istore_n 1, 1) := by decide +kernel
theorem dd_Or_handOut_27 : decode bb_Or_handOut 27 = .ok (.aload_n 0, 1) := by decide +kernel
theorem dd_Or_handOut_28 : decode bb_Or_handOut 28 = .ok (.dup, 1) := by decide +kernel
theorem dd_Or_handOut_29 : decode bb_Or_handOut 29 = .ok (.getfield 9, 3) := by decide +kernel
theorem dd_Or_handOut_32 : decode bb_Or_handOut 32 = .ok (.iconst 1, 1) := by decide +kernel
theorem dd_Or_handOut_33 : decode bb_Or_handOut 33 = .ok (.iadd, 1) := by decide +kernel
theorem dd_Or_handOut_34 : decode bb_Or_handOut 34 = .ok (.putfield 9, 3) := by decide +kernel
theorem dd_Or_handOut_37 : decode bb_Or_handOut 37 = .ok (.iload_n 1, 1) := by decide +kernel
theorem dd_Or_handOut_38 : decode bb_Or_handOut 38 = .ok (.ireturn, 1) := by decide +kernel
theorem dd_Or_restart_0 : decode bb_Or_restart 0 = .ok (.aload_n 0, 1) := by decide +kernel
theorem dd_Or_restart_1 : decode bb_Or_restart 1 = .ok (.aload_n 0, 1) := by decide +kernel
theorem dd_Or_restart_2 : decode bb_Or_restart 2 = .ok (.getfield 15, 3) := by decide +kernel
theorem dd_Or_restart_5 : decode bb_Or_restart 5 = .ok (.iconst 1, 1) := by decide +kernel
theorem dd_Or_restart_6 : decode bb_Or_restart 6 = .ok (.iadd, 1) := by decide +kernel
theorem dd_Or_restart_7 : decode bb_Or_restart 7 = .ok (.putfield 9, 3) := by decide +kernel
theorem dd_Or_restart_10 : decode bb_Or_restart 10 = .ok (.aload_n 0, 1) := by decide +kernel
theorem dd_Or_restart_11 : decode bb_Or_restart 11 = .ok (.getfield 9, 3) := by decide +kernel
theorem dd_Or_restart_14 : decode bb_Or_restart 14 = .ok (.ireturn, 1) := by decide +kernel
theorem dd_Ta_init_0 : decode bb_Ta_init 0 = .ok (.aload_n 0, 1) := by decide +kernel
theorem dd_Ta_init_1 : decode bb_Ta_init 1 = .ok (.invokespecial 3, 3) := by decide +kernel
theorem dd_Ta_init_4 : decode bb_Ta_init 4 = .ok (.aload_n 0, 1) := by decide +kernel
theorem dd_Ta_init_5 : decode bb_Ta_init 5 = .ok (.iconst 1, 1) := by decide +kernel
theorem dd_Ta_init_6 : decode bb_Ta_init 6 = .ok (.putfield 9, 3) := by decide +kernel
theorem dd_Ta_init_9 : decode bb_Ta_init 9 = .ok (.aload_n 0, 1) := by decide +kernel
theorem dd_Ta_init_10 : decode bb_Ta_init 10 = .ok (.iconst 0, 1) := by decide +kernel
theorem dd_Ta_init_11 : decode bb_Ta_init 11 = .ok (.putfield 15, 3) := by decide +kernel
theorem dd_Ta_init_14 : decode bb_Ta_init 14 = .ok (.aload_n 0, 1) := by decide +kernel
theorem dd_Ta_init_15 : decode bb_Ta_init 15 = .ok (.iconst 0, 1) := by decide +kernel
theorem dd_Ta_init_16 : decode bb_Ta_init 16 = .ok (.putfield 19, 3) := by decide +kernel
theorem dd_Ta_init_19 : decode bb_Ta_init 19 = .ok (.aload_n 0, 1) := by decide +kernel
theorem dd_Ta_init_20 : decode bb_Ta_init 20 = .ok (.iconst 0, 1) := by decide +kernel
theorem dd_Ta_init_21 : decode bb_Ta_init 21 = .ok (.putfield 22, 3) := by decide +kernel
theorem dd_Ta_init_24 : decode bb_Ta_init 24 = .ok (.aload_n 0, 1) := by decide +kernel
theorem dd_Ta_init_25 : decode bb_Ta_init 25 = .ok (.iconst 0, 1) := by decide +kernel
theorem dd_Ta_init_26 : decode bb_Ta_init 26 = .ok (.putfield 25, 3) := by decide +kernel
theorem dd_Ta_init_29 : decode bb_Ta_init 29 = .ok (.aload_n 0, 1) := by decide +kernel
theorem dd_Ta_init_30 : decode bb_Ta_init 30 = .ok (.iconst 0, 1) := by decide +kernel
theorem dd_Ta_init_31 : decode bb_Ta_init 31 = .ok (.putfield 28, 3) := by decide +kernel
theorem dd_Ta_init_34 : decode bb_Ta_init 34 = .ok (.return_, 1) := by decide +kernel
theorem dd_Ta_putsIntoLog_0 : decode bb_Ta_putsIntoLog 0 = .ok (.aload_n 0, 1) := by decide +kernel
theorem dd_Ta_putsIntoLog_1 : decode bb_Ta_putsIntoLog 1 = .ok (.dup, 1) := by decide +kernel
theorem dd_Ta_putsIntoLog_2 : decode bb_Ta_putsIntoLog 2 = .ok (.getfield 22, 3) := by decide +kernel
theorem dd_Ta_putsIntoLog_5 : decode bb_Ta_putsIntoLog 5 = .ok (.iconst 1, 1) := by decide +kernel
theorem dd_Ta_putsIntoLog_6 : decode bb_Ta_putsIntoLog 6 = .ok (.iadd, 1) := by decide +kernel
theorem dd_Ta_putsIntoLog_7 : decode bb_Ta_putsIntoLog 7 = .ok (.putfield 22, 3) := by decide +kernel
theorem dd_Ta_putsIntoLog_10 : decode bb_Ta_putsIntoLog 10 = .ok (.aload_n 0, 1) := by decide +kernel
theorem dd_Ta_putsIntoLog_11 : decode bb_Ta_putsIntoLog 11 = .ok (.getfield 19, 3) := by decide +kernel
theorem dd_Ta_putsIntoLog_14 : decode bb_Ta_putsIntoLog 14 = .ok (.bipush 8, 2) := by decide +kernel
theorem dd_Ta_putsIntoLog_16 : decode bb_Ta_putsIntoLog 16 = .ok (.if_icmp .lt 8, 3) := by decide +kernel
theorem dd_Ta_putsIntoLog_19 : decode bb_Ta_putsIntoLog 19 = .ok (.aload_n 0, 1) := by decide +kernel
theorem dd_Ta_putsIntoLog_20 : decode bb_Ta_putsIntoLog 20 = .ok (.iconst 0, 1) := by decide +kernel
theorem dd_Ta_putsIntoLog_21 : decode bb_Ta_putsIntoLog 21 = .ok (.putfield 19, 3) := by decide +kernel
theorem dd_Ta_putsIntoLog_24 : decode bb_Ta_putsIntoLog 24 = .ok (.aload_n 0, 1) := by decide +kernel
theorem dd_Ta_putsIntoLog_25 : decode bb_Ta_putsIntoLog 25 = .ok (.getfield 25, 3) := by decide +kernel
theorem dd_Ta_putsIntoLog_28 : decode bb_Ta_putsIntoLog 28 = .ok (.iconst 1, 1) := by decide +kernel
theorem dd_Ta_putsIntoLog_29 : decode bb_Ta_putsIntoLog 29 = .ok (.if_icmp .ne 7, 3) := by decide +kernel
theorem dd_Ta_putsIntoLog_32 : decode bb_Ta_putsIntoLog 32 = .ok (.iconst 1, 1) := by decide +kernel
theorem dd_Ta_putsIntoLog_33 : decode bb_Ta_putsIntoLog 33 = .ok (.goto 4, 3) := by decide +kernel
theorem dd_Ta_putsIntoLog_36 : decode bb_Ta_putsIntoLog 36 = .ok (.iconst 0, 1) := by decide +kernel
theorem dd_Ta_putsIntoLog_37 : decode bb_Ta_putsIntoLog 37 = .ok (.istore_n 1, 1) := by decide +kernel
theorem dd_Ta_putsIntoLog_38 : decode bb_Ta_putsIntoLog 38 = .ok (.aload_n 0, 1) := by decide +kernel
theorem dd_Ta_putsIntoLog_39 : decode bb_Ta_putsIntoLog 39 = .ok (.getfield 25, 3) := by decide +kernel
theorem dd_Ta_putsIntoLog_42 : decode bb_Ta_putsIntoLog 42 = .ok (.ifCond .le 13, 3) := by decide +kernel
theorem dd_Ta_putsIntoLog_45 : decode bb_Ta_putsIntoLog 45 = .ok (.aload_n 0, 1) := by decide +kernel
theorem dd_Ta_putsIntoLog_46 : decode bb_Ta_putsIntoLog 46 = .ok (.dup, 1) := by decide +kernel
theorem dd_Ta_putsIntoLog_47 : decode bb_Ta_putsIntoLog 47 = .ok (.getfield 25, 3) := by decide +kernel
theorem dd_Ta_putsIntoLog_50 : decode bb_Ta_putsIntoLog 50 = .ok (.iconst 1, 1) := by decide +kernel
theorem dd_Ta_putsIntoLog_51 : decode bb_Ta_putsIntoLog 51 = .ok (.isub, 1) := by decide +kernel
theorem dd_Ta_putsIntoLog_52 : decode bb_Ta_putsIntoLog 52 = .ok (.putfield 25, 3) := by decide +kernel
theorem dd_Ta_putsIntoLog_55 : decode bb_Ta_putsIntoLog 55 = .ok (.iload_n 1, 1) := by decide +kernel
theorem dd_Ta_putsIntoLog_56 : decode bb_Ta_putsIntoLog 56 = .ok (.ifCond .eq 8, 3) := by decide +kernel
theorem dd_Ta_putsIntoLog_59 : decode bb_Ta_putsIntoLog 59 = .ok (.aload_n 0, 1) := by decide +kernel
theorem dd_Ta_putsIntoLog_60 : decode bb_Ta_putsIntoLog 60 = .ok (.iconst 0, 1) := by decide +kernel
theorem dd_Ta_putsIntoLog_61 : decode bb_Ta_putsIntoLog 61 = .ok (.putfield 9, 3) := by decide +kernel
theorem dd_Ta_putsIntoLog_64 : decode bb_Ta_putsIntoLog 64 = .ok (.iload_n 1, 1) := by decide +kernel
theorem dd_Ta_putsIntoLog_65 : decode bb_Ta_putsIntoLog 65 = .ok (.ifCond .eq 10, 3) := by decide +kernel
theorem dd_Ta_putsIntoLog_68 : decode bb_Ta_putsIntoLog 68 = .ok (.aload_n 0, 1) := by decide +kernel
theorem dd_Ta_putsIntoLog_69 : decode bb_Ta_putsIntoLog 69 = .ok (.getfield 28, 3) := by decide +kernel
theorem dd_Ta_putsIntoLog_72 : decode bb_Ta_putsIntoLog 72 = .ok (.ifCond .eq 7, 3) := by decide +kernel
theorem dd_Ta_putsIntoLog_75 : decode bb_Ta_putsIntoLog 75 = .ok (.iconst 1, 1) := by decide +kernel
theorem dd_Ta_putsIntoLog_76 : decode bb_Ta_putsIntoLog 76 = .ok (.goto 4, 3) := by decide +kernel
theorem dd_Ta_putsIntoLog_79 : decode bb_Ta_putsIntoLog 79 = .ok (.iconst 0, 1) := by decide +kernel
theorem dd_Ta_putsIntoLog_80 : decode bb_Ta_putsIntoLog 80 = .ok (.istore_n 2, 1) := by decide +kernel
theorem dd_Ta_putsIntoLog_81 : decode bb_Ta_putsIntoLog 81 = .ok (.iload_n 2, 1) := by decide +kernel
theorem dd_Ta_putsIntoLog_82 : decode bb_Ta_putsIntoLog 82 = .ok (.ifCond .eq 13, 3) := by decide +kernel
theorem dd_Ta_putsIntoLog_85 : decode bb_Ta_putsIntoLog 85 = .ok (.aload_n 0, 1) := by decide +kernel
theorem dd_Ta_putsIntoLog_86 : decode bb_Ta_putsIntoLog 86 = .ok (.dup, 1) := by decide +kernel
theorem dd_Ta_putsIntoLog_87 : decode bb_Ta_putsIntoLog 87 = .ok (.getfield 19, 3) := by decide +kernel
theorem dd_Ta_putsIntoLog_90 : decode bb_Ta_putsIntoLog 90 = .ok (.iconst 1, 1) := by decide +kernel
theorem dd_Ta_putsIntoLog_91 : decode bb_Ta_putsIntoLog 91 = .ok (.iadd, 1) := by decide +kernel
theorem dd_Ta_putsIntoLog_92 : decode bb_Ta_putsIntoLog 92 = .ok (.putfield 19, 3) := by decide +kernel
theorem dd_Ta_putsIntoLog_95 : decode bb_Ta_putsIntoLog 95 = .ok (.iload_n 2, 1) := by decide +kernel
theorem dd_Ta_putsIntoLog_96 : decode bb_Ta_putsIntoLog 96 = .ok (.ireturn, 1) := by decide +kernel
theorem dd_Ta_failAt_0 : decode bb_Ta_failAt 0 = .ok (.aload_n 0, 1) := by decide +kernel
theorem dd_Ta_failAt_1 : decode bb_Ta_failAt 1 = .ok (.iload_n 1, 1) := by decide +kernel
theorem dd_Ta_failAt_2 : decode bb_Ta_failAt 2 = .ok (.putfield 25, 3) := by decide +kernel
theorem dd_Ta_failAt_5 : decode bb_Ta_failAt 5 = .ok (.aload_n 0, 1) := by decide +kernel
theorem dd_Ta_failAt_6 : decode bb_Ta_failAt 6 = .ok (.iload_n 2, 1) := by decide +kernel
theorem dd_Ta_failAt_7 : decode bb_Ta_failAt 7 = .ok (.putfield 28, 3) := by decide +kernel
theorem dd_Ta_failAt_10 : decode bb_Ta_failAt 10 = .ok (.return_, 1) := by decide +kernel
theorem dd_Ta_comeUp_0 : decode bb_Ta_comeUp 0 = .ok (.aload_n 0, 1) := by decide +kernel
theorem dd_Ta_comeUp_1 : decode bb_Ta_comeUp 1 = .ok (.iconst 1, 1) := by decide +kernel
theorem dd_Ta_comeUp_2 : decode bb_Ta_comeUp 2 = .ok (.putfield 9, 3) := by decide +kernel
theorem dd_Ta_comeUp_5 : decode bb_Ta_comeUp 5 = .ok (.aload_n 0, 1) := by decide +kernel
theorem dd_Ta_comeUp_6 : decode bb_Ta_comeUp 6 = .ok (.iconst 0, 1) := by decide +kernel
theorem dd_Ta_comeUp_7 : decode bb_Ta_comeUp 7 = .ok (.putfield 25, 3) := by decide +kernel
theorem dd_Ta_comeUp_10 : decode bb_Ta_comeUp 10 = .ok (.return_, 1) := by decide +kernel
theorem dd_Ta_answer_0 : decode bb_Ta_answer 0 = .ok (.iload_n 1, 1) := by decide +kernel
theorem dd_Ta_answer_1 : decode bb_Ta_answer 1 = .ok (.tableswitch 53 0 2 #[27, 32, 48], 27) := by decide +kernel
theorem dd_Ta_answer_28 : decode bb_Ta_answer 28 = .ok (.aload_n 0, 1) := by decide +kernel
theorem dd_Ta_answer_29 : decode bb_Ta_answer 29 = .ok (.getfield 19, 3) := by decide +kernel
theorem dd_Ta_answer_32 : decode bb_Ta_answer 32 = .ok (.ireturn, 1) := by decide +kernel
theorem dd_Ta_answer_33 : decode bb_Ta_answer 33 = .ok (.aload_n 0, 1) := by decide +kernel
theorem dd_Ta_answer_34 : decode bb_Ta_answer 34 = .ok (.getfield 9, 3) := by decide +kernel
theorem dd_Ta_answer_37 : decode bb_Ta_answer 37 = .ok (.ifCond .eq 10, 3) := by decide +kernel
theorem dd_Ta_answer_40 : decode bb_Ta_answer 40 = .ok (.aload_n 0, 1) := by decide +kernel
theorem dd_Ta_answer_41 : decode bb_Ta_answer 41 = .ok (.getfield 15, 3) := by decide +kernel
theorem dd_Ta_answer_44 : decode bb_Ta_answer 44 = .ok (.goto 4, 3) := by decide +kernel
theorem dd_Ta_answer_47 : decode bb_Ta_answer 47 = .ok (.iconst (-1), 1) := by decide +kernel
theorem dd_Ta_answer_48 : decode bb_Ta_answer 48 = .ok (.ireturn, 1) := by decide +kernel
theorem dd_Ta_answer_49 : decode bb_Ta_answer 49 = .ok (.aload_n 0, 1) := by decide +kernel
theorem dd_Ta_answer_50 : decode bb_Ta_answer 50 = .ok (.getfield 22, 3) := by decide +kernel
theorem dd_Ta_answer_53 : decode bb_Ta_answer 53 = .ok (.ireturn, 1) := by decide +kernel
theorem dd_Ta_answer_54 : decode bb_Ta_answer 54 = .ok (.iconst (-1), 1) := by decide +kernel
theorem dd_Ta_answer_55 : decode bb_Ta_answer 55 = .ok (.ireturn, 1) := by decide +kernel
theorem dd_Lo_init_0 : decode bb_Lo_init 0 = .ok (.aload_n 0, 1) := by decide +kernel
theorem dd_Lo_init_1 : decode bb_Lo_init 1 = .ok (.invokespecial 3, 3) := by decide +kernel
theorem dd_Lo_init_4 : decode bb_Lo_init 4 = .ok (.aload_n 0, 1) := by decide +kernel
theorem dd_Lo_init_5 : decode bb_Lo_init 5 = .ok (.iload_n 1, 1) := by decide +kernel
theorem dd_Lo_init_6 : decode bb_Lo_init 6 = .ok (.putfield 9, 3) := by decide +kernel
theorem dd_Lo_init_9 : decode bb_Lo_init 9 = .ok (.aload_n 0, 1) := by decide +kernel
theorem dd_Lo_init_10 : decode bb_Lo_init 10 = .ok (.iload_n 2, 1) := by decide +kernel
theorem dd_Lo_init_11 : decode bb_Lo_init 11 = .ok (.putfield 15, 3) := by decide +kernel
theorem dd_Lo_init_14 : decode bb_Lo_init 14 = .ok (.aload_n 0, 1) := by decide +kernel
theorem dd_Lo_init_15 : decode bb_Lo_init 15 = .ok (.iload_n 3, 1) := by decide +kernel
theorem dd_Lo_init_16 : decode bb_Lo_init 16 = .ok (.putfield 18, 3) := by decide +kernel
theorem dd_Lo_init_19 : decode bb_Lo_init 19 = .ok (.aload_n 0, 1) := by decide +kernel
theorem dd_Lo_init_20 : decode bb_Lo_init 20 = .ok (.iload 4, 2) := by decide +kernel
theorem dd_Lo_init_22 : decode bb_Lo_init 22 = .ok (.putfield 21, 3) := by decide +kernel
theorem dd_Lo_init_25 : decode bb_Lo_init 25 = .ok (.aload_n 0, 1) := by decide +kernel
theorem dd_Lo_init_26 : decode bb_Lo_init 26 = .ok (.iload 5, 2) := by decide +kernel
theorem dd_Lo_init_28 : decode bb_Lo_init 28 = .ok (.putfield 24, 3) := by decide +kernel
theorem dd_Lo_init_31 : decode bb_Lo_init 31 = .ok (.aload_n 0, 1) := by decide +kernel
theorem dd_Lo_init_32 : decode bb_Lo_init 32 = .ok (.iload 6, 2) := by decide +kernel
theorem dd_Lo_init_34 : decode bb_Lo_init 34 = .ok (.putfield 28, 3) := by decide +kernel
theorem dd_Lo_init_37 : decode bb_Lo_init 37 = .ok (.return_, 1) := by decide +kernel
theorem dd_Lo_answer_0 : decode bb_Lo_answer 0 = .ok (.iload_n 1, 1) := by decide +kernel
theorem dd_Lo_answer_1 : decode bb_Lo_answer 1 = .ok (.tableswitch 64 0 5 #[39, 44, 49, 54, 64, 59], 39) := by decide +kernel
theorem dd_Lo_answer_40 : decode bb_Lo_answer 40 = .ok (.aload_n 0, 1) := by decide +kernel
theorem dd_Lo_answer_41 : decode bb_Lo_answer 41 = .ok (.getfield 9, 3) := by decide +kernel
theorem dd_Lo_answer_44 : decode bb_Lo_answer 44 = .ok (.ireturn, 1) := by decide +kernel
theorem dd_Lo_answer_45 : decode bb_Lo_answer 45 = .ok (.aload_n 0, 1) := by decide +kernel
theorem dd_Lo_answer_46 : decode bb_Lo_answer 46 = .ok (.getfield 15, 3) := by decide +kernel
theorem dd_Lo_answer_49 : decode bb_Lo_answer 49 = .ok (.ireturn, 1) := by decide +kernel
theorem dd_Lo_answer_50 : decode bb_Lo_answer 50 = .ok (.aload_n 0, 1) := by decide +kernel
theorem dd_Lo_answer_51 : decode bb_Lo_answer 51 = .ok (.getfield 18, 3) := by decide +kernel
theorem dd_Lo_answer_54 : decode bb_Lo_answer 54 = .ok (.ireturn, 1) := by decide +kernel
theorem dd_Lo_answer_55 : decode bb_Lo_answer 55 = .ok (.aload_n 0, 1) := by decide +kernel
theorem dd_Lo_answer_56 : decode bb_Lo_answer 56 = .ok (.getfield 21, 3) := by decide +kernel
theorem dd_Lo_answer_59 : decode bb_Lo_answer 59 = .ok (.ireturn, 1) := by decide +kernel
theorem dd_Lo_answer_60 : decode bb_Lo_answer 60 = .ok (.aload_n 0, 1) := by decide +kernel
theorem dd_Lo_answer_61 : decode bb_Lo_answer 61 = .ok (.getfield 28, 3) := by decide +kernel
theorem dd_Lo_answer_64 : decode bb_Lo_answer 64 = .ok (.ireturn, 1) := by decide +kernel
theorem dd_Lo_answer_65 : decode bb_Lo_answer 65 = .ok (.iconst (-1), 1) := by decide +kernel
theorem dd_Lo_answer_66 : decode bb_Lo_answer 66 = .ok (.ireturn, 1) := by decide +kernel
theorem dd_Ve_init_0 : decode bb_Ve_init 0 = .ok (.aload_n 0, 1) := by decide +kernel
theorem dd_Ve_init_1 : decode bb_Ve_init 1 = .ok (.invokespecial 3, 3) := by decide +kernel
theorem dd_Ve_init_4 : decode bb_Ve_init 4 = .ok (.aload_n 0, 1) := by decide +kernel
theorem dd_Ve_init_5 : decode bb_Ve_init 5 = .ok (.aconst_null, 1) := by decide +kernel
theorem dd_Ve_init_6 : decode bb_Ve_init 6 = .ok (.putfield 9, 3) := by decide +kernel
theorem dd_Ve_init_9 : decode bb_Ve_init 9 = .ok (.aload_n 0, 1) := by decide +kernel
theorem dd_Ve_init_10 : decode bb_Ve_init 10 = .ok (.iload_n 1, 1) := by decide +kernel
theorem dd_Ve_init_11 : decode bb_Ve_init 11 = .ok (.putfield 15, 3) := by decide +kernel
theorem dd_Ve_init_14 : decode bb_Ve_init 14 = .ok (.aload_n 0, 1) := by decide +kernel
theorem dd_Ve_init_15 : decode bb_Ve_init 15 = .ok (.iload_n 2, 1) := by decide +kernel
theorem dd_Ve_init_16 : decode bb_Ve_init 16 = .ok (.putfield 19, 3) := by decide +kernel
theorem dd_Ve_init_19 : decode bb_Ve_init 19 = .ok (.aload_n 0, 1) := by decide +kernel
theorem dd_Ve_init_20 : decode bb_Ve_init 20 = .ok (.iload_n 3, 1) := by decide +kernel
theorem dd_Ve_init_21 : decode bb_Ve_init 21 = .ok (.putfield 22, 3) := by decide +kernel
theorem dd_Ve_init_24 : decode bb_Ve_init 24 = .ok (.aload_n 0, 1) := by decide +kernel
theorem dd_Ve_init_25 : decode bb_Ve_init 25 = .ok (.iload 4, 2) := by decide +kernel
theorem dd_Ve_init_27 : decode bb_Ve_init 27 = .ok (.putfield 25, 3) := by decide +kernel
theorem dd_Ve_init_30 : decode bb_Ve_init 30 = .ok (.return_, 1) := by decide +kernel
theorem dd_Ve_answer_0 : decode bb_Ve_answer 0 = .ok (.iload_n 1, 1) := by decide +kernel
theorem dd_Ve_answer_1 : decode bb_Ve_answer 1 = .ok (.tableswitch 51 0 3 #[31, 36, 41, 46], 31) := by decide +kernel
theorem dd_Ve_answer_32 : decode bb_Ve_answer 32 = .ok (.aload_n 0, 1) := by decide +kernel
theorem dd_Ve_answer_33 : decode bb_Ve_answer 33 = .ok (.getfield 15, 3) := by decide +kernel
theorem dd_Ve_answer_36 : decode bb_Ve_answer 36 = .ok (.ireturn, 1) := by decide +kernel
theorem dd_Ve_answer_37 : decode bb_Ve_answer 37 = .ok (.aload_n 0, 1) := by decide +kernel
theorem dd_Ve_answer_38 : decode bb_Ve_answer 38 = .ok (.getfield 19, 3) := by decide +kernel
theorem dd_Ve_answer_41 : decode bb_Ve_answer 41 = .ok (.ireturn, 1) := by decide +kernel
theorem dd_Ve_answer_42 : decode bb_Ve_answer 42 = .ok (.aload_n 0, 1) := by decide +kernel
theorem dd_Ve_answer_43 : decode bb_Ve_answer 43 = .ok (.getfield 22, 3) := by decide +kernel
theorem dd_Ve_answer_46 : decode bb_Ve_answer 46 = .ok (.ireturn, 1) := by decide +kernel
theorem dd_Ve_answer_47 : decode bb_Ve_answer 47 = .ok (.aload_n 0, 1) := by decide +kernel
theorem dd_Ve_answer_48 : decode bb_Ve_answer 48 = .ok (.getfield 25, 3) := by decide +kernel
theorem dd_Ve_answer_51 : decode bb_Ve_answer 51 = .ok (.ireturn, 1) := by decide +kernel
theorem dd_Ve_answer_52 : decode bb_Ve_answer 52 = .ok (.iconst (-1), 1) := by decide +kernel
theorem dd_Ve_answer_53 : decode bb_Ve_answer 53 = .ok (.ireturn, 1) := by decide +kernel
theorem dd_Tr_init_0 : decode bb_Tr_init 0 = .ok (.aload_n 0, 1) := by decide +kernel
theorem dd_Tr_init_1 : decode bb_Tr_init 1 = .ok (.invokespecial 3, 3) := by decide +kernel
theorem dd_Tr_init_4 : decode bb_Tr_init 4 = .ok (.aload_n 0, 1) := by decide +kernel
theorem dd_Tr_init_5 : decode bb_Tr_init 5 = .ok (.iconst 0, 1) := by decide +kernel
theorem dd_Tr_init_6 : decode bb_Tr_init 6 = .ok (.putfield 9, 3) := by decide +kernel
theorem dd_Tr_init_9 : decode bb_Tr_init 9 = .ok (.aload_n 0, 1) := by decide +kernel
theorem dd_Tr_init_10 : decode bb_Tr_init 10 = .ok (.iconst 0, 1) := by decide +kernel
theorem dd_Tr_init_11 : decode bb_Tr_init 11 = .ok (.putfield 15, 3) := by decide +kernel
theorem dd_Tr_init_14 : decode bb_Tr_init 14 = .ok (.aload_n 0, 1) := by decide +kernel
theorem dd_Tr_init_15 : decode bb_Tr_init 15 = .ok (.iconst 0, 1) := by decide +kernel
theorem dd_Tr_init_16 : decode bb_Tr_init 16 = .ok (.putfield 18, 3) := by decide +kernel
theorem dd_Tr_init_19 : decode bb_Tr_init 19 = .ok (.aload_n 0, 1) := by decide +kernel
theorem dd_Tr_init_20 : decode bb_Tr_init 20 = .ok (.iconst 0, 1) := by decide +kernel
theorem dd_Tr_init_21 : decode bb_Tr_init 21 = .ok (.putfield 22, 3) := by decide +kernel
theorem dd_Tr_init_24 : decode bb_Tr_init 24 = .ok (.aload_n 0, 1) := by decide +kernel
theorem dd_Tr_init_25 : decode bb_Tr_init 25 = .ok (.iconst 0, 1) := by decide +kernel
theorem dd_Tr_init_26 : decode bb_Tr_init 26 = .ok (.putfield 25, 3) := by decide +kernel
theorem dd_Tr_init_29 : decode bb_Tr_init 29 = .ok (.aload_n 0, 1) := by decide +kernel
theorem dd_Tr_init_30 : decode bb_Tr_init 30 = .ok (.iconst 0, 1) := by decide +kernel
theorem dd_Tr_init_31 : decode bb_Tr_init 31 = .ok (.putfield 28, 3) := by decide +kernel
theorem dd_Tr_init_34 : decode bb_Tr_init 34 = .ok (.aload_n 0, 1) := by decide +kernel
theorem dd_Tr_init_35 : decode bb_Tr_init 35 = .ok (.iconst 0, 1) := by decide +kernel
theorem dd_Tr_init_36 : decode bb_Tr_init 36 = .ok (.putfield 31, 3) := by decide +kernel
theorem dd_Tr_init_39 : decode bb_Tr_init 39 = .ok (.aload_n 0, 1) := by decide +kernel
theorem dd_Tr_init_40 : decode bb_Tr_init 40 = .ok (.iconst 0, 1) := by decide +kernel
theorem dd_Tr_init_41 : decode bb_Tr_init 41 = .ok (.putfield 34, 3) := by decide +kernel
theorem dd_Tr_init_44 : decode bb_Tr_init 44 = .ok (.aload_n 0, 1) := by decide +kernel
theorem dd_Tr_init_45 : decode bb_Tr_init 45 = .ok (.iconst 0, 1) := by decide +kernel
theorem dd_Tr_init_46 : decode bb_Tr_init 46 = .ok (.putfield 37, 3) := by decide +kernel
theorem dd_Tr_init_49 : decode bb_Tr_init 49 = .ok (.aload_n 0, 1) := by decide +kernel
theorem dd_Tr_init_50 : decode bb_Tr_init 50 = .ok (.iload_n 1, 1) := by decide +kernel
theorem dd_Tr_init_51 : decode bb_Tr_init 51 = .ok (.putfield 40, 3) := by decide +kernel
theorem dd_Tr_init_54 : decode bb_Tr_init 54 = .ok (.aload_n 0, 1) := by decide +kernel
theorem dd_Tr_init_55 : decode bb_Tr_init 55 = .ok (.bipush 12, 2) := by decide +kernel
theorem dd_Tr_init_57 : decode bb_Tr_init 57 = .ok (.newarray .int, 2) := by decide +kernel
theorem dd_Tr_init_59 : decode bb_Tr_init 59 = .ok (.putfield 43, 3) := by decide +kernel
theorem dd_Tr_init_62 : decode bb_Tr_init 62 = .ok (.return_, 1) := by decide +kernel
theorem dd_Tr_startAt_0 : decode bb_Tr_startAt 0 = .ok (.aload_n 0, 1) := by decide +kernel
theorem dd_Tr_startAt_1 : decode bb_Tr_startAt 1 = .ok (.iconst 1, 1) := by decide +kernel
theorem dd_Tr_startAt_2 : decode bb_Tr_startAt 2 = .ok (.putfield 9, 3) := by decide +kernel
theorem dd_Tr_startAt_5 : decode bb_Tr_startAt 5 = .ok (.aload_n 0, 1) := by decide +kernel
theorem dd_Tr_startAt_6 : decode bb_Tr_startAt 6 = .ok (.iload_n 1, 1) := by decide +kernel
theorem dd_Tr_startAt_7 : decode bb_Tr_startAt 7 = .ok (.putfield 18, 3) := by decide +kernel
theorem dd_Tr_startAt_10 : decode bb_Tr_startAt 10 = .ok (.return_, 1) := by decide +kernel
theorem dd_Tr_end_0 : decode bb_Tr_end 0 = .ok (.aload_n 0, 1) := by decide +kernel
theorem dd_Tr_end_1 : decode bb_Tr_end 1 = .ok (.iconst 0, 1) := by decide +kernel
theorem dd_Tr_end_2 : decode bb_Tr_end 2 = .ok (.putfield 9, 3) := by decide +kernel
theorem dd_Tr_end_5 : decode bb_Tr_end 5 = .ok (.aload_n 0, 1) := by decide +kernel
theorem dd_Tr_end_6 : decode bb_Tr_end 6 = .ok (.iconst 0, 1) := by decide +kernel
theorem dd_Tr_end_7 : decode bb_Tr_end 7 = .ok (.putfield 15, 3) := by decide +kernel
theorem dd_Tr_end_10 : decode bb_Tr_end 10 = .ok (.aload_n 0, 1) := by decide +kernel
theorem dd_Tr_end_11 : decode bb_Tr_end 11 = .ok (.iconst 0, 1) := by decide +kernel
theorem dd_Tr_end_12 : decode bb_Tr_end 12 = .ok (.putfield 18, 3) := by decide +kernel
theorem dd_Tr_end_15 : decode bb_Tr_end 15 = .ok (.aload_n 0, 1) := by decide +kernel
theorem dd_Tr_end_16 : decode bb_Tr_end 16 = .ok (.iconst 0, 1) := by decide +kernel
theorem dd_Tr_end_17 : decode bb_Tr_end 17 = .ok (.putfield 22, 3) := by decide +kernel
theorem dd_Tr_end_20 : decode bb_Tr_end 20 = .ok (.aload_n 0, 1) := by decide +kernel
theorem dd_Tr_end_21 : decode bb_Tr_end 21 = .ok (.iconst 0, 1) := by decide +kernel
theorem dd_Tr_end_22 : decode bb_Tr_end 22 = .ok (.putfield 25, 3) := by decide +kernel
theorem dd_Tr_end_25 : decode bb_Tr_end 25 = .ok (.aload_n 0, 1) := by decide +kernel
theorem dd_Tr_end_26 : decode bb_Tr_end 26 = .ok (.iconst 0, 1) := by decide +kernel
theorem dd_Tr_end_27 : decode bb_Tr_end 27 = .ok (.putfield 28, 3) := by decide +kernel
theorem dd_Tr_end_30 : decode bb_Tr_end 30 = .ok (.aload_n 0, 1) := by decide +kernel
theorem dd_Tr_end_31 : decode bb_Tr_end 31 = .ok (.iconst 0, 1) := by decide +kernel
theorem dd_Tr_end_32 : decode bb_Tr_end 32 = .ok (.putfield 31, 3) := by decide +kernel
theorem dd_Tr_end_35 : decode bb_Tr_end 35 = .ok (.aload_n 0, 1) := by decide +kernel
theorem dd_Tr_end_36 : decode bb_Tr_end 36 = .ok (.iconst 0, 1) := by decide +kernel
theorem dd_Tr_end_37 : decode bb_Tr_end 37 = .ok (.putfield 34, 3) := by decide +kernel
theorem dd_Tr_end_40 : decode bb_Tr_end 40 = .ok (.aload_n 0, 1) := by decide +kernel
theorem dd_Tr_end_41 : decode bb_Tr_end 41 = .ok (.iconst 0, 1) := by decide +kernel
theorem dd_Tr_end_42 : decode bb_Tr_end 42 = .ok (.putfield 37, 3) := by decide +kernel
theorem dd_Tr_end_45 : decode bb_Tr_end 45 = .ok (.return_, 1) := by decide +kernel
theorem dd_Tr_writes_0 : decode bb_Tr_writes 0 = .ok (.aload_n 0, 1) := by decide +kernel
theorem dd_Tr_writes_1 : decode bb_Tr_writes 1 = .ok (.getfield 25, 3) := by decide +kernel
theorem dd_Tr_writes_4 : decode bb_Tr_writes 4 = .ok (.iload_n 1, 1) := by decide +kernel
theorem dd_Tr_writes_5 : decode bb_Tr_writes 5 = .ok (.ishr, 1) := by decide +kernel
theorem dd_Tr_writes_6 : decode bb_Tr_writes 6 = .ok (.iconst 1, 1) := by decide +kernel
theorem dd_Tr_writes_7 : decode bb_Tr_writes 7 = .ok (.iand, 1) := by decide +kernel
theorem dd_Tr_writes_8 : decode bb_Tr_writes 8 = .ok (.iconst 1, 1) := by decide +kernel
theorem dd_Tr_writes_9 : decode bb_Tr_writes 9 = .ok (.if_icmp .ne 7, 3) := by decide +kernel
theorem dd_Tr_writes_12 : decode bb_Tr_writes 12 = .ok (.iconst 1, 1) := by decide +kernel
theorem dd_Tr_writes_13 : decode bb_Tr_writes 13 = .ok (.goto 4, 3) := by decide +kernel
theorem dd_Tr_writes_16 : decode bb_Tr_writes 16 = .ok (.iconst 0, 1) := by decide +kernel
theorem dd_Tr_writes_17 : decode bb_Tr_writes 17 = .ok (.ireturn, 1) := by decide +kernel
theorem dd_Tr_erases_0 : decode bb_Tr_erases 0 = .ok (.aload_n 0, 1) := by decide +kernel
theorem dd_Tr_erases_1 : decode bb_Tr_erases 1 = .ok (.getfield 28, 3) := by decide +kernel
theorem dd_Tr_erases_4 : decode bb_Tr_erases 4 = .ok (.iload_n 1, 1) := by decide +kernel
theorem dd_Tr_erases_5 : decode bb_Tr_erases 5 = .ok (.ishr, 1) := by decide +kernel
theorem dd_Tr_erases_6 : decode bb_Tr_erases 6 = .ok (.iconst 1, 1) := by decide +kernel
theorem dd_Tr_erases_7 : decode bb_Tr_erases 7 = .ok (.iand, 1) := by decide +kernel
theorem dd_Tr_erases_8 : decode bb_Tr_erases 8 = .ok (.iconst 1, 1) := by decide +kernel
theorem dd_Tr_erases_9 : decode bb_Tr_erases 9 = .ok (.if_icmp .ne 7, 3) := by decide +kernel
theorem dd_Tr_erases_12 : decode bb_Tr_erases 12 = .ok (.iconst 1, 1) := by decide +kernel
theorem dd_Tr_erases_13 : decode bb_Tr_erases 13 = .ok (.goto 4, 3) := by decide +kernel
theorem dd_Tr_erases_16 : decode bb_Tr_erases 16 = .ok (.iconst 0, 1) := by decide +kernel
theorem dd_Tr_erases_17 : decode bb_Tr_erases 17 = .ok (.ireturn, 1) := by decide +kernel
theorem dd_Tr_ownValue_0 : decode bb_Tr_ownValue 0 = .ok (.aload_n 0, 1) := by decide +kernel
theorem dd_Tr_ownValue_1 : decode bb_Tr_ownValue 1 = .ok (.iload_n 1, 1) := by decide +kernel
theorem dd_Tr_ownValue_2 : decode bb_Tr_ownValue 2 = .ok (.invokevirtual 47, 3) := by decide +kernel
theorem dd_Tr_ownValue_5 : decode bb_Tr_ownValue 5 = .ok (.ifCond .eq 13, 3) := by decide +kernel
theorem dd_Tr_ownValue_8 : decode bb_Tr_ownValue 8 = .ok (.new 51, 3) := by decide +kernel
theorem dd_Tr_ownValue_11 : decode bb_Tr_ownValue 11 = .ok (.dup, 1) := by decide +kernel
theorem dd_Tr_ownValue_12 : decode bb_Tr_ownValue 12 = .ok (.ldc 53, 2) := by decide +kernel
theorem dd_Tr_ownValue_14 : decode bb_Tr_ownValue 14 = .ok (.invokespecial 55, 3) := by decide +kernel
theorem dd_Tr_ownValue_17 : decode bb_Tr_ownValue 17 = .ok (.athrow, 1) := by decide +kernel
theorem dd_Tr_ownValue_18 : decode bb_Tr_ownValue 18 = .ok (.aload_n 0, 1) := by decide +kernel
theorem dd_Tr_ownValue_19 : decode bb_Tr_ownValue 19 = .ok (.getfield 43, 3) := by decide +kernel
theorem dd_Tr_ownValue_22 : decode bb_Tr_ownValue 22 = .ok (.iload_n 1, 1) := by decide +kernel
theorem dd_Tr_ownValue_23 : decode bb_Tr_ownValue 23 = .ok (.iaload, 1) := by decide +kernel
theorem dd_Tr_ownValue_24 : decode bb_Tr_ownValue 24 = .ok (.ireturn, 1) := by decide +kernel
theorem dd_Tr_willPut_0 : decode bb_Tr_willPut 0 = .ok (.aload_n 0, 1) := by decide +kernel
theorem dd_Tr_willPut_1 : decode bb_Tr_willPut 1 = .ok (.dup, 1) := by decide +kernel
theorem dd_Tr_willPut_2 : decode bb_Tr_willPut 2 = .ok (.getfield 25, 3) := by decide +kernel
theorem dd_Tr_willPut_5 : decode bb_Tr_willPut 5 = .ok (.iconst 1, 1) := by decide +kernel
theorem dd_Tr_willPut_6 : decode bb_Tr_willPut 6 = .ok (.iload_n 1, 1) := by decide +kernel
theorem dd_Tr_willPut_7 : decode bb_Tr_willPut 7 = .ok (.ishl, 1) := by decide +kernel
theorem dd_Tr_willPut_8 : decode bb_Tr_willPut 8 = .ok (.ior, 1) := by decide +kernel
theorem dd_Tr_willPut_9 : decode bb_Tr_willPut 9 = .ok (.putfield 25, 3) := by decide +kernel
theorem dd_Tr_willPut_12 : decode bb_Tr_willPut 12 = .ok (.aload_n 0, 1) := by decide +kernel
theorem dd_Tr_willPut_13 : decode bb_Tr_willPut 13 = .ok (.dup, 1) := by decide +kernel
theorem dd_Tr_willPut_14 : decode bb_Tr_willPut 14 = .ok (.getfield 28, 3) := by decide +kernel
theorem dd_Tr_willPut_17 : decode bb_Tr_willPut 17 = .ok (.iconst 1, 1) := by decide +kernel
theorem dd_Tr_willPut_18 : decode bb_Tr_willPut 18 = .ok (.iload_n 1, 1) := by decide +kernel
theorem dd_Tr_willPut_19 : decode bb_Tr_willPut 19 = .ok (.ishl, 1) := by decide +kernel
theorem dd_Tr_willPut_20 : decode bb_Tr_willPut 20 = .ok (.iconst (-1), 1) := by decide +kernel
theorem dd_Tr_willPut_21 : decode bb_Tr_willPut 21 = .ok (.ixor, 1) := by decide +kernel
theorem dd_Tr_willPut_22 : decode bb_Tr_willPut 22 = .ok (.iand, 1) := by decide +kernel
theorem dd_Tr_willPut_23 : decode bb_Tr_willPut 23 = .ok (.putfield 28, 3) := by decide +kernel
theorem dd_Tr_willPut_26 : decode bb_Tr_willPut 26 = .ok (.aload_n 0, 1) := by decide +kernel
theorem dd_Tr_willPut_27 : decode bb_Tr_willPut 27 = .ok (.getfield 43, 3) := by decide +kernel
theorem dd_Tr_willPut_30 : decode bb_Tr_willPut 30 = .ok (.iload_n 1, 1) := by decide +kernel
theorem dd_Tr_willPut_31 : decode bb_Tr_willPut 31 = .ok (.iload_n 2, 1) := by decide +kernel
theorem dd_Tr_willPut_32 : decode bb_Tr_willPut 32 = .ok (.iastore, 1) := by decide +kernel
theorem dd_Tr_willPut_33 : decode bb_Tr_willPut 33 = .ok (.return_, 1) := by decide +kernel
theorem dd_Tr_willErase_0 : decode bb_Tr_willErase 0 = .ok (.aload_n 0, 1) := by decide +kernel
theorem dd_Tr_willErase_1 : decode bb_Tr_willErase 1 = .ok (.dup, 1) := by decide +kernel
theorem dd_Tr_willErase_2 : decode bb_Tr_willErase 2 = .ok (.getfield 25, 3) := by decide +kernel
theorem dd_Tr_willErase_5 : decode bb_Tr_willErase 5 = .ok (.iconst 1, 1) := by decide +kernel
theorem dd_Tr_willErase_6 : decode bb_Tr_willErase 6 = .ok (.iload_n 1, 1) := by decide +kernel
theorem dd_Tr_willErase_7 : decode bb_Tr_willErase 7 = .ok (.ishl, 1) := by decide +kernel
theorem dd_Tr_willErase_8 : decode bb_Tr_willErase 8 = .ok (.ior, 1) := by decide +kernel
theorem dd_Tr_willErase_9 : decode bb_Tr_willErase 9 = .ok (.putfield 25, 3) := by decide +kernel
theorem dd_Tr_willErase_12 : decode bb_Tr_willErase 12 = .ok (.aload_n 0, 1) := by decide +kernel
theorem dd_Tr_willErase_13 : decode bb_Tr_willErase 13 = .ok (.dup, 1) := by decide +kernel
theorem dd_Tr_willErase_14 : decode bb_Tr_willErase 14 = .ok (.getfield 28, 3) := by decide +kernel
theorem dd_Tr_willErase_17 : decode bb_Tr_willErase 17 = .ok (.iconst 1, 1) := by decide +kernel
theorem dd_Tr_willErase_18 : decode bb_Tr_willErase 18 = .ok (.iload_n 1, 1) := by decide +kernel
theorem dd_Tr_willErase_19 : decode bb_Tr_willErase 19 = .ok (.ishl, 1) := by decide +kernel
theorem dd_Tr_willErase_20 : decode bb_Tr_willErase 20 = .ok (.ior, 1) := by decide +kernel
theorem dd_Tr_willErase_21 : decode bb_Tr_willErase 21 = .ok (.putfield 28, 3) := by decide +kernel
theorem dd_Tr_willErase_24 : decode bb_Tr_willErase 24 = .ok (.aload_n 0, 1) := by decide +kernel
theorem dd_Tr_willErase_25 : decode bb_Tr_willErase 25 = .ok (.getfield 43, 3) := by decide +kernel
theorem dd_Tr_willErase_28 : decode bb_Tr_willErase 28 = .ok (.iload_n 1, 1) := by decide +kernel
theorem dd_Tr_willErase_29 : decode bb_Tr_willErase 29 = .ok (.iconst 0, 1) := by decide +kernel
theorem dd_Tr_willErase_30 : decode bb_Tr_willErase 30 = .ok (.iastore, 1) := by decide +kernel
theorem dd_Tr_willErase_31 : decode bb_Tr_willErase 31 = .ok (.return_, 1) := by decide +kernel
theorem dd_Tr_primary_0 : decode bb_Tr_primary 0 = .ok (.aload_n 0, 1) := by decide +kernel
theorem dd_Tr_primary_1 : decode bb_Tr_primary 1 = .ok (.getfield 25, 3) := by decide +kernel
theorem dd_Tr_primary_4 : decode bb_Tr_primary 4 = .ok (.invokestatic 58, 3) := by decide +kernel
theorem dd_Tr_primary_7 : decode bb_Tr_primary 7 = .ok (.ireturn, 1) := by decide +kernel
theorem dd_Tr_lockFor_0 : decode bb_Tr_lockFor 0 = .ok (.new 62, 3) := by decide +kernel
theorem dd_Tr_lockFor_3 : decode bb_Tr_lockFor 3 = .ok (.dup, 1) := by decide +kernel
theorem dd_Tr_lockFor_4 : decode bb_Tr_lockFor 4 = .ok (.aload_n 0, 1) := by decide +kernel
theorem dd_Tr_lockFor_5 : decode bb_Tr_lockFor 5 = .ok (.getfield 18, 3) := by decide +kernel
theorem dd_Tr_lockFor_8 : decode bb_Tr_lockFor 8 = .ok (.aload_n 0, 1) := by decide +kernel
theorem dd_Tr_lockFor_9 : decode bb_Tr_lockFor 9 = .ok (.invokevirtual 64, 3) := by decide +kernel
theorem dd_Tr_lockFor_12 : decode bb_Tr_lockFor 12 = .ok (.aload_n 0, 1) := by decide +kernel
theorem dd_Tr_lockFor_13 : decode bb_Tr_lockFor 13 = .ok (.getfield 40, 3) := by decide +kernel
theorem dd_Tr_lockFor_16 : decode bb_Tr_lockFor 16 = .ok (.iload_n 2, 1) := by decide +kernel
theorem dd_Tr_lockFor_17 : decode bb_Tr_lockFor 17 = .ok (.aload_n 0, 1) := by decide +kernel
theorem dd_Tr_lockFor_18 : decode bb_Tr_lockFor 18 = .ok (.iload_n 1, 1) := by decide +kernel
theorem dd_Tr_lockFor_19 : decode bb_Tr_lockFor 19 = .ok (.invokevirtual 47, 3) := by decide +kernel
theorem dd_Tr_lockFor_22 : decode bb_Tr_lockFor 22 = .ok (.aload_n 0, 1) := by decide +kernel
theorem dd_Tr_lockFor_23 : decode bb_Tr_lockFor 23 = .ok (.getfield 43, 3) := by decide +kernel
theorem dd_Tr_lockFor_26 : decode bb_Tr_lockFor 26 = .ok (.iload_n 1, 1) := by decide +kernel
theorem dd_Tr_lockFor_27 : decode bb_Tr_lockFor 27 = .ok (.iaload, 1) := by decide +kernel
theorem dd_Tr_lockFor_28 : decode bb_Tr_lockFor 28 = .ok (.invokespecial 68, 3) := by decide +kernel
theorem dd_Tr_lockFor_31 : decode bb_Tr_lockFor 31 = .ok (.areturn, 1) := by decide +kernel
theorem dd_Tr_endIfAllFollowed_0 : decode bb_Tr_endIfAllFollowed 0 = .ok (.aload_n 0, 1) := by decide +kernel
theorem dd_Tr_endIfAllFollowed_1 : decode bb_Tr_endIfAllFollowed 1 = .ok (.getfield 34, 3) := by decide +kernel
theorem dd_Tr_endIfAllFollowed_4 : decode bb_Tr_endIfAllFollowed 4 = .ok (.aload_n 0, 1) := by decide +kernel
theorem dd_Tr_endIfAllFollowed_5 : decode bb_Tr_endIfAllFollowed 5 = .ok (.getfield 25, 3) := by decide +kernel
theorem dd_Tr_endIfAllFollowed_8 : decode bb_Tr_endIfAllFollowed 8 = .ok (.if_icmp .eq 5, 3) := by decide +kernel
theorem dd_Tr_endIfAllFollowed_11 : decode bb_Tr_endIfAllFollowed 11 = .ok (.iconst 0, 1) := by decide +kernel
theorem dd_Tr_endIfAllFollowed_12 : decode bb_Tr_endIfAllFollowed 12 = .ok (.ireturn, 1) := by decide +kernel
theorem dd_Tr_endIfAllFollowed_13 : decode bb_Tr_endIfAllFollowed 13 = .ok (.aload_n 0, 1) := by decide +kernel
theorem dd_Tr_endIfAllFollowed_14 : decode bb_Tr_endIfAllFollowed 14 = .ok (.invokevirtual 71, 3) := by decide +kernel
theorem dd_Tr_endIfAllFollowed_17 : decode bb_Tr_endIfAllFollowed 17 = .ok (.iconst 1, 1) := by decide +kernel
theorem dd_Tr_endIfAllFollowed_18 : decode bb_Tr_endIfAllFollowed 18 = .ok (.ireturn, 1) := by decide +kernel
theorem dd_Tr_answer_0 : decode bb_Tr_answer 0 = .ok (.iload_n 1, 1) := by decide +kernel
theorem dd_Tr_answer_1 : decode bb_Tr_answer 1 = .ok (.tableswitch 83 0 5 #[39, 55, 60, 65, 70, 75], 39) := by decide +kernel
theorem dd_Tr_answer_40 : decode bb_Tr_answer 40 = .ok (.aload_n 0, 1) := by decide +kernel
theorem dd_Tr_answer_41 : decode bb_Tr_answer 41 = .ok (.getfield 9, 3) := by decide +kernel
theorem dd_Tr_answer_44 : decode bb_Tr_answer 44 = .ok (.invokestatic 74, 3) := by decide +kernel
theorem dd_Tr_answer_47 : decode bb_Tr_answer 47 = .ok (.aload_n 0, 1) := by decide +kernel
theorem dd_Tr_answer_48 : decode bb_Tr_answer 48 = .ok (.getfield 15, 3) := by decide +kernel
theorem dd_Tr_answer_51 : decode bb_Tr_answer 51 = .ok (.invokestatic 74, 3) := by decide +kernel
theorem dd_Tr_answer_54 : decode bb_Tr_answer 54 = .ok (.iadd, 1) := by decide +kernel
theorem dd_Tr_answer_55 : decode bb_Tr_answer 55 = .ok (.ireturn, 1) := by decide +kernel
theorem dd_Tr_answer_56 : decode bb_Tr_answer 56 = .ok (.aload_n 0, 1) := by decide +kernel
theorem dd_Tr_answer_57 : decode bb_Tr_answer 57 = .ok (.getfield 18, 3) := by decide +kernel
theorem dd_Tr_answer_60 : decode bb_Tr_answer 60 = .ok (.ireturn, 1) := by decide +kernel
theorem dd_Tr_answer_61 : decode bb_Tr_answer 61 = .ok (.aload_n 0, 1) := by decide +kernel
theorem dd_Tr_answer_62 : decode bb_Tr_answer 62 = .ok (.getfield 22, 3) := by decide +kernel
theorem dd_Tr_answer_65 : decode bb_Tr_answer 65 = .ok (.ireturn, 1) := by decide +kernel
theorem dd_Tr_answer_66 : decode bb_Tr_answer 66 = .ok (.aload_n 0, 1) := by decide +kernel
theorem dd_Tr_answer_67 : decode bb_Tr_answer 67 = .ok (.getfield 25, 3) := by decide +kernel
theorem dd_Tr_answer_70 : decode bb_Tr_answer 70 = .ok (.ireturn, 1) := by decide +kernel
theorem dd_Tr_answer_71 : decode bb_Tr_answer 71 = .ok (.aload_n 0, 1) := by decide +kernel
theorem dd_Tr_answer_72 : decode bb_Tr_answer 72 = .ok (.getfield 31, 3) := by decide +kernel
theorem dd_Tr_answer_75 : decode bb_Tr_answer 75 = .ok (.ireturn, 1) := by decide +kernel
theorem dd_Tr_answer_76 : decode bb_Tr_answer 76 = .ok (.aload_n 0, 1) := by decide +kernel
theorem dd_Tr_answer_77 : decode bb_Tr_answer 77 = .ok (.getfield 37, 3) := by decide +kernel
theorem dd_Tr_answer_80 : decode bb_Tr_answer 80 = .ok (.invokestatic 74, 3) := by decide +kernel
theorem dd_Tr_answer_83 : decode bb_Tr_answer 83 = .ok (.ireturn, 1) := by decide +kernel
theorem dd_Tr_answer_84 : decode bb_Tr_answer 84 = .ok (.iconst (-1), 1) := by decide +kernel
theorem dd_Tr_answer_85 : decode bb_Tr_answer 85 = .ok (.ireturn, 1) := by decide +kernel
theorem dd_Ce_init_0 : decode bb_Ce_init 0 = .ok (.aload_n 0, 1) := by decide +kernel
theorem dd_Ce_init_1 : decode bb_Ce_init 1 = .ok (.invokespecial 3, 3) := by decide +kernel
theorem dd_Ce_init_4 : decode bb_Ce_init 4 = .ok (.aload_n 0, 1) := by decide +kernel
theorem dd_Ce_init_5 : decode bb_Ce_init 5 = .ok (.aconst_null, 1) := by decide +kernel
theorem dd_Ce_init_6 : decode bb_Ce_init 6 = .ok (.putfield 9, 3) := by decide +kernel
theorem dd_Ce_init_9 : decode bb_Ce_init 9 = .ok (.aload_n 0, 1) := by decide +kernel
theorem dd_Ce_init_10 : decode bb_Ce_init 10 = .ok (.aconst_null, 1) := by decide +kernel
theorem dd_Ce_init_11 : decode bb_Ce_init 11 = .ok (.putfield 15, 3) := by decide +kernel
theorem dd_Ce_init_14 : decode bb_Ce_init 14 = .ok (.aload_n 0, 1) := by decide +kernel
theorem dd_Ce_init_15 : decode bb_Ce_init 15 = .ok (.iconst 0, 1) := by decide +kernel
theorem dd_Ce_init_16 : decode bb_Ce_init 16 = .ok (.putfield 19, 3) := by decide +kernel
theorem dd_Ce_init_19 : decode bb_Ce_init 19 = .ok (.aload_n 0, 1) := by decide +kernel
theorem dd_Ce_init_20 : decode bb_Ce_init 20 = .ok (.aload_n 1, 1) := by decide +kernel
theorem dd_Ce_init_21 : decode bb_Ce_init 21 = .ok (.putfield 23, 3) := by decide +kernel
theorem dd_Ce_init_24 : decode bb_Ce_init 24 = .ok (.return_, 1) := by decide +kernel
theorem dd_Ce_isLockedBy_0 : decode bb_Ce_isLockedBy 0 = .ok (.aload_n 0, 1) := by decide +kernel
theorem dd_Ce_isLockedBy_1 : decode bb_Ce_isLockedBy 1 = .ok (.getfield 9, 3) := by decide +kernel
theorem dd_Ce_isLockedBy_4 : decode bb_Ce_isLockedBy 4 = .ok (.ifnull 18, 3) := by decide +kernel
theorem dd_Ce_isLockedBy_7 : decode bb_Ce_isLockedBy 7 = .ok (.aload_n 0, 1) := by decide +kernel
theorem dd_Ce_isLockedBy_8 : decode bb_Ce_isLockedBy 8 = .ok (.getfield 9, 3) := by decide +kernel
theorem dd_Ce_isLockedBy_11 : decode bb_Ce_isLockedBy 11 = .ok (.getfield 27, 3) := by decide +kernel
theorem dd_Ce_isLockedBy_14 : decode bb_Ce_isLockedBy 14 = .ok (.iload_n 1, 1) := by decide +kernel
theorem dd_Ce_isLockedBy_15 : decode bb_Ce_isLockedBy 15 = .ok (.if_icmp .ne 7, 3) := by decide +kernel
theorem dd_Ce_isLockedBy_18 : decode bb_Ce_isLockedBy 18 = .ok (.iconst 1, 1) := by decide +kernel
theorem dd_Ce_isLockedBy_19 : decode bb_Ce_isLockedBy 19 = .ok (.goto 4, 3) := by decide +kernel
theorem dd_Ce_isLockedBy_22 : decode bb_Ce_isLockedBy 22 = .ok (.iconst 0, 1) := by decide +kernel
theorem dd_Ce_isLockedBy_23 : decode bb_Ce_isLockedBy 23 = .ok (.ireturn, 1) := by decide +kernel
theorem dd_Ce_isLockedBefore_0 : decode bb_Ce_isLockedBefore 0 = .ok (.aload_n 0, 1) := by decide +kernel
theorem dd_Ce_isLockedBefore_1 : decode bb_Ce_isLockedBefore 1 = .ok (.getfield 9, 3) := by decide +kernel
theorem dd_Ce_isLockedBefore_4 : decode bb_Ce_isLockedBefore 4 = .ok (.ifnull 18, 3) := by decide +kernel
theorem dd_Ce_isLockedBefore_7 : decode bb_Ce_isLockedBefore 7 = .ok (.aload_n 0, 1) := by decide +kernel
theorem dd_Ce_isLockedBefore_8 : decode bb_Ce_isLockedBefore 8 = .ok (.getfield 9, 3) := by decide +kernel
theorem dd_Ce_isLockedBefore_11 : decode bb_Ce_isLockedBefore 11 = .ok (.getfield 27, 3) := by decide +kernel
theorem dd_Ce_isLockedBefore_14 : decode bb_Ce_isLockedBefore 14 = .ok (.iload_n 1, 1) := by decide +kernel
theorem dd_Ce_isLockedBefore_15 : decode bb_Ce_isLockedBefore 15 = .ok (.if_icmp .ge 7, 3) := by decide +kernel
theorem dd_Ce_isLockedBefore_18 : decode bb_Ce_isLockedBefore 18 = .ok (.iconst 1, 1) := by decide +kernel
theorem dd_Ce_isLockedBefore_19 : decode bb_Ce_isLockedBefore 19 = .ok (.goto 4, 3) := by decide +kernel
theorem dd_Ce_isLockedBefore_22 : decode bb_Ce_isLockedBefore 22 = .ok (.iconst 0, 1) := by decide +kernel
theorem dd_Ce_isLockedBefore_23 : decode bb_Ce_isLockedBefore 23 = .ok (.ireturn, 1) := by decide +kernel
theorem dd_Ce_writeLock_0 : decode bb_Ce_writeLock 0 = .ok (.aload_n 0, 1) := by decide +kernel
theorem dd_Ce_writeLock_1 : decode bb_Ce_writeLock 1 = .ok (.getfield 23, 3) := by decide +kernel
theorem dd_Ce_writeLock_4 : decode bb_Ce_writeLock 4 = .ok (.invokevirtual 32, 3) := by decide +kernel
theorem dd_Ce_writeLock_7 : decode bb_Ce_writeLock 7 = .ok (.ifCond .eq 8, 3) := by decide +kernel
theorem dd_Ce_writeLock_10 : decode bb_Ce_writeLock 10 = .ok (.aload_n 0, 1) := by decide +kernel
theorem dd_Ce_writeLock_11 : decode bb_Ce_writeLock 11 = .ok (.aload_n 1, 1) := by decide +kernel
theorem dd_Ce_writeLock_12 : decode bb_Ce_writeLock 12 = .ok (.putfield 9, 3) := by decide +kernel
theorem dd_Ce_writeLock_15 : decode bb_Ce_writeLock 15 = .ok (.aload_n 0, 1) := by decide +kernel
theorem dd_Ce_writeLock_16 : decode bb_Ce_writeLock 16 = .ok (.getfield 23, 3) := by decide +kernel
theorem dd_Ce_writeLock_19 : decode bb_Ce_writeLock 19 = .ok (.getfield 38, 3) := by decide +kernel
theorem dd_Ce_writeLock_22 : decode bb_Ce_writeLock 22 = .ok (.ireturn, 1) := by decide +kernel
theorem dd_Ce_writeDone_0 : decode bb_Ce_writeDone 0 = .ok (.aload_n 0, 1) := by decide +kernel
theorem dd_Ce_writeDone_1 : decode bb_Ce_writeDone 1 = .ok (.getfield 23, 3) := by decide +kernel
theorem dd_Ce_writeDone_4 : decode bb_Ce_writeDone 4 = .ok (.invokevirtual 32, 3) := by decide +kernel
theorem dd_Ce_writeDone_7 : decode bb_Ce_writeDone 7 = .ok (.ifCond .eq 56, 3) := by decide +kernel
theorem dd_Ce_writeDone_10 : decode bb_Ce_writeDone 10 = .ok (.aload_n 0, 1) := by decide +kernel
theorem dd_Ce_writeDone_11 : decode bb_Ce_writeDone 11 = .ok (.getfield 9, 3) := by decide +kernel
theorem dd_Ce_writeDone_14 : decode bb_Ce_writeDone 14 = .ok (.ifnull 49, 3) := by decide +kernel
theorem dd_Ce_writeDone_17 : decode bb_Ce_writeDone 17 = .ok (.aload_n 0, 1) := by decide +kernel
theorem dd_Ce_writeDone_18 : decode bb_Ce_writeDone 18 = .ok (.new 42, 3) := by decide +kernel
theorem dd_Ce_writeDone_21 : decode bb_Ce_writeDone 21 = .ok (.dup, 1) := by decide +kernel
theorem dd_Ce_writeDone_22 : decode bb_Ce_writeDone 22 = .ok (.iload_n 1, 1) := by decide +kernel
theorem dd_Ce_writeDone_23 : decode bb_Ce_writeDone 23 = .ok (.aload_n 0, 1) := by decide +kernel
theorem dd_Ce_writeDone_24 : decode bb_Ce_writeDone 24 = .ok (.getfield 9, 3) := by decide +kernel
theorem dd_Ce_writeDone_27 : decode bb_Ce_writeDone 27 = .ok (.getfield 27, 3) := by decide +kernel
theorem dd_Ce_writeDone_30 : decode bb_Ce_writeDone 30 = .ok (.aload_n 0, 1) := by decide +kernel
theorem dd_Ce_writeDone_31 : decode bb_Ce_writeDone 31 = .ok (.getfield 9, 3) := by decide +kernel
theorem dd_Ce_writeDone_34 : decode bb_Ce_writeDone 34 = .ok (.getfield 44, 3) := by decide +kernel
theorem dd_Ce_writeDone_37 : decode bb_Ce_writeDone 37 = .ok (.ifCond .eq 7, 3) := by decide +kernel
theorem dd_Ce_writeDone_40 : decode bb_Ce_writeDone 40 = .ok (.iconst 2, 1) := by decide +kernel
theorem dd_Ce_writeDone_41 : decode bb_Ce_writeDone 41 = .ok (.goto 4, 3) := by decide +kernel
theorem dd_Ce_writeDone_44 : decode bb_Ce_writeDone 44 = .ok (.iconst 1, 1) := by decide +kernel
theorem dd_Ce_writeDone_45 : decode bb_Ce_writeDone 45 = .ok (.aload_n 0, 1) := by decide +kernel
theorem dd_Ce_writeDone_46 : decode bb_Ce_writeDone 46 = .ok (.getfield 9, 3) := by decide +kernel
theorem dd_Ce_writeDone_49 : decode bb_Ce_writeDone 49 = .ok (.getfield 47, 3) := by decide +kernel
theorem dd_Ce_writeDone_52 : decode bb_Ce_writeDone 52 = .ok (.invokespecial 50, 3) := by decide +kernel
theorem dd_Ce_writeDone_55 : decode bb_Ce_writeDone 55 = .ok (.invokevirtual 53, 3) := by decide +kernel
theorem dd_Ce_writeDone_58 : decode bb_Ce_writeDone 58 = .ok (.aload_n 0, 1) := by decide +kernel
theorem dd_Ce_writeDone_59 : decode bb_Ce_writeDone 59 = .ok (.aconst_null, 1) := by decide +kernel
theorem dd_Ce_writeDone_60 : decode bb_Ce_writeDone 60 = .ok (.putfield 9, 3) := by decide +kernel
theorem dd_Ce_writeDone_63 : decode bb_Ce_writeDone 63 = .ok (.aload_n 0, 1) := by decide +kernel
theorem dd_Ce_writeDone_64 : decode bb_Ce_writeDone 64 = .ok (.getfield 23, 3) := by decide +kernel
theorem dd_Ce_writeDone_67 : decode bb_Ce_writeDone 67 = .ok (.getfield 38, 3) := by decide +kernel
theorem dd_Ce_writeDone_70 : decode bb_Ce_writeDone 70 = .ok (.ireturn, 1) := by decide +kernel
theorem dd_Ce_writeVoid_0 : decode bb_Ce_writeVoid 0 = .ok (.aload_n 0, 1) := by decide +kernel
theorem dd_Ce_writeVoid_1 : decode bb_Ce_writeVoid 1 = .ok (.getfield 23, 3) := by decide +kernel
theorem dd_Ce_writeVoid_4 : decode bb_Ce_writeVoid 4 = .ok (.invokevirtual 32, 3) := by decide +kernel
theorem dd_Ce_writeVoid_7 : decode bb_Ce_writeVoid 7 = .ok (.ifCond .eq 31, 3) := by decide +kernel
theorem dd_Ce_writeVoid_10 : decode bb_Ce_writeVoid 10 = .ok (.aload_n 0, 1) := by decide +kernel
theorem dd_Ce_writeVoid_11 : decode bb_Ce_writeVoid 11 = .ok (.iload_n 1, 1) := by decide +kernel
theorem dd_Ce_writeVoid_12 : decode bb_Ce_writeVoid 12 = .ok (.invokevirtual 57, 3) := by decide +kernel
theorem dd_Ce_writeVoid_15 : decode bb_Ce_writeVoid 15 = .ok (.ifCond .eq 8, 3) := by decide +kernel
theorem dd_Ce_writeVoid_18 : decode bb_Ce_writeVoid 18 = .ok (.aload_n 0, 1) := by decide +kernel
theorem dd_Ce_writeVoid_19 : decode bb_Ce_writeVoid 19 = .ok (.aconst_null, 1) := by decide +kernel
theorem dd_Ce_writeVoid_20 : decode bb_Ce_writeVoid 20 = .ok (.putfield 9, 3) := by decide +kernel
theorem dd_Ce_writeVoid_23 : decode bb_Ce_writeVoid 23 = .ok (.aload_n 0, 1) := by decide +kernel
theorem dd_Ce_writeVoid_24 : decode bb_Ce_writeVoid 24 = .ok (.new 42, 3) := by decide +kernel
theorem dd_Ce_writeVoid_27 : decode bb_Ce_writeVoid 27 = .ok (.dup, 1) := by decide +kernel
theorem dd_Ce_writeVoid_28 : decode bb_Ce_writeVoid 28 = .ok (.iload_n 1, 1) := by decide +kernel
theorem dd_Ce_writeVoid_29 : decode bb_Ce_writeVoid 29 = .ok (.iload_n 1, 1) := by decide +kernel
theorem dd_Ce_writeVoid_30 : decode bb_Ce_writeVoid 30 = .ok (.iconst 3, 1) := by decide +kernel
theorem dd_Ce_writeVoid_31 : decode bb_Ce_writeVoid 31 = .ok (.iconst 0, 1) := by decide +kernel
theorem dd_Ce_writeVoid_32 : decode bb_Ce_writeVoid 32 = .ok (.invokespecial 50, 3) := by decide +kernel
theorem dd_Ce_writeVoid_35 : decode bb_Ce_writeVoid 35 = .ok (.invokevirtual 53, 3) := by decide +kernel
theorem dd_Ce_writeVoid_38 : decode bb_Ce_writeVoid 38 = .ok (.aload_n 0, 1) := by decide +kernel
theorem dd_Ce_writeVoid_39 : decode bb_Ce_writeVoid 39 = .ok (.getfield 23, 3) := by decide +kernel
theorem dd_Ce_writeVoid_42 : decode bb_Ce_writeVoid 42 = .ok (.getfield 38, 3) := by decide +kernel
theorem dd_Ce_writeVoid_45 : decode bb_Ce_writeVoid 45 = .ok (.ireturn, 1) := by decide +kernel
theorem dd_Ce_overtakes_0 : decode bb_Ce_overtakes 0 = .ok (.aload_n 0, 1) := by decide +kernel
theorem dd_Ce_overtakes_1 : decode bb_Ce_overtakes 1 = .ok (.getfield 15, 3) := by decide +kernel
theorem dd_Ce_overtakes_4 : decode bb_Ce_overtakes 4 = .ok (.astore_n 2, 1) := by decide +kernel
theorem dd_Ce_overtakes_5 : decode bb_Ce_overtakes 5 = .ok (.aload_n 2, 1) := by decide +kernel
theorem dd_Ce_overtakes_6 : decode bb_Ce_overtakes 6 = .ok (.ifnull 40, 3) := by decide +kernel
theorem dd_Ce_overtakes_9 : decode bb_Ce_overtakes 9 = .ok (.aload_n 2, 1) := by decide +kernel
theorem dd_Ce_overtakes_10 : decode bb_Ce_overtakes 10 = .ok (.getfield 61, 3) := by decide +kernel
theorem dd_Ce_overtakes_13 : decode bb_Ce_overtakes 13 = .ok (.iconst 3, 1) := by decide +kernel
theorem dd_Ce_overtakes_14 : decode bb_Ce_overtakes 14 = .ok (.if_icmp .ne 14, 3) := by decide +kernel
theorem dd_Ce_overtakes_17 : decode bb_Ce_overtakes 17 = .ok (.aload_n 2, 1) := by decide +kernel
theorem dd_Ce_overtakes_18 : decode bb_Ce_overtakes 18 = .ok (.getfield 64, 3) := by decide +kernel
theorem dd_Ce_overtakes_21 : decode bb_Ce_overtakes 21 = .ok (.iload_n 1, 1) := by decide +kernel
theorem dd_Ce_overtakes_22 : decode bb_Ce_overtakes 22 = .ok (.if_icmp .ne 16, 3) := by decide +kernel
theorem dd_Ce_overtakes_25 : decode bb_Ce_overtakes 25 = .ok (.goto 11, 3) := by decide +kernel
theorem dd_Ce_overtakes_28 : decode bb_Ce_overtakes 28 = .ok (.aload_n 2, 1) := by decide +kernel
theorem dd_Ce_overtakes_29 : decode bb_Ce_overtakes 29 = .ok (.getfield 65, 3) := by decide +kernel
theorem dd_Ce_overtakes_32 : decode bb_Ce_overtakes 32 = .ok (.iload_n 1, 1) := by decide +kernel
theorem dd_Ce_overtakes_33 : decode bb_Ce_overtakes 33 = .ok (.if_icmp .le 5, 3) := by decide +kernel
theorem dd_Ce_overtakes_36 : decode bb_Ce_overtakes 36 = .ok (.iconst 1, 1) := by decide +kernel
theorem dd_Ce_overtakes_37 : decode bb_Ce_overtakes 37 = .ok (.ireturn, 1) := by decide +kernel
theorem dd_Ce_overtakes_38 : decode bb_Ce_overtakes 38 = .ok (.aload_n 2, 1) := by decide +kernel
theorem dd_Ce_overtakes_39 : decode bb_Ce_overtakes 39 = .ok (.getfield 68, 3) := by decide +kernel
theorem dd_Ce_overtakes_42 : decode bb_Ce_overtakes 42 = .ok (.astore_n 2, 1) := by decide +kernel
theorem dd_Ce_overtakes_43 : decode bb_Ce_overtakes 43 = .ok (.goto (-38), 3) := by decide +kernel
theorem dd_Ce_overtakes_46 : decode bb_Ce_overtakes 46 = .ok (.iconst 0, 1) := by decide +kernel
theorem dd_Ce_overtakes_47 : decode bb_Ce_overtakes 47 = .ok (.ireturn, 1) := by decide +kernel
theorem dd_Ce_versionWrittenBy_0 : decode bb_Ce_versionWrittenBy 0 = .ok (.aload_n 0, 1) := by decide +kernel
theorem dd_Ce_versionWrittenBy_1 : decode bb_Ce_versionWrittenBy 1 = .ok (.getfield 15, 3) := by decide +kernel
theorem dd_Ce_versionWrittenBy_4 : decode bb_Ce_versionWrittenBy 4 = .ok (.astore_n 2, 1) := by decide +kernel
theorem dd_Ce_versionWrittenBy_5 : decode bb_Ce_versionWrittenBy 5 = .ok (.aload_n 2, 1) := by decide +kernel
theorem dd_Ce_versionWrittenBy_6 : decode bb_Ce_versionWrittenBy 6 = .ok (.ifnull 29, 3) := by decide +kernel
theorem dd_Ce_versionWrittenBy_9 : decode bb_Ce_versionWrittenBy 9 = .ok (.aload_n 2, 1) := by decide +kernel
theorem dd_Ce_versionWrittenBy_10 : decode bb_Ce_versionWrittenBy 10 = .ok (.getfield 61, 3) := by decide +kernel
theorem dd_Ce_versionWrittenBy_13 : decode bb_Ce_versionWrittenBy 13 = .ok (.iconst 3, 1) := by decide +kernel
theorem dd_Ce_versionWrittenBy_14 : decode bb_Ce_versionWrittenBy 14 = .ok (.if_icmp .eq 13, 3) := by decide +kernel
theorem dd_Ce_versionWrittenBy_17 : decode bb_Ce_versionWrittenBy 17 = .ok (.aload_n 2, 1) := by decide +kernel
theorem dd_Ce_versionWrittenBy_18 : decode bb_Ce_versionWrittenBy 18 = .ok (.getfield 64, 3) := by decide +kernel
theorem dd_Ce_versionWrittenBy_21 : decode bb_Ce_versionWrittenBy 21 = .ok (.iload_n 1, 1) := by decide +kernel
theorem dd_Ce_versionWrittenBy_22 : decode bb_Ce_versionWrittenBy 22 = .ok (.if_icmp .ne 5, 3) := by decide +kernel
theorem dd_Ce_versionWrittenBy_25 : decode bb_Ce_versionWrittenBy 25 = .ok (.aload_n 2, 1) := by decide +kernel
theorem dd_Ce_versionWrittenBy_26 : decode bb_Ce_versionWrittenBy 26 = .ok (.areturn, 1) := by decide +kernel
theorem dd_Ce_versionWrittenBy_27 : decode bb_Ce_versionWrittenBy 27 = .ok (.aload_n 2, 1) := by decide +kernel
theorem dd_Ce_versionWrittenBy_28 : decode bb_Ce_versionWrittenBy 28 = .ok (.getfield 68, 3) := by decide +kernel
theorem dd_Ce_versionWrittenBy_31 : decode bb_Ce_versionWrittenBy 31 = .ok (.astore_n 2, 1) := by decide +kernel
theorem dd_Ce_versionWrittenBy_32 : decode bb_Ce_versionWrittenBy 32 = .ok (.goto (-27), 3) := by decide +kernel
theorem dd_Ce_versionWrittenBy_35 : decode bb_Ce_versionWrittenBy 35 = .ok (.aconst_null, 1) := by decide +kernel
theorem dd_Ce_versionWrittenBy_36 : decode bb_Ce_versionWrittenBy 36 = .ok (.areturn, 1) := by decide +kernel
theorem dd_Ce_lastWrittenBefore_0 : decode bb_Ce_lastWrittenBefore 0 = .ok (.aload_n 0, 1) := by decide +kernel
theorem dd_Ce_lastWrittenBefore_1 : decode bb_Ce_lastWrittenBefore 1 = .ok (.getfield 15, 3) := by decide +kernel
theorem dd_Ce_lastWrittenBefore_4 : decode bb_Ce_lastWrittenBefore 4 = .ok (.astore_n 2, 1) := by decide +kernel
theorem dd_Ce_lastWrittenBefore_5 : decode bb_Ce_lastWrittenBefore 5 = .ok (.aload_n 2, 1) := by decide +kernel
theorem dd_Ce_lastWrittenBefore_6 : decode bb_Ce_lastWrittenBefore 6 = .ok (.ifnull 29, 3) := by decide +kernel
theorem dd_Ce_lastWrittenBefore_9 : decode bb_Ce_lastWrittenBefore 9 = .ok (.aload_n 2, 1) := by decide +kernel
theorem dd_Ce_lastWrittenBefore_10 : decode bb_Ce_lastWrittenBefore 10 = .ok (.getfield 61, 3) := by decide +kernel
theorem dd_Ce_lastWrittenBefore_13 : decode bb_Ce_lastWrittenBefore 13 = .ok (.iconst 3, 1) := by decide +kernel
theorem dd_Ce_lastWrittenBefore_14 : decode bb_Ce_lastWrittenBefore 14 = .ok (.if_icmp .eq 13, 3) := by decide +kernel
theorem dd_Ce_lastWrittenBefore_17 : decode bb_Ce_lastWrittenBefore 17 = .ok (.aload_n 2, 1) := by decide +kernel
theorem dd_Ce_lastWrittenBefore_18 : decode bb_Ce_lastWrittenBefore 18 = .ok (.getfield 65, 3) := by decide +kernel
theorem dd_Ce_lastWrittenBefore_21 : decode bb_Ce_lastWrittenBefore 21 = .ok (.iload_n 1, 1) := by decide +kernel
theorem dd_Ce_lastWrittenBefore_22 : decode bb_Ce_lastWrittenBefore 22 = .ok (.if_icmp .ge 5, 3) := by decide +kernel
theorem dd_Ce_lastWrittenBefore_25 : decode bb_Ce_lastWrittenBefore 25 = .ok (.aload_n 2, 1) := by decide +kernel
theorem dd_Ce_lastWrittenBefore_26 : decode bb_Ce_lastWrittenBefore 26 = .ok (.areturn, 1) := by decide +kernel
theorem dd_Ce_lastWrittenBefore_27 : decode bb_Ce_lastWrittenBefore 27 = .ok (.aload_n 2, 1) := by decide +kernel
theorem dd_Ce_lastWrittenBefore_28 : decode bb_Ce_lastWrittenBefore 28 = .ok (.getfield 68, 3) := by decide +kernel
theorem dd_Ce_lastWrittenBefore_31 : decode bb_Ce_lastWrittenBefore 31 = .ok (.astore_n 2, 1) := by decide +kernel
theorem dd_Ce_lastWrittenBefore_32 : decode bb_Ce_lastWrittenBefore 32 = .ok (.goto (-27), 3) := by decide +kernel
theorem dd_Ce_lastWrittenBefore_35 : decode bb_Ce_lastWrittenBefore 35 = .ok (.aconst_null, 1) := by decide +kernel
theorem dd_Ce_lastWrittenBefore_36 : decode bb_Ce_lastWrittenBefore 36 = .ok (.areturn, 1) := by decide +kernel
theorem dd_Ce_versionAt_0 : decode bb_Ce_versionAt 0 = .ok (.iload_n 1, 1) := by decide +kernel
theorem dd_Ce_versionAt_1 : decode bb_Ce_versionAt 1 = .ok (.ifCond .ge 5, 3) := by decide +kernel
theorem dd_Ce_versionAt_4 : decode bb_Ce_versionAt 4 = .ok (.aconst_null, 1) := by decide +kernel
theorem dd_Ce_versionAt_5 : decode bb_Ce_versionAt 5 = .ok (.areturn, 1) := by decide +kernel
theorem dd_Ce_versionAt_6 : decode bb_Ce_versionAt 6 = .ok (.aload_n 0, 1) := by decide +kernel
theorem dd_Ce_versionAt_7 : decode bb_Ce_versionAt 7 = .ok (.getfield 15, 3) := by decide +kernel
theorem dd_Ce_versionAt_10 : decode bb_Ce_versionAt 10 = .ok (.astore_n 2, 1) := by decide +kernel
theorem dd_Ce_versionAt_11 : decode bb_Ce_versionAt 11 = .ok (.iconst 0, 1) := by decide +kernel
theorem dd_Ce_versionAt_12 : decode bb_Ce_versionAt 12 = .ok (.istore_n 3, 1) := by decide +kernel
theorem dd_Ce_versionAt_13 : decode bb_Ce_versionAt 13 = .ok (.iload_n 3, 1) := by decide +kernel
theorem dd_Ce_versionAt_14 : decode bb_Ce_versionAt 14 = .ok (.iload_n 1, 1) := by decide +kernel
theorem dd_Ce_versionAt_15 : decode bb_Ce_versionAt 15 = .ok (.if_icmp .ge 18, 3) := by decide +kernel
theorem dd_Ce_versionAt_18 : decode bb_Ce_versionAt 18 = .ok (.aload_n 2, 1) := by decide +kernel
theorem dd_Ce_versionAt_19 : decode bb_Ce_versionAt 19 = .ok (.ifnull 14, 3) := by decide +kernel
theorem dd_Ce_versionAt_22 : decode bb_Ce_versionAt 22 = .ok (.aload_n 2, 1) := by decide +kernel
theorem dd_Ce_versionAt_23 : decode bb_Ce_versionAt 23 = .ok (.getfield 68, 3) := by decide +kernel
theorem dd_Ce_versionAt_26 : decode bb_Ce_versionAt 26 = .ok (.astore_n 2, 1) := by decide +kernel
theorem dd_Ce_versionAt_27 : decode bb_Ce_versionAt 27 = .ok (.iinc 3 1, 3) := by decide +kernel
theorem dd_Ce_versionAt_30 : decode bb_Ce_versionAt 30 = .ok (.goto (-17), 3) := by decide +kernel
theorem dd_Ce_versionAt_33 : decode bb_Ce_versionAt 33 = .ok (.aload_n 2, 1) := by decide +kernel
theorem dd_Ce_versionAt_34 : decode bb_Ce_versionAt 34 = .ok (.areturn, 1) := by decide +kernel
theorem dd_Ce_forgetBefore_0 : decode bb_Ce_forgetBefore 0 = .ok (.aconst_null, 1) := by decide +kernel
theorem dd_Ce_forgetBefore_1 : decode bb_Ce_forgetBefore 1 = .ok (.astore_n 2, 1) := by decide +kernel
theorem dd_Ce_forgetBefore_2 : decode bb_Ce_forgetBefore 2 = .ok (.iconst 0, 1) := by decide +kernel
theorem dd_Ce_forgetBefore_3 : decode bb_Ce_forgetBefore 3 = .ok (.istore_n 3, 1) := by decide +kernel
theorem dd_Ce_forgetBefore_4 : decode bb_Ce_forgetBefore 4 = .ok (.aload_n 0, 1) := by decide +kernel
theorem dd_Ce_forgetBefore_5 : decode bb_Ce_forgetBefore 5 = .ok (.getfield 15, 3) := by decide +kernel
theorem dd_Ce_forgetBefore_8 : decode bb_Ce_forgetBefore 8 = .ok (.astore 4, 2) := by decide +kernel
theorem dd_Ce_forgetBefore_10 : decode bb_Ce_forgetBefore 10 = .ok (.aload 4, 2) := by decide +kernel
theorem dd_Ce_forgetBefore_12 : decode bb_Ce_forgetBefore 12 = .ok (.ifnull 80, 3) := by decide +kernel
theorem dd_Ce_forgetBefore_15 : decode bb_Ce_forgetBefore 15 = .ok (.aload 4, 2) := by decide +kernel
theorem dd_Ce_forgetBefore_17 : decode bb_Ce_forgetBefore 17 = .ok (.getfield 65, 3) := by decide +kernel
theorem dd_Ce_forgetBefore_20 : decode bb_Ce_forgetBefore 20 = .ok (.iload_n 1, 1) := by decide +kernel
theorem dd_Ce_forgetBefore_21 : decode bb_Ce_forgetBefore 21 = .ok (.if_icmp .ge 20, 3) := by decide +kernel
theorem dd_Ce_forgetBefore_24 : decode bb_Ce_forgetBefore 24 = .ok (.aload 4, 2) := by decide +kernel
theorem dd_Ce_forgetBefore_26 : decode bb_Ce_forgetBefore 26 = .ok (.getfield 61, 3) := by decide +kernel
theorem dd_Ce_forgetBefore_29 : decode bb_Ce_forgetBefore 29 = .ok (.iconst 1, 1) := by decide +kernel
theorem dd_Ce_forgetBefore_30 : decode bb_Ce_forgetBefore 30 = .ok (.if_icmp .ne 7, 3) := by decide +kernel
theorem dd_Ce_forgetBefore_33 : decode bb_Ce_forgetBefore 33 = .ok (.iload_n 3, 1) := by decide +kernel
theorem dd_Ce_forgetBefore_34 : decode bb_Ce_forgetBefore 34 = .ok (.ifCond .eq 7, 3) := by decide +kernel
theorem dd_Ce_forgetBefore_37 : decode bb_Ce_forgetBefore 37 = .ok (.iconst 1, 1) := by decide +kernel
theorem dd_Ce_forgetBefore_38 : decode bb_Ce_forgetBefore 38 = .ok (.goto 4, 3) := by decide +kernel
theorem dd_Ce_forgetBefore_41 : decode bb_Ce_forgetBefore 41 = .ok (.iconst 0, 1) := by decide +kernel
theorem dd_Ce_forgetBefore_42 : decode bb_Ce_forgetBefore 42 = .ok (.istore 5, 2) := by decide +kernel
theorem dd_Ce_forgetBefore_44 : decode bb_Ce_forgetBefore 44 = .ok (.aload 4, 2) := by decide +kernel
theorem dd_Ce_forgetBefore_46 : decode bb_Ce_forgetBefore 46 = .ok (.getfield 65, 3) := by decide +kernel
theorem dd_Ce_forgetBefore_49 : decode bb_Ce_forgetBefore 49 = .ok (.iload_n 1, 1) := by decide +kernel
theorem dd_Ce_forgetBefore_50 : decode bb_Ce_forgetBefore 50 = .ok (.if_icmp .ge 14, 3) := by decide +kernel
theorem dd_Ce_forgetBefore_53 : decode bb_Ce_forgetBefore 53 = .ok (.aload 4, 2) := by decide +kernel
theorem dd_Ce_forgetBefore_55 : decode bb_Ce_forgetBefore 55 = .ok (.getfield 61, 3) := by decide +kernel
theorem dd_Ce_forgetBefore_58 : decode bb_Ce_forgetBefore 58 = .ok (.iconst 3, 1) := by decide +kernel
theorem dd_Ce_forgetBefore_59 : decode bb_Ce_forgetBefore 59 = .ok (.if_icmp .eq 5, 3) := by decide +kernel
theorem dd_Ce_forgetBefore_62 : decode bb_Ce_forgetBefore 62 = .ok (.iconst 1, 1) := by decide +kernel
theorem dd_Ce_forgetBefore_63 : decode bb_Ce_forgetBefore 63 = .ok (.istore_n 3, 1) := by decide +kernel
theorem dd_Ce_forgetBefore_64 : decode bb_Ce_forgetBefore 64 = .ok (.iload 5, 2) := by decide +kernel
theorem dd_Ce_forgetBefore_66 : decode bb_Ce_forgetBefore 66 = .ok (.ifCond .eq 13, 3) := by decide +kernel
theorem dd_Ce_forgetBefore_69 : decode bb_Ce_forgetBefore 69 = .ok (.aload_n 0, 1) := by decide +kernel
theorem dd_Ce_forgetBefore_70 : decode bb_Ce_forgetBefore 70 = .ok (.aload_n 2, 1) := by decide +kernel
theorem dd_Ce_forgetBefore_71 : decode bb_Ce_forgetBefore 71 = .ok (.aload 4, 2) := by decide +kernel
theorem dd_Ce_forgetBefore_73 : decode bb_Ce_forgetBefore 73 = .ok (.invokevirtual 71, 3) := by decide +kernel
theorem dd_Ce_forgetBefore_76 : decode bb_Ce_forgetBefore 76 = .ok (.goto 6, 3) := by decide +kernel
theorem dd_Ce_forgetBefore_79 : decode bb_Ce_forgetBefore 79 = .ok (.aload 4, 2) := by decide +kernel
theorem dd_Ce_forgetBefore_81 : decode bb_Ce_forgetBefore 81 = .ok (.astore_n 2, 1) := by decide +kernel
theorem dd_Ce_forgetBefore_82 : decode bb_Ce_forgetBefore 82 = .ok (.aload 4, 2) := by decide +kernel
theorem dd_Ce_forgetBefore_84 : decode bb_Ce_forgetBefore 84 = .ok (.getfield 68, 3) := by decide +kernel
theorem dd_Ce_forgetBefore_87 : decode bb_Ce_forgetBefore 87 = .ok (.astore 4, 2) := by decide +kernel
theorem dd_Ce_forgetBefore_89 : decode bb_Ce_forgetBefore 89 = .ok (.goto (-79), 3) := by decide +kernel
theorem dd_Ce_forgetBefore_92 : decode bb_Ce_forgetBefore 92 = .ok (.return_, 1) := by decide +kernel
theorem dd_Ce_removeBehind_0 : decode bb_Ce_removeBehind 0 = .ok (.aload_n 0, 1) := by decide +kernel
theorem dd_Ce_removeBehind_1 : decode bb_Ce_removeBehind 1 = .ok (.dup, 1) := by decide +kernel
theorem dd_Ce_removeBehind_2 : decode bb_Ce_removeBehind 2 = .ok (.getfield 19, 3) := by decide +kernel
theorem dd_Ce_removeBehind_5 : decode bb_Ce_removeBehind 5 = .ok (.iconst 1, 1) := by decide +kernel
theorem dd_Ce_removeBehind_6 : decode bb_Ce_removeBehind 6 = .ok (.isub, 1) := by decide +kernel
theorem dd_Ce_removeBehind_7 : decode bb_Ce_removeBehind 7 = .ok (.putfield 19, 3) := by decide +kernel
theorem dd_Ce_removeBehind_10 : decode bb_Ce_removeBehind 10 = .ok (.aload_n 1, 1) := by decide +kernel
theorem dd_Ce_removeBehind_11 : decode bb_Ce_removeBehind 11 = .ok (.ifnonnull 14, 3) := by decide +kernel
theorem dd_Ce_removeBehind_14 : decode bb_Ce_removeBehind 14 = .ok (.aload_n 0, 1) := by decide +kernel
theorem dd_Ce_removeBehind_15 : decode bb_Ce_removeBehind 15 = .ok (.aload_n 2, 1) := by decide +kernel
theorem dd_Ce_removeBehind_16 : decode bb_Ce_removeBehind 16 = .ok (.getfield 68, 3) := by decide +kernel
theorem dd_Ce_removeBehind_19 : decode bb_Ce_removeBehind 19 = .ok (.putfield 15, 3) := by decide +kernel
theorem dd_Ce_removeBehind_22 : decode bb_Ce_removeBehind 22 = .ok (.goto 11, 3) := by decide +kernel
theorem dd_Ce_removeBehind_25 : decode bb_Ce_removeBehind 25 = .ok (.aload_n 1, 1) := by decide +kernel
theorem dd_Ce_removeBehind_26 : decode bb_Ce_removeBehind 26 = .ok (.aload_n 2, 1) := by decide +kernel
theorem dd_Ce_removeBehind_27 : decode bb_Ce_removeBehind 27 = .ok (.getfield 68, 3) := by decide +kernel
theorem dd_Ce_removeBehind_30 : decode bb_Ce_removeBehind 30 = .ok (.putfield 68, 3) := by decide +kernel
theorem dd_Ce_removeBehind_33 : decode bb_Ce_removeBehind 33 = .ok (.return_, 1) := by decide +kernel
theorem dd_Ce_keep_0 : decode bb_Ce_keep 0 = .ok (.aload_n 0, 1) := by decide +kernel
theorem dd_Ce_keep_1 : decode bb_Ce_keep 1 = .ok (.getfield 19, 3) := by decide +kernel
theorem dd_Ce_keep_4 : decode bb_Ce_keep 4 = .ok (.sipush 512, 3) := by decide +kernel
theorem dd_Ce_keep_7 : decode bb_Ce_keep 7 = .ok (.if_icmp .lt 4, 3) := by decide +kernel
theorem dd_Ce_keep_10 : decode bb_Ce_keep 10 = .ok (.return_, 1) := by decide +kernel
theorem dd_Ce_keep_11 : decode bb_Ce_keep 11 = .ok (.aconst_null, 1) := by decide +kernel
theorem dd_Ce_keep_12 : decode bb_Ce_keep 12 = .ok (.astore_n 2, 1) := by decide +kernel
theorem dd_Ce_keep_13 : decode bb_Ce_keep 13 = .ok (.aload_n 0, 1) := by decide +kernel
theorem dd_Ce_keep_14 : decode bb_Ce_keep 14 = .ok (.getfield 15, 3) := by decide +kernel
theorem dd_Ce_keep_17 : decode bb_Ce_keep 17 = .ok (.astore_n 3, 1) := by decide +kernel
theorem dd_Ce_keep_18 : decode bb_Ce_keep 18 = .ok (.aload_n 3, 1) := by decide +kernel
theorem dd_Ce_keep_19 : decode bb_Ce_keep 19 = .ok (.ifnull 24, 3) := by decide +kernel
theorem dd_Ce_keep_22 : decode bb_Ce_keep 22 = .ok (.aload_n 3, 1) := by decide +kernel
theorem dd_Ce_keep_23 : decode bb_Ce_keep 23 = .ok (.getfield 65, 3) := by decide +kernel
theorem dd_Ce_keep_26 : decode bb_Ce_keep 26 = .ok (.aload_n 1, 1) := by decide +kernel
theorem dd_Ce_keep_27 : decode bb_Ce_keep 27 = .ok (.getfield 65, 3) := by decide +kernel
theorem dd_Ce_keep_30 : decode bb_Ce_keep 30 = .ok (.if_icmp .le 13, 3) := by decide +kernel
theorem dd_Ce_keep_33 : decode bb_Ce_keep 33 = .ok (.aload_n 3, 1) := by decide +kernel
theorem dd_Ce_keep_34 : decode bb_Ce_keep 34 = .ok (.astore_n 2, 1) := by decide +kernel
theorem dd_Ce_keep_35 : decode bb_Ce_keep 35 = .ok (.aload_n 3, 1) := by decide +kernel
theorem dd_Ce_keep_36 : decode bb_Ce_keep 36 = .ok (.getfield 68, 3) := by decide +kernel
theorem dd_Ce_keep_39 : decode bb_Ce_keep 39 = .ok (.astore_n 3, 1) := by decide +kernel
theorem dd_Ce_keep_40 : decode bb_Ce_keep 40 = .ok (.goto (-22), 3) := by decide +kernel
theorem dd_Ce_keep_43 : decode bb_Ce_keep 43 = .ok (.aload_n 1, 1) := by decide +kernel
theorem dd_Ce_keep_44 : decode bb_Ce_keep 44 = .ok (.aload_n 3, 1) := by decide +kernel
theorem dd_Ce_keep_45 : decode bb_Ce_keep 45 = .ok (.putfield 68, 3) := by decide +kernel
theorem dd_Ce_keep_48 : decode bb_Ce_keep 48 = .ok (.aload_n 2, 1) := by decide +kernel
theorem dd_Ce_keep_49 : decode bb_Ce_keep 49 = .ok (.ifnonnull 11, 3) := by decide +kernel
theorem dd_Ce_keep_52 : decode bb_Ce_keep 52 = .ok (.aload_n 0, 1) := by decide +kernel
theorem dd_Ce_keep_53 : decode bb_Ce_keep 53 = .ok (.aload_n 1, 1) := by decide +kernel
theorem dd_Ce_keep_54 : decode bb_Ce_keep 54 = .ok (.putfield 15, 3) := by decide +kernel
theorem dd_Ce_keep_57 : decode bb_Ce_keep 57 = .ok (.goto 8, 3) := by decide +kernel
theorem dd_Ce_keep_60 : decode bb_Ce_keep 60 = .ok (.aload_n 2, 1) := by decide +kernel
theorem dd_Ce_keep_61 : decode bb_Ce_keep 61 = .ok (.aload_n 1, 1) := by decide +kernel
theorem dd_Ce_keep_62 : decode bb_Ce_keep 62 = .ok (.putfield 68, 3) := by decide +kernel
theorem dd_Ce_keep_65 : decode bb_Ce_keep 65 = .ok (.aload_n 0, 1) := by decide +kernel
theorem dd_Ce_keep_66 : decode bb_Ce_keep 66 = .ok (.dup, 1) := by decide +kernel
theorem dd_Ce_keep_67 : decode bb_Ce_keep 67 = .ok (.getfield 19, 3) := by decide +kernel
theorem dd_Ce_keep_70 : decode bb_Ce_keep 70 = .ok (.iconst 1, 1) := by decide +kernel
theorem dd_Ce_keep_71 : decode bb_Ce_keep 71 = .ok (.iadd, 1) := by decide +kernel
theorem dd_Ce_keep_72 : decode bb_Ce_keep 72 = .ok (.putfield 19, 3) := by decide +kernel
theorem dd_Ce_keep_75 : decode bb_Ce_keep 75 = .ok (.return_, 1) := by decide +kernel
theorem dd_TC_isClient_0 : decode bb_TC_isClient 0 = .ok (.iload_n 0, 1) := by decide +kernel
theorem dd_TC_isClient_1 : decode bb_TC_isClient 1 = .ok (.ifCond .lt 12, 3) := by decide +kernel
theorem dd_TC_isClient_4 : decode bb_TC_isClient 4 = .ok (.iload_n 0, 1) := by decide +kernel
theorem dd_TC_isClient_5 : decode bb_TC_isClient 5 = .ok (.iconst 4, 1) := by decide +kernel
theorem dd_TC_isClient_6 : decode bb_TC_isClient 6 = .ok (.if_icmp .ge 7, 3) := by decide +kernel
theorem dd_TC_isClient_9 : decode bb_TC_isClient 9 = .ok (.iconst 1, 1) := by decide +kernel
theorem dd_TC_isClient_10 : decode bb_TC_isClient 10 = .ok (.goto 4, 3) := by decide +kernel
theorem dd_TC_isClient_13 : decode bb_TC_isClient 13 = .ok (.iconst 0, 1) := by decide +kernel
theorem dd_TC_isClient_14 : decode bb_TC_isClient 14 = .ok (.ireturn, 1) := by decide +kernel
theorem dd_TC_isCell_0 : decode bb_TC_isCell 0 = .ok (.iload_n 0, 1) := by decide +kernel
theorem dd_TC_isCell_1 : decode bb_TC_isCell 1 = .ok (.ifCond .lt 13, 3) := by decide +kernel
theorem dd_TC_isCell_4 : decode bb_TC_isCell 4 = .ok (.iload_n 0, 1) := by decide +kernel
theorem dd_TC_isCell_5 : decode bb_TC_isCell 5 = .ok (.bipush 12, 2) := by decide +kernel
theorem dd_TC_isCell_7 : decode bb_TC_isCell 7 = .ok (.if_icmp .ge 7, 3) := by decide +kernel
theorem dd_TC_isCell_10 : decode bb_TC_isCell 10 = .ok (.iconst 1, 1) := by decide +kernel
theorem dd_TC_isCell_11 : decode bb_TC_isCell 11 = .ok (.goto 4, 3) := by decide +kernel
theorem dd_TC_isCell_14 : decode bb_TC_isCell 14 = .ok (.iconst 0, 1) := by decide +kernel
theorem dd_TC_isCell_15 : decode bb_TC_isCell 15 = .ok (.ireturn, 1) := by decide +kernel
theorem dd_TC_isTablet_0 : decode bb_TC_isTablet 0 = .ok (.iload_n 0, 1) := by decide +kernel
theorem dd_TC_isTablet_1 : decode bb_TC_isTablet 1 = .ok (.ifCond .lt 12, 3) := by decide +kernel
theorem dd_TC_isTablet_4 : decode bb_TC_isTablet 4 = .ok (.iload_n 0, 1) := by decide +kernel
theorem dd_TC_isTablet_5 : decode bb_TC_isTablet 5 = .ok (.iconst 3, 1) := by decide +kernel
theorem dd_TC_isTablet_6 : decode bb_TC_isTablet 6 = .ok (.if_icmp .ge 7, 3) := by decide +kernel
theorem dd_TC_isTablet_9 : decode bb_TC_isTablet 9 = .ok (.iconst 1, 1) := by decide +kernel
theorem dd_TC_isTablet_10 : decode bb_TC_isTablet 10 = .ok (.goto 4, 3) := by decide +kernel
theorem dd_TC_isTablet_13 : decode bb_TC_isTablet 13 = .ok (.iconst 0, 1) := by decide +kernel
theorem dd_TC_isTablet_14 : decode bb_TC_isTablet 14 = .ok (.ireturn, 1) := by decide +kernel
theorem dd_TC_asNumber_0 : decode bb_TC_asNumber 0 = .ok (.iload_n 0, 1) := by decide +kernel
theorem dd_TC_asNumber_1 : decode bb_TC_asNumber 1 = .ok (.ifCond .eq 7, 3) := by decide +kernel
theorem dd_TC_asNumber_4 : decode bb_TC_asNumber 4 = .ok (.iconst 1, 1) := by decide +kernel
theorem dd_TC_asNumber_5 : decode bb_TC_asNumber 5 = .ok (.goto 4, 3) := by decide +kernel
theorem dd_TC_asNumber_8 : decode bb_TC_asNumber 8 = .ok (.iconst 0, 1) := by decide +kernel
theorem dd_TC_asNumber_9 : decode bb_TC_asNumber 9 = .ok (.ireturn, 1) := by decide +kernel
theorem dd_TC_endByConflict_0 : decode bb_TC_endByConflict 0 = .ok (.aload_n 0, 1) := by decide +kernel
theorem dd_TC_endByConflict_1 : decode bb_TC_endByConflict 1 = .ok (.invokevirtual 154, 3) := by decide +kernel
theorem dd_TC_endByConflict_4 : decode bb_TC_endByConflict 4 = .ok (.iconst 0, 1) := by decide +kernel
theorem dd_TC_endByConflict_5 : decode bb_TC_endByConflict 5 = .ok (.ireturn, 1) := by decide +kernel
theorem dd_TC_leastOf_0 : decode bb_TC_leastOf 0 = .ok (.iconst 0, 1) := by decide +kernel
theorem dd_TC_leastOf_1 : decode bb_TC_leastOf 1 = .ok (.istore_n 1, 1) := by decide +kernel
theorem dd_TC_leastOf_2 : decode bb_TC_leastOf 2 = .ok (.iload_n 1, 1) := by decide +kernel
theorem dd_TC_leastOf_3 : decode bb_TC_leastOf 3 = .ok (.bipush 11, 2) := by decide +kernel
theorem dd_TC_leastOf_5 : decode bb_TC_leastOf 5 = .ok (.if_icmp .ge 17, 3) := by decide +kernel
theorem dd_TC_leastOf_8 : decode bb_TC_leastOf 8 = .ok (.iload_n 0, 1) := by decide +kernel
theorem dd_TC_leastOf_9 : decode bb_TC_leastOf 9 = .ok (.iload_n 1, 1) := by decide +kernel
theorem dd_TC_leastOf_10 : decode bb_TC_leastOf 10 = .ok (.ishr, 1) := by decide +kernel
theorem dd_TC_leastOf_11 : decode bb_TC_leastOf 11 = .ok (.iconst 1, 1) := by decide +kernel
theorem dd_TC_leastOf_12 : decode bb_TC_leastOf 12 = .ok (.iand, 1) := by decide +kernel
theorem dd_TC_leastOf_13 : decode bb_TC_leastOf 13 = .ok (.ifCond .ne 9, 3) := by decide +kernel
theorem dd_TC_leastOf_16 : decode bb_TC_leastOf 16 = .ok (.iinc 1 1, 3) := by decide +kernel
theorem dd_TC_leastOf_19 : decode bb_TC_leastOf 19 = .ok (.goto (-17), 3) := by decide +kernel
theorem dd_TC_leastOf_22 : decode bb_TC_leastOf 22 = .ok (.iload_n 1, 1) := by decide +kernel
theorem dd_TC_leastOf_23 : decode bb_TC_leastOf 23 = .ok (.ireturn, 1) := by decide +kernel

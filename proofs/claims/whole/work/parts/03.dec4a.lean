theorem dX4_init_0 : decode cX4_init 0 = .ok (.aload_n 0, 1) := by decide +kernel
theorem dX4_init_1 : decode cX4_init 1 = .ok (.invokespecial 1, 3) := by decide +kernel
theorem dX4_init_4 : decode cX4_init 4 = .ok (.aload_n 0, 1) := by decide +kernel
theorem dX4_init_5 : decode cX4_init 5 = .ok (.bipush 12, 2) := by decide +kernel
theorem dX4_init_7 : decode cX4_init 7 = .ok (.newarray .int, 2) := by decide +kernel
theorem dX4_init_9 : decode cX4_init 9 = .ok (.putfield 9, 3) := by decide +kernel
theorem dX4_init_12 : decode cX4_init 12 = .ok (.aload_n 0, 1) := by decide +kernel
theorem dX4_init_13 : decode cX4_init 13 = .ok (.bipush 10, 2) := by decide +kernel
theorem dX4_init_15 : decode cX4_init 15 = .ok (.newarray .int, 2) := by decide +kernel
theorem dX4_init_17 : decode cX4_init 17 = .ok (.putfield 13, 3) := by decide +kernel
theorem dX4_init_20 : decode cX4_init 20 = .ok (.aload_n 0, 1) := by decide +kernel
theorem dX4_init_21 : decode cX4_init 21 = .ok (.bipush 10, 2) := by decide +kernel
theorem dX4_init_23 : decode cX4_init 23 = .ok (.newarray .int, 2) := by decide +kernel
theorem dX4_init_25 : decode cX4_init 25 = .ok (.putfield 16, 3) := by decide +kernel
theorem dX4_init_28 : decode cX4_init 28 = .ok (.aload_n 0, 1) := by decide +kernel
theorem dX4_init_29 : decode cX4_init 29 = .ok (.bipush 120, 2) := by decide +kernel
theorem dX4_init_31 : decode cX4_init 31 = .ok (.newarray .int, 2) := by decide +kernel
theorem dX4_init_33 : decode cX4_init 33 = .ok (.putfield 19, 3) := by decide +kernel
theorem dX4_init_36 : decode cX4_init 36 = .ok (.aload_n 0, 1) := by decide +kernel
theorem dX4_init_37 : decode cX4_init 37 = .ok (.sipush 200, 3) := by decide +kernel
theorem dX4_init_40 : decode cX4_init 40 = .ok (.newarray .int, 2) := by decide +kernel
theorem dX4_init_42 : decode cX4_init 42 = .ok (.putfield 22, 3) := by decide +kernel
theorem dX4_init_45 : decode cX4_init 45 = .ok (.aload_n 0, 1) := by decide +kernel
theorem dX4_init_46 : decode cX4_init 46 = .ok (.sipush 200, 3) := by decide +kernel
theorem dX4_init_49 : decode cX4_init 49 = .ok (.newarray .int, 2) := by decide +kernel
theorem dX4_init_51 : decode cX4_init 51 = .ok (.putfield 25, 3) := by decide +kernel
theorem dX4_init_54 : decode cX4_init 54 = .ok (.aload_n 0, 1) := by decide +kernel
theorem dX4_init_55 : decode cX4_init 55 = .ok (.sipush 200, 3) := by decide +kernel
theorem dX4_init_58 : decode cX4_init 58 = .ok (.newarray .int, 2) := by decide +kernel
theorem dX4_init_60 : decode cX4_init 60 = .ok (.putfield 28, 3) := by decide +kernel
theorem dX4_init_63 : decode cX4_init 63 = .ok (.aload_n 0, 1) := by decide +kernel
theorem dX4_init_64 : decode cX4_init 64 = .ok (.bipush 12, 2) := by decide +kernel
theorem dX4_init_66 : decode cX4_init 66 = .ok (.newarray .int, 2) := by decide +kernel
theorem dX4_init_68 : decode cX4_init 68 = .ok (.putfield 31, 3) := by decide +kernel
theorem dX4_init_71 : decode cX4_init 71 = .ok (.return_, 1) := by decide +kernel
theorem dX4_thrown_0 : decode cX4_thrown 0 = .ok (.aload_n 0, 1) := by decide +kernel
theorem dX4_thrown_1 : decode cX4_thrown 1 = .ok (.getfield 34, 3) := by decide +kernel
theorem dX4_thrown_4 : decode cX4_thrown 4 = .ok (.ireturn, 1) := by decide +kernel
theorem dX4_fail_0 : decode cX4_fail 0 = .ok (.aload_n 0, 1) := by decide +kernel
theorem dX4_fail_1 : decode cX4_fail 1 = .ok (.iload_n 1, 1) := by decide +kernel
theorem dX4_fail_2 : decode cX4_fail 2 = .ok (.putfield 34, 3) := by decide +kernel
theorem dX4_fail_5 : decode cX4_fail 5 = .ok (.iconst 0, 1) := by decide +kernel
theorem dX4_fail_6 : decode cX4_fail 6 = .ok (.ireturn, 1) := by decide +kernel
theorem dX4_isLabel_0 : decode cX4_isLabel 0 = .ok (.iload_n 0, 1) := by decide +kernel
theorem dX4_isLabel_1 : decode cX4_isLabel 1 = .ok (.ifCond .lt 13, 3) := by decide +kernel
theorem dX4_isLabel_4 : decode cX4_isLabel 4 = .ok (.iload_n 0, 1) := by decide +kernel
theorem dX4_isLabel_5 : decode cX4_isLabel 5 = .ok (.bipush 8, 2) := by decide +kernel
theorem dX4_isLabel_7 : decode cX4_isLabel 7 = .ok (.if_icmp .ge 7, 3) := by decide +kernel
theorem dX4_isLabel_10 : decode cX4_isLabel 10 = .ok (.iconst 1, 1) := by decide +kernel
theorem dX4_isLabel_11 : decode cX4_isLabel 11 = .ok (.goto 4, 3) := by decide +kernel
theorem dX4_isLabel_14 : decode cX4_isLabel 14 = .ok (.iconst 0, 1) := by decide +kernel
theorem dX4_isLabel_15 : decode cX4_isLabel 15 = .ok (.ireturn, 1) := by decide +kernel
theorem dX4_isTrace_0 : decode cX4_isTrace 0 = .ok (.iload_n 1, 1) := by decide +kernel
theorem dX4_isTrace_1 : decode cX4_isTrace 1 = .ok (.ifCond .lt 15, 3) := by decide +kernel
theorem dX4_isTrace_4 : decode cX4_isTrace 4 = .ok (.iload_n 1, 1) := by decide +kernel
theorem dX4_isTrace_5 : decode cX4_isTrace 5 = .ok (.aload_n 0, 1) := by decide +kernel
theorem dX4_isTrace_6 : decode cX4_isTrace 6 = .ok (.getfield 38, 3) := by decide +kernel
theorem dX4_isTrace_9 : decode cX4_isTrace 9 = .ok (.if_icmp .ge 7, 3) := by decide +kernel
theorem dX4_isTrace_12 : decode cX4_isTrace 12 = .ok (.iconst 1, 1) := by decide +kernel
theorem dX4_isTrace_13 : decode cX4_isTrace 13 = .ok (.goto 4, 3) := by decide +kernel
theorem dX4_isTrace_16 : decode cX4_isTrace 16 = .ok (.iconst 0, 1) := by decide +kernel
theorem dX4_isTrace_17 : decode cX4_isTrace 17 = .ok (.ireturn, 1) := by decide +kernel
theorem dX4_isTimes_0 : decode cX4_isTimes 0 = .ok (.iload_n 0, 1) := by decide +kernel
theorem dX4_isTimes_1 : decode cX4_isTimes 1 = .ok (.ifCond .lt 13, 3) := by decide +kernel
theorem dX4_isTimes_4 : decode cX4_isTimes 4 = .ok (.iload_n 0, 1) := by decide +kernel
theorem dX4_isTimes_5 : decode cX4_isTimes 5 = .ok (.bipush 99, 2) := by decide +kernel
theorem dX4_isTimes_7 : decode cX4_isTimes 7 = .ok (.if_icmp .gt 7, 3) := by decide +kernel
theorem dX4_isTimes_10 : decode cX4_isTimes 10 = .ok (.iconst 1, 1) := by decide +kernel
theorem dX4_isTimes_11 : decode cX4_isTimes 11 = .ok (.goto 4, 3) := by decide +kernel
theorem dX4_isTimes_14 : decode cX4_isTimes 14 = .ok (.iconst 0, 1) := by decide +kernel
theorem dX4_isTimes_15 : decode cX4_isTimes 15 = .ok (.ireturn, 1) := by decide +kernel
theorem dX4_has_0 : decode cX4_has 0 = .ok (.iload_n 0, 1) := by decide +kernel
theorem dX4_has_1 : decode cX4_has 1 = .ok (.iload_n 1, 1) := by decide +kernel
theorem dX4_has_2 : decode cX4_has 2 = .ok (.ishr, 1) := by decide +kernel
theorem dX4_has_3 : decode cX4_has 3 = .ok (.iconst 1, 1) := by decide +kernel
theorem dX4_has_4 : decode cX4_has 4 = .ok (.iand, 1) := by decide +kernel
theorem dX4_has_5 : decode cX4_has 5 = .ok (.iconst 1, 1) := by decide +kernel
theorem dX4_has_6 : decode cX4_has 6 = .ok (.if_icmp .ne 7, 3) := by decide +kernel
theorem dX4_has_9 : decode cX4_has 9 = .ok (.iconst 1, 1) := by decide +kernel
theorem dX4_has_10 : decode cX4_has 10 = .ok (.goto 4, 3) := by decide +kernel
theorem dX4_has_13 : decode cX4_has 13 = .ok (.iconst 0, 1) := by decide +kernel
theorem dX4_has_14 : decode cX4_has 14 = .ok (.ireturn, 1) := by decide +kernel
theorem dX4_event_0 : decode cX4_event 0 = .ok (.aload_n 0, 1) := by decide +kernel
theorem dX4_event_1 : decode cX4_event 1 = .ok (.iconst 0, 1) := by decide +kernel
theorem dX4_event_2 : decode cX4_event 2 = .ok (.putfield 34, 3) := by decide +kernel
theorem dX4_event_5 : decode cX4_event 5 = .ok (.iload_n 1, 1) := by decide +kernel
theorem dX4_event_6 : decode cX4_event 6 = .ok (.invokestatic 41, 3) := by decide +kernel
theorem dX4_event_9 : decode cX4_event 9 = .ok (.ifCond .ne 9, 3) := by decide +kernel
theorem dX4_event_12 : decode cX4_event 12 = .ok (.aload_n 0, 1) := by decide +kernel
theorem dX4_event_13 : decode cX4_event 13 = .ok (.iconst 1, 1) := by decide +kernel
theorem dX4_event_14 : decode cX4_event 14 = .ok (.invokevirtual 45, 3) := by decide +kernel
theorem dX4_event_17 : decode cX4_event 17 = .ok (.ireturn, 1) := by decide +kernel
theorem dX4_event_18 : decode cX4_event 18 = .ok (.aload_n 0, 1) := by decide +kernel
theorem dX4_event_19 : decode cX4_event 19 = .ok (.getfield 49, 3) := by decide +kernel
theorem dX4_event_22 : decode cX4_event 22 = .ok (.bipush 12, 2) := by decide +kernel
theorem dX4_event_24 : decode cX4_event 24 = .ok (.if_icmp .ne 9, 3) := by decide +kernel
theorem dX4_event_27 : decode cX4_event 27 = .ok (.aload_n 0, 1) := by decide +kernel
theorem dX4_event_28 : decode cX4_event 28 = .ok (.iconst 2, 1) := by decide +kernel
theorem dX4_event_29 : decode cX4_event 29 = .ok (.invokevirtual 45, 3) := by decide +kernel
theorem dX4_event_32 : decode cX4_event 32 = .ok (.ireturn, 1) := by decide +kernel
theorem dX4_event_33 : decode cX4_event 33 = .ok (.aload_n 0, 1) := by decide +kernel
theorem dX4_event_34 : decode cX4_event 34 = .ok (.getfield 9, 3) := by decide +kernel
theorem dX4_event_37 : decode cX4_event 37 = .ok (.aload_n 0, 1) := by decide +kernel
theorem dX4_event_38 : decode cX4_event 38 = .ok (.getfield 49, 3) := by decide +kernel
theorem dX4_event_41 : decode cX4_event 41 = .ok (.iload_n 1, 1) := by decide +kernel
theorem dX4_event_42 : decode cX4_event 42 = .ok (.iastore, 1) := by decide +kernel
theorem dX4_event_43 : decode cX4_event 43 = .ok (.aload_n 0, 1) := by decide +kernel
theorem dX4_event_44 : decode cX4_event 44 = .ok (.dup, 1) := by decide +kernel
theorem dX4_event_45 : decode cX4_event 45 = .ok (.getfield 49, 3) := by decide +kernel
theorem dX4_event_48 : decode cX4_event 48 = .ok (.iconst 1, 1) := by decide +kernel
theorem dX4_event_49 : decode cX4_event 49 = .ok (.iadd, 1) := by decide +kernel
theorem dX4_event_50 : decode cX4_event 50 = .ok (.putfield 49, 3) := by decide +kernel
theorem dX4_event_53 : decode cX4_event 53 = .ok (.aload_n 0, 1) := by decide +kernel
theorem dX4_event_54 : decode cX4_event 54 = .ok (.getfield 49, 3) := by decide +kernel
theorem dX4_event_57 : decode cX4_event 57 = .ok (.ireturn, 1) := by decide +kernel
theorem dX4_endTrace_0 : decode cX4_endTrace 0 = .ok (.aload_n 0, 1) := by decide +kernel
theorem dX4_endTrace_1 : decode cX4_endTrace 1 = .ok (.iconst 0, 1) := by decide +kernel
theorem dX4_endTrace_2 : decode cX4_endTrace 2 = .ok (.putfield 34, 3) := by decide +kernel
theorem dX4_endTrace_5 : decode cX4_endTrace 5 = .ok (.iload_n 1, 1) := by decide +kernel
theorem dX4_endTrace_6 : decode cX4_endTrace 6 = .ok (.invokestatic 52, 3) := by decide +kernel
theorem dX4_endTrace_9 : decode cX4_endTrace 9 = .ok (.ifCond .ne 9, 3) := by decide +kernel
theorem dX4_endTrace_12 : decode cX4_endTrace 12 = .ok (.aload_n 0, 1) := by decide +kernel
theorem dX4_endTrace_13 : decode cX4_endTrace 13 = .ok (.iconst 1, 1) := by decide +kernel
theorem dX4_endTrace_14 : decode cX4_endTrace 14 = .ok (.invokevirtual 45, 3) := by decide +kernel
theorem dX4_endTrace_17 : decode cX4_endTrace 17 = .ok (.ireturn, 1) := by decide +kernel
theorem dX4_endTrace_18 : decode cX4_endTrace 18 = .ok (.aload_n 0, 1) := by decide +kernel
theorem dX4_endTrace_19 : decode cX4_endTrace 19 = .ok (.getfield 38, 3) := by decide +kernel
theorem dX4_endTrace_22 : decode cX4_endTrace 22 = .ok (.bipush 10, 2) := by decide +kernel
theorem dX4_endTrace_24 : decode cX4_endTrace 24 = .ok (.if_icmp .ne 9, 3) := by decide +kernel
theorem dX4_endTrace_27 : decode cX4_endTrace 27 = .ok (.aload_n 0, 1) := by decide +kernel
theorem dX4_endTrace_28 : decode cX4_endTrace 28 = .ok (.iconst 2, 1) := by decide +kernel
theorem dX4_endTrace_29 : decode cX4_endTrace 29 = .ok (.invokevirtual 45, 3) := by decide +kernel
theorem dX4_endTrace_32 : decode cX4_endTrace 32 = .ok (.ireturn, 1) := by decide +kernel
theorem dX4_endTrace_33 : decode cX4_endTrace 33 = .ok (.aload_n 0, 1) := by decide +kernel
theorem dX4_endTrace_34 : decode cX4_endTrace 34 = .ok (.getfield 13, 3) := by decide +kernel
theorem dX4_endTrace_37 : decode cX4_endTrace 37 = .ok (.aload_n 0, 1) := by decide +kernel
theorem dX4_endTrace_38 : decode cX4_endTrace 38 = .ok (.getfield 38, 3) := by decide +kernel
theorem dX4_endTrace_41 : decode cX4_endTrace 41 = .ok (.iload_n 1, 1) := by decide +kernel
theorem dX4_endTrace_42 : decode cX4_endTrace 42 = .ok (.iastore, 1) := by decide +kernel
theorem dX4_endTrace_43 : decode cX4_endTrace 43 = .ok (.aload_n 0, 1) := by decide +kernel
theorem dX4_endTrace_44 : decode cX4_endTrace 44 = .ok (.getfield 16, 3) := by decide +kernel
theorem dX4_endTrace_47 : decode cX4_endTrace 47 = .ok (.aload_n 0, 1) := by decide +kernel
theorem dX4_endTrace_48 : decode cX4_endTrace 48 = .ok (.getfield 38, 3) := by decide +kernel
theorem dX4_endTrace_51 : decode cX4_endTrace 51 = .ok (.aload_n 0, 1) := by decide +kernel
theorem dX4_endTrace_52 : decode cX4_endTrace 52 = .ok (.getfield 49, 3) := by decide +kernel
theorem dX4_endTrace_55 : decode cX4_endTrace 55 = .ok (.iastore, 1) := by decide +kernel
theorem dX4_endTrace_56 : decode cX4_endTrace 56 = .ok (.iconst 0, 1) := by decide +kernel
theorem dX4_endTrace_57 : decode cX4_endTrace 57 = .ok (.istore_n 2, 1) := by decide +kernel
theorem dX4_endTrace_58 : decode cX4_endTrace 58 = .ok (.iload_n 2, 1) := by decide +kernel
theorem dX4_endTrace_59 : decode cX4_endTrace 59 = .ok (.aload_n 0, 1) := by decide +kernel
theorem dX4_endTrace_60 : decode cX4_endTrace 60 = .ok (.getfield 49, 3) := by decide +kernel
theorem dX4_endTrace_63 : decode cX4_endTrace 63 = .ok (.if_icmp .ge 29, 3) := by decide +kernel
theorem dX4_endTrace_66 : decode cX4_endTrace 66 = .ok (.aload_n 0, 1) := by decide +kernel
theorem dX4_endTrace_67 : decode cX4_endTrace 67 = .ok (.getfield 19, 3) := by decide +kernel
theorem dX4_endTrace_70 : decode cX4_endTrace 70 = .ok (.bipush 12, 2) := by decide +kernel
theorem dX4_endTrace_72 : decode cX4_endTrace 72 = .ok (.aload_n 0, 1) := by decide +kernel
theorem dX4_endTrace_73 : decode cX4_endTrace 73 = .ok (.getfield 38, 3) := by decide +kernel
theorem dX4_endTrace_76 : decode cX4_endTrace 76 = .ok (.imul, 1) := by decide +kernel
theorem dX4_endTrace_77 : decode cX4_endTrace 77 = .ok (.iload_n 2, 1) := by decide +kernel
theorem dX4_endTrace_78 : decode cX4_endTrace 78 = .ok (.iadd, 1) := by decide +kernel
theorem dX4_endTrace_79 : decode cX4_endTrace 79 = .ok (.aload_n 0, 1) := by decide +kernel
theorem dX4_endTrace_80 : decode cX4_endTrace 80 = .ok (.getfield 9, 3) := by decide +kernel
theorem dX4_endTrace_83 : decode cX4_endTrace 83 = .ok (.iload_n 2, 1) := by decide +kernel
theorem dX4_endTrace_84 : decode cX4_endTrace 84 = .ok (.iaload, 1) := by decide +kernel
theorem dX4_endTrace_85 : decode cX4_endTrace 85 = .ok (.iastore, 1) := by decide +kernel
theorem dX4_endTrace_86 : decode cX4_endTrace 86 = .ok (.iinc 2 1, 3) := by decide +kernel
theorem dX4_endTrace_89 : decode cX4_endTrace 89 = .ok (.goto (-31), 3) := by decide +kernel
theorem dX4_endTrace_92 : decode cX4_endTrace 92 = .ok (.aload_n 0, 1) := by decide +kernel
theorem dX4_endTrace_93 : decode cX4_endTrace 93 = .ok (.iconst 0, 1) := by decide +kernel
theorem dX4_endTrace_94 : decode cX4_endTrace 94 = .ok (.putfield 49, 3) := by decide +kernel
theorem dX4_endTrace_97 : decode cX4_endTrace 97 = .ok (.aload_n 0, 1) := by decide +kernel
theorem dX4_endTrace_98 : decode cX4_endTrace 98 = .ok (.dup, 1) := by decide +kernel
theorem dX4_endTrace_99 : decode cX4_endTrace 99 = .ok (.getfield 38, 3) := by decide +kernel
theorem dX4_endTrace_102 : decode cX4_endTrace 102 = .ok (.iconst 1, 1) := by decide +kernel
theorem dX4_endTrace_103 : decode cX4_endTrace 103 = .ok (.iadd, 1) := by decide +kernel
theorem dX4_endTrace_104 : decode cX4_endTrace 104 = .ok (.putfield 38, 3) := by decide +kernel
theorem dX4_endTrace_107 : decode cX4_endTrace 107 = .ok (.aload_n 0, 1) := by decide +kernel
theorem dX4_endTrace_108 : decode cX4_endTrace 108 = .ok (.iconst 0, 1) := by decide +kernel
theorem dX4_endTrace_109 : decode cX4_endTrace 109 = .ok (.putfield 55, 3) := by decide +kernel
theorem dX4_endTrace_112 : decode cX4_endTrace 112 = .ok (.aload_n 0, 1) := by decide +kernel
theorem dX4_endTrace_113 : decode cX4_endTrace 113 = .ok (.getfield 38, 3) := by decide +kernel
theorem dX4_endTrace_116 : decode cX4_endTrace 116 = .ok (.iconst 1, 1) := by decide +kernel
theorem dX4_endTrace_117 : decode cX4_endTrace 117 = .ok (.isub, 1) := by decide +kernel
theorem dX4_endTrace_118 : decode cX4_endTrace 118 = .ok (.ireturn, 1) := by decide +kernel
theorem dX4_setTimes_0 : decode cX4_setTimes 0 = .ok (.aload_n 0, 1) := by decide +kernel
theorem dX4_setTimes_1 : decode cX4_setTimes 1 = .ok (.iconst 0, 1) := by decide +kernel
theorem dX4_setTimes_2 : decode cX4_setTimes 2 = .ok (.putfield 34, 3) := by decide +kernel
theorem dX4_setTimes_5 : decode cX4_setTimes 5 = .ok (.aload_n 0, 1) := by decide +kernel
theorem dX4_setTimes_6 : decode cX4_setTimes 6 = .ok (.iload_n 1, 1) := by decide +kernel
theorem dX4_setTimes_7 : decode cX4_setTimes 7 = .ok (.invokevirtual 59, 3) := by decide +kernel
theorem dX4_setTimes_10 : decode cX4_setTimes 10 = .ok (.ifCond .ne 9, 3) := by decide +kernel
theorem dX4_setTimes_13 : decode cX4_setTimes 13 = .ok (.aload_n 0, 1) := by decide +kernel
theorem dX4_setTimes_14 : decode cX4_setTimes 14 = .ok (.iconst 1, 1) := by decide +kernel
theorem dX4_setTimes_15 : decode cX4_setTimes 15 = .ok (.invokevirtual 45, 3) := by decide +kernel
theorem dX4_setTimes_18 : decode cX4_setTimes 18 = .ok (.ireturn, 1) := by decide +kernel
theorem dX4_setTimes_19 : decode cX4_setTimes 19 = .ok (.iload_n 2, 1) := by decide +kernel
theorem dX4_setTimes_20 : decode cX4_setTimes 20 = .ok (.invokestatic 52, 3) := by decide +kernel
theorem dX4_setTimes_23 : decode cX4_setTimes 23 = .ok (.ifCond .ne 9, 3) := by decide +kernel
theorem dX4_setTimes_26 : decode cX4_setTimes 26 = .ok (.aload_n 0, 1) := by decide +kernel
theorem dX4_setTimes_27 : decode cX4_setTimes 27 = .ok (.iconst 2, 1) := by decide +kernel
theorem dX4_setTimes_28 : decode cX4_setTimes 28 = .ok (.invokevirtual 45, 3) := by decide +kernel
theorem dX4_setTimes_31 : decode cX4_setTimes 31 = .ok (.ireturn, 1) := by decide +kernel
theorem dX4_setTimes_32 : decode cX4_setTimes 32 = .ok (.aload_n 0, 1) := by decide +kernel
theorem dX4_setTimes_33 : decode cX4_setTimes 33 = .ok (.getfield 13, 3) := by decide +kernel
theorem dX4_setTimes_36 : decode cX4_setTimes 36 = .ok (.iload_n 1, 1) := by decide +kernel
theorem dX4_setTimes_37 : decode cX4_setTimes 37 = .ok (.iaload, 1) := by decide +kernel
theorem dX4_setTimes_38 : decode cX4_setTimes 38 = .ok (.istore_n 3, 1) := by decide +kernel
theorem dX4_setTimes_39 : decode cX4_setTimes 39 = .ok (.aload_n 0, 1) := by decide +kernel
theorem dX4_setTimes_40 : decode cX4_setTimes 40 = .ok (.getfield 13, 3) := by decide +kernel
theorem dX4_setTimes_43 : decode cX4_setTimes 43 = .ok (.iload_n 1, 1) := by decide +kernel
theorem dX4_setTimes_44 : decode cX4_setTimes 44 = .ok (.iload_n 2, 1) := by decide +kernel
theorem dX4_setTimes_45 : decode cX4_setTimes 45 = .ok (.iastore, 1) := by decide +kernel
theorem dX4_setTimes_46 : decode cX4_setTimes 46 = .ok (.aload_n 0, 1) := by decide +kernel
theorem dX4_setTimes_47 : decode cX4_setTimes 47 = .ok (.iconst 0, 1) := by decide +kernel
theorem dX4_setTimes_48 : decode cX4_setTimes 48 = .ok (.putfield 55, 3) := by decide +kernel
theorem dX4_setTimes_51 : decode cX4_setTimes 51 = .ok (.iload_n 3, 1) := by decide +kernel
theorem dX4_setTimes_52 : decode cX4_setTimes 52 = .ok (.ireturn, 1) := by decide +kernel
theorem dX4_dropTrace_0 : decode cX4_dropTrace 0 = .ok (.aload_n 0, 1) := by decide +kernel
theorem dX4_dropTrace_1 : decode cX4_dropTrace 1 = .ok (.iconst 0, 1) := by decide +kernel
theorem dX4_dropTrace_2 : decode cX4_dropTrace 2 = .ok (.putfield 34, 3) := by decide +kernel
theorem dX4_dropTrace_5 : decode cX4_dropTrace 5 = .ok (.aload_n 0, 1) := by decide +kernel
theorem dX4_dropTrace_6 : decode cX4_dropTrace 6 = .ok (.getfield 38, 3) := by decide +kernel
theorem dX4_dropTrace_9 : decode cX4_dropTrace 9 = .ok (.ifCond .ne 9, 3) := by decide +kernel
theorem dX4_dropTrace_12 : decode cX4_dropTrace 12 = .ok (.aload_n 0, 1) := by decide +kernel
theorem dX4_dropTrace_13 : decode cX4_dropTrace 13 = .ok (.iconst 1, 1) := by decide +kernel
theorem dX4_dropTrace_14 : decode cX4_dropTrace 14 = .ok (.invokevirtual 45, 3) := by decide +kernel
theorem dX4_dropTrace_17 : decode cX4_dropTrace 17 = .ok (.ireturn, 1) := by decide +kernel
theorem dX4_dropTrace_18 : decode cX4_dropTrace 18 = .ok (.aload_n 0, 1) := by decide +kernel
theorem dX4_dropTrace_19 : decode cX4_dropTrace 19 = .ok (.dup, 1) := by decide +kernel
theorem dX4_dropTrace_20 : decode cX4_dropTrace 20 = .ok (.getfield 38, 3) := by decide +kernel
theorem dX4_dropTrace_23 : decode cX4_dropTrace 23 = .ok (.iconst 1, 1) := by decide +kernel
theorem dX4_dropTrace_24 : decode cX4_dropTrace 24 = .ok (.isub, 1) := by decide +kernel
theorem dX4_dropTrace_25 : decode cX4_dropTrace 25 = .ok (.putfield 38, 3) := by decide +kernel
theorem dX4_dropTrace_28 : decode cX4_dropTrace 28 = .ok (.aload_n 0, 1) := by decide +kernel
theorem dX4_dropTrace_29 : decode cX4_dropTrace 29 = .ok (.iconst 0, 1) := by decide +kernel
theorem dX4_dropTrace_30 : decode cX4_dropTrace 30 = .ok (.putfield 55, 3) := by decide +kernel
theorem dX4_dropTrace_33 : decode cX4_dropTrace 33 = .ok (.aload_n 0, 1) := by decide +kernel
theorem dX4_dropTrace_34 : decode cX4_dropTrace 34 = .ok (.getfield 38, 3) := by decide +kernel
theorem dX4_dropTrace_37 : decode cX4_dropTrace 37 = .ok (.ireturn, 1) := by decide +kernel
theorem dX4_traceCount_0 : decode cX4_traceCount 0 = .ok (.aload_n 0, 1) := by decide +kernel
theorem dX4_traceCount_1 : decode cX4_traceCount 1 = .ok (.iconst 0, 1) := by decide +kernel
theorem dX4_traceCount_2 : decode cX4_traceCount 2 = .ok (.putfield 34, 3) := by decide +kernel
theorem dX4_traceCount_5 : decode cX4_traceCount 5 = .ok (.aload_n 0, 1) := by decide +kernel
theorem dX4_traceCount_6 : decode cX4_traceCount 6 = .ok (.getfield 38, 3) := by decide +kernel
theorem dX4_traceCount_9 : decode cX4_traceCount 9 = .ok (.ireturn, 1) := by decide +kernel
theorem dX4_length_0 : decode cX4_length 0 = .ok (.aload_n 0, 1) := by decide +kernel
theorem dX4_length_1 : decode cX4_length 1 = .ok (.iconst 0, 1) := by decide +kernel
theorem dX4_length_2 : decode cX4_length 2 = .ok (.putfield 34, 3) := by decide +kernel
theorem dX4_length_5 : decode cX4_length 5 = .ok (.aload_n 0, 1) := by decide +kernel
theorem dX4_length_6 : decode cX4_length 6 = .ok (.iload_n 1, 1) := by decide +kernel
theorem dX4_length_7 : decode cX4_length 7 = .ok (.invokevirtual 59, 3) := by decide +kernel
theorem dX4_length_10 : decode cX4_length 10 = .ok (.ifCond .eq 12, 3) := by decide +kernel
theorem dX4_length_13 : decode cX4_length 13 = .ok (.aload_n 0, 1) := by decide +kernel
theorem dX4_length_14 : decode cX4_length 14 = .ok (.getfield 16, 3) := by decide +kernel
theorem dX4_length_17 : decode cX4_length 17 = .ok (.iload_n 1, 1) := by decide +kernel
theorem dX4_length_18 : decode cX4_length 18 = .ok (.iaload, 1) := by decide +kernel
theorem dX4_length_19 : decode cX4_length 19 = .ok (.goto 8, 3) := by decide +kernel
theorem dX4_length_22 : decode cX4_length 22 = .ok (.aload_n 0, 1) := by decide +kernel
theorem dX4_length_23 : decode cX4_length 23 = .ok (.iconst 1, 1) := by decide +kernel
theorem dX4_length_24 : decode cX4_length 24 = .ok (.invokevirtual 45, 3) := by decide +kernel
theorem dX4_length_27 : decode cX4_length 27 = .ok (.ireturn, 1) := by decide +kernel
theorem dX4_labelAt_0 : decode cX4_labelAt 0 = .ok (.aload_n 0, 1) := by decide +kernel
theorem dX4_labelAt_1 : decode cX4_labelAt 1 = .ok (.iconst 0, 1) := by decide +kernel
theorem dX4_labelAt_2 : decode cX4_labelAt 2 = .ok (.putfield 34, 3) := by decide +kernel
theorem dX4_labelAt_5 : decode cX4_labelAt 5 = .ok (.aload_n 0, 1) := by decide +kernel
theorem dX4_labelAt_6 : decode cX4_labelAt 6 = .ok (.iload_n 1, 1) := by decide +kernel
theorem dX4_labelAt_7 : decode cX4_labelAt 7 = .ok (.invokevirtual 59, 3) := by decide +kernel
theorem dX4_labelAt_10 : decode cX4_labelAt 10 = .ok (.ifCond .eq 31, 3) := by decide +kernel
theorem dX4_labelAt_13 : decode cX4_labelAt 13 = .ok (.iload_n 2, 1) := by decide +kernel
theorem dX4_labelAt_14 : decode cX4_labelAt 14 = .ok (.ifCond .lt 27, 3) := by decide +kernel
theorem dX4_labelAt_17 : decode cX4_labelAt 17 = .ok (.iload_n 2, 1) := by decide +kernel
theorem dX4_labelAt_18 : decode cX4_labelAt 18 = .ok (.aload_n 0, 1) := by decide +kernel
theorem dX4_labelAt_19 : decode cX4_labelAt 19 = .ok (.getfield 16, 3) := by decide +kernel
theorem dX4_labelAt_22 : decode cX4_labelAt 22 = .ok (.iload_n 1, 1) := by decide +kernel
theorem dX4_labelAt_23 : decode cX4_labelAt 23 = .ok (.iaload, 1) := by decide +kernel
theorem dX4_labelAt_24 : decode cX4_labelAt 24 = .ok (.if_icmp .ge 17, 3) := by decide +kernel
theorem dX4_labelAt_27 : decode cX4_labelAt 27 = .ok (.aload_n 0, 1) := by decide +kernel
theorem dX4_labelAt_28 : decode cX4_labelAt 28 = .ok (.getfield 19, 3) := by decide +kernel
theorem dX4_labelAt_31 : decode cX4_labelAt 31 = .ok (.bipush 12, 2) := by decide +kernel
theorem dX4_labelAt_33 : decode cX4_labelAt 33 = .ok (.iload_n 1, 1) := by decide +kernel
theorem dX4_labelAt_34 : decode cX4_labelAt 34 = .ok (.imul, 1) := by decide +kernel
theorem dX4_labelAt_35 : decode cX4_labelAt 35 = .ok (.iload_n 2, 1) := by decide +kernel
theorem dX4_labelAt_36 : decode cX4_labelAt 36 = .ok (.iadd, 1) := by decide +kernel
theorem dX4_labelAt_37 : decode cX4_labelAt 37 = .ok (.iaload, 1) := by decide +kernel
theorem dX4_labelAt_38 : decode cX4_labelAt 38 = .ok (.goto 8, 3) := by decide +kernel
theorem dX4_labelAt_41 : decode cX4_labelAt 41 = .ok (.aload_n 0, 1) := by decide +kernel
theorem dX4_labelAt_42 : decode cX4_labelAt 42 = .ok (.iconst 1, 1) := by decide +kernel
theorem dX4_labelAt_43 : decode cX4_labelAt 43 = .ok (.invokevirtual 45, 3) := by decide +kernel
theorem dX4_labelAt_46 : decode cX4_labelAt 46 = .ok (.ireturn, 1) := by decide +kernel
theorem dX4_labels_0 : decode cX4_labels 0 = .ok (.aload_n 0, 1) := by decide +kernel
theorem dX4_labels_1 : decode cX4_labels 1 = .ok (.iconst 0, 1) := by decide +kernel
theorem dX4_labels_2 : decode cX4_labels 2 = .ok (.putfield 34, 3) := by decide +kernel
theorem dX4_labels_5 : decode cX4_labels 5 = .ok (.iconst 0, 1) := by decide +kernel
theorem dX4_labels_6 : decode cX4_labels 6 = .ok (.istore_n 1, 1) := by decide +kernel
theorem dX4_labels_7 : decode cX4_labels 7 = .ok (.iconst 0, 1) := by decide +kernel
theorem dX4_labels_8 : decode cX4_labels 8 = .ok (.istore_n 2, 1) := by decide +kernel
theorem dX4_labels_9 : decode cX4_labels 9 = .ok (.iload_n 2, 1) := by decide +kernel
theorem dX4_labels_10 : decode cX4_labels 10 = .ok (.aload_n 0, 1) := by decide +kernel
theorem dX4_labels_11 : decode cX4_labels 11 = .ok (.getfield 38, 3) := by decide +kernel
theorem dX4_labels_14 : decode cX4_labels 14 = .ok (.if_icmp .ge 52, 3) := by decide +kernel
theorem dX4_labels_17 : decode cX4_labels 17 = .ok (.iconst 0, 1) := by decide +kernel
theorem dX4_labels_18 : decode cX4_labels 18 = .ok (.istore_n 3, 1) := by decide +kernel
theorem dX4_labels_19 : decode cX4_labels 19 = .ok (.iload_n 3, 1) := by decide +kernel
theorem dX4_labels_20 : decode cX4_labels 20 = .ok (.aload_n 0, 1) := by decide +kernel
theorem dX4_labels_21 : decode cX4_labels 21 = .ok (.getfield 16, 3) := by decide +kernel
theorem dX4_labels_24 : decode cX4_labels 24 = .ok (.iload_n 2, 1) := by decide +kernel
theorem dX4_labels_25 : decode cX4_labels 25 = .ok (.iaload, 1) := by decide +kernel
theorem dX4_labels_26 : decode cX4_labels 26 = .ok (.if_icmp .ge 34, 3) := by decide +kernel
theorem dX4_labels_29 : decode cX4_labels 29 = .ok (.aload_n 0, 1) := by decide +kernel
theorem dX4_labels_30 : decode cX4_labels 30 = .ok (.getfield 13, 3) := by decide +kernel
theorem dX4_labels_33 : decode cX4_labels 33 = .ok (.iload_n 2, 1) := by decide +kernel
theorem dX4_labels_34 : decode cX4_labels 34 = .ok (.iaload, 1) := by decide +kernel
theorem dX4_labels_35 : decode cX4_labels 35 = .ok (.ifCond .le 19, 3) := by decide +kernel
theorem dX4_labels_38 : decode cX4_labels 38 = .ok (.iload_n 1, 1) := by decide +kernel
theorem dX4_labels_39 : decode cX4_labels 39 = .ok (.iconst 1, 1) := by decide +kernel
theorem dX4_labels_40 : decode cX4_labels 40 = .ok (.aload_n 0, 1) := by decide +kernel
theorem dX4_labels_41 : decode cX4_labels 41 = .ok (.getfield 19, 3) := by decide +kernel
theorem dX4_labels_44 : decode cX4_labels 44 = .ok (.bipush 12, 2) := by decide +kernel
theorem dX4_labels_46 : decode cX4_labels 46 = .ok (.iload_n 2, 1) := by decide +kernel
theorem dX4_labels_47 : decode cX4_labels 47 = .ok (.imul, 1) := by decide +kernel
theorem dX4_labels_48 : decode cX4_labels 48 = .ok (.iload_n 3, 1) := by decide +kernel
theorem dX4_labels_49 : decode cX4_labels 49 = .ok (.iadd, 1) := by decide +kernel
theorem dX4_labels_50 : decode cX4_labels 50 = .ok (.iaload, 1) := by decide +kernel
theorem dX4_labels_51 : decode cX4_labels 51 = .ok (.ishl, 1) := by decide +kernel
theorem dX4_labels_52 : decode cX4_labels 52 = .ok (.ior, 1) := by decide +kernel
theorem dX4_labels_53 : decode cX4_labels 53 = .ok (.istore_n 1, 1) := by decide +kernel
theorem dX4_labels_54 : decode cX4_labels 54 = .ok (.iinc 3 1, 3) := by decide +kernel
theorem dX4_labels_57 : decode cX4_labels 57 = .ok (.goto (-38), 3) := by decide +kernel
theorem dX4_labels_60 : decode cX4_labels 60 = .ok (.iinc 2 1, 3) := by decide +kernel
theorem dX4_labels_63 : decode cX4_labels 63 = .ok (.goto (-54), 3) := by decide +kernel
theorem dX4_labels_66 : decode cX4_labels 66 = .ok (.iload_n 1, 1) := by decide +kernel
theorem dX4_labels_67 : decode cX4_labels 67 = .ok (.ireturn, 1) := by decide +kernel
theorem dX4_countOf_0 : decode cX4_countOf 0 = .ok (.iconst 0, 1) := by decide +kernel
theorem dX4_countOf_1 : decode cX4_countOf 1 = .ok (.istore_n 3, 1) := by decide +kernel
theorem dX4_countOf_2 : decode cX4_countOf 2 = .ok (.iconst 0, 1) := by decide +kernel
theorem dX4_countOf_3 : decode cX4_countOf 3 = .ok (.istore 4, 2) := by decide +kernel
theorem dX4_countOf_5 : decode cX4_countOf 5 = .ok (.iload 4, 2) := by decide +kernel
theorem dX4_countOf_7 : decode cX4_countOf 7 = .ok (.aload_n 0, 1) := by decide +kernel
theorem dX4_countOf_8 : decode cX4_countOf 8 = .ok (.getfield 38, 3) := by decide +kernel
theorem dX4_countOf_11 : decode cX4_countOf 11 = .ok (.if_icmp .ge 81, 3) := by decide +kernel
theorem dX4_countOf_14 : decode cX4_countOf 14 = .ok (.bipush 12, 2) := by decide +kernel
theorem dX4_countOf_16 : decode cX4_countOf 16 = .ok (.iload 4, 2) := by decide +kernel
theorem dX4_countOf_18 : decode cX4_countOf 18 = .ok (.imul, 1) := by decide +kernel
theorem dX4_countOf_19 : decode cX4_countOf 19 = .ok (.istore 5, 2) := by decide +kernel
theorem dX4_countOf_21 : decode cX4_countOf 21 = .ok (.iconst 1, 1) := by decide +kernel
theorem dX4_countOf_22 : decode cX4_countOf 22 = .ok (.istore 6, 2) := by decide +kernel
theorem dX4_countOf_24 : decode cX4_countOf 24 = .ok (.iload 6, 2) := by decide +kernel
theorem dX4_countOf_26 : decode cX4_countOf 26 = .ok (.aload_n 0, 1) := by decide +kernel
theorem dX4_countOf_27 : decode cX4_countOf 27 = .ok (.getfield 16, 3) := by decide +kernel
theorem dX4_countOf_30 : decode cX4_countOf 30 = .ok (.iload 4, 2) := by decide +kernel
theorem dX4_countOf_32 : decode cX4_countOf 32 = .ok (.iaload, 1) := by decide +kernel
theorem dX4_countOf_33 : decode cX4_countOf 33 = .ok (.if_icmp .ge 53, 3) := by decide +kernel
theorem dX4_countOf_36 : decode cX4_countOf 36 = .ok (.iload_n 3, 1) := by decide +kernel
theorem dX4_countOf_37 : decode cX4_countOf 37 = .ok (.aload_n 0, 1) := by decide +kernel
theorem dX4_countOf_38 : decode cX4_countOf 38 = .ok (.getfield 19, 3) := by decide +kernel
theorem dX4_countOf_41 : decode cX4_countOf 41 = .ok (.iload 5, 2) := by decide +kernel
theorem dX4_countOf_43 : decode cX4_countOf 43 = .ok (.iload 6, 2) := by decide +kernel
theorem dX4_countOf_45 : decode cX4_countOf 45 = .ok (.iadd, 1) := by decide +kernel
theorem dX4_countOf_46 : decode cX4_countOf 46 = .ok (.iconst 1, 1) := by decide +kernel
theorem dX4_countOf_47 : decode cX4_countOf 47 = .ok (.isub, 1) := by decide +kernel
theorem dX4_countOf_48 : decode cX4_countOf 48 = .ok (.iaload, 1) := by decide +kernel
theorem dX4_countOf_49 : decode cX4_countOf 49 = .ok (.iload_n 1, 1) := by decide +kernel
theorem dX4_countOf_50 : decode cX4_countOf 50 = .ok (.if_icmp .ne 27, 3) := by decide +kernel
theorem dX4_countOf_53 : decode cX4_countOf 53 = .ok (.aload_n 0, 1) := by decide +kernel
theorem dX4_countOf_54 : decode cX4_countOf 54 = .ok (.getfield 19, 3) := by decide +kernel
theorem dX4_countOf_57 : decode cX4_countOf 57 = .ok (.iload 5, 2) := by decide +kernel
theorem dX4_countOf_59 : decode cX4_countOf 59 = .ok (.iload 6, 2) := by decide +kernel
theorem dX4_countOf_61 : decode cX4_countOf 61 = .ok (.iadd, 1) := by decide +kernel
theorem dX4_countOf_62 : decode cX4_countOf 62 = .ok (.iaload, 1) := by decide +kernel
theorem dX4_countOf_63 : decode cX4_countOf 63 = .ok (.iload_n 2, 1) := by decide +kernel
theorem dX4_countOf_64 : decode cX4_countOf 64 = .ok (.if_icmp .ne 13, 3) := by decide +kernel
theorem dX4_countOf_67 : decode cX4_countOf 67 = .ok (.aload_n 0, 1) := by decide +kernel
theorem dX4_countOf_68 : decode cX4_countOf 68 = .ok (.getfield 13, 3) := by decide +kernel
theorem dX4_countOf_71 : decode cX4_countOf 71 = .ok (.iload 4, 2) := by decide +kernel
theorem dX4_countOf_73 : decode cX4_countOf 73 = .ok (.iaload, 1) := by decide +kernel
theorem dX4_countOf_74 : decode cX4_countOf 74 = .ok (.goto 4, 3) := by decide +kernel
theorem dX4_countOf_77 : decode cX4_countOf 77 = .ok (.iconst 0, 1) := by decide +kernel
theorem dX4_countOf_78 : decode cX4_countOf 78 = .ok (.iadd, 1) := by decide +kernel
theorem dX4_countOf_79 : decode cX4_countOf 79 = .ok (.istore_n 3, 1) := by decide +kernel
theorem dX4_countOf_80 : decode cX4_countOf 80 = .ok (.iinc 6 1, 3) := by decide +kernel
theorem dX4_countOf_83 : decode cX4_countOf 83 = .ok (.goto (-59), 3) := by decide +kernel
theorem dX4_countOf_86 : decode cX4_countOf 86 = .ok (.iinc 4 1, 3) := by decide +kernel
theorem dX4_countOf_89 : decode cX4_countOf 89 = .ok (.goto (-84), 3) := by decide +kernel
theorem dX4_countOf_92 : decode cX4_countOf 92 = .ok (.iload_n 3, 1) := by decide +kernel
theorem dX4_countOf_93 : decode cX4_countOf 93 = .ok (.ireturn, 1) := by decide +kernel
theorem dX4_follows_0 : decode cX4_follows 0 = .ok (.aload_n 0, 1) := by decide +kernel
theorem dX4_follows_1 : decode cX4_follows 1 = .ok (.iconst 0, 1) := by decide +kernel
theorem dX4_follows_2 : decode cX4_follows 2 = .ok (.putfield 34, 3) := by decide +kernel
theorem dX4_follows_5 : decode cX4_follows 5 = .ok (.iload_n 1, 1) := by decide +kernel
theorem dX4_follows_6 : decode cX4_follows 6 = .ok (.invokestatic 41, 3) := by decide +kernel
theorem dX4_follows_9 : decode cX4_follows 9 = .ok (.ifCond .eq 19, 3) := by decide +kernel
theorem dX4_follows_12 : decode cX4_follows 12 = .ok (.iload_n 2, 1) := by decide +kernel
theorem dX4_follows_13 : decode cX4_follows 13 = .ok (.invokestatic 41, 3) := by decide +kernel
theorem dX4_follows_16 : decode cX4_follows 16 = .ok (.ifCond .eq 12, 3) := by decide +kernel
theorem dX4_follows_19 : decode cX4_follows 19 = .ok (.aload_n 0, 1) := by decide +kernel
theorem dX4_follows_20 : decode cX4_follows 20 = .ok (.iload_n 1, 1) := by decide +kernel
theorem dX4_follows_21 : decode cX4_follows 21 = .ok (.iload_n 2, 1) := by decide +kernel
theorem dX4_follows_22 : decode cX4_follows 22 = .ok (.invokevirtual 62, 3) := by decide +kernel
theorem dX4_follows_25 : decode cX4_follows 25 = .ok (.goto 8, 3) := by decide +kernel
theorem dX4_follows_28 : decode cX4_follows 28 = .ok (.aload_n 0, 1) := by decide +kernel
theorem dX4_follows_29 : decode cX4_follows 29 = .ok (.iconst 1, 1) := by decide +kernel
theorem dX4_follows_30 : decode cX4_follows 30 = .ok (.invokevirtual 45, 3) := by decide +kernel
theorem dX4_follows_33 : decode cX4_follows 33 = .ok (.ireturn, 1) := by decide +kernel
theorem dX4_edges_0 : decode cX4_edges 0 = .ok (.aload_n 0, 1) := by decide +kernel
theorem dX4_edges_1 : decode cX4_edges 1 = .ok (.iconst 0, 1) := by decide +kernel
theorem dX4_edges_2 : decode cX4_edges 2 = .ok (.putfield 34, 3) := by decide +kernel
theorem dX4_edges_5 : decode cX4_edges 5 = .ok (.iconst 0, 1) := by decide +kernel
theorem dX4_edges_6 : decode cX4_edges 6 = .ok (.istore_n 2, 1) := by decide +kernel
theorem dX4_edges_7 : decode cX4_edges 7 = .ok (.iconst 0, 1) := by decide +kernel
theorem dX4_edges_8 : decode cX4_edges 8 = .ok (.istore_n 3, 1) := by decide +kernel
theorem dX4_edges_9 : decode cX4_edges 9 = .ok (.iload_n 3, 1) := by decide +kernel
theorem dX4_edges_10 : decode cX4_edges 10 = .ok (.aload_n 0, 1) := by decide +kernel
theorem dX4_edges_11 : decode cX4_edges 11 = .ok (.getfield 38, 3) := by decide +kernel
theorem dX4_edges_14 : decode cX4_edges 14 = .ok (.if_icmp .ge 58, 3) := by decide +kernel
theorem dX4_edges_17 : decode cX4_edges 17 = .ok (.aload_n 0, 1) := by decide +kernel
theorem dX4_edges_18 : decode cX4_edges 18 = .ok (.getfield 13, 3) := by decide +kernel
theorem dX4_edges_21 : decode cX4_edges 21 = .ok (.iload_n 3, 1) := by decide +kernel
theorem dX4_edges_22 : decode cX4_edges 22 = .ok (.iaload, 1) := by decide +kernel
theorem dX4_edges_23 : decode cX4_edges 23 = .ok (.ifCond .le 43, 3) := by decide +kernel
theorem dX4_edges_26 : decode cX4_edges 26 = .ok (.aload_n 0, 1) := by decide +kernel
theorem dX4_edges_27 : decode cX4_edges 27 = .ok (.getfield 16, 3) := by decide +kernel
theorem dX4_edges_30 : decode cX4_edges 30 = .ok (.iload_n 3, 1) := by decide +kernel
theorem dX4_edges_31 : decode cX4_edges 31 = .ok (.iaload, 1) := by decide +kernel
theorem dX4_edges_32 : decode cX4_edges 32 = .ok (.ifCond .le 34, 3) := by decide +kernel
theorem dX4_edges_35 : decode cX4_edges 35 = .ok (.iload_n 2, 1) := by decide +kernel
theorem dX4_edges_36 : decode cX4_edges 36 = .ok (.iconst 1, 1) := by decide +kernel
theorem dX4_edges_37 : decode cX4_edges 37 = .ok (.aload_n 0, 1) := by decide +kernel
theorem dX4_edges_38 : decode cX4_edges 38 = .ok (.getfield 19, 3) := by decide +kernel
theorem dX4_edges_41 : decode cX4_edges 41 = .ok (.bipush 12, 2) := by decide +kernel
theorem dX4_edges_43 : decode cX4_edges 43 = .ok (.iload_n 3, 1) := by decide +kernel
theorem dX4_edges_44 : decode cX4_edges 44 = .ok (.imul, 1) := by decide +kernel
theorem dX4_edges_45 : decode cX4_edges 45 = .ok (.iload_n 1, 1) := by decide +kernel
theorem dX4_edges_46 : decode cX4_edges 46 = .ok (.ifCond .eq 14, 3) := by decide +kernel
theorem dX4_edges_49 : decode cX4_edges 49 = .ok (.aload_n 0, 1) := by decide +kernel
theorem dX4_edges_50 : decode cX4_edges 50 = .ok (.getfield 16, 3) := by decide +kernel
theorem dX4_edges_53 : decode cX4_edges 53 = .ok (.iload_n 3, 1) := by decide +kernel
theorem dX4_edges_54 : decode cX4_edges 54 = .ok (.iaload, 1) := by decide +kernel
theorem dX4_edges_55 : decode cX4_edges 55 = .ok (.iconst 1, 1) := by decide +kernel
theorem dX4_edges_56 : decode cX4_edges 56 = .ok (.isub, 1) := by decide +kernel
theorem dX4_edges_57 : decode cX4_edges 57 = .ok (.goto 4, 3) := by decide +kernel
theorem dX4_edges_60 : decode cX4_edges 60 = .ok (.iconst 0, 1) := by decide +kernel
theorem dX4_edges_61 : decode cX4_edges 61 = .ok (.iadd, 1) := by decide +kernel
theorem dX4_edges_62 : decode cX4_edges 62 = .ok (.iaload, 1) := by decide +kernel
theorem dX4_edges_63 : decode cX4_edges 63 = .ok (.ishl, 1) := by decide +kernel
theorem dX4_edges_64 : decode cX4_edges 64 = .ok (.ior, 1) := by decide +kernel
theorem dX4_edges_65 : decode cX4_edges 65 = .ok (.istore_n 2, 1) := by decide +kernel
theorem dX4_edges_66 : decode cX4_edges 66 = .ok (.iinc 3 1, 3) := by decide +kernel
theorem dX4_edges_69 : decode cX4_edges 69 = .ok (.goto (-60), 3) := by decide +kernel
theorem dX4_edges_72 : decode cX4_edges 72 = .ok (.iload_n 2, 1) := by decide +kernel
theorem dX4_edges_73 : decode cX4_edges 73 = .ok (.ireturn, 1) := by decide +kernel
theorem dX4_relation_0 : decode cX4_relation 0 = .ok (.aload_n 0, 1) := by decide +kernel
theorem dX4_relation_1 : decode cX4_relation 1 = .ok (.iconst 0, 1) := by decide +kernel
theorem dX4_relation_2 : decode cX4_relation 2 = .ok (.putfield 34, 3) := by decide +kernel
theorem dX4_relation_5 : decode cX4_relation 5 = .ok (.iload_n 1, 1) := by decide +kernel
theorem dX4_relation_6 : decode cX4_relation 6 = .ok (.invokestatic 41, 3) := by decide +kernel
theorem dX4_relation_9 : decode cX4_relation 9 = .ok (.ifCond .eq 10, 3) := by decide +kernel
theorem dX4_relation_12 : decode cX4_relation 12 = .ok (.iload_n 2, 1) := by decide +kernel
theorem dX4_relation_13 : decode cX4_relation 13 = .ok (.invokestatic 41, 3) := by decide +kernel
theorem dX4_relation_16 : decode cX4_relation 16 = .ok (.ifCond .ne 9, 3) := by decide +kernel
theorem dX4_relation_19 : decode cX4_relation 19 = .ok (.aload_n 0, 1) := by decide +kernel
theorem dX4_relation_20 : decode cX4_relation 20 = .ok (.iconst 1, 1) := by decide +kernel
theorem dX4_relation_21 : decode cX4_relation 21 = .ok (.invokevirtual 45, 3) := by decide +kernel
theorem dX4_relation_24 : decode cX4_relation 24 = .ok (.ireturn, 1) := by decide +kernel
theorem dX4_relation_25 : decode cX4_relation 25 = .ok (.aload_n 0, 1) := by decide +kernel
theorem dX4_relation_26 : decode cX4_relation 26 = .ok (.iload_n 1, 1) := by decide +kernel
theorem dX4_relation_27 : decode cX4_relation 27 = .ok (.iload_n 2, 1) := by decide +kernel
theorem dX4_relation_28 : decode cX4_relation 28 = .ok (.invokevirtual 62, 3) := by decide +kernel
theorem dX4_relation_31 : decode cX4_relation 31 = .ok (.ifCond .le 7, 3) := by decide +kernel
theorem dX4_relation_34 : decode cX4_relation 34 = .ok (.iconst 1, 1) := by decide +kernel
theorem dX4_relation_35 : decode cX4_relation 35 = .ok (.goto 4, 3) := by decide +kernel
theorem dX4_relation_38 : decode cX4_relation 38 = .ok (.iconst 0, 1) := by decide +kernel
theorem dX4_relation_39 : decode cX4_relation 39 = .ok (.aload_n 0, 1) := by decide +kernel
theorem dX4_relation_40 : decode cX4_relation 40 = .ok (.iload_n 2, 1) := by decide +kernel
theorem dX4_relation_41 : decode cX4_relation 41 = .ok (.iload_n 1, 1) := by decide +kernel
theorem dX4_relation_42 : decode cX4_relation 42 = .ok (.invokevirtual 62, 3) := by decide +kernel
theorem dX4_relation_45 : decode cX4_relation 45 = .ok (.ifCond .le 7, 3) := by decide +kernel
theorem dX4_relation_48 : decode cX4_relation 48 = .ok (.iconst 2, 1) := by decide +kernel
theorem dX4_relation_49 : decode cX4_relation 49 = .ok (.goto 4, 3) := by decide +kernel
theorem dX4_relation_52 : decode cX4_relation 52 = .ok (.iconst 0, 1) := by decide +kernel
theorem dX4_relation_53 : decode cX4_relation 53 = .ok (.iadd, 1) := by decide +kernel
theorem dX4_relation_54 : decode cX4_relation 54 = .ok (.ireturn, 1) := by decide +kernel
theorem dX4_leads_0 : decode cX4_leads 0 = .ok (.aload_n 0, 1) := by decide +kernel
theorem dX4_leads_1 : decode cX4_leads 1 = .ok (.iload_n 1, 1) := by decide +kernel
theorem dX4_leads_2 : decode cX4_leads 2 = .ok (.invokestatic 41, 3) := by decide +kernel
theorem dX4_leads_5 : decode cX4_leads 5 = .ok (.ifCond .eq 14, 3) := by decide +kernel
theorem dX4_leads_8 : decode cX4_leads 8 = .ok (.iload_n 2, 1) := by decide +kernel
theorem dX4_leads_9 : decode cX4_leads 9 = .ok (.invokestatic 41, 3) := by decide +kernel
theorem dX4_leads_12 : decode cX4_leads 12 = .ok (.ifCond .eq 7, 3) := by decide +kernel
theorem dX4_leads_15 : decode cX4_leads 15 = .ok (.iconst 0, 1) := by decide +kernel
theorem dX4_leads_16 : decode cX4_leads 16 = .ok (.goto 4, 3) := by decide +kernel
theorem dX4_leads_19 : decode cX4_leads 19 = .ok (.iconst 1, 1) := by decide +kernel
theorem dX4_leads_20 : decode cX4_leads 20 = .ok (.putfield 34, 3) := by decide +kernel
theorem dX4_leads_23 : decode cX4_leads 23 = .ok (.aload_n 0, 1) := by decide +kernel
theorem dX4_leads_24 : decode cX4_leads 24 = .ok (.getfield 34, 3) := by decide +kernel
theorem dX4_leads_27 : decode cX4_leads 27 = .ok (.ifCond .eq 5, 3) := by decide +kernel
theorem dX4_leads_30 : decode cX4_leads 30 = .ok (.iconst 0, 1) := by decide +kernel
theorem dX4_leads_31 : decode cX4_leads 31 = .ok (.ireturn, 1) := by decide +kernel
theorem dX4_leads_32 : decode cX4_leads 32 = .ok (.iconst 0, 1) := by decide +kernel
theorem dX4_leads_33 : decode cX4_leads 33 = .ok (.istore_n 3, 1) := by decide +kernel
theorem dX4_leads_34 : decode cX4_leads 34 = .ok (.iconst 0, 1) := by decide +kernel
theorem dX4_leads_35 : decode cX4_leads 35 = .ok (.istore 4, 2) := by decide +kernel
theorem dX4_leads_37 : decode cX4_leads 37 = .ok (.iload 4, 2) := by decide +kernel
theorem dX4_leads_39 : decode cX4_leads 39 = .ok (.bipush 8, 2) := by decide +kernel
theorem dX4_leads_41 : decode cX4_leads 41 = .ok (.if_icmp .ge 26, 3) := by decide +kernel
theorem dX4_leads_44 : decode cX4_leads 44 = .ok (.aload_n 0, 1) := by decide +kernel
theorem dX4_leads_45 : decode cX4_leads 45 = .ok (.iload_n 1, 1) := by decide +kernel
theorem dX4_leads_46 : decode cX4_leads 46 = .ok (.iload 4, 2) := by decide +kernel
theorem dX4_leads_48 : decode cX4_leads 48 = .ok (.invokevirtual 62, 3) := by decide +kernel
theorem dX4_leads_51 : decode cX4_leads 51 = .ok (.ifCond .le 10, 3) := by decide +kernel
theorem dX4_leads_54 : decode cX4_leads 54 = .ok (.iload_n 3, 1) := by decide +kernel
theorem dX4_leads_55 : decode cX4_leads 55 = .ok (.iconst 1, 1) := by decide +kernel
theorem dX4_leads_56 : decode cX4_leads 56 = .ok (.iload 4, 2) := by decide +kernel
theorem dX4_leads_58 : decode cX4_leads 58 = .ok (.ishl, 1) := by decide +kernel
theorem dX4_leads_59 : decode cX4_leads 59 = .ok (.ior, 1) := by decide +kernel
theorem dX4_leads_60 : decode cX4_leads 60 = .ok (.istore_n 3, 1) := by decide +kernel
theorem dX4_leads_61 : decode cX4_leads 61 = .ok (.iinc 4 1, 3) := by decide +kernel
theorem dX4_leads_64 : decode cX4_leads 64 = .ok (.goto (-27), 3) := by decide +kernel
theorem dX4_leads_67 : decode cX4_leads 67 = .ok (.iconst 0, 1) := by decide +kernel
theorem dX4_leads_68 : decode cX4_leads 68 = .ok (.istore 4, 2) := by decide +kernel
theorem dX4_leads_70 : decode cX4_leads 70 = .ok (.iload 4, 2) := by decide +kernel
theorem dX4_leads_72 : decode cX4_leads 72 = .ok (.bipush 8, 2) := by decide +kernel
theorem dX4_leads_74 : decode cX4_leads 74 = .ok (.if_icmp .ge 68, 3) := by decide +kernel
theorem dX4_leads_77 : decode cX4_leads 77 = .ok (.iconst 0, 1) := by decide +kernel
theorem dX4_leads_78 : decode cX4_leads 78 = .ok (.istore 5, 2) := by decide +kernel
theorem dX4_leads_80 : decode cX4_leads 80 = .ok (.iload 5, 2) := by decide +kernel
theorem dX4_leads_82 : decode cX4_leads 82 = .ok (.bipush 8, 2) := by decide +kernel
theorem dX4_leads_84 : decode cX4_leads 84 = .ok (.if_icmp .ge 52, 3) := by decide +kernel
theorem dX4_leads_87 : decode cX4_leads 87 = .ok (.iconst 0, 1) := by decide +kernel
theorem dX4_leads_88 : decode cX4_leads 88 = .ok (.istore 6, 2) := by decide +kernel
theorem dX4_leads_90 : decode cX4_leads 90 = .ok (.iload 6, 2) := by decide +kernel
theorem dX4_leads_92 : decode cX4_leads 92 = .ok (.bipush 8, 2) := by decide +kernel
theorem dX4_leads_94 : decode cX4_leads 94 = .ok (.if_icmp .ge 36, 3) := by decide +kernel
theorem dX4_leads_97 : decode cX4_leads 97 = .ok (.iload_n 3, 1) := by decide +kernel
theorem dX4_leads_98 : decode cX4_leads 98 = .ok (.iload 5, 2) := by decide +kernel
theorem dX4_leads_100 : decode cX4_leads 100 = .ok (.invokestatic 66, 3) := by decide +kernel
theorem dX4_leads_103 : decode cX4_leads 103 = .ok (.ifCond .eq 21, 3) := by decide +kernel
theorem dX4_leads_106 : decode cX4_leads 106 = .ok (.aload_n 0, 1) := by decide +kernel
theorem dX4_leads_107 : decode cX4_leads 107 = .ok (.iload 5, 2) := by decide +kernel
theorem dX4_leads_109 : decode cX4_leads 109 = .ok (.iload 6, 2) := by decide +kernel
theorem dX4_leads_111 : decode cX4_leads 111 = .ok (.invokevirtual 62, 3) := by decide +kernel
theorem dX4_leads_114 : decode cX4_leads 114 = .ok (.ifCond .le 10, 3) := by decide +kernel
theorem dX4_leads_117 : decode cX4_leads 117 = .ok (.iload_n 3, 1) := by decide +kernel
theorem dX4_leads_118 : decode cX4_leads 118 = .ok (.iconst 1, 1) := by decide +kernel
theorem dX4_leads_119 : decode cX4_leads 119 = .ok (.iload 6, 2) := by decide +kernel
theorem dX4_leads_121 : decode cX4_leads 121 = .ok (.ishl, 1) := by decide +kernel
theorem dX4_leads_122 : decode cX4_leads 122 = .ok (.ior, 1) := by decide +kernel
theorem dX4_leads_123 : decode cX4_leads 123 = .ok (.istore_n 3, 1) := by decide +kernel
theorem dX4_leads_124 : decode cX4_leads 124 = .ok (.iinc 6 1, 3) := by decide +kernel
theorem dX4_leads_127 : decode cX4_leads 127 = .ok (.goto (-37), 3) := by decide +kernel
theorem dX4_leads_130 : decode cX4_leads 130 = .ok (.iinc 5 1, 3) := by decide +kernel
theorem dX4_leads_133 : decode cX4_leads 133 = .ok (.goto (-53), 3) := by decide +kernel
theorem dX4_leads_136 : decode cX4_leads 136 = .ok (.iinc 4 1, 3) := by decide +kernel
theorem dX4_leads_139 : decode cX4_leads 139 = .ok (.goto (-69), 3) := by decide +kernel
theorem dX4_leads_142 : decode cX4_leads 142 = .ok (.iload_n 3, 1) := by decide +kernel
theorem dX4_leads_143 : decode cX4_leads 143 = .ok (.iload_n 2, 1) := by decide +kernel
theorem dX4_leads_144 : decode cX4_leads 144 = .ok (.invokestatic 66, 3) := by decide +kernel
theorem dX4_leads_147 : decode cX4_leads 147 = .ok (.ireturn, 1) := by decide +kernel
theorem dX4_variants_0 : decode cX4_variants 0 = .ok (.aload_n 0, 1) := by decide +kernel
theorem dX4_variants_1 : decode cX4_variants 1 = .ok (.iconst 0, 1) := by decide +kernel
theorem dX4_variants_2 : decode cX4_variants 2 = .ok (.putfield 34, 3) := by decide +kernel
theorem dX4_variants_5 : decode cX4_variants 5 = .ok (.iconst 0, 1) := by decide +kernel
theorem dX4_variants_6 : decode cX4_variants 6 = .ok (.istore_n 1, 1) := by decide +kernel
theorem dX4_variants_7 : decode cX4_variants 7 = .ok (.iconst 0, 1) := by decide +kernel
theorem dX4_variants_8 : decode cX4_variants 8 = .ok (.istore_n 2, 1) := by decide +kernel
theorem dX4_variants_9 : decode cX4_variants 9 = .ok (.iload_n 2, 1) := by decide +kernel
theorem dX4_variants_10 : decode cX4_variants 10 = .ok (.aload_n 0, 1) := by decide +kernel
theorem dX4_variants_11 : decode cX4_variants 11 = .ok (.getfield 38, 3) := by decide +kernel
theorem dX4_variants_14 : decode cX4_variants 14 = .ok (.if_icmp .ge 159, 3) := by decide +kernel
theorem dX4_variants_17 : decode cX4_variants 17 = .ok (.aload_n 0, 1) := by decide +kernel
theorem dX4_variants_18 : decode cX4_variants 18 = .ok (.getfield 13, 3) := by decide +kernel
theorem dX4_variants_21 : decode cX4_variants 21 = .ok (.iload_n 2, 1) := by decide +kernel
theorem dX4_variants_22 : decode cX4_variants 22 = .ok (.iaload, 1) := by decide +kernel
theorem dX4_variants_23 : decode cX4_variants 23 = .ok (.ifCond .le 7, 3) := by decide +kernel
theorem dX4_variants_26 : decode cX4_variants 26 = .ok (.iconst 1, 1) := by decide +kernel
theorem dX4_variants_27 : decode cX4_variants 27 = .ok (.goto 4, 3) := by decide +kernel
theorem dX4_variants_30 : decode cX4_variants 30 = .ok (.iconst 0, 1) := by decide +kernel
theorem dX4_variants_31 : decode cX4_variants 31 = .ok (.istore_n 3, 1) := by decide +kernel
theorem dX4_variants_32 : decode cX4_variants 32 = .ok (.iconst 0, 1) := by decide +kernel
theorem dX4_variants_33 : decode cX4_variants 33 = .ok (.istore 4, 2) := by decide +kernel
theorem dX4_variants_35 : decode cX4_variants 35 = .ok (.iload 4, 2) := by decide +kernel
theorem dX4_variants_37 : decode cX4_variants 37 = .ok (.iload_n 2, 1) := by decide +kernel
theorem dX4_variants_38 : decode cX4_variants 38 = .ok (.if_icmp .ge 117, 3) := by decide +kernel
theorem dX4_variants_41 : decode cX4_variants 41 = .ok (.iload_n 3, 1) := by decide +kernel
theorem dX4_variants_42 : decode cX4_variants 42 = .ok (.ifCond .eq 113, 3) := by decide +kernel
theorem dX4_variants_45 : decode cX4_variants 45 = .ok (.aload_n 0, 1) := by decide +kernel
theorem dX4_variants_46 : decode cX4_variants 46 = .ok (.getfield 13, 3) := by decide +kernel
theorem dX4_variants_49 : decode cX4_variants 49 = .ok (.iload 4, 2) := by decide +kernel
theorem dX4_variants_51 : decode cX4_variants 51 = .ok (.iaload, 1) := by decide +kernel
theorem dX4_variants_52 : decode cX4_variants 52 = .ok (.ifCond .le 23, 3) := by decide +kernel
theorem dX4_variants_55 : decode cX4_variants 55 = .ok (.aload_n 0, 1) := by decide +kernel
theorem dX4_variants_56 : decode cX4_variants 56 = .ok (.getfield 16, 3) := by decide +kernel
theorem dX4_variants_59 : decode cX4_variants 59 = .ok (.iload 4, 2) := by decide +kernel
theorem dX4_variants_61 : decode cX4_variants 61 = .ok (.iaload, 1) := by decide +kernel
theorem dX4_variants_62 : decode cX4_variants 62 = .ok (.aload_n 0, 1) := by decide +kernel
theorem dX4_variants_63 : decode cX4_variants 63 = .ok (.getfield 16, 3) := by decide +kernel
theorem dX4_variants_66 : decode cX4_variants 66 = .ok (.iload_n 2, 1) := by decide +kernel
theorem dX4_variants_67 : decode cX4_variants 67 = .ok (.iaload, 1) := by decide +kernel
theorem dX4_variants_68 : decode cX4_variants 68 = .ok (.if_icmp .ne 7, 3) := by decide +kernel
theorem dX4_variants_71 : decode cX4_variants 71 = .ok (.iconst 1, 1) := by decide +kernel
theorem dX4_variants_72 : decode cX4_variants 72 = .ok (.goto 4, 3) := by decide +kernel
theorem dX4_variants_75 : decode cX4_variants 75 = .ok (.iconst 0, 1) := by decide +kernel
theorem dX4_variants_76 : decode cX4_variants 76 = .ok (.istore 5, 2) := by decide +kernel
theorem dX4_variants_78 : decode cX4_variants 78 = .ok (.iconst 0, 1) := by decide +kernel
theorem dX4_variants_79 : decode cX4_variants 79 = .ok (.istore 6, 2) := by decide +kernel
theorem dX4_variants_81 : decode cX4_variants 81 = .ok (.iload 6, 2) := by decide +kernel
theorem dX4_variants_83 : decode cX4_variants 83 = .ok (.aload_n 0, 1) := by decide +kernel
theorem dX4_variants_84 : decode cX4_variants 84 = .ok (.getfield 16, 3) := by decide +kernel
theorem dX4_variants_87 : decode cX4_variants 87 = .ok (.iload_n 2, 1) := by decide +kernel
theorem dX4_variants_88 : decode cX4_variants 88 = .ok (.iaload, 1) := by decide +kernel
theorem dX4_variants_89 : decode cX4_variants 89 = .ok (.if_icmp .ge 49, 3) := by decide +kernel
theorem dX4_variants_92 : decode cX4_variants 92 = .ok (.iload 5, 2) := by decide +kernel
theorem dX4_variants_94 : decode cX4_variants 94 = .ok (.ifCond .eq 44, 3) := by decide +kernel
theorem dX4_variants_97 : decode cX4_variants 97 = .ok (.aload_n 0, 1) := by decide +kernel
theorem dX4_variants_98 : decode cX4_variants 98 = .ok (.getfield 19, 3) := by decide +kernel
theorem dX4_variants_101 : decode cX4_variants 101 = .ok (.bipush 12, 2) := by decide +kernel
theorem dX4_variants_103 : decode cX4_variants 103 = .ok (.iload 4, 2) := by decide +kernel
theorem dX4_variants_105 : decode cX4_variants 105 = .ok (.imul, 1) := by decide +kernel
theorem dX4_variants_106 : decode cX4_variants 106 = .ok (.iload 6, 2) := by decide +kernel
theorem dX4_variants_108 : decode cX4_variants 108 = .ok (.iadd, 1) := by decide +kernel
theorem dX4_variants_109 : decode cX4_variants 109 = .ok (.iaload, 1) := by decide +kernel
theorem dX4_variants_110 : decode cX4_variants 110 = .ok (.aload_n 0, 1) := by decide +kernel
theorem dX4_variants_111 : decode cX4_variants 111 = .ok (.getfield 19, 3) := by decide +kernel
theorem dX4_variants_114 : decode cX4_variants 114 = .ok (.bipush 12, 2) := by decide +kernel
theorem dX4_variants_116 : decode cX4_variants 116 = .ok (.iload_n 2, 1) := by decide +kernel
theorem dX4_variants_117 : decode cX4_variants 117 = .ok (.imul, 1) := by decide +kernel
theorem dX4_variants_118 : decode cX4_variants 118 = .ok (.iload 6, 2) := by decide +kernel
theorem dX4_variants_120 : decode cX4_variants 120 = .ok (.iadd, 1) := by decide +kernel
theorem dX4_variants_121 : decode cX4_variants 121 = .ok (.iaload, 1) := by decide +kernel
theorem dX4_variants_122 : decode cX4_variants 122 = .ok (.if_icmp .ne 7, 3) := by decide +kernel
theorem dX4_variants_125 : decode cX4_variants 125 = .ok (.iconst 1, 1) := by decide +kernel
theorem dX4_variants_126 : decode cX4_variants 126 = .ok (.goto 4, 3) := by decide +kernel
theorem dX4_variants_129 : decode cX4_variants 129 = .ok (.iconst 0, 1) := by decide +kernel
theorem dX4_variants_130 : decode cX4_variants 130 = .ok (.istore 5, 2) := by decide +kernel
theorem dX4_variants_132 : decode cX4_variants 132 = .ok (.iinc 6 1, 3) := by decide +kernel
theorem dX4_variants_135 : decode cX4_variants 135 = .ok (.goto (-54), 3) := by decide +kernel
theorem dX4_variants_138 : decode cX4_variants 138 = .ok (.iload 5, 2) := by decide +kernel
theorem dX4_variants_140 : decode cX4_variants 140 = .ok (.ifCond .ne 7, 3) := by decide +kernel
theorem dX4_variants_143 : decode cX4_variants 143 = .ok (.iconst 1, 1) := by decide +kernel
theorem dX4_variants_144 : decode cX4_variants 144 = .ok (.goto 4, 3) := by decide +kernel
theorem dX4_variants_147 : decode cX4_variants 147 = .ok (.iconst 0, 1) := by decide +kernel
theorem dX4_variants_148 : decode cX4_variants 148 = .ok (.istore_n 3, 1) := by decide +kernel
theorem dX4_variants_149 : decode cX4_variants 149 = .ok (.iinc 4 1, 3) := by decide +kernel
theorem dX4_variants_152 : decode cX4_variants 152 = .ok (.goto (-117), 3) := by decide +kernel
theorem dX4_variants_155 : decode cX4_variants 155 = .ok (.iload_n 1, 1) := by decide +kernel
theorem dX4_variants_156 : decode cX4_variants 156 = .ok (.iload_n 3, 1) := by decide +kernel
theorem dX4_variants_157 : decode cX4_variants 157 = .ok (.ifCond .eq 7, 3) := by decide +kernel
theorem dX4_variants_160 : decode cX4_variants 160 = .ok (.iconst 1, 1) := by decide +kernel
theorem dX4_variants_161 : decode cX4_variants 161 = .ok (.goto 4, 3) := by decide +kernel
theorem dX4_variants_164 : decode cX4_variants 164 = .ok (.iconst 0, 1) := by decide +kernel
theorem dX4_variants_165 : decode cX4_variants 165 = .ok (.iadd, 1) := by decide +kernel
theorem dX4_variants_166 : decode cX4_variants 166 = .ok (.istore_n 1, 1) := by decide +kernel
theorem dX4_variants_167 : decode cX4_variants 167 = .ok (.iinc 2 1, 3) := by decide +kernel
theorem dX4_variants_170 : decode cX4_variants 170 = .ok (.goto (-161), 3) := by decide +kernel
theorem dX4_variants_173 : decode cX4_variants 173 = .ok (.iload_n 1, 1) := by decide +kernel
theorem dX4_variants_174 : decode cX4_variants 174 = .ok (.ireturn, 1) := by decide +kernel
theorem dX4_labelsIn_0 : decode cX4_labelsIn 0 = .ok (.iconst 0, 1) := by decide +kernel
theorem dX4_labelsIn_1 : decode cX4_labelsIn 1 = .ok (.istore_n 1, 1) := by decide +kernel
theorem dX4_labelsIn_2 : decode cX4_labelsIn 2 = .ok (.aload_n 0, 1) := by decide +kernel
theorem dX4_labelsIn_3 : decode cX4_labelsIn 3 = .ok (.astore_n 2, 1) := by decide +kernel
theorem dX4_labelsIn_4 : decode cX4_labelsIn 4 = .ok (.aload_n 2, 1) := by decide +kernel
theorem dX4_labelsIn_5 : decode cX4_labelsIn 5 = .ok (.arraylength, 1) := by decide +kernel
theorem dX4_labelsIn_6 : decode cX4_labelsIn 6 = .ok (.istore_n 3, 1) := by decide +kernel
theorem dX4_labelsIn_7 : decode cX4_labelsIn 7 = .ok (.iconst 0, 1) := by decide +kernel
theorem dX4_labelsIn_8 : decode cX4_labelsIn 8 = .ok (.istore 4, 2) := by decide +kernel
theorem dX4_labelsIn_10 : decode cX4_labelsIn 10 = .ok (.iload 4, 2) := by decide +kernel
theorem dX4_labelsIn_12 : decode cX4_labelsIn 12 = .ok (.iload_n 3, 1) := by decide +kernel
theorem dX4_labelsIn_13 : decode cX4_labelsIn 13 = .ok (.if_icmp .ge 54, 3) := by decide +kernel
theorem dX4_labelsIn_16 : decode cX4_labelsIn 16 = .ok (.aload_n 2, 1) := by decide +kernel
theorem dX4_labelsIn_17 : decode cX4_labelsIn 17 = .ok (.iload 4, 2) := by decide +kernel
theorem dX4_labelsIn_19 : decode cX4_labelsIn 19 = .ok (.aaload, 1) := by decide +kernel
theorem dX4_labelsIn_20 : decode cX4_labelsIn 20 = .ok (.astore 5, 2) := by decide +kernel
theorem dX4_labelsIn_22 : decode cX4_labelsIn 22 = .ok (.aload 5, 2) := by decide +kernel
theorem dX4_labelsIn_24 : decode cX4_labelsIn 24 = .ok (.astore 6, 2) := by decide +kernel
theorem dX4_labelsIn_26 : decode cX4_labelsIn 26 = .ok (.aload 6, 2) := by decide +kernel
theorem dX4_labelsIn_28 : decode cX4_labelsIn 28 = .ok (.arraylength, 1) := by decide +kernel
theorem dX4_labelsIn_29 : decode cX4_labelsIn 29 = .ok (.istore 7, 2) := by decide +kernel
theorem dX4_labelsIn_31 : decode cX4_labelsIn 31 = .ok (.iconst 0, 1) := by decide +kernel
theorem dX4_labelsIn_32 : decode cX4_labelsIn 32 = .ok (.istore 8, 2) := by decide +kernel
theorem dX4_labelsIn_34 : decode cX4_labelsIn 34 = .ok (.iload 8, 2) := by decide +kernel
theorem dX4_labelsIn_36 : decode cX4_labelsIn 36 = .ok (.iload 7, 2) := by decide +kernel
theorem dX4_labelsIn_38 : decode cX4_labelsIn 38 = .ok (.if_icmp .ge 23, 3) := by decide +kernel
theorem dX4_labelsIn_41 : decode cX4_labelsIn 41 = .ok (.aload 6, 2) := by decide +kernel
theorem dX4_labelsIn_43 : decode cX4_labelsIn 43 = .ok (.iload 8, 2) := by decide +kernel
theorem dX4_labelsIn_45 : decode cX4_labelsIn 45 = .ok (.iaload, 1) := by decide +kernel
theorem dX4_labelsIn_46 : decode cX4_labelsIn 46 = .ok (.istore 9, 2) := by decide +kernel
theorem dX4_labelsIn_48 : decode cX4_labelsIn 48 = .ok (.iload_n 1, 1) := by decide +kernel
theorem dX4_labelsIn_49 : decode cX4_labelsIn 49 = .ok (.iconst 1, 1) := by decide +kernel
theorem dX4_labelsIn_50 : decode cX4_labelsIn 50 = .ok (.iload 9, 2) := by decide +kernel
theorem dX4_labelsIn_52 : decode cX4_labelsIn 52 = .ok (.ishl, 1) := by decide +kernel
theorem dX4_labelsIn_53 : decode cX4_labelsIn 53 = .ok (.ior, 1) := by decide +kernel
theorem dX4_labelsIn_54 : decode cX4_labelsIn 54 = .ok (.istore_n 1, 1) := by decide +kernel
theorem dX4_labelsIn_55 : decode cX4_labelsIn 55 = .ok (.iinc 8 1, 3) := by decide +kernel
theorem dX4_labelsIn_58 : decode cX4_labelsIn 58 = .ok (.goto (-24), 3) := by decide +kernel
theorem dX4_labelsIn_61 : decode cX4_labelsIn 61 = .ok (.iinc 4 1, 3) := by decide +kernel
theorem dX4_labelsIn_64 : decode cX4_labelsIn 64 = .ok (.goto (-54), 3) := by decide +kernel
theorem dX4_labelsIn_67 : decode cX4_labelsIn 67 = .ok (.iload_n 1, 1) := by decide +kernel
theorem dX4_labelsIn_68 : decode cX4_labelsIn 68 = .ok (.ireturn, 1) := by decide +kernel
theorem dX4_edgesIn_0 : decode cX4_edgesIn 0 = .ok (.iconst 0, 1) := by decide +kernel
theorem dX4_edgesIn_1 : decode cX4_edgesIn 1 = .ok (.istore_n 2, 1) := by decide +kernel
theorem dX4_edgesIn_2 : decode cX4_edgesIn 2 = .ok (.aload_n 0, 1) := by decide +kernel
theorem dX4_edgesIn_3 : decode cX4_edgesIn 3 = .ok (.astore_n 3, 1) := by decide +kernel
theorem dX4_edgesIn_4 : decode cX4_edgesIn 4 = .ok (.aload_n 3, 1) := by decide +kernel
theorem dX4_edgesIn_5 : decode cX4_edgesIn 5 = .ok (.arraylength, 1) := by decide +kernel
theorem dX4_edgesIn_6 : decode cX4_edgesIn 6 = .ok (.istore 4, 2) := by decide +kernel
theorem dX4_edgesIn_8 : decode cX4_edgesIn 8 = .ok (.iconst 0, 1) := by decide +kernel
theorem dX4_edgesIn_9 : decode cX4_edgesIn 9 = .ok (.istore 5, 2) := by decide +kernel
theorem dX4_edgesIn_11 : decode cX4_edgesIn 11 = .ok (.iload 5, 2) := by decide +kernel
theorem dX4_edgesIn_13 : decode cX4_edgesIn 13 = .ok (.iload 4, 2) := by decide +kernel
theorem dX4_edgesIn_15 : decode cX4_edgesIn 15 = .ok (.if_icmp .ge 42, 3) := by decide +kernel
theorem dX4_edgesIn_18 : decode cX4_edgesIn 18 = .ok (.aload_n 3, 1) := by decide +kernel
theorem dX4_edgesIn_19 : decode cX4_edgesIn 19 = .ok (.iload 5, 2) := by decide +kernel
theorem dX4_edgesIn_21 : decode cX4_edgesIn 21 = .ok (.aaload, 1) := by decide +kernel
theorem dX4_edgesIn_22 : decode cX4_edgesIn 22 = .ok (.astore 6, 2) := by decide +kernel
theorem dX4_edgesIn_24 : decode cX4_edgesIn 24 = .ok (.aload 6, 2) := by decide +kernel
theorem dX4_edgesIn_26 : decode cX4_edgesIn 26 = .ok (.arraylength, 1) := by decide +kernel
theorem dX4_edgesIn_27 : decode cX4_edgesIn 27 = .ok (.ifCond .le 24, 3) := by decide +kernel
theorem dX4_edgesIn_30 : decode cX4_edgesIn 30 = .ok (.iload_n 2, 1) := by decide +kernel
theorem dX4_edgesIn_31 : decode cX4_edgesIn 31 = .ok (.iconst 1, 1) := by decide +kernel
theorem dX4_edgesIn_32 : decode cX4_edgesIn 32 = .ok (.aload 6, 2) := by decide +kernel
theorem dX4_edgesIn_34 : decode cX4_edgesIn 34 = .ok (.iload_n 1, 1) := by decide +kernel
theorem dX4_edgesIn_35 : decode cX4_edgesIn 35 = .ok (.ifCond .eq 11, 3) := by decide +kernel
theorem dX4_edgesIn_38 : decode cX4_edgesIn 38 = .ok (.aload 6, 2) := by decide +kernel
theorem dX4_edgesIn_40 : decode cX4_edgesIn 40 = .ok (.arraylength, 1) := by decide +kernel
theorem dX4_edgesIn_41 : decode cX4_edgesIn 41 = .ok (.iconst 1, 1) := by decide +kernel
theorem dX4_edgesIn_42 : decode cX4_edgesIn 42 = .ok (.isub, 1) := by decide +kernel
theorem dX4_edgesIn_43 : decode cX4_edgesIn 43 = .ok (.goto 4, 3) := by decide +kernel
theorem dX4_edgesIn_46 : decode cX4_edgesIn 46 = .ok (.iconst 0, 1) := by decide +kernel
theorem dX4_edgesIn_47 : decode cX4_edgesIn 47 = .ok (.iaload, 1) := by decide +kernel
theorem dX4_edgesIn_48 : decode cX4_edgesIn 48 = .ok (.ishl, 1) := by decide +kernel
theorem dX4_edgesIn_49 : decode cX4_edgesIn 49 = .ok (.ior, 1) := by decide +kernel
theorem dX4_edgesIn_50 : decode cX4_edgesIn 50 = .ok (.istore_n 2, 1) := by decide +kernel
theorem dX4_edgesIn_51 : decode cX4_edgesIn 51 = .ok (.iinc 5 1, 3) := by decide +kernel
theorem dX4_edgesIn_54 : decode cX4_edgesIn 54 = .ok (.goto (-43), 3) := by decide +kernel
theorem dX4_edgesIn_57 : decode cX4_edgesIn 57 = .ok (.iload_n 2, 1) := by decide +kernel
theorem dX4_edgesIn_58 : decode cX4_edgesIn 58 = .ok (.ireturn, 1) := by decide +kernel
theorem dX4_followers_0 : decode cX4_followers 0 = .ok (.bipush 8, 2) := by decide +kernel
theorem dX4_followers_2 : decode cX4_followers 2 = .ok (.newarray .int, 2) := by decide +kernel
theorem dX4_followers_4 : decode cX4_followers 4 = .ok (.astore_n 1, 1) := by decide +kernel
theorem dX4_followers_5 : decode cX4_followers 5 = .ok (.aload_n 0, 1) := by decide +kernel
theorem dX4_followers_6 : decode cX4_followers 6 = .ok (.astore_n 2, 1) := by decide +kernel
theorem dX4_followers_7 : decode cX4_followers 7 = .ok (.aload_n 2, 1) := by decide +kernel
theorem dX4_followers_8 : decode cX4_followers 8 = .ok (.arraylength, 1) := by decide +kernel
theorem dX4_followers_9 : decode cX4_followers 9 = .ok (.istore_n 3, 1) := by decide +kernel
theorem dX4_followers_10 : decode cX4_followers 10 = .ok (.iconst 0, 1) := by decide +kernel
theorem dX4_followers_11 : decode cX4_followers 11 = .ok (.istore 4, 2) := by decide +kernel
theorem dX4_followers_13 : decode cX4_followers 13 = .ok (.iload 4, 2) := by decide +kernel
theorem dX4_followers_15 : decode cX4_followers 15 = .ok (.iload_n 3, 1) := by decide +kernel
theorem dX4_followers_16 : decode cX4_followers 16 = .ok (.if_icmp .ge 51, 3) := by decide +kernel
theorem dX4_followers_19 : decode cX4_followers 19 = .ok (.aload_n 2, 1) := by decide +kernel
theorem dX4_followers_20 : decode cX4_followers 20 = .ok (.iload 4, 2) := by decide +kernel
theorem dX4_followers_22 : decode cX4_followers 22 = .ok (.aaload, 1) := by decide +kernel
theorem dX4_followers_23 : decode cX4_followers 23 = .ok (.astore 5, 2) := by decide +kernel
theorem dX4_followers_25 : decode cX4_followers 25 = .ok (.iconst 1, 1) := by decide +kernel
theorem dX4_followers_26 : decode cX4_followers 26 = .ok (.istore 6, 2) := by decide +kernel
theorem dX4_followers_28 : decode cX4_followers 28 = .ok (.iload 6, 2) := by decide +kernel
theorem dX4_followers_30 : decode cX4_followers 30 = .ok (.aload 5, 2) := by decide +kernel
theorem dX4_followers_32 : decode cX4_followers 32 = .ok (.arraylength, 1) := by decide +kernel
theorem dX4_followers_33 : decode cX4_followers 33 = .ok (.if_icmp .ge 28, 3) := by decide +kernel
theorem dX4_followers_36 : decode cX4_followers 36 = .ok (.aload_n 1, 1) := by decide +kernel
theorem dX4_followers_37 : decode cX4_followers 37 = .ok (.aload 5, 2) := by decide +kernel
theorem dX4_followers_39 : decode cX4_followers 39 = .ok (.iload 6, 2) := by decide +kernel
theorem dX4_followers_41 : decode cX4_followers 41 = .ok (.iconst 1, 1) := by decide +kernel
theorem dX4_followers_42 : decode cX4_followers 42 = .ok (.isub, 1) := by decide +kernel
theorem dX4_followers_43 : decode cX4_followers 43 = .ok (.iaload, 1) := by decide +kernel
theorem dX4_followers_44 : decode cX4_followers 44 = .ok (.dup2, 1) := by decide +kernel
theorem dX4_followers_45 : decode cX4_followers 45 = .ok (.iaload, 1) := by decide +kernel
theorem dX4_followers_46 : decode cX4_followers 46 = .ok (.iconst 1, 1) := by decide +kernel
theorem dX4_followers_47 : decode cX4_followers 47 = .ok (.aload 5, 2) := by decide +kernel
theorem dX4_followers_49 : decode cX4_followers 49 = .ok (.iload 6, 2) := by decide +kernel
theorem dX4_followers_51 : decode cX4_followers 51 = .ok (.iaload, 1) := by decide +kernel
theorem dX4_followers_52 : decode cX4_followers 52 = .ok (.ishl, 1) := by decide +kernel
theorem dX4_followers_53 : decode cX4_followers 53 = .ok (.ior, 1) := by decide +kernel
theorem dX4_followers_54 : decode cX4_followers 54 = .ok (.iastore, 1) := by decide +kernel
theorem dX4_followers_55 : decode cX4_followers 55 = .ok (.iinc 6 1, 3) := by decide +kernel
theorem dX4_followers_58 : decode cX4_followers 58 = .ok (.goto (-30), 3) := by decide +kernel
theorem dX4_followers_61 : decode cX4_followers 61 = .ok (.iinc 4 1, 3) := by decide +kernel
theorem dX4_followers_64 : decode cX4_followers 64 = .ok (.goto (-51), 3) := by decide +kernel
theorem dX4_followers_67 : decode cX4_followers 67 = .ok (.aload_n 1, 1) := by decide +kernel
theorem dX4_followers_68 : decode cX4_followers 68 = .ok (.areturn, 1) := by decide +kernel
theorem dX4_parts_0 : decode cX4_parts 0 = .ok (.iload_n 0, 1) := by decide +kernel
theorem dX4_parts_1 : decode cX4_parts 1 = .ok (.invokestatic 70, 3) := by decide +kernel
theorem dX4_parts_4 : decode cX4_parts 4 = .ok (.newarray .int, 2) := by decide +kernel
theorem dX4_parts_6 : decode cX4_parts 6 = .ok (.astore_n 2, 1) := by decide +kernel
theorem dX4_parts_7 : decode cX4_parts 7 = .ok (.iconst 0, 1) := by decide +kernel
theorem dX4_parts_8 : decode cX4_parts 8 = .ok (.istore_n 3, 1) := by decide +kernel
theorem dX4_parts_9 : decode cX4_parts 9 = .ok (.iload_n 0, 1) := by decide +kernel
theorem dX4_parts_10 : decode cX4_parts 10 = .ok (.istore 4, 2) := by decide +kernel
theorem dX4_parts_12 : decode cX4_parts 12 = .ok (.iload 4, 2) := by decide +kernel
theorem dX4_parts_14 : decode cX4_parts 14 = .ok (.ifCond .eq 157, 3) := by decide +kernel
theorem dX4_parts_17 : decode cX4_parts 17 = .ok (.iload 4, 2) := by decide +kernel
theorem dX4_parts_19 : decode cX4_parts 19 = .ok (.invokestatic 75, 3) := by decide +kernel
theorem dX4_parts_22 : decode cX4_parts 22 = .ok (.istore 5, 2) := by decide +kernel
theorem dX4_parts_24 : decode cX4_parts 24 = .ok (.iconst 0, 1) := by decide +kernel
theorem dX4_parts_25 : decode cX4_parts 25 = .ok (.istore 6, 2) := by decide +kernel
theorem dX4_parts_27 : decode cX4_parts 27 = .ok (.iload 5, 2) := by decide +kernel
theorem dX4_parts_29 : decode cX4_parts 29 = .ok (.iload 6, 2) := by decide +kernel
theorem dX4_parts_31 : decode cX4_parts 31 = .ok (.if_icmp .eq 120, 3) := by decide +kernel
theorem dX4_parts_34 : decode cX4_parts 34 = .ok (.iload 5, 2) := by decide +kernel
theorem dX4_parts_36 : decode cX4_parts 36 = .ok (.istore 6, 2) := by decide +kernel
theorem dX4_parts_38 : decode cX4_parts 38 = .ok (.iconst 0, 1) := by decide +kernel
theorem dX4_parts_39 : decode cX4_parts 39 = .ok (.istore 7, 2) := by decide +kernel
theorem dX4_parts_41 : decode cX4_parts 41 = .ok (.iload 7, 2) := by decide +kernel
theorem dX4_parts_43 : decode cX4_parts 43 = .ok (.bipush 8, 2) := by decide +kernel
theorem dX4_parts_45 : decode cX4_parts 45 = .ok (.if_icmp .ge 103, 3) := by decide +kernel
theorem dX4_parts_48 : decode cX4_parts 48 = .ok (.iconst 0, 1) := by decide +kernel
theorem dX4_parts_49 : decode cX4_parts 49 = .ok (.istore 8, 2) := by decide +kernel
theorem dX4_parts_51 : decode cX4_parts 51 = .ok (.iload 8, 2) := by decide +kernel
theorem dX4_parts_53 : decode cX4_parts 53 = .ok (.bipush 8, 2) := by decide +kernel
theorem dX4_parts_55 : decode cX4_parts 55 = .ok (.if_icmp .ge 87, 3) := by decide +kernel
theorem dX4_parts_58 : decode cX4_parts 58 = .ok (.iload 4, 2) := by decide +kernel
theorem dX4_parts_60 : decode cX4_parts 60 = .ok (.iload 7, 2) := by decide +kernel
theorem dX4_parts_62 : decode cX4_parts 62 = .ok (.invokestatic 66, 3) := by decide +kernel
theorem dX4_parts_65 : decode cX4_parts 65 = .ok (.ifCond .eq 71, 3) := by decide +kernel
theorem dX4_parts_68 : decode cX4_parts 68 = .ok (.iload 4, 2) := by decide +kernel
theorem dX4_parts_70 : decode cX4_parts 70 = .ok (.iload 8, 2) := by decide +kernel
theorem dX4_parts_72 : decode cX4_parts 72 = .ok (.invokestatic 66, 3) := by decide +kernel
theorem dX4_parts_75 : decode cX4_parts 75 = .ok (.ifCond .eq 61, 3) := by decide +kernel
theorem dX4_parts_78 : decode cX4_parts 78 = .ok (.aload_n 1, 1) := by decide +kernel
theorem dX4_parts_79 : decode cX4_parts 79 = .ok (.iload 7, 2) := by decide +kernel
theorem dX4_parts_81 : decode cX4_parts 81 = .ok (.iaload, 1) := by decide +kernel
theorem dX4_parts_82 : decode cX4_parts 82 = .ok (.iload 8, 2) := by decide +kernel
theorem dX4_parts_84 : decode cX4_parts 84 = .ok (.invokestatic 66, 3) := by decide +kernel
theorem dX4_parts_87 : decode cX4_parts 87 = .ok (.ifCond .ne 15, 3) := by decide +kernel
theorem dX4_parts_90 : decode cX4_parts 90 = .ok (.aload_n 1, 1) := by decide +kernel
theorem dX4_parts_91 : decode cX4_parts 91 = .ok (.iload 8, 2) := by decide +kernel
theorem dX4_parts_93 : decode cX4_parts 93 = .ok (.iaload, 1) := by decide +kernel
theorem dX4_parts_94 : decode cX4_parts 94 = .ok (.iload 7, 2) := by decide +kernel
theorem dX4_parts_96 : decode cX4_parts 96 = .ok (.invokestatic 66, 3) := by decide +kernel
theorem dX4_parts_99 : decode cX4_parts 99 = .ok (.ifCond .eq 37, 3) := by decide +kernel
theorem dX4_parts_102 : decode cX4_parts 102 = .ok (.iload 5, 2) := by decide +kernel
theorem dX4_parts_104 : decode cX4_parts 104 = .ok (.iload 7, 2) := by decide +kernel
theorem dX4_parts_106 : decode cX4_parts 106 = .ok (.invokestatic 66, 3) := by decide +kernel
theorem dX4_parts_109 : decode cX4_parts 109 = .ok (.ifCond .ne 13, 3) := by decide +kernel
theorem dX4_parts_112 : decode cX4_parts 112 = .ok (.iload 5, 2) := by decide +kernel
theorem dX4_parts_114 : decode cX4_parts 114 = .ok (.iload 8, 2) := by decide +kernel
theorem dX4_parts_116 : decode cX4_parts 116 = .ok (.invokestatic 66, 3) := by decide +kernel
theorem dX4_parts_119 : decode cX4_parts 119 = .ok (.ifCond .eq 17, 3) := by decide +kernel
theorem dX4_parts_122 : decode cX4_parts 122 = .ok (.iload 5, 2) := by decide +kernel
theorem dX4_parts_124 : decode cX4_parts 124 = .ok (.iconst 1, 1) := by decide +kernel
theorem dX4_parts_125 : decode cX4_parts 125 = .ok (.iload 7, 2) := by decide +kernel
theorem dX4_parts_127 : decode cX4_parts 127 = .ok (.ishl, 1) := by decide +kernel
theorem dX4_parts_128 : decode cX4_parts 128 = .ok (.iconst 1, 1) := by decide +kernel
theorem dX4_parts_129 : decode cX4_parts 129 = .ok (.iload 8, 2) := by decide +kernel
theorem dX4_parts_131 : decode cX4_parts 131 = .ok (.ishl, 1) := by decide +kernel
theorem dX4_parts_132 : decode cX4_parts 132 = .ok (.ior, 1) := by decide +kernel
theorem dX4_parts_133 : decode cX4_parts 133 = .ok (.ior, 1) := by decide +kernel
theorem dX4_parts_134 : decode cX4_parts 134 = .ok (.istore 5, 2) := by decide +kernel
theorem dX4_parts_136 : decode cX4_parts 136 = .ok (.iinc 8 1, 3) := by decide +kernel
theorem dX4_parts_139 : decode cX4_parts 139 = .ok (.goto (-88), 3) := by decide +kernel
theorem dX4_parts_142 : decode cX4_parts 142 = .ok (.iinc 7 1, 3) := by decide +kernel
theorem dX4_parts_145 : decode cX4_parts 145 = .ok (.goto (-104), 3) := by decide +kernel
theorem dX4_parts_148 : decode cX4_parts 148 = .ok (.goto (-121), 3) := by decide +kernel
theorem dX4_parts_151 : decode cX4_parts 151 = .ok (.aload_n 2, 1) := by decide +kernel
theorem dX4_parts_152 : decode cX4_parts 152 = .ok (.iload_n 3, 1) := by decide +kernel
theorem dX4_parts_153 : decode cX4_parts 153 = .ok (.iload 5, 2) := by decide +kernel
theorem dX4_parts_155 : decode cX4_parts 155 = .ok (.iastore, 1) := by decide +kernel
theorem dX4_parts_156 : decode cX4_parts 156 = .ok (.iinc 3 1, 3) := by decide +kernel
theorem dX4_parts_159 : decode cX4_parts 159 = .ok (.iload 4, 2) := by decide +kernel
theorem dX4_parts_161 : decode cX4_parts 161 = .ok (.iload 5, 2) := by decide +kernel
theorem dX4_parts_163 : decode cX4_parts 163 = .ok (.iconst (-1), 1) := by decide +kernel
theorem dX4_parts_164 : decode cX4_parts 164 = .ok (.ixor, 1) := by decide +kernel
theorem dX4_parts_165 : decode cX4_parts 165 = .ok (.iand, 1) := by decide +kernel
theorem dX4_parts_166 : decode cX4_parts 166 = .ok (.istore 4, 2) := by decide +kernel
theorem dX4_parts_168 : decode cX4_parts 168 = .ok (.goto (-156), 3) := by decide +kernel
theorem dX4_parts_171 : decode cX4_parts 171 = .ok (.iload_n 3, 1) := by decide +kernel
theorem dX4_parts_172 : decode cX4_parts 172 = .ok (.newarray .int, 2) := by decide +kernel
theorem dX4_parts_174 : decode cX4_parts 174 = .ok (.astore 5, 2) := by decide +kernel
theorem dX4_parts_176 : decode cX4_parts 176 = .ok (.aload_n 2, 1) := by decide +kernel
theorem dX4_parts_177 : decode cX4_parts 177 = .ok (.iconst 0, 1) := by decide +kernel
theorem dX4_parts_178 : decode cX4_parts 178 = .ok (.aload 5, 2) := by decide +kernel
theorem dX4_parts_180 : decode cX4_parts 180 = .ok (.iconst 0, 1) := by decide +kernel
theorem dX4_parts_181 : decode cX4_parts 181 = .ok (.iload_n 3, 1) := by decide +kernel
theorem dX4_parts_182 : decode cX4_parts 182 = .ok (.invokestatic 78, 3) := by decide +kernel
theorem dX4_parts_185 : decode cX4_parts 185 = .ok (.aload 5, 2) := by decide +kernel
theorem dX4_parts_187 : decode cX4_parts 187 = .ok (.areturn, 1) := by decide +kernel
theorem dX4_only_0 : decode cX4_only 0 = .ok (.iconst 0, 1) := by decide +kernel
theorem dX4_only_1 : decode cX4_only 1 = .ok (.istore_n 3, 1) := by decide +kernel
theorem dX4_only_2 : decode cX4_only 2 = .ok (.aload_n 0, 1) := by decide +kernel
theorem dX4_only_3 : decode cX4_only 3 = .ok (.arraylength, 1) := by decide +kernel
theorem dX4_only_4 : decode cX4_only 4 = .ok (.anewarray 84, 3) := by decide +kernel
theorem dX4_only_7 : decode cX4_only 7 = .ok (.astore 4, 2) := by decide +kernel
theorem dX4_only_9 : decode cX4_only 9 = .ok (.aload_n 0, 1) := by decide +kernel
theorem dX4_only_10 : decode cX4_only 10 = .ok (.astore 5, 2) := by decide +kernel
theorem dX4_only_12 : decode cX4_only 12 = .ok (.aload 5, 2) := by decide +kernel
theorem dX4_only_14 : decode cX4_only 14 = .ok (.arraylength, 1) := by decide +kernel
theorem dX4_only_15 : decode cX4_only 15 = .ok (.istore 6, 2) := by decide +kernel
theorem dX4_only_17 : decode cX4_only 17 = .ok (.iconst 0, 1) := by decide +kernel
theorem dX4_only_18 : decode cX4_only 18 = .ok (.istore 7, 2) := by decide +kernel
theorem dX4_only_20 : decode cX4_only 20 = .ok (.iload 7, 2) := by decide +kernel
theorem dX4_only_22 : decode cX4_only 22 = .ok (.iload 6, 2) := by decide +kernel
theorem dX4_only_24 : decode cX4_only 24 = .ok (.if_icmp .ge 152, 3) := by decide +kernel
theorem dX4_only_27 : decode cX4_only 27 = .ok (.aload 5, 2) := by decide +kernel
theorem dX4_only_29 : decode cX4_only 29 = .ok (.iload 7, 2) := by decide +kernel
theorem dX4_only_31 : decode cX4_only 31 = .ok (.aaload, 1) := by decide +kernel
theorem dX4_only_32 : decode cX4_only 32 = .ok (.astore 8, 2) := by decide +kernel
theorem dX4_only_34 : decode cX4_only 34 = .ok (.iconst 0, 1) := by decide +kernel
theorem dX4_only_35 : decode cX4_only 35 = .ok (.istore 9, 2) := by decide +kernel
theorem dX4_only_37 : decode cX4_only 37 = .ok (.aload 8, 2) := by decide +kernel
theorem dX4_only_39 : decode cX4_only 39 = .ok (.astore 10, 2) := by decide +kernel
theorem dX4_only_41 : decode cX4_only 41 = .ok (.aload 10, 2) := by decide +kernel

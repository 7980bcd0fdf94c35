theorem dX3_init_0 : decode cX3_init 0 = .ok (.aload_n 0, 1) := by decide +kernel
theorem dX3_init_1 : decode cX3_init 1 = .ok (.invokespecial 3, 3) := by decide +kernel
theorem dX3_init_4 : decode cX3_init 4 = .ok (.aload_n 0, 1) := by decide +kernel
theorem dX3_init_5 : decode cX3_init 5 = .ok (.bipush 12, 2) := by decide +kernel
theorem dX3_init_7 : decode cX3_init 7 = .ok (.newarray .int, 2) := by decide +kernel
theorem dX3_init_9 : decode cX3_init 9 = .ok (.putfield 9, 3) := by decide +kernel
theorem dX3_init_12 : decode cX3_init 12 = .ok (.aload_n 0, 1) := by decide +kernel
theorem dX3_init_13 : decode cX3_init 13 = .ok (.iconst 0, 1) := by decide +kernel
theorem dX3_init_14 : decode cX3_init 14 = .ok (.putfield 13, 3) := by decide +kernel
theorem dX3_init_17 : decode cX3_init 17 = .ok (.aload_n 0, 1) := by decide +kernel
theorem dX3_init_18 : decode cX3_init 18 = .ok (.bipush 120, 2) := by decide +kernel
theorem dX3_init_20 : decode cX3_init 20 = .ok (.newarray .int, 2) := by decide +kernel
theorem dX3_init_22 : decode cX3_init 22 = .ok (.putfield 17, 3) := by decide +kernel
theorem dX3_init_25 : decode cX3_init 25 = .ok (.aload_n 0, 1) := by decide +kernel
theorem dX3_init_26 : decode cX3_init 26 = .ok (.bipush 10, 2) := by decide +kernel
theorem dX3_init_28 : decode cX3_init 28 = .ok (.newarray .int, 2) := by decide +kernel
theorem dX3_init_30 : decode cX3_init 30 = .ok (.putfield 20, 3) := by decide +kernel
theorem dX3_init_33 : decode cX3_init 33 = .ok (.aload_n 0, 1) := by decide +kernel
theorem dX3_init_34 : decode cX3_init 34 = .ok (.bipush 10, 2) := by decide +kernel
theorem dX3_init_36 : decode cX3_init 36 = .ok (.newarray .int, 2) := by decide +kernel
theorem dX3_init_38 : decode cX3_init 38 = .ok (.putfield 23, 3) := by decide +kernel
theorem dX3_init_41 : decode cX3_init 41 = .ok (.aload_n 0, 1) := by decide +kernel
theorem dX3_init_42 : decode cX3_init 42 = .ok (.iconst 0, 1) := by decide +kernel
theorem dX3_init_43 : decode cX3_init 43 = .ok (.putfield 26, 3) := by decide +kernel
theorem dX3_init_46 : decode cX3_init 46 = .ok (.aload_n 0, 1) := by decide +kernel
theorem dX3_init_47 : decode cX3_init 47 = .ok (.bipush 16, 2) := by decide +kernel
theorem dX3_init_49 : decode cX3_init 49 = .ok (.anewarray 29, 3) := by decide +kernel
theorem dX3_init_52 : decode cX3_init 52 = .ok (.putfield 31, 3) := by decide +kernel
theorem dX3_init_55 : decode cX3_init 55 = .ok (.aload_n 0, 1) := by decide +kernel
theorem dX3_init_56 : decode cX3_init 56 = .ok (.new 35, 3) := by decide +kernel
theorem dX3_init_59 : decode cX3_init 59 = .ok (.dup, 1) := by decide +kernel
theorem dX3_init_60 : decode cX3_init 60 = .ok (.invokespecial 37, 3) := by decide +kernel
theorem dX3_init_63 : decode cX3_init 63 = .ok (.putfield 38, 3) := by decide +kernel
theorem dX3_init_66 : decode cX3_init 66 = .ok (.aload_n 0, 1) := by decide +kernel
theorem dX3_init_67 : decode cX3_init 67 = .ok (.aload_n 0, 1) := by decide +kernel
theorem dX3_init_68 : decode cX3_init 68 = .ok (.getfield 38, 3) := by decide +kernel
theorem dX3_init_71 : decode cX3_init 71 = .ok (.getfield 42, 3) := by decide +kernel
theorem dX3_init_74 : decode cX3_init 74 = .ok (.putfield 46, 3) := by decide +kernel
theorem dX3_init_77 : decode cX3_init 77 = .ok (.aload_n 0, 1) := by decide +kernel
theorem dX3_init_78 : decode cX3_init 78 = .ok (.iconst 0, 1) := by decide +kernel
theorem dX3_init_79 : decode cX3_init 79 = .ok (.putfield 47, 3) := by decide +kernel
theorem dX3_init_82 : decode cX3_init 82 = .ok (.iconst 0, 1) := by decide +kernel
theorem dX3_init_83 : decode cX3_init 83 = .ok (.istore_n 1, 1) := by decide +kernel
theorem dX3_init_84 : decode cX3_init 84 = .ok (.iload_n 1, 1) := by decide +kernel
theorem dX3_init_85 : decode cX3_init 85 = .ok (.bipush 16, 2) := by decide +kernel
theorem dX3_init_87 : decode cX3_init 87 = .ok (.if_icmp .ge 22, 3) := by decide +kernel
theorem dX3_init_90 : decode cX3_init 90 = .ok (.aload_n 0, 1) := by decide +kernel
theorem dX3_init_91 : decode cX3_init 91 = .ok (.getfield 31, 3) := by decide +kernel
theorem dX3_init_94 : decode cX3_init 94 = .ok (.iload_n 1, 1) := by decide +kernel
theorem dX3_init_95 : decode cX3_init 95 = .ok (.new 29, 3) := by decide +kernel
theorem dX3_init_98 : decode cX3_init 98 = .ok (.dup, 1) := by decide +kernel
theorem dX3_init_99 : decode cX3_init 99 = .ok (.invokespecial 51, 3) := by decide +kernel
theorem dX3_init_102 : decode cX3_init 102 = .ok (.aastore, 1) := by decide +kernel
theorem dX3_init_103 : decode cX3_init 103 = .ok (.iinc 1 1, 3) := by decide +kernel
theorem dX3_init_106 : decode cX3_init 106 = .ok (.goto (-22), 3) := by decide +kernel
theorem dX3_init_109 : decode cX3_init 109 = .ok (.return_, 1) := by decide +kernel
theorem dX3_event_0 : decode cX3_event 0 = .ok (.iload_n 1, 1) := by decide +kernel
theorem dX3_event_1 : decode cX3_event 1 = .ok (.invokestatic 52, 3) := by decide +kernel
theorem dX3_event_4 : decode cX3_event 4 = .ok (.aload_n 0, 1) := by decide +kernel
theorem dX3_event_5 : decode cX3_event 5 = .ok (.getfield 13, 3) := by decide +kernel
theorem dX3_event_8 : decode cX3_event 8 = .ok (.bipush 12, 2) := by decide +kernel
theorem dX3_event_10 : decode cX3_event 10 = .ok (.if_icmp .lt 13, 3) := by decide +kernel
theorem dX3_event_13 : decode cX3_event 13 = .ok (.new 56, 3) := by decide +kernel
theorem dX3_event_16 : decode cX3_event 16 = .ok (.dup, 1) := by decide +kernel
theorem dX3_event_17 : decode cX3_event 17 = .ok (.ldc 58, 2) := by decide +kernel
theorem dX3_event_19 : decode cX3_event 19 = .ok (.invokespecial 60, 3) := by decide +kernel
theorem dX3_event_22 : decode cX3_event 22 = .ok (.athrow, 1) := by decide +kernel
theorem dX3_event_23 : decode cX3_event 23 = .ok (.aload_n 0, 1) := by decide +kernel
theorem dX3_event_24 : decode cX3_event 24 = .ok (.getfield 9, 3) := by decide +kernel
theorem dX3_event_27 : decode cX3_event 27 = .ok (.aload_n 0, 1) := by decide +kernel
theorem dX3_event_28 : decode cX3_event 28 = .ok (.getfield 13, 3) := by decide +kernel
theorem dX3_event_31 : decode cX3_event 31 = .ok (.iload_n 1, 1) := by decide +kernel
theorem dX3_event_32 : decode cX3_event 32 = .ok (.iastore, 1) := by decide +kernel
theorem dX3_event_33 : decode cX3_event 33 = .ok (.aload_n 0, 1) := by decide +kernel
theorem dX3_event_34 : decode cX3_event 34 = .ok (.dup, 1) := by decide +kernel
theorem dX3_event_35 : decode cX3_event 35 = .ok (.getfield 13, 3) := by decide +kernel
theorem dX3_event_38 : decode cX3_event 38 = .ok (.iconst 1, 1) := by decide +kernel
theorem dX3_event_39 : decode cX3_event 39 = .ok (.iadd, 1) := by decide +kernel
theorem dX3_event_40 : decode cX3_event 40 = .ok (.putfield 13, 3) := by decide +kernel
theorem dX3_event_43 : decode cX3_event 43 = .ok (.aload_n 0, 1) := by decide +kernel
theorem dX3_event_44 : decode cX3_event 44 = .ok (.getfield 13, 3) := by decide +kernel
theorem dX3_event_47 : decode cX3_event 47 = .ok (.ireturn, 1) := by decide +kernel
theorem dX3_endTrace_0 : decode cX3_endTrace 0 = .ok (.iload_n 1, 1) := by decide +kernel
theorem dX3_endTrace_1 : decode cX3_endTrace 1 = .ok (.invokestatic 63, 3) := by decide +kernel
theorem dX3_endTrace_4 : decode cX3_endTrace 4 = .ok (.aload_n 0, 1) := by decide +kernel
theorem dX3_endTrace_5 : decode cX3_endTrace 5 = .ok (.getfield 26, 3) := by decide +kernel
theorem dX3_endTrace_8 : decode cX3_endTrace 8 = .ok (.bipush 10, 2) := by decide +kernel
theorem dX3_endTrace_10 : decode cX3_endTrace 10 = .ok (.if_icmp .lt 13, 3) := by decide +kernel
theorem dX3_endTrace_13 : decode cX3_endTrace 13 = .ok (.new 56, 3) := by decide +kernel
theorem dX3_endTrace_16 : decode cX3_endTrace 16 = .ok (.dup, 1) := by decide +kernel
theorem dX3_endTrace_17 : decode cX3_endTrace 17 = .ok (.ldc 66, 2) := by decide +kernel
theorem dX3_endTrace_19 : decode cX3_endTrace 19 = .ok (.invokespecial 60, 3) := by decide +kernel
theorem dX3_endTrace_22 : decode cX3_endTrace 22 = .ok (.athrow, 1) := by decide +kernel
theorem dX3_endTrace_23 : decode cX3_endTrace 23 = .ok (.aload_n 0, 1) := by decide +kernel
theorem dX3_endTrace_24 : decode cX3_endTrace 24 = .ok (.getfield 26, 3) := by decide +kernel
theorem dX3_endTrace_27 : decode cX3_endTrace 27 = .ok (.istore_n 2, 1) := by decide +kernel
theorem dX3_endTrace_28 : decode cX3_endTrace 28 = .ok (.iconst 0, 1) := by decide +kernel
theorem dX3_endTrace_29 : decode cX3_endTrace 29 = .ok (.istore_n 3, 1) := by decide +kernel
theorem dX3_endTrace_30 : decode cX3_endTrace 30 = .ok (.iload_n 3, 1) := by decide +kernel
theorem dX3_endTrace_31 : decode cX3_endTrace 31 = .ok (.aload_n 0, 1) := by decide +kernel
theorem dX3_endTrace_32 : decode cX3_endTrace 32 = .ok (.getfield 13, 3) := by decide +kernel
theorem dX3_endTrace_35 : decode cX3_endTrace 35 = .ok (.if_icmp .ge 26, 3) := by decide +kernel
theorem dX3_endTrace_38 : decode cX3_endTrace 38 = .ok (.aload_n 0, 1) := by decide +kernel
theorem dX3_endTrace_39 : decode cX3_endTrace 39 = .ok (.getfield 17, 3) := by decide +kernel
theorem dX3_endTrace_42 : decode cX3_endTrace 42 = .ok (.iload_n 2, 1) := by decide +kernel
theorem dX3_endTrace_43 : decode cX3_endTrace 43 = .ok (.bipush 12, 2) := by decide +kernel
theorem dX3_endTrace_45 : decode cX3_endTrace 45 = .ok (.imul, 1) := by decide +kernel
theorem dX3_endTrace_46 : decode cX3_endTrace 46 = .ok (.iload_n 3, 1) := by decide +kernel
theorem dX3_endTrace_47 : decode cX3_endTrace 47 = .ok (.iadd, 1) := by decide +kernel
theorem dX3_endTrace_48 : decode cX3_endTrace 48 = .ok (.aload_n 0, 1) := by decide +kernel
theorem dX3_endTrace_49 : decode cX3_endTrace 49 = .ok (.getfield 9, 3) := by decide +kernel
theorem dX3_endTrace_52 : decode cX3_endTrace 52 = .ok (.iload_n 3, 1) := by decide +kernel
theorem dX3_endTrace_53 : decode cX3_endTrace 53 = .ok (.iaload, 1) := by decide +kernel
theorem dX3_endTrace_54 : decode cX3_endTrace 54 = .ok (.iastore, 1) := by decide +kernel
theorem dX3_endTrace_55 : decode cX3_endTrace 55 = .ok (.iinc 3 1, 3) := by decide +kernel
theorem dX3_endTrace_58 : decode cX3_endTrace 58 = .ok (.goto (-28), 3) := by decide +kernel
theorem dX3_endTrace_61 : decode cX3_endTrace 61 = .ok (.aload_n 0, 1) := by decide +kernel
theorem dX3_endTrace_62 : decode cX3_endTrace 62 = .ok (.getfield 20, 3) := by decide +kernel
theorem dX3_endTrace_65 : decode cX3_endTrace 65 = .ok (.iload_n 2, 1) := by decide +kernel
theorem dX3_endTrace_66 : decode cX3_endTrace 66 = .ok (.aload_n 0, 1) := by decide +kernel
theorem dX3_endTrace_67 : decode cX3_endTrace 67 = .ok (.getfield 13, 3) := by decide +kernel
theorem dX3_endTrace_70 : decode cX3_endTrace 70 = .ok (.iastore, 1) := by decide +kernel
theorem dX3_endTrace_71 : decode cX3_endTrace 71 = .ok (.aload_n 0, 1) := by decide +kernel
theorem dX3_endTrace_72 : decode cX3_endTrace 72 = .ok (.getfield 23, 3) := by decide +kernel
theorem dX3_endTrace_75 : decode cX3_endTrace 75 = .ok (.iload_n 2, 1) := by decide +kernel
theorem dX3_endTrace_76 : decode cX3_endTrace 76 = .ok (.iload_n 1, 1) := by decide +kernel
theorem dX3_endTrace_77 : decode cX3_endTrace 77 = .ok (.iastore, 1) := by decide +kernel
theorem dX3_endTrace_78 : decode cX3_endTrace 78 = .ok (.aload_n 0, 1) := by decide +kernel
theorem dX3_endTrace_79 : decode cX3_endTrace 79 = .ok (.dup, 1) := by decide +kernel
theorem dX3_endTrace_80 : decode cX3_endTrace 80 = .ok (.getfield 26, 3) := by decide +kernel
theorem dX3_endTrace_83 : decode cX3_endTrace 83 = .ok (.iconst 1, 1) := by decide +kernel
theorem dX3_endTrace_84 : decode cX3_endTrace 84 = .ok (.iadd, 1) := by decide +kernel
theorem dX3_endTrace_85 : decode cX3_endTrace 85 = .ok (.putfield 26, 3) := by decide +kernel
theorem dX3_endTrace_88 : decode cX3_endTrace 88 = .ok (.aload_n 0, 1) := by decide +kernel
theorem dX3_endTrace_89 : decode cX3_endTrace 89 = .ok (.iconst 0, 1) := by decide +kernel
theorem dX3_endTrace_90 : decode cX3_endTrace 90 = .ok (.putfield 13, 3) := by decide +kernel
theorem dX3_endTrace_93 : decode cX3_endTrace 93 = .ok (.aload_n 0, 1) := by decide +kernel
theorem dX3_endTrace_94 : decode cX3_endTrace 94 = .ok (.iconst 0, 1) := by decide +kernel
theorem dX3_endTrace_95 : decode cX3_endTrace 95 = .ok (.putfield 47, 3) := by decide +kernel
theorem dX3_endTrace_98 : decode cX3_endTrace 98 = .ok (.iload_n 2, 1) := by decide +kernel
theorem dX3_endTrace_99 : decode cX3_endTrace 99 = .ok (.ireturn, 1) := by decide +kernel
theorem dX3_setTimes_0 : decode cX3_setTimes 0 = .ok (.aload_n 0, 1) := by decide +kernel
theorem dX3_setTimes_1 : decode cX3_setTimes 1 = .ok (.iload_n 1, 1) := by decide +kernel
theorem dX3_setTimes_2 : decode cX3_setTimes 2 = .ok (.invokevirtual 68, 3) := by decide +kernel
theorem dX3_setTimes_5 : decode cX3_setTimes 5 = .ok (.iload_n 2, 1) := by decide +kernel
theorem dX3_setTimes_6 : decode cX3_setTimes 6 = .ok (.invokestatic 63, 3) := by decide +kernel
theorem dX3_setTimes_9 : decode cX3_setTimes 9 = .ok (.aload_n 0, 1) := by decide +kernel
theorem dX3_setTimes_10 : decode cX3_setTimes 10 = .ok (.getfield 23, 3) := by decide +kernel
theorem dX3_setTimes_13 : decode cX3_setTimes 13 = .ok (.iload_n 1, 1) := by decide +kernel
theorem dX3_setTimes_14 : decode cX3_setTimes 14 = .ok (.iaload, 1) := by decide +kernel
theorem dX3_setTimes_15 : decode cX3_setTimes 15 = .ok (.istore_n 3, 1) := by decide +kernel
theorem dX3_setTimes_16 : decode cX3_setTimes 16 = .ok (.aload_n 0, 1) := by decide +kernel
theorem dX3_setTimes_17 : decode cX3_setTimes 17 = .ok (.getfield 23, 3) := by decide +kernel
theorem dX3_setTimes_20 : decode cX3_setTimes 20 = .ok (.iload_n 1, 1) := by decide +kernel
theorem dX3_setTimes_21 : decode cX3_setTimes 21 = .ok (.iload_n 2, 1) := by decide +kernel
theorem dX3_setTimes_22 : decode cX3_setTimes 22 = .ok (.iastore, 1) := by decide +kernel
theorem dX3_setTimes_23 : decode cX3_setTimes 23 = .ok (.aload_n 0, 1) := by decide +kernel
theorem dX3_setTimes_24 : decode cX3_setTimes 24 = .ok (.iconst 0, 1) := by decide +kernel
theorem dX3_setTimes_25 : decode cX3_setTimes 25 = .ok (.putfield 47, 3) := by decide +kernel
theorem dX3_setTimes_28 : decode cX3_setTimes 28 = .ok (.iload_n 3, 1) := by decide +kernel
theorem dX3_setTimes_29 : decode cX3_setTimes 29 = .ok (.ireturn, 1) := by decide +kernel
theorem dX3_dropTrace_0 : decode cX3_dropTrace 0 = .ok (.aload_n 0, 1) := by decide +kernel
theorem dX3_dropTrace_1 : decode cX3_dropTrace 1 = .ok (.getfield 26, 3) := by decide +kernel
theorem dX3_dropTrace_4 : decode cX3_dropTrace 4 = .ok (.ifCond .gt 13, 3) := by decide +kernel
theorem dX3_dropTrace_7 : decode cX3_dropTrace 7 = .ok (.new 56, 3) := by decide +kernel
theorem dX3_dropTrace_10 : decode cX3_dropTrace 10 = .ok (.dup, 1) := by decide +kernel
theorem dX3_dropTrace_11 : decode cX3_dropTrace 11 = .ok (.ldc 71, 2) := by decide +kernel
theorem dX3_dropTrace_13 : decode cX3_dropTrace 13 = .ok (.invokespecial 60, 3) := by decide +kernel
theorem dX3_dropTrace_16 : decode cX3_dropTrace 16 = .ok (.athrow, 1) := by decide +kernel
theorem dX3_dropTrace_17 : decode cX3_dropTrace 17 = .ok (.aload_n 0, 1) := by decide +kernel
theorem dX3_dropTrace_18 : decode cX3_dropTrace 18 = .ok (.dup, 1) := by decide +kernel
theorem dX3_dropTrace_19 : decode cX3_dropTrace 19 = .ok (.getfield 26, 3) := by decide +kernel
theorem dX3_dropTrace_22 : decode cX3_dropTrace 22 = .ok (.iconst 1, 1) := by decide +kernel
theorem dX3_dropTrace_23 : decode cX3_dropTrace 23 = .ok (.isub, 1) := by decide +kernel
theorem dX3_dropTrace_24 : decode cX3_dropTrace 24 = .ok (.putfield 26, 3) := by decide +kernel
theorem dX3_dropTrace_27 : decode cX3_dropTrace 27 = .ok (.aload_n 0, 1) := by decide +kernel
theorem dX3_dropTrace_28 : decode cX3_dropTrace 28 = .ok (.iconst 0, 1) := by decide +kernel
theorem dX3_dropTrace_29 : decode cX3_dropTrace 29 = .ok (.putfield 47, 3) := by decide +kernel
theorem dX3_dropTrace_32 : decode cX3_dropTrace 32 = .ok (.aload_n 0, 1) := by decide +kernel
theorem dX3_dropTrace_33 : decode cX3_dropTrace 33 = .ok (.getfield 26, 3) := by decide +kernel
theorem dX3_dropTrace_36 : decode cX3_dropTrace 36 = .ok (.ireturn, 1) := by decide +kernel
theorem dX3_traceCount_0 : decode cX3_traceCount 0 = .ok (.aload_n 0, 1) := by decide +kernel
theorem dX3_traceCount_1 : decode cX3_traceCount 1 = .ok (.getfield 26, 3) := by decide +kernel
theorem dX3_traceCount_4 : decode cX3_traceCount 4 = .ok (.ireturn, 1) := by decide +kernel
theorem dX3_length_0 : decode cX3_length 0 = .ok (.aload_n 0, 1) := by decide +kernel
theorem dX3_length_1 : decode cX3_length 1 = .ok (.iload_n 1, 1) := by decide +kernel
theorem dX3_length_2 : decode cX3_length 2 = .ok (.invokevirtual 68, 3) := by decide +kernel
theorem dX3_length_5 : decode cX3_length 5 = .ok (.aload_n 0, 1) := by decide +kernel
theorem dX3_length_6 : decode cX3_length 6 = .ok (.getfield 20, 3) := by decide +kernel
theorem dX3_length_9 : decode cX3_length 9 = .ok (.iload_n 1, 1) := by decide +kernel
theorem dX3_length_10 : decode cX3_length 10 = .ok (.iaload, 1) := by decide +kernel
theorem dX3_length_11 : decode cX3_length 11 = .ok (.ireturn, 1) := by decide +kernel
theorem dX3_labelAt_0 : decode cX3_labelAt 0 = .ok (.aload_n 0, 1) := by decide +kernel
theorem dX3_labelAt_1 : decode cX3_labelAt 1 = .ok (.iload_n 1, 1) := by decide +kernel
theorem dX3_labelAt_2 : decode cX3_labelAt 2 = .ok (.invokevirtual 68, 3) := by decide +kernel
theorem dX3_labelAt_5 : decode cX3_labelAt 5 = .ok (.iload_n 2, 1) := by decide +kernel
theorem dX3_labelAt_6 : decode cX3_labelAt 6 = .ok (.ifCond .lt 13, 3) := by decide +kernel
theorem dX3_labelAt_9 : decode cX3_labelAt 9 = .ok (.iload_n 2, 1) := by decide +kernel
theorem dX3_labelAt_10 : decode cX3_labelAt 10 = .ok (.aload_n 0, 1) := by decide +kernel
theorem dX3_labelAt_11 : decode cX3_labelAt 11 = .ok (.getfield 20, 3) := by decide +kernel
theorem dX3_labelAt_14 : decode cX3_labelAt 14 = .ok (.iload_n 1, 1) := by decide +kernel
theorem dX3_labelAt_15 : decode cX3_labelAt 15 = .ok (.iaload, 1) := by decide +kernel
theorem dX3_labelAt_16 : decode cX3_labelAt 16 = .ok (.if_icmp .lt 13, 3) := by decide +kernel
theorem dX3_labelAt_19 : decode cX3_labelAt 19 = .ok (.new 73, 3) := by decide +kernel
theorem dX3_labelAt_22 : decode cX3_labelAt 22 = .ok (.dup, 1) := by decide +kernel
theorem dX3_labelAt_23 : decode cX3_labelAt 23 = .ok (.ldc 75, 2) := by decide +kernel
theorem dX3_labelAt_25 : decode cX3_labelAt 25 = .ok (.invokespecial 77, 3) := by decide +kernel
theorem dX3_labelAt_28 : decode cX3_labelAt 28 = .ok (.athrow, 1) := by decide +kernel
theorem dX3_labelAt_29 : decode cX3_labelAt 29 = .ok (.aload_n 0, 1) := by decide +kernel
theorem dX3_labelAt_30 : decode cX3_labelAt 30 = .ok (.getfield 17, 3) := by decide +kernel
theorem dX3_labelAt_33 : decode cX3_labelAt 33 = .ok (.iload_n 1, 1) := by decide +kernel
theorem dX3_labelAt_34 : decode cX3_labelAt 34 = .ok (.bipush 12, 2) := by decide +kernel
theorem dX3_labelAt_36 : decode cX3_labelAt 36 = .ok (.imul, 1) := by decide +kernel
theorem dX3_labelAt_37 : decode cX3_labelAt 37 = .ok (.iload_n 2, 1) := by decide +kernel
theorem dX3_labelAt_38 : decode cX3_labelAt 38 = .ok (.iadd, 1) := by decide +kernel
theorem dX3_labelAt_39 : decode cX3_labelAt 39 = .ok (.iaload, 1) := by decide +kernel
theorem dX3_labelAt_40 : decode cX3_labelAt 40 = .ok (.ireturn, 1) := by decide +kernel
theorem dX3_labels_0 : decode cX3_labels 0 = .ok (.aload_n 0, 1) := by decide +kernel
theorem dX3_labels_1 : decode cX3_labels 1 = .ok (.invokevirtual 78, 3) := by decide +kernel
theorem dX3_labels_4 : decode cX3_labels 4 = .ok (.getfield 82, 3) := by decide +kernel
theorem dX3_labels_7 : decode cX3_labels 7 = .ok (.ireturn, 1) := by decide +kernel
theorem dX3_follows_0 : decode cX3_follows 0 = .ok (.iload_n 1, 1) := by decide +kernel
theorem dX3_follows_1 : decode cX3_follows 1 = .ok (.invokestatic 52, 3) := by decide +kernel
theorem dX3_follows_4 : decode cX3_follows 4 = .ok (.iload_n 2, 1) := by decide +kernel
theorem dX3_follows_5 : decode cX3_follows 5 = .ok (.invokestatic 52, 3) := by decide +kernel
theorem dX3_follows_8 : decode cX3_follows 8 = .ok (.iconst 0, 1) := by decide +kernel
theorem dX3_follows_9 : decode cX3_follows 9 = .ok (.istore_n 3, 1) := by decide +kernel
theorem dX3_follows_10 : decode cX3_follows 10 = .ok (.iconst 0, 1) := by decide +kernel
theorem dX3_follows_11 : decode cX3_follows 11 = .ok (.istore 4, 2) := by decide +kernel
theorem dX3_follows_13 : decode cX3_follows 13 = .ok (.iload 4, 2) := by decide +kernel
theorem dX3_follows_15 : decode cX3_follows 15 = .ok (.aload_n 0, 1) := by decide +kernel
theorem dX3_follows_16 : decode cX3_follows 16 = .ok (.getfield 26, 3) := by decide +kernel
theorem dX3_follows_19 : decode cX3_follows 19 = .ok (.if_icmp .ge 28, 3) := by decide +kernel
theorem dX3_follows_22 : decode cX3_follows 22 = .ok (.iload_n 3, 1) := by decide +kernel
theorem dX3_follows_23 : decode cX3_follows 23 = .ok (.aload_n 0, 1) := by decide +kernel
theorem dX3_follows_24 : decode cX3_follows 24 = .ok (.getfield 23, 3) := by decide +kernel
theorem dX3_follows_27 : decode cX3_follows 27 = .ok (.iload 4, 2) := by decide +kernel
theorem dX3_follows_29 : decode cX3_follows 29 = .ok (.iaload, 1) := by decide +kernel
theorem dX3_follows_30 : decode cX3_follows 30 = .ok (.aload_n 0, 1) := by decide +kernel
theorem dX3_follows_31 : decode cX3_follows 31 = .ok (.iload 4, 2) := by decide +kernel
theorem dX3_follows_33 : decode cX3_follows 33 = .ok (.iload_n 1, 1) := by decide +kernel
theorem dX3_follows_34 : decode cX3_follows 34 = .ok (.iload_n 2, 1) := by decide +kernel
theorem dX3_follows_35 : decode cX3_follows 35 = .ok (.invokevirtual 85, 3) := by decide +kernel
theorem dX3_follows_38 : decode cX3_follows 38 = .ok (.imul, 1) := by decide +kernel
theorem dX3_follows_39 : decode cX3_follows 39 = .ok (.iadd, 1) := by decide +kernel
theorem dX3_follows_40 : decode cX3_follows 40 = .ok (.istore_n 3, 1) := by decide +kernel
theorem dX3_follows_41 : decode cX3_follows 41 = .ok (.iinc 4 1, 3) := by decide +kernel
theorem dX3_follows_44 : decode cX3_follows 44 = .ok (.goto (-31), 3) := by decide +kernel
theorem dX3_follows_47 : decode cX3_follows 47 = .ok (.iload_n 3, 1) := by decide +kernel
theorem dX3_follows_48 : decode cX3_follows 48 = .ok (.ireturn, 1) := by decide +kernel
theorem dX3_edges_0 : decode cX3_edges 0 = .ok (.aload_n 0, 1) := by decide +kernel
theorem dX3_edges_1 : decode cX3_edges 1 = .ok (.invokevirtual 78, 3) := by decide +kernel
theorem dX3_edges_4 : decode cX3_edges 4 = .ok (.astore_n 2, 1) := by decide +kernel
theorem dX3_edges_5 : decode cX3_edges 5 = .ok (.iload_n 1, 1) := by decide +kernel
theorem dX3_edges_6 : decode cX3_edges 6 = .ok (.ifCond .eq 10, 3) := by decide +kernel
theorem dX3_edges_9 : decode cX3_edges 9 = .ok (.aload_n 2, 1) := by decide +kernel
theorem dX3_edges_10 : decode cX3_edges 10 = .ok (.getfield 89, 3) := by decide +kernel
theorem dX3_edges_13 : decode cX3_edges 13 = .ok (.goto 7, 3) := by decide +kernel
theorem dX3_edges_16 : decode cX3_edges 16 = .ok (.aload_n 2, 1) := by decide +kernel
theorem dX3_edges_17 : decode cX3_edges 17 = .ok (.getfield 92, 3) := by decide +kernel
theorem dX3_edges_20 : decode cX3_edges 20 = .ok (.ireturn, 1) := by decide +kernel
theorem dX3_relation_0 : decode cX3_relation 0 = .ok (.iload_n 1, 1) := by decide +kernel
theorem dX3_relation_1 : decode cX3_relation 1 = .ok (.invokestatic 52, 3) := by decide +kernel
theorem dX3_relation_4 : decode cX3_relation 4 = .ok (.iload_n 2, 1) := by decide +kernel
theorem dX3_relation_5 : decode cX3_relation 5 = .ok (.invokestatic 52, 3) := by decide +kernel
theorem dX3_relation_8 : decode cX3_relation 8 = .ok (.aload_n 0, 1) := by decide +kernel
theorem dX3_relation_9 : decode cX3_relation 9 = .ok (.invokevirtual 78, 3) := by decide +kernel
theorem dX3_relation_12 : decode cX3_relation 12 = .ok (.astore_n 3, 1) := by decide +kernel
theorem dX3_relation_13 : decode cX3_relation 13 = .ok (.aload_n 3, 1) := by decide +kernel
theorem dX3_relation_14 : decode cX3_relation 14 = .ok (.getfield 95, 3) := by decide +kernel
theorem dX3_relation_17 : decode cX3_relation 17 = .ok (.iload_n 1, 1) := by decide +kernel
theorem dX3_relation_18 : decode cX3_relation 18 = .ok (.iaload, 1) := by decide +kernel
theorem dX3_relation_19 : decode cX3_relation 19 = .ok (.iload_n 2, 1) := by decide +kernel
theorem dX3_relation_20 : decode cX3_relation 20 = .ok (.invokestatic 98, 3) := by decide +kernel
theorem dX3_relation_23 : decode cX3_relation 23 = .ok (.ifCond .eq 7, 3) := by decide +kernel
theorem dX3_relation_26 : decode cX3_relation 26 = .ok (.iconst 1, 1) := by decide +kernel
theorem dX3_relation_27 : decode cX3_relation 27 = .ok (.goto 4, 3) := by decide +kernel
theorem dX3_relation_30 : decode cX3_relation 30 = .ok (.iconst 0, 1) := by decide +kernel
theorem dX3_relation_31 : decode cX3_relation 31 = .ok (.istore 4, 2) := by decide +kernel
theorem dX3_relation_33 : decode cX3_relation 33 = .ok (.aload_n 3, 1) := by decide +kernel
theorem dX3_relation_34 : decode cX3_relation 34 = .ok (.getfield 95, 3) := by decide +kernel
theorem dX3_relation_37 : decode cX3_relation 37 = .ok (.iload_n 2, 1) := by decide +kernel
theorem dX3_relation_38 : decode cX3_relation 38 = .ok (.iaload, 1) := by decide +kernel
theorem dX3_relation_39 : decode cX3_relation 39 = .ok (.iload_n 1, 1) := by decide +kernel
theorem dX3_relation_40 : decode cX3_relation 40 = .ok (.invokestatic 98, 3) := by decide +kernel
theorem dX3_relation_43 : decode cX3_relation 43 = .ok (.ifCond .eq 7, 3) := by decide +kernel
theorem dX3_relation_46 : decode cX3_relation 46 = .ok (.iconst 2, 1) := by decide +kernel
theorem dX3_relation_47 : decode cX3_relation 47 = .ok (.goto 4, 3) := by decide +kernel
theorem dX3_relation_50 : decode cX3_relation 50 = .ok (.iconst 0, 1) := by decide +kernel
theorem dX3_relation_51 : decode cX3_relation 51 = .ok (.istore 5, 2) := by decide +kernel
theorem dX3_relation_53 : decode cX3_relation 53 = .ok (.iload 4, 2) := by decide +kernel
theorem dX3_relation_55 : decode cX3_relation 55 = .ok (.iload 5, 2) := by decide +kernel
theorem dX3_relation_57 : decode cX3_relation 57 = .ok (.iadd, 1) := by decide +kernel
theorem dX3_relation_58 : decode cX3_relation 58 = .ok (.ireturn, 1) := by decide +kernel
theorem dX3_leads_0 : decode cX3_leads 0 = .ok (.iload_n 1, 1) := by decide +kernel
theorem dX3_leads_1 : decode cX3_leads 1 = .ok (.invokestatic 52, 3) := by decide +kernel
theorem dX3_leads_4 : decode cX3_leads 4 = .ok (.iload_n 2, 1) := by decide +kernel
theorem dX3_leads_5 : decode cX3_leads 5 = .ok (.invokestatic 52, 3) := by decide +kernel
theorem dX3_leads_8 : decode cX3_leads 8 = .ok (.aload_n 0, 1) := by decide +kernel
theorem dX3_leads_9 : decode cX3_leads 9 = .ok (.invokevirtual 78, 3) := by decide +kernel
theorem dX3_leads_12 : decode cX3_leads 12 = .ok (.astore_n 3, 1) := by decide +kernel
theorem dX3_leads_13 : decode cX3_leads 13 = .ok (.aload_n 3, 1) := by decide +kernel
theorem dX3_leads_14 : decode cX3_leads 14 = .ok (.invokevirtual 102, 3) := by decide +kernel
theorem dX3_leads_17 : decode cX3_leads 17 = .ok (.aload_n 3, 1) := by decide +kernel
theorem dX3_leads_18 : decode cX3_leads 18 = .ok (.getfield 105, 3) := by decide +kernel
theorem dX3_leads_21 : decode cX3_leads 21 = .ok (.iload_n 1, 1) := by decide +kernel
theorem dX3_leads_22 : decode cX3_leads 22 = .ok (.iaload, 1) := by decide +kernel
theorem dX3_leads_23 : decode cX3_leads 23 = .ok (.iload_n 2, 1) := by decide +kernel
theorem dX3_leads_24 : decode cX3_leads 24 = .ok (.invokestatic 98, 3) := by decide +kernel
theorem dX3_leads_27 : decode cX3_leads 27 = .ok (.ireturn, 1) := by decide +kernel
theorem dX3_variants_0 : decode cX3_variants 0 = .ok (.iconst 0, 1) := by decide +kernel
theorem dX3_variants_1 : decode cX3_variants 1 = .ok (.istore_n 1, 1) := by decide +kernel
theorem dX3_variants_2 : decode cX3_variants 2 = .ok (.iconst 0, 1) := by decide +kernel
theorem dX3_variants_3 : decode cX3_variants 3 = .ok (.istore_n 2, 1) := by decide +kernel
theorem dX3_variants_4 : decode cX3_variants 4 = .ok (.iload_n 2, 1) := by decide +kernel
theorem dX3_variants_5 : decode cX3_variants 5 = .ok (.aload_n 0, 1) := by decide +kernel
theorem dX3_variants_6 : decode cX3_variants 6 = .ok (.getfield 26, 3) := by decide +kernel
theorem dX3_variants_9 : decode cX3_variants 9 = .ok (.if_icmp .ge 29, 3) := by decide +kernel
theorem dX3_variants_12 : decode cX3_variants 12 = .ok (.aload_n 0, 1) := by decide +kernel
theorem dX3_variants_13 : decode cX3_variants 13 = .ok (.getfield 23, 3) := by decide +kernel
theorem dX3_variants_16 : decode cX3_variants 16 = .ok (.iload_n 2, 1) := by decide +kernel
theorem dX3_variants_17 : decode cX3_variants 17 = .ok (.iaload, 1) := by decide +kernel
theorem dX3_variants_18 : decode cX3_variants 18 = .ok (.ifCond .le 14, 3) := by decide +kernel
theorem dX3_variants_21 : decode cX3_variants 21 = .ok (.aload_n 0, 1) := by decide +kernel
theorem dX3_variants_22 : decode cX3_variants 22 = .ok (.iload_n 2, 1) := by decide +kernel
theorem dX3_variants_23 : decode cX3_variants 23 = .ok (.invokevirtual 108, 3) := by decide +kernel
theorem dX3_variants_26 : decode cX3_variants 26 = .ok (.ifCond .ne 6, 3) := by decide +kernel
theorem dX3_variants_29 : decode cX3_variants 29 = .ok (.iinc 1 1, 3) := by decide +kernel
theorem dX3_variants_32 : decode cX3_variants 32 = .ok (.iinc 2 1, 3) := by decide +kernel
theorem dX3_variants_35 : decode cX3_variants 35 = .ok (.goto (-31), 3) := by decide +kernel
theorem dX3_variants_38 : decode cX3_variants 38 = .ok (.iload_n 1, 1) := by decide +kernel
theorem dX3_variants_39 : decode cX3_variants 39 = .ok (.ireturn, 1) := by decide +kernel
theorem dX3_mine_0 : decode cX3_mine 0 = .ok (.aload_n 0, 1) := by decide +kernel
theorem dX3_mine_1 : decode cX3_mine 1 = .ok (.getfield 47, 3) := by decide +kernel
theorem dX3_mine_4 : decode cX3_mine 4 = .ok (.ifCond .ne 34, 3) := by decide +kernel
theorem dX3_mine_7 : decode cX3_mine 7 = .ok (.aload_n 0, 1) := by decide +kernel
theorem dX3_mine_8 : decode cX3_mine 8 = .ok (.invokevirtual 78, 3) := by decide +kernel
theorem dX3_mine_11 : decode cX3_mine 11 = .ok (.pop, 1) := by decide +kernel
theorem dX3_mine_12 : decode cX3_mine 12 = .ok (.aload_n 0, 1) := by decide +kernel
theorem dX3_mine_13 : decode cX3_mine 13 = .ok (.getfield 46, 3) := by decide +kernel
theorem dX3_mine_16 : decode cX3_mine 16 = .ok (.iconst 0, 1) := by decide +kernel
theorem dX3_mine_17 : decode cX3_mine 17 = .ok (.putfield 112, 3) := by decide +kernel
theorem dX3_mine_20 : decode cX3_mine 20 = .ok (.aload_n 0, 1) := by decide +kernel
theorem dX3_mine_21 : decode cX3_mine 21 = .ok (.getfield 31, 3) := by decide +kernel
theorem dX3_mine_24 : decode cX3_mine 24 = .ok (.aload_n 0, 1) := by decide +kernel
theorem dX3_mine_25 : decode cX3_mine 25 = .ok (.getfield 46, 3) := by decide +kernel
theorem dX3_mine_28 : decode cX3_mine 28 = .ok (.iconst 0, 1) := by decide +kernel
theorem dX3_mine_29 : decode cX3_mine 29 = .ok (.iconst (-1), 1) := by decide +kernel
theorem dX3_mine_30 : decode cX3_mine 30 = .ok (.invokestatic 117, 3) := by decide +kernel
theorem dX3_mine_33 : decode cX3_mine 33 = .ok (.aload_n 0, 1) := by decide +kernel
theorem dX3_mine_34 : decode cX3_mine 34 = .ok (.iconst 1, 1) := by decide +kernel
theorem dX3_mine_35 : decode cX3_mine 35 = .ok (.putfield 47, 3) := by decide +kernel
theorem dX3_mine_38 : decode cX3_mine 38 = .ok (.aload_n 0, 1) := by decide +kernel
theorem dX3_mine_39 : decode cX3_mine 39 = .ok (.getfield 46, 3) := by decide +kernel
theorem dX3_mine_42 : decode cX3_mine 42 = .ok (.getfield 112, 3) := by decide +kernel
theorem dX3_mine_45 : decode cX3_mine 45 = .ok (.ireturn, 1) := by decide +kernel
theorem dX3_kind_0 : decode cX3_kind 0 = .ok (.aload_n 0, 1) := by decide +kernel
theorem dX3_kind_1 : decode cX3_kind 1 = .ok (.iload_n 1, 1) := by decide +kernel
theorem dX3_kind_2 : decode cX3_kind 2 = .ok (.invokevirtual 121, 3) := by decide +kernel
theorem dX3_kind_5 : decode cX3_kind 5 = .ok (.aload_n 0, 1) := by decide +kernel
theorem dX3_kind_6 : decode cX3_kind 6 = .ok (.getfield 46, 3) := by decide +kernel
theorem dX3_kind_9 : decode cX3_kind 9 = .ok (.getfield 124, 3) := by decide +kernel
theorem dX3_kind_12 : decode cX3_kind 12 = .ok (.iload_n 1, 1) := by decide +kernel
theorem dX3_kind_13 : decode cX3_kind 13 = .ok (.iaload, 1) := by decide +kernel
theorem dX3_kind_14 : decode cX3_kind 14 = .ok (.ireturn, 1) := by decide +kernel
theorem dX3_labelsOf_0 : decode cX3_labelsOf 0 = .ok (.aload_n 0, 1) := by decide +kernel
theorem dX3_labelsOf_1 : decode cX3_labelsOf 1 = .ok (.iload_n 1, 1) := by decide +kernel
theorem dX3_labelsOf_2 : decode cX3_labelsOf 2 = .ok (.invokevirtual 121, 3) := by decide +kernel
theorem dX3_labelsOf_5 : decode cX3_labelsOf 5 = .ok (.aload_n 0, 1) := by decide +kernel
theorem dX3_labelsOf_6 : decode cX3_labelsOf 6 = .ok (.getfield 46, 3) := by decide +kernel
theorem dX3_labelsOf_9 : decode cX3_labelsOf 9 = .ok (.getfield 127, 3) := by decide +kernel
theorem dX3_labelsOf_12 : decode cX3_labelsOf 12 = .ok (.iload_n 1, 1) := by decide +kernel
theorem dX3_labelsOf_13 : decode cX3_labelsOf 13 = .ok (.iaload, 1) := by decide +kernel
theorem dX3_labelsOf_14 : decode cX3_labelsOf 14 = .ok (.ireturn, 1) := by decide +kernel
theorem dX3_parent_0 : decode cX3_parent 0 = .ok (.aload_n 0, 1) := by decide +kernel
theorem dX3_parent_1 : decode cX3_parent 1 = .ok (.iload_n 1, 1) := by decide +kernel
theorem dX3_parent_2 : decode cX3_parent 2 = .ok (.invokevirtual 121, 3) := by decide +kernel
theorem dX3_parent_5 : decode cX3_parent 5 = .ok (.aload_n 0, 1) := by decide +kernel
theorem dX3_parent_6 : decode cX3_parent 6 = .ok (.getfield 46, 3) := by decide +kernel
theorem dX3_parent_9 : decode cX3_parent 9 = .ok (.getfield 130, 3) := by decide +kernel
theorem dX3_parent_12 : decode cX3_parent 12 = .ok (.iload_n 1, 1) := by decide +kernel
theorem dX3_parent_13 : decode cX3_parent 13 = .ok (.iaload, 1) := by decide +kernel
theorem dX3_parent_14 : decode cX3_parent 14 = .ok (.ireturn, 1) := by decide +kernel
theorem dX3_children_0 : decode cX3_children 0 = .ok (.aload_n 0, 1) := by decide +kernel
theorem dX3_children_1 : decode cX3_children 1 = .ok (.iload_n 1, 1) := by decide +kernel
theorem dX3_children_2 : decode cX3_children 2 = .ok (.invokevirtual 121, 3) := by decide +kernel
theorem dX3_children_5 : decode cX3_children 5 = .ok (.aload_n 0, 1) := by decide +kernel
theorem dX3_children_6 : decode cX3_children 6 = .ok (.getfield 46, 3) := by decide +kernel
theorem dX3_children_9 : decode cX3_children 9 = .ok (.getfield 133, 3) := by decide +kernel
theorem dX3_children_12 : decode cX3_children 12 = .ok (.iload_n 1, 1) := by decide +kernel
theorem dX3_children_13 : decode cX3_children 13 = .ok (.iaload, 1) := by decide +kernel
theorem dX3_children_14 : decode cX3_children 14 = .ok (.ireturn, 1) := by decide +kernel
theorem dX3_child_0 : decode cX3_child 0 = .ok (.aload_n 0, 1) := by decide +kernel
theorem dX3_child_1 : decode cX3_child 1 = .ok (.iload_n 1, 1) := by decide +kernel
theorem dX3_child_2 : decode cX3_child 2 = .ok (.invokevirtual 121, 3) := by decide +kernel
theorem dX3_child_5 : decode cX3_child 5 = .ok (.iload_n 2, 1) := by decide +kernel
theorem dX3_child_6 : decode cX3_child 6 = .ok (.ifCond .lt 16, 3) := by decide +kernel
theorem dX3_child_9 : decode cX3_child 9 = .ok (.iload_n 2, 1) := by decide +kernel
theorem dX3_child_10 : decode cX3_child 10 = .ok (.aload_n 0, 1) := by decide +kernel
theorem dX3_child_11 : decode cX3_child 11 = .ok (.getfield 46, 3) := by decide +kernel
theorem dX3_child_14 : decode cX3_child 14 = .ok (.getfield 133, 3) := by decide +kernel
theorem dX3_child_17 : decode cX3_child 17 = .ok (.iload_n 1, 1) := by decide +kernel
theorem dX3_child_18 : decode cX3_child 18 = .ok (.iaload, 1) := by decide +kernel
theorem dX3_child_19 : decode cX3_child 19 = .ok (.if_icmp .lt 13, 3) := by decide +kernel
theorem dX3_child_22 : decode cX3_child 22 = .ok (.new 73, 3) := by decide +kernel
theorem dX3_child_25 : decode cX3_child 25 = .ok (.dup, 1) := by decide +kernel
theorem dX3_child_26 : decode cX3_child 26 = .ok (.ldc 136, 2) := by decide +kernel
theorem dX3_child_28 : decode cX3_child 28 = .ok (.invokespecial 77, 3) := by decide +kernel
theorem dX3_child_31 : decode cX3_child 31 = .ok (.athrow, 1) := by decide +kernel
theorem dX3_child_32 : decode cX3_child 32 = .ok (.aload_n 0, 1) := by decide +kernel
theorem dX3_child_33 : decode cX3_child 33 = .ok (.getfield 46, 3) := by decide +kernel
theorem dX3_child_36 : decode cX3_child 36 = .ok (.iload_n 1, 1) := by decide +kernel
theorem dX3_child_37 : decode cX3_child 37 = .ok (.iload_n 2, 1) := by decide +kernel
theorem dX3_child_38 : decode cX3_child 38 = .ok (.invokevirtual 138, 3) := by decide +kernel
theorem dX3_child_41 : decode cX3_child 41 = .ok (.ireturn, 1) := by decide +kernel
theorem dX3_shortest_0 : decode cX3_shortest 0 = .ok (.aload_n 0, 1) := by decide +kernel
theorem dX3_shortest_1 : decode cX3_shortest 1 = .ok (.iload_n 1, 1) := by decide +kernel
theorem dX3_shortest_2 : decode cX3_shortest 2 = .ok (.invokevirtual 121, 3) := by decide +kernel
theorem dX3_shortest_5 : decode cX3_shortest 5 = .ok (.aload_n 0, 1) := by decide +kernel
theorem dX3_shortest_6 : decode cX3_shortest 6 = .ok (.getfield 46, 3) := by decide +kernel
theorem dX3_shortest_9 : decode cX3_shortest 9 = .ok (.iload_n 1, 1) := by decide +kernel
theorem dX3_shortest_10 : decode cX3_shortest 10 = .ok (.invokevirtual 142, 3) := by decide +kernel
theorem dX3_shortest_13 : decode cX3_shortest 13 = .ok (.ireturn, 1) := by decide +kernel
theorem dX3_height_0 : decode cX3_height 0 = .ok (.aload_n 0, 1) := by decide +kernel
theorem dX3_height_1 : decode cX3_height 1 = .ok (.invokevirtual 146, 3) := by decide +kernel
theorem dX3_height_4 : decode cX3_height 4 = .ok (.aload_n 0, 1) := by decide +kernel
theorem dX3_height_5 : decode cX3_height 5 = .ok (.getfield 46, 3) := by decide +kernel
theorem dX3_height_8 : decode cX3_height 8 = .ok (.invokevirtual 149, 3) := by decide +kernel
theorem dX3_height_11 : decode cX3_height 11 = .ok (.ireturn, 1) := by decide +kernel
theorem dX3_accepts_0 : decode cX3_accepts 0 = .ok (.aload_n 0, 1) := by decide +kernel
theorem dX3_accepts_1 : decode cX3_accepts 1 = .ok (.invokevirtual 146, 3) := by decide +kernel
theorem dX3_accepts_4 : decode cX3_accepts 4 = .ok (.aload_n 0, 1) := by decide +kernel
theorem dX3_accepts_5 : decode cX3_accepts 5 = .ok (.iload_n 1, 1) := by decide +kernel
theorem dX3_accepts_6 : decode cX3_accepts 6 = .ok (.invokevirtual 68, 3) := by decide +kernel
theorem dX3_accepts_9 : decode cX3_accepts 9 = .ok (.aload_n 0, 1) := by decide +kernel
theorem dX3_accepts_10 : decode cX3_accepts 10 = .ok (.getfield 38, 3) := by decide +kernel
theorem dX3_accepts_13 : decode cX3_accepts 13 = .ok (.aload_n 0, 1) := by decide +kernel
theorem dX3_accepts_14 : decode cX3_accepts 14 = .ok (.getfield 17, 3) := by decide +kernel
theorem dX3_accepts_17 : decode cX3_accepts 17 = .ok (.iload_n 1, 1) := by decide +kernel
theorem dX3_accepts_18 : decode cX3_accepts 18 = .ok (.bipush 12, 2) := by decide +kernel
theorem dX3_accepts_20 : decode cX3_accepts 20 = .ok (.imul, 1) := by decide +kernel
theorem dX3_accepts_21 : decode cX3_accepts 21 = .ok (.aload_n 0, 1) := by decide +kernel
theorem dX3_accepts_22 : decode cX3_accepts 22 = .ok (.getfield 20, 3) := by decide +kernel
theorem dX3_accepts_25 : decode cX3_accepts 25 = .ok (.iload_n 1, 1) := by decide +kernel
theorem dX3_accepts_26 : decode cX3_accepts 26 = .ok (.iaload, 1) := by decide +kernel
theorem dX3_accepts_27 : decode cX3_accepts 27 = .ok (.invokevirtual 153, 3) := by decide +kernel
theorem dX3_accepts_30 : decode cX3_accepts 30 = .ok (.ireturn, 1) := by decide +kernel
theorem dX3_acceptsBuffer_0 : decode cX3_acceptsBuffer 0 = .ok (.aload_n 0, 1) := by decide +kernel
theorem dX3_acceptsBuffer_1 : decode cX3_acceptsBuffer 1 = .ok (.invokevirtual 146, 3) := by decide +kernel
theorem dX3_acceptsBuffer_4 : decode cX3_acceptsBuffer 4 = .ok (.aload_n 0, 1) := by decide +kernel
theorem dX3_acceptsBuffer_5 : decode cX3_acceptsBuffer 5 = .ok (.getfield 38, 3) := by decide +kernel
theorem dX3_acceptsBuffer_8 : decode cX3_acceptsBuffer 8 = .ok (.aload_n 0, 1) := by decide +kernel
theorem dX3_acceptsBuffer_9 : decode cX3_acceptsBuffer 9 = .ok (.getfield 9, 3) := by decide +kernel
theorem dX3_acceptsBuffer_12 : decode cX3_acceptsBuffer 12 = .ok (.iconst 0, 1) := by decide +kernel
theorem dX3_acceptsBuffer_13 : decode cX3_acceptsBuffer 13 = .ok (.aload_n 0, 1) := by decide +kernel
theorem dX3_acceptsBuffer_14 : decode cX3_acceptsBuffer 14 = .ok (.getfield 13, 3) := by decide +kernel
theorem dX3_acceptsBuffer_17 : decode cX3_acceptsBuffer 17 = .ok (.invokevirtual 153, 3) := by decide +kernel
theorem dX3_acceptsBuffer_20 : decode cX3_acceptsBuffer 20 = .ok (.ireturn, 1) := by decide +kernel
theorem dX3_fitness_0 : decode cX3_fitness 0 = .ok (.aload_n 0, 1) := by decide +kernel
theorem dX3_fitness_1 : decode cX3_fitness 1 = .ok (.invokevirtual 146, 3) := by decide +kernel
theorem dX3_fitness_4 : decode cX3_fitness 4 = .ok (.aload_n 0, 1) := by decide +kernel
theorem dX3_fitness_5 : decode cX3_fitness 5 = .ok (.getfield 26, 3) := by decide +kernel
theorem dX3_fitness_8 : decode cX3_fitness 8 = .ok (.ifCond .ne 5, 3) := by decide +kernel
theorem dX3_fitness_11 : decode cX3_fitness 11 = .ok (.dconst 1, 1) := by decide +kernel
theorem dX3_fitness_12 : decode cX3_fitness 12 = .ok (.dreturn, 1) := by decide +kernel
theorem dX3_fitness_13 : decode cX3_fitness 13 = .ok (.iconst 0, 1) := by decide +kernel
theorem dX3_fitness_14 : decode cX3_fitness 14 = .ok (.istore_n 1, 1) := by decide +kernel
theorem dX3_fitness_15 : decode cX3_fitness 15 = .ok (.iconst 0, 1) := by decide +kernel
theorem dX3_fitness_16 : decode cX3_fitness 16 = .ok (.istore_n 2, 1) := by decide +kernel
theorem dX3_fitness_17 : decode cX3_fitness 17 = .ok (.iload_n 2, 1) := by decide +kernel
theorem dX3_fitness_18 : decode cX3_fitness 18 = .ok (.aload_n 0, 1) := by decide +kernel
theorem dX3_fitness_19 : decode cX3_fitness 19 = .ok (.getfield 26, 3) := by decide +kernel
theorem dX3_fitness_22 : decode cX3_fitness 22 = .ok (.if_icmp .ge 36, 3) := by decide +kernel
theorem dX3_fitness_25 : decode cX3_fitness 25 = .ok (.aload_n 0, 1) := by decide +kernel
theorem dX3_fitness_26 : decode cX3_fitness 26 = .ok (.getfield 38, 3) := by decide +kernel
theorem dX3_fitness_29 : decode cX3_fitness 29 = .ok (.aload_n 0, 1) := by decide +kernel
theorem dX3_fitness_30 : decode cX3_fitness 30 = .ok (.getfield 17, 3) := by decide +kernel
theorem dX3_fitness_33 : decode cX3_fitness 33 = .ok (.iload_n 2, 1) := by decide +kernel
theorem dX3_fitness_34 : decode cX3_fitness 34 = .ok (.bipush 12, 2) := by decide +kernel
theorem dX3_fitness_36 : decode cX3_fitness 36 = .ok (.imul, 1) := by decide +kernel
theorem dX3_fitness_37 : decode cX3_fitness 37 = .ok (.aload_n 0, 1) := by decide +kernel
theorem dX3_fitness_38 : decode cX3_fitness 38 = .ok (.getfield 20, 3) := by decide +kernel
theorem dX3_fitness_41 : decode cX3_fitness 41 = .ok (.iload_n 2, 1) := by decide +kernel
theorem dX3_fitness_42 : decode cX3_fitness 42 = .ok (.iaload, 1) := by decide +kernel
theorem dX3_fitness_43 : decode cX3_fitness 43 = .ok (.invokevirtual 153, 3) := by decide +kernel
theorem dX3_fitness_46 : decode cX3_fitness 46 = .ok (.ifCond .eq 6, 3) := by decide +kernel
theorem dX3_fitness_49 : decode cX3_fitness 49 = .ok (.iinc 1 1, 3) := by decide +kernel
theorem dX3_fitness_52 : decode cX3_fitness 52 = .ok (.iinc 2 1, 3) := by decide +kernel
theorem dX3_fitness_55 : decode cX3_fitness 55 = .ok (.goto (-38), 3) := by decide +kernel
theorem dX3_fitness_58 : decode cX3_fitness 58 = .ok (.iload_n 1, 1) := by decide +kernel
theorem dX3_fitness_59 : decode cX3_fitness 59 = .ok (.i2d, 1) := by decide +kernel
theorem dX3_fitness_60 : decode cX3_fitness 60 = .ok (.aload_n 0, 1) := by decide +kernel
theorem dX3_fitness_61 : decode cX3_fitness 61 = .ok (.getfield 26, 3) := by decide +kernel
theorem dX3_fitness_64 : decode cX3_fitness 64 = .ok (.i2d, 1) := by decide +kernel
theorem dX3_fitness_65 : decode cX3_fitness 65 = .ok (.ddiv, 1) := by decide +kernel
theorem dX3_fitness_66 : decode cX3_fitness 66 = .ok (.dreturn, 1) := by decide +kernel
theorem dX3_words_0 : decode cX3_words 0 = .ok (.aload_n 0, 1) := by decide +kernel
theorem dX3_words_1 : decode cX3_words 1 = .ok (.invokevirtual 146, 3) := by decide +kernel
theorem dX3_words_4 : decode cX3_words 4 = .ok (.iload_n 1, 1) := by decide +kernel
theorem dX3_words_5 : decode cX3_words 5 = .ok (.ifCond .lt 8, 3) := by decide +kernel
theorem dX3_words_8 : decode cX3_words 8 = .ok (.iload_n 1, 1) := by decide +kernel
theorem dX3_words_9 : decode cX3_words 9 = .ok (.iconst 3, 1) := by decide +kernel
theorem dX3_words_10 : decode cX3_words 10 = .ok (.if_icmp .le 13, 3) := by decide +kernel
theorem dX3_words_13 : decode cX3_words 13 = .ok (.new 157, 3) := by decide +kernel
theorem dX3_words_16 : decode cX3_words 16 = .ok (.dup, 1) := by decide +kernel
theorem dX3_words_17 : decode cX3_words 17 = .ok (.ldc 159, 2) := by decide +kernel
theorem dX3_words_19 : decode cX3_words 19 = .ok (.invokespecial 161, 3) := by decide +kernel
theorem dX3_words_22 : decode cX3_words 22 = .ok (.athrow, 1) := by decide +kernel
theorem dX3_words_23 : decode cX3_words 23 = .ok (.aload_n 0, 1) := by decide +kernel
theorem dX3_words_24 : decode cX3_words 24 = .ok (.getfield 38, 3) := by decide +kernel
theorem dX3_words_27 : decode cX3_words 27 = .ok (.iload_n 1, 1) := by decide +kernel
theorem dX3_words_28 : decode cX3_words 28 = .ok (.invokevirtual 162, 3) := by decide +kernel
theorem dX3_words_31 : decode cX3_words 31 = .ok (.ireturn, 1) := by decide +kernel
theorem dX3_digest_0 : decode cX3_digest 0 = .ok (.ldc2_w 165, 3) := by decide +kernel
theorem dX3_digest_3 : decode cX3_digest 3 = .ok (.lstore_n 1, 1) := by decide +kernel
theorem dX3_digest_4 : decode cX3_digest 4 = .ok (.lload_n 1, 1) := by decide +kernel
theorem dX3_digest_5 : decode cX3_digest 5 = .ok (.aload_n 0, 1) := by decide +kernel
theorem dX3_digest_6 : decode cX3_digest 6 = .ok (.getfield 13, 3) := by decide +kernel
theorem dX3_digest_9 : decode cX3_digest 9 = .ok (.invokestatic 167, 3) := by decide +kernel
theorem dX3_digest_12 : decode cX3_digest 12 = .ok (.aload_n 0, 1) := by decide +kernel
theorem dX3_digest_13 : decode cX3_digest 13 = .ok (.getfield 9, 3) := by decide +kernel
theorem dX3_digest_16 : decode cX3_digest 16 = .ok (.iconst 0, 1) := by decide +kernel
theorem dX3_digest_17 : decode cX3_digest 17 = .ok (.aload_n 0, 1) := by decide +kernel
theorem dX3_digest_18 : decode cX3_digest 18 = .ok (.getfield 13, 3) := by decide +kernel
theorem dX3_digest_21 : decode cX3_digest 21 = .ok (.invokestatic 171, 3) := by decide +kernel
theorem dX3_digest_24 : decode cX3_digest 24 = .ok (.lstore_n 1, 1) := by decide +kernel
theorem dX3_digest_25 : decode cX3_digest 25 = .ok (.lload_n 1, 1) := by decide +kernel
theorem dX3_digest_26 : decode cX3_digest 26 = .ok (.aload_n 0, 1) := by decide +kernel
theorem dX3_digest_27 : decode cX3_digest 27 = .ok (.getfield 26, 3) := by decide +kernel
theorem dX3_digest_30 : decode cX3_digest 30 = .ok (.invokestatic 167, 3) := by decide +kernel
theorem dX3_digest_33 : decode cX3_digest 33 = .ok (.lstore_n 1, 1) := by decide +kernel
theorem dX3_digest_34 : decode cX3_digest 34 = .ok (.iconst 0, 1) := by decide +kernel
theorem dX3_digest_35 : decode cX3_digest 35 = .ok (.istore_n 3, 1) := by decide +kernel
theorem dX3_digest_36 : decode cX3_digest 36 = .ok (.iload_n 3, 1) := by decide +kernel
theorem dX3_digest_37 : decode cX3_digest 37 = .ok (.aload_n 0, 1) := by decide +kernel
theorem dX3_digest_38 : decode cX3_digest 38 = .ok (.getfield 26, 3) := by decide +kernel
theorem dX3_digest_41 : decode cX3_digest 41 = .ok (.if_icmp .ge 48, 3) := by decide +kernel
theorem dX3_digest_44 : decode cX3_digest 44 = .ok (.lload_n 1, 1) := by decide +kernel
theorem dX3_digest_45 : decode cX3_digest 45 = .ok (.aload_n 0, 1) := by decide +kernel
theorem dX3_digest_46 : decode cX3_digest 46 = .ok (.getfield 23, 3) := by decide +kernel
theorem dX3_digest_49 : decode cX3_digest 49 = .ok (.iload_n 3, 1) := by decide +kernel
theorem dX3_digest_50 : decode cX3_digest 50 = .ok (.iaload, 1) := by decide +kernel
theorem dX3_digest_51 : decode cX3_digest 51 = .ok (.invokestatic 167, 3) := by decide +kernel
theorem dX3_digest_54 : decode cX3_digest 54 = .ok (.aload_n 0, 1) := by decide +kernel
theorem dX3_digest_55 : decode cX3_digest 55 = .ok (.getfield 20, 3) := by decide +kernel
theorem dX3_digest_58 : decode cX3_digest 58 = .ok (.iload_n 3, 1) := by decide +kernel
theorem dX3_digest_59 : decode cX3_digest 59 = .ok (.iaload, 1) := by decide +kernel
theorem dX3_digest_60 : decode cX3_digest 60 = .ok (.invokestatic 167, 3) := by decide +kernel
theorem dX3_digest_63 : decode cX3_digest 63 = .ok (.lstore_n 1, 1) := by decide +kernel
theorem dX3_digest_64 : decode cX3_digest 64 = .ok (.lload_n 1, 1) := by decide +kernel
theorem dX3_digest_65 : decode cX3_digest 65 = .ok (.aload_n 0, 1) := by decide +kernel
theorem dX3_digest_66 : decode cX3_digest 66 = .ok (.getfield 17, 3) := by decide +kernel
theorem dX3_digest_69 : decode cX3_digest 69 = .ok (.iload_n 3, 1) := by decide +kernel
theorem dX3_digest_70 : decode cX3_digest 70 = .ok (.bipush 12, 2) := by decide +kernel
theorem dX3_digest_72 : decode cX3_digest 72 = .ok (.imul, 1) := by decide +kernel
theorem dX3_digest_73 : decode cX3_digest 73 = .ok (.aload_n 0, 1) := by decide +kernel
theorem dX3_digest_74 : decode cX3_digest 74 = .ok (.getfield 20, 3) := by decide +kernel
theorem dX3_digest_77 : decode cX3_digest 77 = .ok (.iload_n 3, 1) := by decide +kernel
theorem dX3_digest_78 : decode cX3_digest 78 = .ok (.iaload, 1) := by decide +kernel
theorem dX3_digest_79 : decode cX3_digest 79 = .ok (.invokestatic 171, 3) := by decide +kernel
theorem dX3_digest_82 : decode cX3_digest 82 = .ok (.lstore_n 1, 1) := by decide +kernel
theorem dX3_digest_83 : decode cX3_digest 83 = .ok (.iinc 3 1, 3) := by decide +kernel
theorem dX3_digest_86 : decode cX3_digest 86 = .ok (.goto (-50), 3) := by decide +kernel
theorem dX3_digest_89 : decode cX3_digest 89 = .ok (.aload_n 0, 1) := by decide +kernel
theorem dX3_digest_90 : decode cX3_digest 90 = .ok (.getfield 47, 3) := by decide +kernel
theorem dX3_digest_93 : decode cX3_digest 93 = .ok (.ifCond .eq 72, 3) := by decide +kernel
theorem dX3_digest_96 : decode cX3_digest 96 = .ok (.lload_n 1, 1) := by decide +kernel
theorem dX3_digest_97 : decode cX3_digest 97 = .ok (.aload_n 0, 1) := by decide +kernel
theorem dX3_digest_98 : decode cX3_digest 98 = .ok (.getfield 46, 3) := by decide +kernel
theorem dX3_digest_101 : decode cX3_digest 101 = .ok (.getfield 112, 3) := by decide +kernel
theorem dX3_digest_104 : decode cX3_digest 104 = .ok (.invokestatic 167, 3) := by decide +kernel
theorem dX3_digest_107 : decode cX3_digest 107 = .ok (.lstore_n 1, 1) := by decide +kernel
theorem dX3_digest_108 : decode cX3_digest 108 = .ok (.iconst 0, 1) := by decide +kernel
theorem dX3_digest_109 : decode cX3_digest 109 = .ok (.istore_n 3, 1) := by decide +kernel
theorem dX3_digest_110 : decode cX3_digest 110 = .ok (.iload_n 3, 1) := by decide +kernel
theorem dX3_digest_111 : decode cX3_digest 111 = .ok (.aload_n 0, 1) := by decide +kernel
theorem dX3_digest_112 : decode cX3_digest 112 = .ok (.getfield 46, 3) := by decide +kernel
theorem dX3_digest_115 : decode cX3_digest 115 = .ok (.getfield 112, 3) := by decide +kernel
theorem dX3_digest_118 : decode cX3_digest 118 = .ok (.if_icmp .ge 47, 3) := by decide +kernel
theorem dX3_digest_121 : decode cX3_digest 121 = .ok (.lload_n 1, 1) := by decide +kernel
theorem dX3_digest_122 : decode cX3_digest 122 = .ok (.aload_n 0, 1) := by decide +kernel
theorem dX3_digest_123 : decode cX3_digest 123 = .ok (.getfield 46, 3) := by decide +kernel
theorem dX3_digest_126 : decode cX3_digest 126 = .ok (.getfield 124, 3) := by decide +kernel
theorem dX3_digest_129 : decode cX3_digest 129 = .ok (.iload_n 3, 1) := by decide +kernel
theorem dX3_digest_130 : decode cX3_digest 130 = .ok (.iaload, 1) := by decide +kernel
theorem dX3_digest_131 : decode cX3_digest 131 = .ok (.invokestatic 167, 3) := by decide +kernel
theorem dX3_digest_134 : decode cX3_digest 134 = .ok (.aload_n 0, 1) := by decide +kernel
theorem dX3_digest_135 : decode cX3_digest 135 = .ok (.getfield 46, 3) := by decide +kernel
theorem dX3_digest_138 : decode cX3_digest 138 = .ok (.getfield 127, 3) := by decide +kernel
theorem dX3_digest_141 : decode cX3_digest 141 = .ok (.iload_n 3, 1) := by decide +kernel
theorem dX3_digest_142 : decode cX3_digest 142 = .ok (.iaload, 1) := by decide +kernel
theorem dX3_digest_143 : decode cX3_digest 143 = .ok (.invokestatic 167, 3) := by decide +kernel
theorem dX3_digest_146 : decode cX3_digest 146 = .ok (.aload_n 0, 1) := by decide +kernel
theorem dX3_digest_147 : decode cX3_digest 147 = .ok (.getfield 46, 3) := by decide +kernel
theorem dX3_digest_150 : decode cX3_digest 150 = .ok (.getfield 133, 3) := by decide +kernel
theorem dX3_digest_153 : decode cX3_digest 153 = .ok (.iload_n 3, 1) := by decide +kernel
theorem dX3_digest_154 : decode cX3_digest 154 = .ok (.iaload, 1) := by decide +kernel
theorem dX3_digest_155 : decode cX3_digest 155 = .ok (.invokestatic 167, 3) := by decide +kernel
theorem dX3_digest_158 : decode cX3_digest 158 = .ok (.lstore_n 1, 1) := by decide +kernel
theorem dX3_digest_159 : decode cX3_digest 159 = .ok (.iinc 3 1, 3) := by decide +kernel
theorem dX3_digest_162 : decode cX3_digest 162 = .ok (.goto (-52), 3) := by decide +kernel
theorem dX3_digest_165 : decode cX3_digest 165 = .ok (.lload_n 1, 1) := by decide +kernel
theorem dX3_digest_166 : decode cX3_digest 166 = .ok (.lreturn, 1) := by decide +kernel
theorem dX3_checkLabel_0 : decode cX3_checkLabel 0 = .ok (.iload_n 0, 1) := by decide +kernel
theorem dX3_checkLabel_1 : decode cX3_checkLabel 1 = .ok (.ifCond .lt 9, 3) := by decide +kernel
theorem dX3_checkLabel_4 : decode cX3_checkLabel 4 = .ok (.iload_n 0, 1) := by decide +kernel
theorem dX3_checkLabel_5 : decode cX3_checkLabel 5 = .ok (.bipush 8, 2) := by decide +kernel
theorem dX3_checkLabel_7 : decode cX3_checkLabel 7 = .ok (.if_icmp .lt 13, 3) := by decide +kernel
theorem dX3_checkLabel_10 : decode cX3_checkLabel 10 = .ok (.new 73, 3) := by decide +kernel
theorem dX3_checkLabel_13 : decode cX3_checkLabel 13 = .ok (.dup, 1) := by decide +kernel
theorem dX3_checkLabel_14 : decode cX3_checkLabel 14 = .ok (.ldc 175, 2) := by decide +kernel
theorem dX3_checkLabel_16 : decode cX3_checkLabel 16 = .ok (.invokespecial 77, 3) := by decide +kernel
theorem dX3_checkLabel_19 : decode cX3_checkLabel 19 = .ok (.athrow, 1) := by decide +kernel
theorem dX3_checkLabel_20 : decode cX3_checkLabel 20 = .ok (.return_, 1) := by decide +kernel
theorem dX3_checkTimes_0 : decode cX3_checkTimes 0 = .ok (.iload_n 0, 1) := by decide +kernel
theorem dX3_checkTimes_1 : decode cX3_checkTimes 1 = .ok (.ifCond .lt 9, 3) := by decide +kernel
theorem dX3_checkTimes_4 : decode cX3_checkTimes 4 = .ok (.iload_n 0, 1) := by decide +kernel
theorem dX3_checkTimes_5 : decode cX3_checkTimes 5 = .ok (.bipush 99, 2) := by decide +kernel
theorem dX3_checkTimes_7 : decode cX3_checkTimes 7 = .ok (.if_icmp .le 13, 3) := by decide +kernel
theorem dX3_checkTimes_10 : decode cX3_checkTimes 10 = .ok (.new 157, 3) := by decide +kernel
theorem dX3_checkTimes_13 : decode cX3_checkTimes 13 = .ok (.dup, 1) := by decide +kernel
theorem dX3_checkTimes_14 : decode cX3_checkTimes 14 = .ok (.ldc 177, 2) := by decide +kernel
theorem dX3_checkTimes_16 : decode cX3_checkTimes 16 = .ok (.invokespecial 161, 3) := by decide +kernel
theorem dX3_checkTimes_19 : decode cX3_checkTimes 19 = .ok (.athrow, 1) := by decide +kernel
theorem dX3_checkTimes_20 : decode cX3_checkTimes 20 = .ok (.return_, 1) := by decide +kernel
theorem dX3_checkTrace_0 : decode cX3_checkTrace 0 = .ok (.iload_n 1, 1) := by decide +kernel
theorem dX3_checkTrace_1 : decode cX3_checkTrace 1 = .ok (.ifCond .lt 11, 3) := by decide +kernel
theorem dX3_checkTrace_4 : decode cX3_checkTrace 4 = .ok (.iload_n 1, 1) := by decide +kernel
theorem dX3_checkTrace_5 : decode cX3_checkTrace 5 = .ok (.aload_n 0, 1) := by decide +kernel
theorem dX3_checkTrace_6 : decode cX3_checkTrace 6 = .ok (.getfield 26, 3) := by decide +kernel
theorem dX3_checkTrace_9 : decode cX3_checkTrace 9 = .ok (.if_icmp .lt 13, 3) := by decide +kernel
theorem dX3_checkTrace_12 : decode cX3_checkTrace 12 = .ok (.new 73, 3) := by decide +kernel
theorem dX3_checkTrace_15 : decode cX3_checkTrace 15 = .ok (.dup, 1) := by decide +kernel
theorem dX3_checkTrace_16 : decode cX3_checkTrace 16 = .ok (.ldc 179, 2) := by decide +kernel
theorem dX3_checkTrace_18 : decode cX3_checkTrace 18 = .ok (.invokespecial 77, 3) := by decide +kernel
theorem dX3_checkTrace_21 : decode cX3_checkTrace 21 = .ok (.athrow, 1) := by decide +kernel
theorem dX3_checkTrace_22 : decode cX3_checkTrace 22 = .ok (.return_, 1) := by decide +kernel
theorem dX3_checkMined_0 : decode cX3_checkMined 0 = .ok (.aload_n 0, 1) := by decide +kernel
theorem dX3_checkMined_1 : decode cX3_checkMined 1 = .ok (.getfield 47, 3) := by decide +kernel
theorem dX3_checkMined_4 : decode cX3_checkMined 4 = .ok (.ifCond .ne 13, 3) := by decide +kernel
theorem dX3_checkMined_7 : decode cX3_checkMined 7 = .ok (.new 56, 3) := by decide +kernel
theorem dX3_checkMined_10 : decode cX3_checkMined 10 = .ok (.dup, 1) := by decide +kernel
theorem dX3_checkMined_11 : decode cX3_checkMined 11 = .ok (.ldc 181, 2) := by decide +kernel
theorem dX3_checkMined_13 : decode cX3_checkMined 13 = .ok (.invokespecial 60, 3) := by decide +kernel
theorem dX3_checkMined_16 : decode cX3_checkMined 16 = .ok (.athrow, 1) := by decide +kernel
theorem dX3_checkMined_17 : decode cX3_checkMined 17 = .ok (.return_, 1) := by decide +kernel
theorem dX3_checkNode_0 : decode cX3_checkNode 0 = .ok (.aload_n 0, 1) := by decide +kernel
theorem dX3_checkNode_1 : decode cX3_checkNode 1 = .ok (.invokevirtual 146, 3) := by decide +kernel
theorem dX3_checkNode_4 : decode cX3_checkNode 4 = .ok (.iload_n 1, 1) := by decide +kernel
theorem dX3_checkNode_5 : decode cX3_checkNode 5 = .ok (.ifCond .lt 14, 3) := by decide +kernel
theorem dX3_checkNode_8 : decode cX3_checkNode 8 = .ok (.iload_n 1, 1) := by decide +kernel
theorem dX3_checkNode_9 : decode cX3_checkNode 9 = .ok (.aload_n 0, 1) := by decide +kernel
theorem dX3_checkNode_10 : decode cX3_checkNode 10 = .ok (.getfield 46, 3) := by decide +kernel
theorem dX3_checkNode_13 : decode cX3_checkNode 13 = .ok (.getfield 112, 3) := by decide +kernel
theorem dX3_checkNode_16 : decode cX3_checkNode 16 = .ok (.if_icmp .lt 13, 3) := by decide +kernel
theorem dX3_checkNode_19 : decode cX3_checkNode 19 = .ok (.new 73, 3) := by decide +kernel
theorem dX3_checkNode_22 : decode cX3_checkNode 22 = .ok (.dup, 1) := by decide +kernel
theorem dX3_checkNode_23 : decode cX3_checkNode 23 = .ok (.ldc 183, 2) := by decide +kernel
theorem dX3_checkNode_25 : decode cX3_checkNode 25 = .ok (.invokespecial 77, 3) := by decide +kernel
theorem dX3_checkNode_28 : decode cX3_checkNode 28 = .ok (.athrow, 1) := by decide +kernel
theorem dX3_checkNode_29 : decode cX3_checkNode 29 = .ok (.return_, 1) := by decide +kernel
theorem dX3_contains_0 : decode cX3_contains 0 = .ok (.iload_n 0, 1) := by decide +kernel
theorem dX3_contains_1 : decode cX3_contains 1 = .ok (.iload_n 1, 1) := by decide +kernel
theorem dX3_contains_2 : decode cX3_contains 2 = .ok (.ishr, 1) := by decide +kernel
theorem dX3_contains_3 : decode cX3_contains 3 = .ok (.iconst 1, 1) := by decide +kernel
theorem dX3_contains_4 : decode cX3_contains 4 = .ok (.iand, 1) := by decide +kernel
theorem dX3_contains_5 : decode cX3_contains 5 = .ok (.ifCond .eq 7, 3) := by decide +kernel
theorem dX3_contains_8 : decode cX3_contains 8 = .ok (.iconst 1, 1) := by decide +kernel
theorem dX3_contains_9 : decode cX3_contains 9 = .ok (.goto 4, 3) := by decide +kernel
theorem dX3_contains_12 : decode cX3_contains 12 = .ok (.iconst 0, 1) := by decide +kernel
theorem dX3_contains_13 : decode cX3_contains 13 = .ok (.ireturn, 1) := by decide +kernel
theorem dX3_countPairs_0 : decode cX3_countPairs 0 = .ok (.iload_n 1, 1) := by decide +kernel
theorem dX3_countPairs_1 : decode cX3_countPairs 1 = .ok (.bipush 12, 2) := by decide +kernel
theorem dX3_countPairs_3 : decode cX3_countPairs 3 = .ok (.imul, 1) := by decide +kernel
theorem dX3_countPairs_4 : decode cX3_countPairs 4 = .ok (.istore 4, 2) := by decide +kernel
theorem dX3_countPairs_6 : decode cX3_countPairs 6 = .ok (.iconst 0, 1) := by decide +kernel
theorem dX3_countPairs_7 : decode cX3_countPairs 7 = .ok (.istore 5, 2) := by decide +kernel
theorem dX3_countPairs_9 : decode cX3_countPairs 9 = .ok (.iconst 1, 1) := by decide +kernel
theorem dX3_countPairs_10 : decode cX3_countPairs 10 = .ok (.istore 6, 2) := by decide +kernel
theorem dX3_countPairs_12 : decode cX3_countPairs 12 = .ok (.iload 6, 2) := by decide +kernel
theorem dX3_countPairs_14 : decode cX3_countPairs 14 = .ok (.aload_n 0, 1) := by decide +kernel
theorem dX3_countPairs_15 : decode cX3_countPairs 15 = .ok (.getfield 20, 3) := by decide +kernel
theorem dX3_countPairs_18 : decode cX3_countPairs 18 = .ok (.iload_n 1, 1) := by decide +kernel
theorem dX3_countPairs_19 : decode cX3_countPairs 19 = .ok (.iaload, 1) := by decide +kernel
theorem dX3_countPairs_20 : decode cX3_countPairs 20 = .ok (.if_icmp .ge 42, 3) := by decide +kernel
theorem dX3_countPairs_23 : decode cX3_countPairs 23 = .ok (.aload_n 0, 1) := by decide +kernel
theorem dX3_countPairs_24 : decode cX3_countPairs 24 = .ok (.getfield 17, 3) := by decide +kernel
theorem dX3_countPairs_27 : decode cX3_countPairs 27 = .ok (.iload 4, 2) := by decide +kernel
theorem dX3_countPairs_29 : decode cX3_countPairs 29 = .ok (.iload 6, 2) := by decide +kernel
theorem dX3_countPairs_31 : decode cX3_countPairs 31 = .ok (.iadd, 1) := by decide +kernel
theorem dX3_countPairs_32 : decode cX3_countPairs 32 = .ok (.iconst 1, 1) := by decide +kernel
theorem dX3_countPairs_33 : decode cX3_countPairs 33 = .ok (.isub, 1) := by decide +kernel
theorem dX3_countPairs_34 : decode cX3_countPairs 34 = .ok (.iaload, 1) := by decide +kernel
theorem dX3_countPairs_35 : decode cX3_countPairs 35 = .ok (.iload_n 2, 1) := by decide +kernel
theorem dX3_countPairs_36 : decode cX3_countPairs 36 = .ok (.if_icmp .ne 20, 3) := by decide +kernel
theorem dX3_countPairs_39 : decode cX3_countPairs 39 = .ok (.aload_n 0, 1) := by decide +kernel
theorem dX3_countPairs_40 : decode cX3_countPairs 40 = .ok (.getfield 17, 3) := by decide +kernel
theorem dX3_countPairs_43 : decode cX3_countPairs 43 = .ok (.iload 4, 2) := by decide +kernel
theorem dX3_countPairs_45 : decode cX3_countPairs 45 = .ok (.iload 6, 2) := by decide +kernel
theorem dX3_countPairs_47 : decode cX3_countPairs 47 = .ok (.iadd, 1) := by decide +kernel
theorem dX3_countPairs_48 : decode cX3_countPairs 48 = .ok (.iaload, 1) := by decide +kernel
theorem dX3_countPairs_49 : decode cX3_countPairs 49 = .ok (.iload_n 3, 1) := by decide +kernel
theorem dX3_countPairs_50 : decode cX3_countPairs 50 = .ok (.if_icmp .ne 6, 3) := by decide +kernel
theorem dX3_countPairs_53 : decode cX3_countPairs 53 = .ok (.iinc 5 1, 3) := by decide +kernel
theorem dX3_countPairs_56 : decode cX3_countPairs 56 = .ok (.iinc 6 1, 3) := by decide +kernel
theorem dX3_countPairs_59 : decode cX3_countPairs 59 = .ok (.goto (-47), 3) := by decide +kernel
theorem dX3_countPairs_62 : decode cX3_countPairs 62 = .ok (.iload 5, 2) := by decide +kernel
theorem dX3_countPairs_64 : decode cX3_countPairs 64 = .ok (.ireturn, 1) := by decide +kernel
theorem dX3_isRepeated_0 : decode cX3_isRepeated 0 = .ok (.iconst 0, 1) := by decide +kernel
theorem dX3_isRepeated_1 : decode cX3_isRepeated 1 = .ok (.istore_n 2, 1) := by decide +kernel
theorem dX3_isRepeated_2 : decode cX3_isRepeated 2 = .ok (.iload_n 2, 1) := by decide +kernel
theorem dX3_isRepeated_3 : decode cX3_isRepeated 3 = .ok (.iload_n 1, 1) := by decide +kernel
theorem dX3_isRepeated_4 : decode cX3_isRepeated 4 = .ok (.if_icmp .ge 29, 3) := by decide +kernel
theorem dX3_isRepeated_7 : decode cX3_isRepeated 7 = .ok (.aload_n 0, 1) := by decide +kernel
theorem dX3_isRepeated_8 : decode cX3_isRepeated 8 = .ok (.getfield 23, 3) := by decide +kernel
theorem dX3_isRepeated_11 : decode cX3_isRepeated 11 = .ok (.iload_n 2, 1) := by decide +kernel
theorem dX3_isRepeated_12 : decode cX3_isRepeated 12 = .ok (.iaload, 1) := by decide +kernel
theorem dX3_isRepeated_13 : decode cX3_isRepeated 13 = .ok (.ifCond .le 14, 3) := by decide +kernel
theorem dX3_isRepeated_16 : decode cX3_isRepeated 16 = .ok (.aload_n 0, 1) := by decide +kernel
theorem dX3_isRepeated_17 : decode cX3_isRepeated 17 = .ok (.iload_n 2, 1) := by decide +kernel
theorem dX3_isRepeated_18 : decode cX3_isRepeated 18 = .ok (.iload_n 1, 1) := by decide +kernel
theorem dX3_isRepeated_19 : decode cX3_isRepeated 19 = .ok (.invokevirtual 185, 3) := by decide +kernel
theorem dX3_isRepeated_22 : decode cX3_isRepeated 22 = .ok (.ifCond .eq 5, 3) := by decide +kernel
theorem dX3_isRepeated_25 : decode cX3_isRepeated 25 = .ok (.iconst 1, 1) := by decide +kernel
theorem dX3_isRepeated_26 : decode cX3_isRepeated 26 = .ok (.ireturn, 1) := by decide +kernel
theorem dX3_isRepeated_27 : decode cX3_isRepeated 27 = .ok (.iinc 2 1, 3) := by decide +kernel
theorem dX3_isRepeated_30 : decode cX3_isRepeated 30 = .ok (.goto (-28), 3) := by decide +kernel
theorem dX3_isRepeated_33 : decode cX3_isRepeated 33 = .ok (.iconst 0, 1) := by decide +kernel
theorem dX3_isRepeated_34 : decode cX3_isRepeated 34 = .ok (.ireturn, 1) := by decide +kernel
theorem dX3_isSame_0 : decode cX3_isSame 0 = .ok (.aload_n 0, 1) := by decide +kernel
theorem dX3_isSame_1 : decode cX3_isSame 1 = .ok (.getfield 20, 3) := by decide +kernel
theorem dX3_isSame_4 : decode cX3_isSame 4 = .ok (.iload_n 1, 1) := by decide +kernel
theorem dX3_isSame_5 : decode cX3_isSame 5 = .ok (.iaload, 1) := by decide +kernel
theorem dX3_isSame_6 : decode cX3_isSame 6 = .ok (.aload_n 0, 1) := by decide +kernel
theorem dX3_isSame_7 : decode cX3_isSame 7 = .ok (.getfield 20, 3) := by decide +kernel
theorem dX3_isSame_10 : decode cX3_isSame 10 = .ok (.iload_n 2, 1) := by decide +kernel
theorem dX3_isSame_11 : decode cX3_isSame 11 = .ok (.iaload, 1) := by decide +kernel
theorem dX3_isSame_12 : decode cX3_isSame 12 = .ok (.if_icmp .eq 5, 3) := by decide +kernel
theorem dX3_isSame_15 : decode cX3_isSame 15 = .ok (.iconst 0, 1) := by decide +kernel
theorem dX3_isSame_16 : decode cX3_isSame 16 = .ok (.ireturn, 1) := by decide +kernel
theorem dX3_isSame_17 : decode cX3_isSame 17 = .ok (.iconst 0, 1) := by decide +kernel
theorem dX3_isSame_18 : decode cX3_isSame 18 = .ok (.istore_n 3, 1) := by decide +kernel
theorem dX3_isSame_19 : decode cX3_isSame 19 = .ok (.iload_n 3, 1) := by decide +kernel
theorem dX3_isSame_20 : decode cX3_isSame 20 = .ok (.aload_n 0, 1) := by decide +kernel
theorem dX3_isSame_21 : decode cX3_isSame 21 = .ok (.getfield 20, 3) := by decide +kernel
theorem dX3_isSame_24 : decode cX3_isSame 24 = .ok (.iload_n 1, 1) := by decide +kernel
theorem dX3_isSame_25 : decode cX3_isSame 25 = .ok (.iaload, 1) := by decide +kernel
theorem dX3_isSame_26 : decode cX3_isSame 26 = .ok (.if_icmp .ge 36, 3) := by decide +kernel
theorem dX3_isSame_29 : decode cX3_isSame 29 = .ok (.aload_n 0, 1) := by decide +kernel
theorem dX3_isSame_30 : decode cX3_isSame 30 = .ok (.getfield 17, 3) := by decide +kernel
theorem dX3_isSame_33 : decode cX3_isSame 33 = .ok (.iload_n 1, 1) := by decide +kernel
theorem dX3_isSame_34 : decode cX3_isSame 34 = .ok (.bipush 12, 2) := by decide +kernel
theorem dX3_isSame_36 : decode cX3_isSame 36 = .ok (.imul, 1) := by decide +kernel
theorem dX3_isSame_37 : decode cX3_isSame 37 = .ok (.iload_n 3, 1) := by decide +kernel
theorem dX3_isSame_38 : decode cX3_isSame 38 = .ok (.iadd, 1) := by decide +kernel
theorem dX3_isSame_39 : decode cX3_isSame 39 = .ok (.iaload, 1) := by decide +kernel
theorem dX3_isSame_40 : decode cX3_isSame 40 = .ok (.aload_n 0, 1) := by decide +kernel
theorem dX3_isSame_41 : decode cX3_isSame 41 = .ok (.getfield 17, 3) := by decide +kernel
theorem dX3_isSame_44 : decode cX3_isSame 44 = .ok (.iload_n 2, 1) := by decide +kernel
theorem dX3_isSame_45 : decode cX3_isSame 45 = .ok (.bipush 12, 2) := by decide +kernel
theorem dX3_isSame_47 : decode cX3_isSame 47 = .ok (.imul, 1) := by decide +kernel
theorem dX3_isSame_48 : decode cX3_isSame 48 = .ok (.iload_n 3, 1) := by decide +kernel
theorem dX3_isSame_49 : decode cX3_isSame 49 = .ok (.iadd, 1) := by decide +kernel
theorem dX3_isSame_50 : decode cX3_isSame 50 = .ok (.iaload, 1) := by decide +kernel
theorem dX3_isSame_51 : decode cX3_isSame 51 = .ok (.if_icmp .eq 5, 3) := by decide +kernel
theorem dX3_isSame_54 : decode cX3_isSame 54 = .ok (.iconst 0, 1) := by decide +kernel
theorem dX3_isSame_55 : decode cX3_isSame 55 = .ok (.ireturn, 1) := by decide +kernel
theorem dX3_isSame_56 : decode cX3_isSame 56 = .ok (.iinc 3 1, 3) := by decide +kernel
theorem dX3_isSame_59 : decode cX3_isSame 59 = .ok (.goto (-40), 3) := by decide +kernel
theorem dX3_isSame_62 : decode cX3_isSame 62 = .ok (.iconst 1, 1) := by decide +kernel
theorem dX3_isSame_63 : decode cX3_isSame 63 = .ok (.ireturn, 1) := by decide +kernel
theorem dX3_addTo_0 : decode cX3_addTo 0 = .ok (.lload_n 0, 1) := by decide +kernel
theorem dX3_addTo_1 : decode cX3_addTo 1 = .ok (.ldc2_w 188, 3) := by decide +kernel
theorem dX3_addTo_4 : decode cX3_addTo 4 = .ok (.lmul, 1) := by decide +kernel
theorem dX3_addTo_5 : decode cX3_addTo 5 = .ok (.iload_n 2, 1) := by decide +kernel
theorem dX3_addTo_6 : decode cX3_addTo 6 = .ok (.i2l, 1) := by decide +kernel
theorem dX3_addTo_7 : decode cX3_addTo 7 = .ok (.ladd, 1) := by decide +kernel
theorem dX3_addTo_8 : decode cX3_addTo 8 = .ok (.lreturn, 1) := by decide +kernel
theorem dX3_digestRow_0 : decode cX3_digestRow 0 = .ok (.lload_n 0, 1) := by decide +kernel
theorem dX3_digestRow_1 : decode cX3_digestRow 1 = .ok (.lstore 5, 2) := by decide +kernel
theorem dX3_digestRow_3 : decode cX3_digestRow 3 = .ok (.iconst 0, 1) := by decide +kernel
theorem dX3_digestRow_4 : decode cX3_digestRow 4 = .ok (.istore 7, 2) := by decide +kernel
theorem dX3_digestRow_6 : decode cX3_digestRow 6 = .ok (.iload 7, 2) := by decide +kernel
theorem dX3_digestRow_8 : decode cX3_digestRow 8 = .ok (.iload 4, 2) := by decide +kernel
theorem dX3_digestRow_10 : decode cX3_digestRow 10 = .ok (.if_icmp .ge 22, 3) := by decide +kernel
theorem dX3_digestRow_13 : decode cX3_digestRow 13 = .ok (.lload 5, 2) := by decide +kernel
theorem dX3_digestRow_15 : decode cX3_digestRow 15 = .ok (.aload_n 2, 1) := by decide +kernel
theorem dX3_digestRow_16 : decode cX3_digestRow 16 = .ok (.iload_n 3, 1) := by decide +kernel
theorem dX3_digestRow_17 : decode cX3_digestRow 17 = .ok (.iload 7, 2) := by decide +kernel
theorem dX3_digestRow_19 : decode cX3_digestRow 19 = .ok (.iadd, 1) := by decide +kernel
theorem dX3_digestRow_20 : decode cX3_digestRow 20 = .ok (.iaload, 1) := by decide +kernel
theorem dX3_digestRow_21 : decode cX3_digestRow 21 = .ok (.invokestatic 167, 3) := by decide +kernel
theorem dX3_digestRow_24 : decode cX3_digestRow 24 = .ok (.lstore 5, 2) := by decide +kernel
theorem dX3_digestRow_26 : decode cX3_digestRow 26 = .ok (.iinc 7 1, 3) := by decide +kernel
theorem dX3_digestRow_29 : decode cX3_digestRow 29 = .ok (.goto (-23), 3) := by decide +kernel
theorem dX3_digestRow_32 : decode cX3_digestRow 32 = .ok (.lload 5, 2) := by decide +kernel
theorem dX3_digestRow_34 : decode cX3_digestRow 34 = .ok (.lreturn, 1) := by decide +kernel
theorem dX3_readLog_0 : decode cX3_readLog 0 = .ok (.aload_n 0, 1) := by decide +kernel
theorem dX3_readLog_1 : decode cX3_readLog 1 = .ok (.getfield 31, 3) := by decide +kernel
theorem dX3_readLog_4 : decode cX3_readLog 4 = .ok (.iconst 0, 1) := by decide +kernel
theorem dX3_readLog_5 : decode cX3_readLog 5 = .ok (.aaload, 1) := by decide +kernel
theorem dX3_readLog_6 : decode cX3_readLog 6 = .ok (.astore_n 1, 1) := by decide +kernel
theorem dX3_readLog_7 : decode cX3_readLog 7 = .ok (.aload_n 1, 1) := by decide +kernel
theorem dX3_readLog_8 : decode cX3_readLog 8 = .ok (.invokevirtual 190, 3) := by decide +kernel
theorem dX3_readLog_11 : decode cX3_readLog 11 = .ok (.iconst 0, 1) := by decide +kernel
theorem dX3_readLog_12 : decode cX3_readLog 12 = .ok (.istore_n 2, 1) := by decide +kernel
theorem dX3_readLog_13 : decode cX3_readLog 13 = .ok (.iload_n 2, 1) := by decide +kernel
theorem dX3_readLog_14 : decode cX3_readLog 14 = .ok (.aload_n 0, 1) := by decide +kernel
theorem dX3_readLog_15 : decode cX3_readLog 15 = .ok (.getfield 26, 3) := by decide +kernel
theorem dX3_readLog_18 : decode cX3_readLog 18 = .ok (.if_icmp .ge 55, 3) := by decide +kernel
theorem dX3_readLog_21 : decode cX3_readLog 21 = .ok (.aload_n 0, 1) := by decide +kernel
theorem dX3_readLog_22 : decode cX3_readLog 22 = .ok (.getfield 23, 3) := by decide +kernel
theorem dX3_readLog_25 : decode cX3_readLog 25 = .ok (.iload_n 2, 1) := by decide +kernel
theorem dX3_readLog_26 : decode cX3_readLog 26 = .ok (.iaload, 1) := by decide +kernel
theorem dX3_readLog_27 : decode cX3_readLog 27 = .ok (.ifCond .le 40, 3) := by decide +kernel
theorem dX3_readLog_30 : decode cX3_readLog 30 = .ok (.iconst 0, 1) := by decide +kernel
theorem dX3_readLog_31 : decode cX3_readLog 31 = .ok (.istore_n 3, 1) := by decide +kernel
theorem dX3_readLog_32 : decode cX3_readLog 32 = .ok (.iload_n 3, 1) := by decide +kernel
theorem dX3_readLog_33 : decode cX3_readLog 33 = .ok (.aload_n 0, 1) := by decide +kernel
theorem dX3_readLog_34 : decode cX3_readLog 34 = .ok (.getfield 20, 3) := by decide +kernel
theorem dX3_readLog_37 : decode cX3_readLog 37 = .ok (.iload_n 2, 1) := by decide +kernel
theorem dX3_readLog_38 : decode cX3_readLog 38 = .ok (.iaload, 1) := by decide +kernel
theorem dX3_readLog_39 : decode cX3_readLog 39 = .ok (.if_icmp .ge 24, 3) := by decide +kernel
theorem dX3_readLog_42 : decode cX3_readLog 42 = .ok (.aload_n 1, 1) := by decide +kernel
theorem dX3_readLog_43 : decode cX3_readLog 43 = .ok (.aload_n 0, 1) := by decide +kernel
theorem dX3_readLog_44 : decode cX3_readLog 44 = .ok (.getfield 17, 3) := by decide +kernel
theorem dX3_readLog_47 : decode cX3_readLog 47 = .ok (.iload_n 2, 1) := by decide +kernel
theorem dX3_readLog_48 : decode cX3_readLog 48 = .ok (.bipush 12, 2) := by decide +kernel
theorem dX3_readLog_50 : decode cX3_readLog 50 = .ok (.imul, 1) := by decide +kernel
theorem dX3_readLog_51 : decode cX3_readLog 51 = .ok (.iload_n 3, 1) := by decide +kernel
theorem dX3_readLog_52 : decode cX3_readLog 52 = .ok (.iadd, 1) := by decide +kernel
theorem dX3_readLog_53 : decode cX3_readLog 53 = .ok (.iaload, 1) := by decide +kernel
theorem dX3_readLog_54 : decode cX3_readLog 54 = .ok (.invokevirtual 193, 3) := by decide +kernel
theorem dX3_readLog_57 : decode cX3_readLog 57 = .ok (.iinc 3 1, 3) := by decide +kernel
theorem dX3_readLog_60 : decode cX3_readLog 60 = .ok (.goto (-28), 3) := by decide +kernel
theorem dX3_readLog_63 : decode cX3_readLog 63 = .ok (.aload_n 1, 1) := by decide +kernel
theorem dX3_readLog_64 : decode cX3_readLog 64 = .ok (.invokevirtual 196, 3) := by decide +kernel
theorem dX3_readLog_67 : decode cX3_readLog 67 = .ok (.iinc 2 1, 3) := by decide +kernel
theorem dX3_readLog_70 : decode cX3_readLog 70 = .ok (.goto (-57), 3) := by decide +kernel
theorem dX3_readLog_73 : decode cX3_readLog 73 = .ok (.aload_n 1, 1) := by decide +kernel
theorem dX3_readLog_74 : decode cX3_readLog 74 = .ok (.invokevirtual 199, 3) := by decide +kernel
theorem dX3_readLog_77 : decode cX3_readLog 77 = .ok (.aload_n 1, 1) := by decide +kernel
theorem dX3_readLog_78 : decode cX3_readLog 78 = .ok (.areturn, 1) := by decide +kernel
theorem dX3_grow_0 : decode cX3_grow 0 = .ok (.iload_n 2, 1) := by decide +kernel
theorem dX3_grow_1 : decode cX3_grow 1 = .ok (.ifCond .lt 9, 3) := by decide +kernel
theorem dX3_grow_4 : decode cX3_grow 4 = .ok (.iload_n 2, 1) := by decide +kernel
theorem dX3_grow_5 : decode cX3_grow 5 = .ok (.aload_n 0, 1) := by decide +kernel
theorem dX3_grow_6 : decode cX3_grow 6 = .ok (.arraylength, 1) := by decide +kernel
theorem dX3_grow_7 : decode cX3_grow 7 = .ok (.if_icmp .lt 4, 3) := by decide +kernel
theorem dX3_grow_10 : decode cX3_grow 10 = .ok (.return_, 1) := by decide +kernel
theorem dX3_grow_11 : decode cX3_grow 11 = .ok (.aload_n 0, 1) := by decide +kernel
theorem dX3_grow_12 : decode cX3_grow 12 = .ok (.iload_n 2, 1) := by decide +kernel
theorem dX3_grow_13 : decode cX3_grow 13 = .ok (.aaload, 1) := by decide +kernel
theorem dX3_grow_14 : decode cX3_grow 14 = .ok (.astore 4, 2) := by decide +kernel
theorem dX3_grow_16 : decode cX3_grow 16 = .ok (.aload 4, 2) := by decide +kernel
theorem dX3_grow_18 : decode cX3_grow 18 = .ok (.invokevirtual 202, 3) := by decide +kernel
theorem dX3_grow_21 : decode cX3_grow 21 = .ok (.istore 5, 2) := by decide +kernel
theorem dX3_grow_23 : decode cX3_grow 23 = .ok (.aload_n 1, 1) := by decide +kernel
theorem dX3_grow_24 : decode cX3_grow 24 = .ok (.iload 5, 2) := by decide +kernel
theorem dX3_grow_26 : decode cX3_grow 26 = .ok (.aload 4, 2) := by decide +kernel
theorem dX3_grow_28 : decode cX3_grow 28 = .ok (.getfield 82, 3) := by decide +kernel
theorem dX3_grow_31 : decode cX3_grow 31 = .ok (.iload_n 3, 1) := by decide +kernel
theorem dX3_grow_32 : decode cX3_grow 32 = .ok (.invokevirtual 205, 3) := by decide +kernel
theorem dX3_grow_35 : decode cX3_grow 35 = .ok (.istore 6, 2) := by decide +kernel
theorem dX3_grow_37 : decode cX3_grow 37 = .ok (.iload 5, 2) := by decide +kernel
theorem dX3_grow_39 : decode cX3_grow 39 = .ok (.iconst 2, 1) := by decide +kernel
theorem dX3_grow_40 : decode cX3_grow 40 = .ok (.if_icmp .ne 20, 3) := by decide +kernel
theorem dX3_grow_43 : decode cX3_grow 43 = .ok (.aload 4, 2) := by decide +kernel
theorem dX3_grow_45 : decode cX3_grow 45 = .ok (.getfield 208, 3) := by decide +kernel
theorem dX3_grow_48 : decode cX3_grow 48 = .ok (.ifCond .eq 12, 3) := by decide +kernel
theorem dX3_grow_51 : decode cX3_grow 51 = .ok (.aload_n 1, 1) := by decide +kernel
theorem dX3_grow_52 : decode cX3_grow 52 = .ok (.iconst 0, 1) := by decide +kernel
theorem dX3_grow_53 : decode cX3_grow 53 = .ok (.iconst 0, 1) := by decide +kernel
theorem dX3_grow_54 : decode cX3_grow 54 = .ok (.iload 6, 2) := by decide +kernel
theorem dX3_grow_56 : decode cX3_grow 56 = .ok (.invokevirtual 205, 3) := by decide +kernel
theorem dX3_grow_59 : decode cX3_grow 59 = .ok (.pop, 1) := by decide +kernel
theorem dX3_grow_60 : decode cX3_grow 60 = .ok (.iload 5, 2) := by decide +kernel
theorem dX3_grow_62 : decode cX3_grow 62 = .ok (.iconst 5, 1) := by decide +kernel
theorem dX3_grow_63 : decode cX3_grow 63 = .ok (.if_icmp .ne 33, 3) := by decide +kernel
theorem dX3_grow_66 : decode cX3_grow 66 = .ok (.aload 4, 2) := by decide +kernel
theorem dX3_grow_68 : decode cX3_grow 68 = .ok (.getfield 211, 3) := by decide +kernel
theorem dX3_grow_71 : decode cX3_grow 71 = .ok (.ifCond .ne 25, 3) := by decide +kernel
theorem dX3_grow_74 : decode cX3_grow 74 = .ok (.aload_n 1, 1) := by decide +kernel
theorem dX3_grow_75 : decode cX3_grow 75 = .ok (.iconst 1, 1) := by decide +kernel
theorem dX3_grow_76 : decode cX3_grow 76 = .ok (.aload 4, 2) := by decide +kernel
theorem dX3_grow_78 : decode cX3_grow 78 = .ok (.getfield 82, 3) := by decide +kernel
theorem dX3_grow_81 : decode cX3_grow 81 = .ok (.iload 6, 2) := by decide +kernel
theorem dX3_grow_83 : decode cX3_grow 83 = .ok (.invokevirtual 205, 3) := by decide +kernel
theorem dX3_grow_86 : decode cX3_grow 86 = .ok (.pop, 1) := by decide +kernel
theorem dX3_grow_87 : decode cX3_grow 87 = .ok (.aload_n 1, 1) := by decide +kernel
theorem dX3_grow_88 : decode cX3_grow 88 = .ok (.iconst 0, 1) := by decide +kernel
theorem dX3_grow_89 : decode cX3_grow 89 = .ok (.iconst 0, 1) := by decide +kernel
theorem dX3_grow_90 : decode cX3_grow 90 = .ok (.iload 6, 2) := by decide +kernel
theorem dX3_grow_92 : decode cX3_grow 92 = .ok (.invokevirtual 205, 3) := by decide +kernel
theorem dX3_grow_95 : decode cX3_grow 95 = .ok (.pop, 1) := by decide +kernel
theorem dX3_grow_96 : decode cX3_grow 96 = .ok (.iconst 0, 1) := by decide +kernel
theorem dX3_grow_97 : decode cX3_grow 97 = .ok (.istore 7, 2) := by decide +kernel
theorem dX3_grow_99 : decode cX3_grow 99 = .ok (.iload 7, 2) := by decide +kernel
theorem dX3_grow_101 : decode cX3_grow 101 = .ok (.aload 4, 2) := by decide +kernel
theorem dX3_grow_103 : decode cX3_grow 103 = .ok (.getfield 211, 3) := by decide +kernel
theorem dX3_grow_106 : decode cX3_grow 106 = .ok (.if_icmp .ge 47, 3) := by decide +kernel
theorem dX3_grow_109 : decode cX3_grow 109 = .ok (.iload_n 2, 1) := by decide +kernel
theorem dX3_grow_110 : decode cX3_grow 110 = .ok (.iconst 1, 1) := by decide +kernel
theorem dX3_grow_111 : decode cX3_grow 111 = .ok (.iadd, 1) := by decide +kernel
theorem dX3_grow_112 : decode cX3_grow 112 = .ok (.aload_n 0, 1) := by decide +kernel
theorem dX3_grow_113 : decode cX3_grow 113 = .ok (.arraylength, 1) := by decide +kernel
theorem dX3_grow_114 : decode cX3_grow 114 = .ok (.if_icmp .ge 33, 3) := by decide +kernel
theorem dX3_grow_117 : decode cX3_grow 117 = .ok (.aload_n 0, 1) := by decide +kernel
theorem dX3_grow_118 : decode cX3_grow 118 = .ok (.iload_n 2, 1) := by decide +kernel
theorem dX3_grow_119 : decode cX3_grow 119 = .ok (.iconst 1, 1) := by decide +kernel
theorem dX3_grow_120 : decode cX3_grow 120 = .ok (.iadd, 1) := by decide +kernel
theorem dX3_grow_121 : decode cX3_grow 121 = .ok (.aaload, 1) := by decide +kernel
theorem dX3_grow_122 : decode cX3_grow 122 = .ok (.aload 4, 2) := by decide +kernel
theorem dX3_grow_124 : decode cX3_grow 124 = .ok (.aload 4, 2) := by decide +kernel
theorem dX3_grow_126 : decode cX3_grow 126 = .ok (.getfield 214, 3) := by decide +kernel
theorem dX3_grow_129 : decode cX3_grow 129 = .ok (.iload 7, 2) := by decide +kernel
theorem dX3_grow_131 : decode cX3_grow 131 = .ok (.iaload, 1) := by decide +kernel
theorem dX3_grow_132 : decode cX3_grow 132 = .ok (.iload 5, 2) := by decide +kernel
theorem dX3_grow_134 : decode cX3_grow 134 = .ok (.invokevirtual 217, 3) := by decide +kernel
theorem dX3_grow_137 : decode cX3_grow 137 = .ok (.aload_n 0, 1) := by decide +kernel
theorem dX3_grow_138 : decode cX3_grow 138 = .ok (.aload_n 1, 1) := by decide +kernel
theorem dX3_grow_139 : decode cX3_grow 139 = .ok (.iload_n 2, 1) := by decide +kernel
theorem dX3_grow_140 : decode cX3_grow 140 = .ok (.iconst 1, 1) := by decide +kernel
theorem dX3_grow_141 : decode cX3_grow 141 = .ok (.iadd, 1) := by decide +kernel
theorem dX3_grow_142 : decode cX3_grow 142 = .ok (.iload 6, 2) := by decide +kernel
theorem dX3_grow_144 : decode cX3_grow 144 = .ok (.invokestatic 117, 3) := by decide +kernel
theorem dX3_grow_147 : decode cX3_grow 147 = .ok (.iinc 7 1, 3) := by decide +kernel
theorem dX3_grow_150 : decode cX3_grow 150 = .ok (.goto (-51), 3) := by decide +kernel
theorem dX3_grow_153 : decode cX3_grow 153 = .ok (.return_, 1) := by decide +kernel

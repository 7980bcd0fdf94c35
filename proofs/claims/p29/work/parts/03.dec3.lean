theorem dX3_init_0 : decode cX3_init 0 = .ok (.aload_n 0, 1) := by decide +kernel
theorem dX3_init_1 : decode cX3_init 1 = .ok (.invokespecial 3, 3) := by decide +kernel
theorem dX3_init_4 : decode cX3_init 4 = .ok (.aload_n 0, 1) := by decide +kernel
theorem dX3_init_5 : decode cX3_init 5 = .ok (.bipush 12, 2) := by decide +kernel
theorem dX3_init_7 : decode cX3_init 7 = .ok (.newarray .int, 2) := by decide +kernel
theorem dX3_init_9 : decode cX3_init 9 = .ok (.putfield 9, 3) := by decide +kernel
theorem dX3_init_12 : decode cX3_init 12 = .ok (.aload_n 0, 1) := by decide +kernel
theorem dX3_init_13 : decode cX3_init 13 = .ok (.iconst 0, 1) := by decide +kernel
theorem dX3_init_14 : decode cX3_init 14 = .ok (.putfield 13, 3) := by decide +kernel
theorem dX3_init_17 : decode cX3_init 17 = .ok (.aload_n 0, 1) := by decide +kernel
theorem dX3_init_18 : decode cX3_init 18 = .ok (.bipush 120, 2) := by decide +kernel
theorem dX3_init_20 : decode cX3_init 20 = .ok (.newarray .int, 2) := by decide +kernel
theorem dX3_init_22 : decode cX3_init 22 = .ok (.putfield 17, 3) := by decide +kernel
theorem dX3_init_25 : decode cX3_init 25 = .ok (.aload_n 0, 1) := by decide +kernel
theorem dX3_init_26 : decode cX3_init 26 = .ok (.bipush 10, 2) := by decide +kernel
theorem dX3_init_28 : decode cX3_init 28 = .ok (.newarray .int, 2) := by decide +kernel
theorem dX3_init_30 : decode cX3_init 30 = .ok (.putfield 20, 3) := by decide +kernel
theorem dX3_init_33 : decode cX3_init 33 = .ok (.aload_n 0, 1) := by decide +kernel
theorem dX3_init_34 : decode cX3_init 34 = .ok (.bipush 10, 2) := by decide +kernel
theorem dX3_init_36 : decode cX3_init 36 = .ok (.newarray .int, 2) := by decide +kernel
theorem dX3_init_38 : decode cX3_init 38 = .ok (.putfield 23, 3) := by decide +kernel
theorem dX3_init_41 : decode cX3_init 41 = .ok (.aload_n 0, 1) := by decide +kernel
theorem dX3_init_42 : decode cX3_init 42 = .ok (.iconst 0, 1) := by decide +kernel
theorem dX3_init_43 : decode cX3_init 43 = .ok (.putfield 26, 3) := by decide +kernel
theorem dX3_init_46 : decode cX3_init 46 = .ok (.aload_n 0, 1) := by decide +kernel
theorem dX3_init_47 : decode cX3_init 47 = .ok (.bipush 16, 2) := by decide +kernel
theorem dX3_init_49 : decode cX3_init 49 = .ok (.anewarray 29, 3) := by decide +kernel
theorem dX3_init_52 : decode cX3_init 52 = .ok (.putfield 31, 3) := by decide +kernel
theorem dX3_init_55 : decode cX3_init 55 = .ok (.aload_n 0, 1) := by decide +kernel
theorem dX3_init_56 : decode cX3_init 56 = .ok (.new 35, 3) := by decide +kernel
theorem dX3_init_59 : decode cX3_init 59 = .ok (.dup, 1) := by decide +kernel
theorem dX3_init_60 : decode cX3_init 60 = .ok (.invokespecial 37, 3) := by decide +kernel
theorem dX3_init_63 : decode cX3_init 63 = .ok (.putfield 38, 3) := by decide +kernel
theorem dX3_init_66 : decode cX3_init 66 = .ok (.aload_n 0, 1) := by decide +kernel
theorem dX3_init_67 : decode cX3_init 67 = .ok (.aload_n 0, 1) := by decide +kernel
theorem dX3_init_68 : decode cX3_init 68 = .ok (.getfield 38, 3) := by decide +kernel
theorem dX3_init_71 : decode cX3_init 71 = .ok (.getfield 42, 3) := by decide +kernel
theorem dX3_init_74 : decode cX3_init 74 = .ok (.putfield 46, 3) := by decide +kernel
theorem dX3_init_77 : decode cX3_init 77 = .ok (.aload_n 0, 1) := by decide +kernel
theorem dX3_init_78 : decode cX3_init 78 = .ok (.iconst 0, 1) := by decide +kernel
theorem dX3_init_79 : decode cX3_init 79 = .ok (.putfield 47, 3) := by decide +kernel
theorem dX3_init_82 : decode cX3_init 82 = .ok (.iconst 0, 1) := by decide +kernel
theorem dX3_init_83 : decode cX3_init 83 = .ok (.istore_n 1, 1) := by decide +kernel
theorem dX3_init_84 : decode cX3_init 84 = .ok (.iload_n 1, 1) := by decide +kernel
theorem dX3_init_85 : decode cX3_init 85 = .ok (.bipush 16, 2) := by decide +kernel
theorem dX3_init_87 : decode cX3_init 87 = .ok (.if_icmp .ge 22, 3) := by decide +kernel
theorem dX3_init_90 : decode cX3_init 90 = .ok (.aload_n 0, 1) := by decide +kernel
theorem dX3_init_91 : decode cX3_init 91 = .ok (.getfield 31, 3) := by decide +kernel
theorem dX3_init_94 : decode cX3_init 94 = .ok (.iload_n 1, 1) := by decide +kernel
theorem dX3_init_95 : decode cX3_init 95 = .ok (.new 29, 3) := by decide +kernel
theorem dX3_init_98 : decode cX3_init 98 = .ok (.dup, 1) := by decide +kernel
theorem dX3_init_99 : decode cX3_init 99 = .ok (.invokespecial 51, 3) := by decide +kernel
theorem dX3_init_102 : decode cX3_init 102 = .ok (.aastore, 1) := by decide +kernel
theorem dX3_init_103 : decode cX3_init 103 = .ok (.iinc 1 1, 3) := by decide +kernel
theorem dX3_init_106 : decode cX3_init 106 = .ok (.goto (-22), 3) := by decide +kernel
theorem dX3_init_109 : decode cX3_init 109 = .ok (.return_, 1) := by decide +kernel
theorem dX3_event_0 : decode cX3_event 0 = .ok (.iload_n 1, 1) := by decide +kernel
theorem dX3_event_1 : decode cX3_event 1 = .ok (.invokestatic 52, 3) := by decide +kernel
theorem dX3_event_4 : decode cX3_event 4 = .ok (.aload_n 0, 1) := by decide +kernel
theorem dX3_event_5 : decode cX3_event 5 = .ok (.getfield 13, 3) := by decide +kernel
theorem dX3_event_8 : decode cX3_event 8 = .ok (.bipush 12, 2) := by decide +kernel
theorem dX3_event_10 : decode cX3_event 10 = .ok (.if_icmp .lt 13, 3) := by decide +kernel
theorem dX3_event_13 : decode cX3_event 13 = .ok (.new 56, 3) := by decide +kernel
theorem dX3_event_16 : decode cX3_event 16 = .ok (.dup, 1) := by decide +kernel
theorem dX3_event_17 : decode cX3_event 17 = .ok (.ldc 58, 2) := by decide +kernel
theorem dX3_event_19 : decode cX3_event 19 = .ok (.invokespecial 60, 3) := by decide +kernel
theorem dX3_event_22 : decode cX3_event 22 = .ok (.athrow, 1) := by decide +kernel
theorem dX3_event_23 : decode cX3_event 23 = .ok (.aload_n 0, 1) := by decide +kernel
theorem dX3_event_24 : decode cX3_event 24 = .ok (.getfield 9, 3) := by decide +kernel
theorem dX3_event_27 : decode cX3_event 27 = .ok (.aload_n 0, 1) := by decide +kernel
theorem dX3_event_28 : decode cX3_event 28 = .ok (.getfield 13, 3) := by decide +kernel
theorem dX3_event_31 : decode cX3_event 31 = .ok (.iload_n 1, 1) := by decide +kernel
theorem dX3_event_32 : decode cX3_event 32 = .ok (.iastore, 1) := by decide +kernel
theorem dX3_event_33 : decode cX3_event 33 = .ok (.aload_n 0, 1) := by decide +kernel
theorem dX3_event_34 : decode cX3_event 34 = .ok (.dup, 1) := by decide +kernel
theorem dX3_event_35 : decode cX3_event 35 = .ok (.getfield 13, 3) := by decide +kernel
theorem dX3_event_38 : decode cX3_event 38 = .ok (.iconst 1, 1) := by decide +kernel
theorem dX3_event_39 : decode cX3_event 39 = .ok (.iadd, 1) := by decide +kernel
theorem dX3_event_40 : decode cX3_event 40 = .ok (.putfield 13, 3) := by decide +kernel
theorem dX3_event_43 : decode cX3_event 43 = .ok (.aload_n 0, 1) := by decide +kernel
theorem dX3_event_44 : decode cX3_event 44 = .ok (.getfield 13, 3) := by decide +kernel
theorem dX3_event_47 : decode cX3_event 47 = .ok (.ireturn, 1) := by decide +kernel
theorem dX3_endTrace_0 : decode cX3_endTrace 0 = .ok (.iload_n 1, 1) := by decide +kernel
theorem dX3_endTrace_1 : decode cX3_endTrace 1 = .ok (.invokestatic 63, 3) := by decide +kernel
theorem dX3_endTrace_4 : decode cX3_endTrace 4 = .ok (.aload_n 0, 1) := by decide +kernel
theorem dX3_endTrace_5 : decode cX3_endTrace 5 = .ok (.getfield 26, 3) := by decide +kernel
theorem dX3_endTrace_8 : decode cX3_endTrace 8 = .ok (.bipush 10, 2) := by decide +kernel
theorem dX3_endTrace_10 : decode cX3_endTrace 10 = .ok (.if_icmp .lt 13, 3) := by decide +kernel
theorem dX3_endTrace_13 : decode cX3_endTrace 13 = .ok (.new 56, 3) := by decide +kernel
theorem dX3_endTrace_16 : decode cX3_endTrace 16 = .ok (.dup, 1) := by decide +kernel
theorem dX3_endTrace_17 : decode cX3_endTrace 17 = .ok (.ldc 66, 2) := by decide +kernel
theorem dX3_endTrace_19 : decode cX3_endTrace 19 = .ok (.invokespecial 60, 3) := by decide +kernel
theorem dX3_endTrace_22 : decode cX3_endTrace 22 = .ok (.athrow, 1) := by decide +kernel
theorem dX3_endTrace_23 : decode cX3_endTrace 23 = .ok (.aload_n 0, 1) := by decide +kernel
theorem dX3_endTrace_24 : decode cX3_endTrace 24 = .ok (.getfield 26, 3) := by decide +kernel
theorem dX3_endTrace_27 : decode cX3_endTrace 27 = .ok (.istore_n 2, 1) := by decide +kernel
theorem dX3_endTrace_28 : decode cX3_endTrace 28 = .ok (.iconst 0, 1) := by decide +kernel
theorem dX3_endTrace_29 : decode cX3_endTrace 29 = .ok (.istore_n 3, 1) := by decide +kernel
theorem dX3_endTrace_30 : decode cX3_endTrace 30 = .ok (.iload_n 3, 1) := by decide +kernel
theorem dX3_endTrace_31 : decode cX3_endTrace 31 = .ok (.aload_n 0, 1) := by decide +kernel
theorem dX3_endTrace_32 : decode cX3_endTrace 32 = .ok (.getfield 13, 3) := by decide +kernel
theorem dX3_endTrace_35 : decode cX3_endTrace 35 = .ok (.if_icmp .ge 26, 3) := by decide +kernel
theorem dX3_endTrace_38 : decode cX3_endTrace 38 = .ok (.aload_n 0, 1) := by decide +kernel
theorem dX3_endTrace_39 : decode cX3_endTrace 39 = .ok (.getfield 17, 3) := by decide +kernel
theorem dX3_endTrace_42 : decode cX3_endTrace 42 = .ok (.iload_n 2, 1) := by decide +kernel
theorem dX3_endTrace_43 : decode cX3_endTrace 43 = .ok (.bipush 12, 2) := by decide +kernel
theorem dX3_endTrace_45 : decode cX3_endTrace 45 = .ok (.imul, 1) := by decide +kernel
theorem dX3_endTrace_46 : decode cX3_endTrace 46 = .ok (.iload_n 3, 1) := by decide +kernel
theorem dX3_endTrace_47 : decode cX3_endTrace 47 = .ok (.iadd, 1) := by decide +kernel
theorem dX3_endTrace_48 : decode cX3_endTrace 48 = .ok (.aload_n 0, 1) := by decide +kernel
theorem dX3_endTrace_49 : decode cX3_endTrace 49 = .ok (.getfield 9, 3) := by decide +kernel
theorem dX3_endTrace_52 : decode cX3_endTrace 52 = .ok (.iload_n 3, 1) := by decide +kernel
theorem dX3_endTrace_53 : decode cX3_endTrace 53 = .ok (.iaload, 1) := by decide +kernel
theorem dX3_endTrace_54 : decode cX3_endTrace 54 = .ok (.iastore, 1) := by decide +kernel
theorem dX3_endTrace_55 : decode cX3_endTrace 55 = .ok (.iinc 3 1, 3) := by decide +kernel
theorem dX3_endTrace_58 : decode cX3_endTrace 58 = .ok (.goto (-28), 3) := by decide +kernel
theorem dX3_endTrace_61 : decode cX3_endTrace 61 = .ok (.aload_n 0, 1) := by decide +kernel
theorem dX3_endTrace_62 : decode cX3_endTrace 62 = .ok (.getfield 20, 3) := by decide +kernel
theorem dX3_endTrace_65 : decode cX3_endTrace 65 = .ok (.iload_n 2, 1) := by decide +kernel
theorem dX3_endTrace_66 : decode cX3_endTrace 66 = .ok (.aload_n 0, 1) := by decide +kernel
theorem dX3_endTrace_67 : decode cX3_endTrace 67 = .ok (.getfield 13, 3) := by decide +kernel
theorem dX3_endTrace_70 : decode cX3_endTrace 70 = .ok (.iastore, 1) := by decide +kernel
theorem dX3_endTrace_71 : decode cX3_endTrace 71 = .ok (.aload_n 0, 1) := by decide +kernel
theorem dX3_endTrace_72 : decode cX3_endTrace 72 = .ok (.getfield 23, 3) := by decide +kernel
theorem dX3_endTrace_75 : decode cX3_endTrace 75 = .ok (.iload_n 2, 1) := by decide +kernel
theorem dX3_endTrace_76 : decode cX3_endTrace 76 = .ok (.iload_n 1, 1) := by decide +kernel
theorem dX3_endTrace_77 : decode cX3_endTrace 77 = .ok (.iastore, 1) := by decide +kernel
theorem dX3_endTrace_78 : decode cX3_endTrace 78 = .ok (.aload_n 0, 1) := by decide +kernel
theorem dX3_endTrace_79 : decode cX3_endTrace 79 = .ok (.dup, 1) := by decide +kernel
theorem dX3_endTrace_80 : decode cX3_endTrace 80 = .ok (.getfield 26, 3) := by decide +kernel
theorem dX3_endTrace_83 : decode cX3_endTrace 83 = .ok (.iconst 1, 1) := by decide +kernel
theorem dX3_endTrace_84 : decode cX3_endTrace 84 = .ok (.iadd, 1) := by decide +kernel
theorem dX3_endTrace_85 : decode cX3_endTrace 85 = .ok (.putfield 26, 3) := by decide +kernel
theorem dX3_endTrace_88 : decode cX3_endTrace 88 = .ok (.aload_n 0, 1) := by decide +kernel
theorem dX3_endTrace_89 : decode cX3_endTrace 89 = .ok (.iconst 0, 1) := by decide +kernel
theorem dX3_endTrace_90 : decode cX3_endTrace 90 = .ok (.putfield 13, 3) := by decide +kernel
theorem dX3_endTrace_93 : decode cX3_endTrace 93 = .ok (.aload_n 0, 1) := by decide +kernel
theorem dX3_endTrace_94 : decode cX3_endTrace 94 = .ok (.iconst 0, 1) := by decide +kernel
theorem dX3_endTrace_95 : decode cX3_endTrace 95 = .ok (.putfield 47, 3) := by decide +kernel
theorem dX3_endTrace_98 : decode cX3_endTrace 98 = .ok (.iload_n 2, 1) := by decide +kernel
theorem dX3_endTrace_99 : decode cX3_endTrace 99 = .ok (.ireturn, 1) := by decide +kernel
theorem dX3_traceCount_0 : decode cX3_traceCount 0 = .ok (.aload_n 0, 1) := by decide +kernel
theorem dX3_traceCount_1 : decode cX3_traceCount 1 = .ok (.getfield 26, 3) := by decide +kernel
theorem dX3_traceCount_4 : decode cX3_traceCount 4 = .ok (.ireturn, 1) := by decide +kernel
theorem dX3_labels_0 : decode cX3_labels 0 = .ok (.aload_n 0, 1) := by decide +kernel
theorem dX3_labels_1 : decode cX3_labels 1 = .ok (.invokevirtual 78, 3) := by decide +kernel
theorem dX3_labels_4 : decode cX3_labels 4 = .ok (.getfield 82, 3) := by decide +kernel
theorem dX3_labels_7 : decode cX3_labels 7 = .ok (.ireturn, 1) := by decide +kernel
theorem dX3_mine_0 : decode cX3_mine 0 = .ok (.aload_n 0, 1) := by decide +kernel
theorem dX3_mine_1 : decode cX3_mine 1 = .ok (.getfield 47, 3) := by decide +kernel
theorem dX3_mine_4 : decode cX3_mine 4 = .ok (.ifCond .ne 34, 3) := by decide +kernel
theorem dX3_mine_7 : decode cX3_mine 7 = .ok (.aload_n 0, 1) := by decide +kernel
theorem dX3_mine_8 : decode cX3_mine 8 = .ok (.invokevirtual 78, 3) := by decide +kernel
theorem dX3_mine_11 : decode cX3_mine 11 = .ok (.pop, 1) := by decide +kernel
theorem dX3_mine_12 : decode cX3_mine 12 = .ok (.aload_n 0, 1) := by decide +kernel
theorem dX3_mine_13 : decode cX3_mine 13 = .ok (.getfield 46, 3) := by decide +kernel
theorem dX3_mine_16 : decode cX3_mine 16 = .ok (.iconst 0, 1) := by decide +kernel
theorem dX3_mine_17 : decode cX3_mine 17 = .ok (.putfield 112, 3) := by decide +kernel
theorem dX3_mine_20 : decode cX3_mine 20 = .ok (.aload_n 0, 1) := by decide +kernel
theorem dX3_mine_21 : decode cX3_mine 21 = .ok (.getfield 31, 3) := by decide +kernel
theorem dX3_mine_24 : decode cX3_mine 24 = .ok (.aload_n 0, 1) := by decide +kernel
theorem dX3_mine_25 : decode cX3_mine 25 = .ok (.getfield 46, 3) := by decide +kernel
theorem dX3_mine_28 : decode cX3_mine 28 = .ok (.iconst 0, 1) := by decide +kernel
theorem dX3_mine_29 : decode cX3_mine 29 = .ok (.iconst (-1), 1) := by decide +kernel
theorem dX3_mine_30 : decode cX3_mine 30 = .ok (.invokestatic 117, 3) := by decide +kernel
theorem dX3_mine_33 : decode cX3_mine 33 = .ok (.aload_n 0, 1) := by decide +kernel
theorem dX3_mine_34 : decode cX3_mine 34 = .ok (.iconst 1, 1) := by decide +kernel
theorem dX3_mine_35 : decode cX3_mine 35 = .ok (.putfield 47, 3) := by decide +kernel
theorem dX3_mine_38 : decode cX3_mine 38 = .ok (.aload_n 0, 1) := by decide +kernel
theorem dX3_mine_39 : decode cX3_mine 39 = .ok (.getfield 46, 3) := by decide +kernel
theorem dX3_mine_42 : decode cX3_mine 42 = .ok (.getfield 112, 3) := by decide +kernel
theorem dX3_mine_45 : decode cX3_mine 45 = .ok (.ireturn, 1) := by decide +kernel
theorem dX3_kind_0 : decode cX3_kind 0 = .ok (.aload_n 0, 1) := by decide +kernel
theorem dX3_kind_1 : decode cX3_kind 1 = .ok (.iload_n 1, 1) := by decide +kernel
theorem dX3_kind_2 : decode cX3_kind 2 = .ok (.invokevirtual 121, 3) := by decide +kernel
theorem dX3_kind_5 : decode cX3_kind 5 = .ok (.aload_n 0, 1) := by decide +kernel
theorem dX3_kind_6 : decode cX3_kind 6 = .ok (.getfield 46, 3) := by decide +kernel
theorem dX3_kind_9 : decode cX3_kind 9 = .ok (.getfield 124, 3) := by decide +kernel
theorem dX3_kind_12 : decode cX3_kind 12 = .ok (.iload_n 1, 1) := by decide +kernel
theorem dX3_kind_13 : decode cX3_kind 13 = .ok (.iaload, 1) := by decide +kernel
theorem dX3_kind_14 : decode cX3_kind 14 = .ok (.ireturn, 1) := by decide +kernel
theorem dX3_labelsOf_0 : decode cX3_labelsOf 0 = .ok (.aload_n 0, 1) := by decide +kernel
theorem dX3_labelsOf_1 : decode cX3_labelsOf 1 = .ok (.iload_n 1, 1) := by decide +kernel
theorem dX3_labelsOf_2 : decode cX3_labelsOf 2 = .ok (.invokevirtual 121, 3) := by decide +kernel
theorem dX3_labelsOf_5 : decode cX3_labelsOf 5 = .ok (.aload_n 0, 1) := by decide +kernel
theorem dX3_labelsOf_6 : decode cX3_labelsOf 6 = .ok (.getfield 46, 3) := by decide +kernel
theorem dX3_labelsOf_9 : decode cX3_labelsOf 9 = .ok (.getfield 127, 3) := by decide +kernel
theorem dX3_labelsOf_12 : decode cX3_labelsOf 12 = .ok (.iload_n 1, 1) := by decide +kernel
theorem dX3_labelsOf_13 : decode cX3_labelsOf 13 = .ok (.iaload, 1) := by decide +kernel
theorem dX3_labelsOf_14 : decode cX3_labelsOf 14 = .ok (.ireturn, 1) := by decide +kernel
theorem dX3_shortest_0 : decode cX3_shortest 0 = .ok (.aload_n 0, 1) := by decide +kernel
theorem dX3_shortest_1 : decode cX3_shortest 1 = .ok (.iload_n 1, 1) := by decide +kernel
theorem dX3_shortest_2 : decode cX3_shortest 2 = .ok (.invokevirtual 121, 3) := by decide +kernel
theorem dX3_shortest_5 : decode cX3_shortest 5 = .ok (.aload_n 0, 1) := by decide +kernel
theorem dX3_shortest_6 : decode cX3_shortest 6 = .ok (.getfield 46, 3) := by decide +kernel
theorem dX3_shortest_9 : decode cX3_shortest 9 = .ok (.iload_n 1, 1) := by decide +kernel
theorem dX3_shortest_10 : decode cX3_shortest 10 = .ok (.invokevirtual 142, 3) := by decide +kernel
theorem dX3_shortest_13 : decode cX3_shortest 13 = .ok (.ireturn, 1) := by decide +kernel
theorem dX3_accepts_0 : decode cX3_accepts 0 = .ok (.aload_n 0, 1) := by decide +kernel
theorem dX3_accepts_1 : decode cX3_accepts 1 = .ok (.invokevirtual 146, 3) := by decide +kernel
theorem dX3_accepts_4 : decode cX3_accepts 4 = .ok (.aload_n 0, 1) := by decide +kernel
theorem dX3_accepts_5 : decode cX3_accepts 5 = .ok (.iload_n 1, 1) := by decide +kernel
theorem dX3_accepts_6 : decode cX3_accepts 6 = .ok (.invokevirtual 68, 3) := by decide +kernel
theorem dX3_accepts_9 : decode cX3_accepts 9 = .ok (.aload_n 0, 1) := by decide +kernel
theorem dX3_accepts_10 : decode cX3_accepts 10 = .ok (.getfield 38, 3) := by decide +kernel
theorem dX3_accepts_13 : decode cX3_accepts 13 = .ok (.aload_n 0, 1) := by decide +kernel
theorem dX3_accepts_14 : decode cX3_accepts 14 = .ok (.getfield 17, 3) := by decide +kernel
theorem dX3_accepts_17 : decode cX3_accepts 17 = .ok (.iload_n 1, 1) := by decide +kernel
theorem dX3_accepts_18 : decode cX3_accepts 18 = .ok (.bipush 12, 2) := by decide +kernel
theorem dX3_accepts_20 : decode cX3_accepts 20 = .ok (.imul, 1) := by decide +kernel
theorem dX3_accepts_21 : decode cX3_accepts 21 = .ok (.aload_n 0, 1) := by decide +kernel
theorem dX3_accepts_22 : decode cX3_accepts 22 = .ok (.getfield 20, 3) := by decide +kernel
theorem dX3_accepts_25 : decode cX3_accepts 25 = .ok (.iload_n 1, 1) := by decide +kernel
theorem dX3_accepts_26 : decode cX3_accepts 26 = .ok (.iaload, 1) := by decide +kernel
theorem dX3_accepts_27 : decode cX3_accepts 27 = .ok (.invokevirtual 153, 3) := by decide +kernel
theorem dX3_accepts_30 : decode cX3_accepts 30 = .ok (.ireturn, 1) := by decide +kernel
theorem dX3_fitness_0 : decode cX3_fitness 0 = .ok (.aload_n 0, 1) := by decide +kernel
theorem dX3_fitness_1 : decode cX3_fitness 1 = .ok (.invokevirtual 146, 3) := by decide +kernel
theorem dX3_fitness_4 : decode cX3_fitness 4 = .ok (.aload_n 0, 1) := by decide +kernel
theorem dX3_fitness_5 : decode cX3_fitness 5 = .ok (.getfield 26, 3) := by decide +kernel
theorem dX3_fitness_8 : decode cX3_fitness 8 = .ok (.ifCond .ne 5, 3) := by decide +kernel
theorem dX3_fitness_11 : decode cX3_fitness 11 = .ok (.dconst 1, 1) := by decide +kernel
theorem dX3_fitness_12 : decode cX3_fitness 12 = .ok (.dreturn, 1) := by decide +kernel
theorem dX3_fitness_13 : decode cX3_fitness 13 = .ok (.iconst 0, 1) := by decide +kernel
theorem dX3_fitness_14 : decode cX3_fitness 14 = .ok (.istore_n 1, 1) := by decide +kernel
theorem dX3_fitness_15 : decode cX3_fitness 15 = .ok (.iconst 0, 1) := by decide +kernel
theorem dX3_fitness_16 : decode cX3_fitness 16 = .ok (.istore_n 2, 1) := by decide +kernel
theorem dX3_fitness_17 : decode cX3_fitness 17 = .ok (.iload_n 2, 1) := by decide +kernel
theorem dX3_fitness_18 : decode cX3_fitness 18 = .ok (.aload_n 0, 1) := by decide +kernel
theorem dX3_fitness_19 : decode cX3_fitness 19 = .ok (.getfield 26, 3) := by decide +kernel
theorem dX3_fitness_22 : decode cX3_fitness 22 = .ok (.if_icmp .ge 36, 3) := by decide +kernel
theorem dX3_fitness_25 : decode cX3_fitness 25 = .ok (.aload_n 0, 1) := by decide +kernel
theorem dX3_fitness_26 : decode cX3_fitness 26 = .ok (.getfield 38, 3) := by decide +kernel
theorem dX3_fitness_29 : decode cX3_fitness 29 = .ok (.aload_n 0, 1) := by decide +kernel
theorem dX3_fitness_30 : decode cX3_fitness 30 = .ok (.getfield 17, 3) := by decide +kernel
theorem dX3_fitness_33 : decode cX3_fitness 33 = .ok (.iload_n 2, 1) := by decide +kernel
theorem dX3_fitness_34 : decode cX3_fitness 34 = .ok (.bipush 12, 2) := by decide +kernel
theorem dX3_fitness_36 : decode cX3_fitness 36 = .ok (.imul, 1) := by decide +kernel
theorem dX3_fitness_37 : decode cX3_fitness 37 = .ok (.aload_n 0, 1) := by decide +kernel
theorem dX3_fitness_38 : decode cX3_fitness 38 = .ok (.getfield 20, 3) := by decide +kernel
theorem dX3_fitness_41 : decode cX3_fitness 41 = .ok (.iload_n 2, 1) := by decide +kernel
theorem dX3_fitness_42 : decode cX3_fitness 42 = .ok (.iaload, 1) := by decide +kernel
theorem dX3_fitness_43 : decode cX3_fitness 43 = .ok (.invokevirtual 153, 3) := by decide +kernel
theorem dX3_fitness_46 : decode cX3_fitness 46 = .ok (.ifCond .eq 6, 3) := by decide +kernel
theorem dX3_fitness_49 : decode cX3_fitness 49 = .ok (.iinc 1 1, 3) := by decide +kernel
theorem dX3_fitness_52 : decode cX3_fitness 52 = .ok (.iinc 2 1, 3) := by decide +kernel
theorem dX3_fitness_55 : decode cX3_fitness 55 = .ok (.goto (-38), 3) := by decide +kernel
theorem dX3_fitness_58 : decode cX3_fitness 58 = .ok (.iload_n 1, 1) := by decide +kernel
theorem dX3_fitness_59 : decode cX3_fitness 59 = .ok (.i2d, 1) := by decide +kernel
theorem dX3_fitness_60 : decode cX3_fitness 60 = .ok (.aload_n 0, 1) := by decide +kernel
theorem dX3_fitness_61 : decode cX3_fitness 61 = .ok (.getfield 26, 3) := by decide +kernel
theorem dX3_fitness_64 : decode cX3_fitness 64 = .ok (.i2d, 1) := by decide +kernel
theorem dX3_fitness_65 : decode cX3_fitness 65 = .ok (.ddiv, 1) := by decide +kernel
theorem dX3_fitness_66 : decode cX3_fitness 66 = .ok (.dreturn, 1) := by decide +kernel
theorem dX3_words_0 : decode cX3_words 0 = .ok (.aload_n 0, 1) := by decide +kernel
theorem dX3_words_1 : decode cX3_words 1 = .ok (.invokevirtual 146, 3) := by decide +kernel
theorem dX3_words_4 : decode cX3_words 4 = .ok (.iload_n 1, 1) := by decide +kernel
theorem dX3_words_5 : decode cX3_words 5 = .ok (.ifCond .lt 8, 3) := by decide +kernel
theorem dX3_words_8 : decode cX3_words 8 = .ok (.iload_n 1, 1) := by decide +kernel
theorem dX3_words_9 : decode cX3_words 9 = .ok (.iconst 3, 1) := by decide +kernel
theorem dX3_words_10 : decode cX3_words 10 = .ok (.if_icmp .le 13, 3) := by decide +kernel
theorem dX3_words_13 : decode cX3_words 13 = .ok (.new 157, 3) := by decide +kernel
theorem dX3_words_16 : decode cX3_words 16 = .ok (.dup, 1) := by decide +kernel
theorem dX3_words_17 : decode cX3_words 17 = .ok (.ldc 159, 2) := by decide +kernel
theorem dX3_words_19 : decode cX3_words 19 = .ok (.invokespecial 161, 3) := by decide +kernel
theorem dX3_words_22 : decode cX3_words 22 = .ok (.athrow, 1) := by decide +kernel
theorem dX3_words_23 : decode cX3_words 23 = .ok (.aload_n 0, 1) := by decide +kernel
theorem dX3_words_24 : decode cX3_words 24 = .ok (.getfield 38, 3) := by decide +kernel
theorem dX3_words_27 : decode cX3_words 27 = .ok (.iload_n 1, 1) := by decide +kernel
theorem dX3_words_28 : decode cX3_words 28 = .ok (.invokevirtual 162, 3) := by decide +kernel
theorem dX3_words_31 : decode cX3_words 31 = .ok (.ireturn, 1) := by decide +kernel
theorem dX3_checkLabel_0 : decode cX3_checkLabel 0 = .ok (.iload_n 0, 1) := by decide +kernel
theorem dX3_checkLabel_1 : decode cX3_checkLabel 1 = .ok (.ifCond .lt 9, 3) := by decide +kernel
theorem dX3_checkLabel_4 : decode cX3_checkLabel 4 = .ok (.iload_n 0, 1) := by decide +kernel
theorem dX3_checkLabel_5 : decode cX3_checkLabel 5 = .ok (.bipush 8, 2) := by decide +kernel
theorem dX3_checkLabel_7 : decode cX3_checkLabel 7 = .ok (.if_icmp .lt 13, 3) := by decide +kernel
theorem dX3_checkLabel_10 : decode cX3_checkLabel 10 = .ok (.new 73, 3) := by decide +kernel
theorem dX3_checkLabel_13 : decode cX3_checkLabel 13 = .ok (.dup, 1) := by decide +kernel
theorem dX3_checkLabel_14 : decode cX3_checkLabel 14 = .ok (.ldc 175, 2) := by decide +kernel
theorem dX3_checkLabel_16 : decode cX3_checkLabel 16 = .ok (.invokespecial 77, 3) := by decide +kernel
theorem dX3_checkLabel_19 : decode cX3_checkLabel 19 = .ok (.athrow, 1) := by decide +kernel
theorem dX3_checkLabel_20 : decode cX3_checkLabel 20 = .ok (.return_, 1) := by decide +kernel
theorem dX3_checkTimes_0 : decode cX3_checkTimes 0 = .ok (.iload_n 0, 1) := by decide +kernel
theorem dX3_checkTimes_1 : decode cX3_checkTimes 1 = .ok (.ifCond .lt 9, 3) := by decide +kernel
theorem dX3_checkTimes_4 : decode cX3_checkTimes 4 = .ok (.iload_n 0, 1) := by decide +kernel
theorem dX3_checkTimes_5 : decode cX3_checkTimes 5 = .ok (.bipush 99, 2) := by decide +kernel
theorem dX3_checkTimes_7 : decode cX3_checkTimes 7 = .ok (.if_icmp .le 13, 3) := by decide +kernel
theorem dX3_checkTimes_10 : decode cX3_checkTimes 10 = .ok (.new 157, 3) := by decide +kernel
theorem dX3_checkTimes_13 : decode cX3_checkTimes 13 = .ok (.dup, 1) := by decide +kernel
theorem dX3_checkTimes_14 : decode cX3_checkTimes 14 = .ok (.ldc 177, 2) := by decide +kernel
theorem dX3_checkTimes_16 : decode cX3_checkTimes 16 = .ok (.invokespecial 161, 3) := by decide +kernel
theorem dX3_checkTimes_19 : decode cX3_checkTimes 19 = .ok (.athrow, 1) := by decide +kernel
theorem dX3_checkTimes_20 : decode cX3_checkTimes 20 = .ok (.return_, 1) := by decide +kernel
theorem dX3_checkTrace_0 : decode cX3_checkTrace 0 = .ok (.iload_n 1, 1) := by decide +kernel
theorem dX3_checkTrace_1 : decode cX3_checkTrace 1 = .ok (.ifCond .lt 11, 3) := by decide +kernel
theorem dX3_checkTrace_4 : decode cX3_checkTrace 4 = .ok (.iload_n 1, 1) := by decide +kernel
theorem dX3_checkTrace_5 : decode cX3_checkTrace 5 = .ok (.aload_n 0, 1) := by decide +kernel
theorem dX3_checkTrace_6 : decode cX3_checkTrace 6 = .ok (.getfield 26, 3) := by decide +kernel
theorem dX3_checkTrace_9 : decode cX3_checkTrace 9 = .ok (.if_icmp .lt 13, 3) := by decide +kernel
theorem dX3_checkTrace_12 : decode cX3_checkTrace 12 = .ok (.new 73, 3) := by decide +kernel
theorem dX3_checkTrace_15 : decode cX3_checkTrace 15 = .ok (.dup, 1) := by decide +kernel
theorem dX3_checkTrace_16 : decode cX3_checkTrace 16 = .ok (.ldc 179, 2) := by decide +kernel
theorem dX3_checkTrace_18 : decode cX3_checkTrace 18 = .ok (.invokespecial 77, 3) := by decide +kernel
theorem dX3_checkTrace_21 : decode cX3_checkTrace 21 = .ok (.athrow, 1) := by decide +kernel
theorem dX3_checkTrace_22 : decode cX3_checkTrace 22 = .ok (.return_, 1) := by decide +kernel
theorem dX3_checkMined_0 : decode cX3_checkMined 0 = .ok (.aload_n 0, 1) := by decide +kernel
theorem dX3_checkMined_1 : decode cX3_checkMined 1 = .ok (.getfield 47, 3) := by decide +kernel
theorem dX3_checkMined_4 : decode cX3_checkMined 4 = .ok (.ifCond .ne 13, 3) := by decide +kernel
theorem dX3_checkMined_7 : decode cX3_checkMined 7 = .ok (.new 56, 3) := by decide +kernel
theorem dX3_checkMined_10 : decode cX3_checkMined 10 = .ok (.dup, 1) := by decide +kernel
theorem dX3_checkMined_11 : decode cX3_checkMined 11 = .ok (.ldc 181, 2) := by decide +kernel
theorem dX3_checkMined_13 : decode cX3_checkMined 13 = .ok (.invokespecial 60, 3) := by decide +kernel
theorem dX3_checkMined_16 : decode cX3_checkMined 16 = .ok (.athrow, 1) := by decide +kernel
theorem dX3_checkMined_17 : decode cX3_checkMined 17 = .ok (.return_, 1) := by decide +kernel
theorem dX3_checkNode_0 : decode cX3_checkNode 0 = .ok (.aload_n 0, 1) := by decide +kernel
theorem dX3_checkNode_1 : decode cX3_checkNode 1 = .ok (.invokevirtual 146, 3) := by decide +kernel
theorem dX3_checkNode_4 : decode cX3_checkNode 4 = .ok (.iload_n 1, 1) := by decide +kernel
theorem dX3_checkNode_5 : decode cX3_checkNode 5 = .ok (.ifCond .lt 14, 3) := by decide +kernel
theorem dX3_checkNode_8 : decode cX3_checkNode 8 = .ok (.iload_n 1, 1) := by decide +kernel
theorem dX3_checkNode_9 : decode cX3_checkNode 9 = .ok (.aload_n 0, 1) := by decide +kernel
theorem dX3_checkNode_10 : decode cX3_checkNode 10 = .ok (.getfield 46, 3) := by decide +kernel
theorem dX3_checkNode_13 : decode cX3_checkNode 13 = .ok (.getfield 112, 3) := by decide +kernel
theorem dX3_checkNode_16 : decode cX3_checkNode 16 = .ok (.if_icmp .lt 13, 3) := by decide +kernel
theorem dX3_checkNode_19 : decode cX3_checkNode 19 = .ok (.new 73, 3) := by decide +kernel
theorem dX3_checkNode_22 : decode cX3_checkNode 22 = .ok (.dup, 1) := by decide +kernel
theorem dX3_checkNode_23 : decode cX3_checkNode 23 = .ok (.ldc 183, 2) := by decide +kernel
theorem dX3_checkNode_25 : decode cX3_checkNode 25 = .ok (.invokespecial 77, 3) := by decide +kernel
theorem dX3_checkNode_28 : decode cX3_checkNode 28 = .ok (.athrow, 1) := by decide +kernel
theorem dX3_checkNode_29 : decode cX3_checkNode 29 = .ok (.return_, 1) := by decide +kernel
theorem dX3_contains_0 : decode cX3_contains 0 = .ok (.iload_n 0, 1) := by decide +kernel
theorem dX3_contains_1 : decode cX3_contains 1 = .ok (.iload_n 1, 1) := by decide +kernel
theorem dX3_contains_2 : decode cX3_contains 2 = .ok (.ishr, 1) := by decide +kernel
theorem dX3_contains_3 : decode cX3_contains 3 = .ok (.iconst 1, 1) := by decide +kernel
theorem dX3_contains_4 : decode cX3_contains 4 = .ok (.iand, 1) := by decide +kernel
theorem dX3_contains_5 : decode cX3_contains 5 = .ok (.ifCond .eq 7, 3) := by decide +kernel
theorem dX3_contains_8 : decode cX3_contains 8 = .ok (.iconst 1, 1) := by decide +kernel
theorem dX3_contains_9 : decode cX3_contains 9 = .ok (.goto 4, 3) := by decide +kernel
theorem dX3_contains_12 : decode cX3_contains 12 = .ok (.iconst 0, 1) := by decide +kernel
theorem dX3_contains_13 : decode cX3_contains 13 = .ok (.ireturn, 1) := by decide +kernel
theorem dX3_readLog_0 : decode cX3_readLog 0 = .ok (.aload_n 0, 1) := by decide +kernel
theorem dX3_readLog_1 : decode cX3_readLog 1 = .ok (.getfield 31, 3) := by decide +kernel
theorem dX3_readLog_4 : decode cX3_readLog 4 = .ok (.iconst 0, 1) := by decide +kernel
theorem dX3_readLog_5 : decode cX3_readLog 5 = .ok (.aaload, 1) := by decide +kernel
theorem dX3_readLog_6 : decode cX3_readLog 6 = .ok (.astore_n 1, 1) := by decide +kernel
theorem dX3_readLog_7 : decode cX3_readLog 7 = .ok (.aload_n 1, 1) := by decide +kernel
theorem dX3_readLog_8 : decode cX3_readLog 8 = .ok (.invokevirtual 190, 3) := by decide +kernel
theorem dX3_readLog_11 : decode cX3_readLog 11 = .ok (.iconst 0, 1) := by decide +kernel
theorem dX3_readLog_12 : decode cX3_readLog 12 = .ok (.istore_n 2, 1) := by decide +kernel
theorem dX3_readLog_13 : decode cX3_readLog 13 = .ok (.iload_n 2, 1) := by decide +kernel
theorem dX3_readLog_14 : decode cX3_readLog 14 = .ok (.aload_n 0, 1) := by decide +kernel
theorem dX3_readLog_15 : decode cX3_readLog 15 = .ok (.getfield 26, 3) := by decide +kernel
theorem dX3_readLog_18 : decode cX3_readLog 18 = .ok (.if_icmp .ge 55, 3) := by decide +kernel
theorem dX3_readLog_21 : decode cX3_readLog 21 = .ok (.aload_n 0, 1) := by decide +kernel
theorem dX3_readLog_22 : decode cX3_readLog 22 = .ok (.getfield 23, 3) := by decide +kernel
theorem dX3_readLog_25 : decode cX3_readLog 25 = .ok (.iload_n 2, 1) := by decide +kernel
theorem dX3_readLog_26 : decode cX3_readLog 26 = .ok (.iaload, 1) := by decide +kernel
theorem dX3_readLog_27 : decode cX3_readLog 27 = .ok (.ifCond .le 40, 3) := by decide +kernel
theorem dX3_readLog_30 : decode cX3_readLog 30 = .ok (.iconst 0, 1) := by decide +kernel
theorem dX3_readLog_31 : decode cX3_readLog 31 = .ok (.istore_n 3, 1) := by decide +kernel
theorem dX3_readLog_32 : decode cX3_readLog 32 = .ok (.iload_n 3, 1) := by decide +kernel
theorem dX3_readLog_33 : decode cX3_readLog 33 = .ok (.aload_n 0, 1) := by decide +kernel
theorem dX3_readLog_34 : decode cX3_readLog 34 = .ok (.getfield 20, 3) := by decide +kernel
theorem dX3_readLog_37 : decode cX3_readLog 37 = .ok (.iload_n 2, 1) := by decide +kernel
theorem dX3_readLog_38 : decode cX3_readLog 38 = .ok (.iaload, 1) := by decide +kernel
theorem dX3_readLog_39 : decode cX3_readLog 39 = .ok (.if_icmp .ge 24, 3) := by decide +kernel
theorem dX3_readLog_42 : decode cX3_readLog 42 = .ok (.aload_n 1, 1) := by decide +kernel
theorem dX3_readLog_43 : decode cX3_readLog 43 = .ok (.aload_n 0, 1) := by decide +kernel
theorem dX3_readLog_44 : decode cX3_readLog 44 = .ok (.getfield 17, 3) := by decide +kernel
theorem dX3_readLog_47 : decode cX3_readLog 47 = .ok (.iload_n 2, 1) := by decide +kernel
theorem dX3_readLog_48 : decode cX3_readLog 48 = .ok (.bipush 12, 2) := by decide +kernel
theorem dX3_readLog_50 : decode cX3_readLog 50 = .ok (.imul, 1) := by decide +kernel
theorem dX3_readLog_51 : decode cX3_readLog 51 = .ok (.iload_n 3, 1) := by decide +kernel
theorem dX3_readLog_52 : decode cX3_readLog 52 = .ok (.iadd, 1) := by decide +kernel
theorem dX3_readLog_53 : decode cX3_readLog 53 = .ok (.iaload, 1) := by decide +kernel
theorem dX3_readLog_54 : decode cX3_readLog 54 = .ok (.invokevirtual 193, 3) := by decide +kernel
theorem dX3_readLog_57 : decode cX3_readLog 57 = .ok (.iinc 3 1, 3) := by decide +kernel
theorem dX3_readLog_60 : decode cX3_readLog 60 = .ok (.goto (-28), 3) := by decide +kernel
theorem dX3_readLog_63 : decode cX3_readLog 63 = .ok (.aload_n 1, 1) := by decide +kernel
theorem dX3_readLog_64 : decode cX3_readLog 64 = .ok (.invokevirtual 196, 3) := by decide +kernel
theorem dX3_readLog_67 : decode cX3_readLog 67 = .ok (.iinc 2 1, 3) := by decide +kernel
theorem dX3_readLog_70 : decode cX3_readLog 70 = .ok (.goto (-57), 3) := by decide +kernel
theorem dX3_readLog_73 : decode cX3_readLog 73 = .ok (.aload_n 1, 1) := by decide +kernel
theorem dX3_readLog_74 : decode cX3_readLog 74 = .ok (.invokevirtual 199, 3) := by decide +kernel
theorem dX3_readLog_77 : decode cX3_readLog 77 = .ok (.aload_n 1, 1) := by decide +kernel
theorem dX3_readLog_78 : decode cX3_readLog 78 = .ok (.areturn, 1) := by decide +kernel
theorem dX3_grow_0 : decode cX3_grow 0 = .ok (.iload_n 2, 1) := by decide +kernel
theorem dX3_grow_1 : decode cX3_grow 1 = .ok (.ifCond .lt 9, 3) := by decide +kernel
theorem dX3_grow_4 : decode cX3_grow 4 = .ok (.iload_n 2, 1) := by decide +kernel
theorem dX3_grow_5 : decode cX3_grow 5 = .ok (.aload_n 0, 1) := by decide +kernel
theorem dX3_grow_6 : decode cX3_grow 6 = .ok (.arraylength, 1) := by decide +kernel
theorem dX3_grow_7 : decode cX3_grow 7 = .ok (.if_icmp .lt 4, 3) := by decide +kernel
theorem dX3_grow_10 : decode cX3_grow 10 = .ok (.return_, 1) := by decide +kernel
theorem dX3_grow_11 : decode cX3_grow 11 = .ok (.aload_n 0, 1) := by decide +kernel
theorem dX3_grow_12 : decode cX3_grow 12 = .ok (.iload_n 2, 1) := by decide +kernel
theorem dX3_grow_13 : decode cX3_grow 13 = .ok (.aaload, 1) := by decide +kernel
theorem dX3_grow_14 : decode cX3_grow 14 = .ok (.astore 4, 2) := by decide +kernel
theorem dX3_grow_16 : decode cX3_grow 16 = .ok (.aload 4, 2) := by decide +kernel
theorem dX3_grow_18 : decode cX3_grow 18 = .ok (.invokevirtual 202, 3) := by decide +kernel
theorem dX3_grow_21 : decode cX3_grow 21 = .ok (.istore 5, 2) := by decide +kernel
theorem dX3_grow_23 : decode cX3_grow 23 = .ok (.aload_n 1, 1) := by decide +kernel
theorem dX3_grow_24 : decode cX3_grow 24 = .ok (.iload 5, 2) := by decide +kernel
theorem dX3_grow_26 : decode cX3_grow 26 = .ok (.aload 4, 2) := by decide +kernel
theorem dX3_grow_28 : decode cX3_grow 28 = .ok (.getfield 82, 3) := by decide +kernel
theorem dX3_grow_31 : decode cX3_grow 31 = .ok (.iload_n 3, 1) := by decide +kernel
theorem dX3_grow_32 : decode cX3_grow 32 = .ok (.invokevirtual 205, 3) := by decide +kernel
theorem dX3_grow_35 : decode cX3_grow 35 = .ok (.istore 6, 2) := by decide +kernel
theorem dX3_grow_37 : decode cX3_grow 37 = .ok (.iload 5, 2) := by decide +kernel
theorem dX3_grow_39 : decode cX3_grow 39 = .ok (.iconst 2, 1) := by decide +kernel
theorem dX3_grow_40 : decode cX3_grow 40 = .ok (.if_icmp .ne 20, 3) := by decide +kernel
theorem dX3_grow_43 : decode cX3_grow 43 = .ok (.aload 4, 2) := by decide +kernel
theorem dX3_grow_45 : decode cX3_grow 45 = .ok (.getfield 208, 3) := by decide +kernel
theorem dX3_grow_48 : decode cX3_grow 48 = .ok (.ifCond .eq 12, 3) := by decide +kernel
theorem dX3_grow_51 : decode cX3_grow 51 = .ok (.aload_n 1, 1) := by decide +kernel
theorem dX3_grow_52 : decode cX3_grow 52 = .ok (.iconst 0, 1) := by decide +kernel
theorem dX3_grow_53 : decode cX3_grow 53 = .ok (.iconst 0, 1) := by decide +kernel
theorem dX3_grow_54 : decode cX3_grow 54 = .ok (.iload 6, 2) := by decide +kernel
theorem dX3_grow_56 : decode cX3_grow 56 = .ok (.invokevirtual 205, 3) := by decide +kernel
theorem dX3_grow_59 : decode cX3_grow 59 = .ok (.pop, 1) := by decide +kernel
theorem dX3_grow_60 : decode cX3_grow 60 = .ok (.iload 5, 2) := by decide +kernel
theorem dX3_grow_62 : decode cX3_grow 62 = .ok (.iconst 5, 1) := by decide +kernel
theorem dX3_grow_63 : decode cX3_grow 63 = .ok (.if_icmp .ne 33, 3) := by decide +kernel
theorem dX3_grow_66 : decode cX3_grow 66 = .ok (.aload 4, 2) := by decide +kernel
theorem dX3_grow_68 : decode cX3_grow 68 = .ok (.getfield 211, 3) := by decide +kernel
theorem dX3_grow_71 : decode cX3_grow 71 = .ok (.ifCond .ne 25, 3) := by decide +kernel
theorem dX3_grow_74 : decode cX3_grow 74 = .ok (.aload_n 1, 1) := by decide +kernel
theorem dX3_grow_75 : decode cX3_grow 75 = .ok (.iconst 1, 1) := by decide +kernel
theorem dX3_grow_76 : decode cX3_grow 76 = .ok (.aload 4, 2) := by decide +kernel
theorem dX3_grow_78 : decode cX3_grow 78 = .ok (.getfield 82, 3) := by decide +kernel
theorem dX3_grow_81 : decode cX3_grow 81 = .ok (.iload 6, 2) := by decide +kernel
theorem dX3_grow_83 : decode cX3_grow 83 = .ok (.invokevirtual 205, 3) := by decide +kernel
theorem dX3_grow_86 : decode cX3_grow 86 = .ok (.pop, 1) := by decide +kernel
theorem dX3_grow_87 : decode cX3_grow 87 = .ok (.aload_n 1, 1) := by decide +kernel
theorem dX3_grow_88 : decode cX3_grow 88 = .ok (.iconst 0, 1) := by decide +kernel
theorem dX3_grow_89 : decode cX3_grow 89 = .ok (.iconst 0, 1) := by decide +kernel
theorem dX3_grow_90 : decode cX3_grow 90 = .ok (.iload 6, 2) := by decide +kernel
theorem dX3_grow_92 : decode cX3_grow 92 = .ok (.invokevirtual 205, 3) := by decide +kernel
theorem dX3_grow_95 : decode cX3_grow 95 = .ok (.pop, 1) := by decide +kernel
theorem dX3_grow_96 : decode cX3_grow 96 = .ok (.iconst 0, 1) := by decide +kernel
theorem dX3_grow_97 : decode cX3_grow 97 = .ok (.istore 7, 2) := by decide +kernel
theorem dX3_grow_99 : decode cX3_grow 99 = .ok (.iload 7, 2) := by decide +kernel
theorem dX3_grow_101 : decode cX3_grow 101 = .ok (.aload 4, 2) := by decide +kernel
theorem dX3_grow_103 : decode cX3_grow 103 = .ok (.getfield 211, 3) := by decide +kernel
theorem dX3_grow_106 : decode cX3_grow 106 = .ok (.if_icmp .ge 47, 3) := by decide +kernel
theorem dX3_grow_109 : decode cX3_grow 109 = .ok (.iload_n 2, 1) := by decide +kernel
theorem dX3_grow_110 : decode cX3_grow 110 = .ok (.iconst 1, 1) := by decide +kernel
theorem dX3_grow_111 : decode cX3_grow 111 = .ok (.iadd, 1) := by decide +kernel
theorem dX3_grow_112 : decode cX3_grow 112 = .ok (.aload_n 0, 1) := by decide +kernel
theorem dX3_grow_113 : decode cX3_grow 113 = .ok (.arraylength, 1) := by decide +kernel
theorem dX3_grow_114 : decode cX3_grow 114 = .ok (.if_icmp .ge 33, 3) := by decide +kernel
theorem dX3_grow_117 : decode cX3_grow 117 = .ok (.aload_n 0, 1) := by decide +kernel
theorem dX3_grow_118 : decode cX3_grow 118 = .ok (.iload_n 2, 1) := by decide +kernel
theorem dX3_grow_119 : decode cX3_grow 119 = .ok (.iconst 1, 1) := by decide +kernel
theorem dX3_grow_120 : decode cX3_grow 120 = .ok (.iadd, 1) := by decide +kernel
theorem dX3_grow_121 : decode cX3_grow 121 = .ok (.aaload, 1) := by decide +kernel
theorem dX3_grow_122 : decode cX3_grow 122 = .ok (.aload 4, 2) := by decide +kernel
theorem dX3_grow_124 : decode cX3_grow 124 = .ok (.aload 4, 2) := by decide +kernel
theorem dX3_grow_126 : decode cX3_grow 126 = .ok (.getfield 214, 3) := by decide +kernel
theorem dX3_grow_129 : decode cX3_grow 129 = .ok (.iload 7, 2) := by decide +kernel
theorem dX3_grow_131 : decode cX3_grow 131 = .ok (.iaload, 1) := by decide +kernel
theorem dX3_grow_132 : decode cX3_grow 132 = .ok (.iload 5, 2) := by decide +kernel
theorem dX3_grow_134 : decode cX3_grow 134 = .ok (.invokevirtual 217, 3) := by decide +kernel
theorem dX3_grow_137 : decode cX3_grow 137 = .ok (.aload_n 0, 1) := by decide +kernel
theorem dX3_grow_138 : decode cX3_grow 138 = .ok (.aload_n 1, 1) := by decide +kernel
theorem dX3_grow_139 : decode cX3_grow 139 = .ok (.iload_n 2, 1) := by decide +kernel
theorem dX3_grow_140 : decode cX3_grow 140 = .ok (.iconst 1, 1) := by decide +kernel
theorem dX3_grow_141 : decode cX3_grow 141 = .ok (.iadd, 1) := by decide +kernel
theorem dX3_grow_142 : decode cX3_grow 142 = .ok (.iload 6, 2) := by decide +kernel
theorem dX3_grow_144 : decode cX3_grow 144 = .ok (.invokestatic 117, 3) := by decide +kernel
theorem dX3_grow_147 : decode cX3_grow 147 = .ok (.iinc 7 1, 3) := by decide +kernel
theorem dX3_grow_150 : decode cX3_grow 150 = .ok (.goto (-51), 3) := by decide +kernel
theorem dX3_grow_153 : decode cX3_grow 153 = .ok (.return_, 1) := by decide +kernel

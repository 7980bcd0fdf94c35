theorem dX0_init_0 : decode cX0_init 0 = .ok (.aload_n 0, 1) := by decide +kernel
theorem dX0_init_1 : decode cX0_init 1 = .ok (.invokespecial 3, 3) := by decide +kernel
theorem dX0_init_4 : decode cX0_init 4 = .ok (.aload_n 0, 1) := by decide +kernel
theorem dX0_init_5 : decode cX0_init 5 = .ok (.bipush 120, 2) := by decide +kernel
theorem dX0_init_7 : decode cX0_init 7 = .ok (.newarray .int, 2) := by decide +kernel
theorem dX0_init_9 : decode cX0_init 9 = .ok (.putfield 9, 3) := by decide +kernel
theorem dX0_init_12 : decode cX0_init 12 = .ok (.aload_n 0, 1) := by decide +kernel
theorem dX0_init_13 : decode cX0_init 13 = .ok (.bipush 120, 2) := by decide +kernel
theorem dX0_init_15 : decode cX0_init 15 = .ok (.newarray .int, 2) := by decide +kernel
theorem dX0_init_17 : decode cX0_init 17 = .ok (.putfield 15, 3) := by decide +kernel
theorem dX0_init_20 : decode cX0_init 20 = .ok (.aload_n 0, 1) := by decide +kernel
theorem dX0_init_21 : decode cX0_init 21 = .ok (.iconst 0, 1) := by decide +kernel
theorem dX0_init_22 : decode cX0_init 22 = .ok (.putfield 18, 3) := by decide +kernel
theorem dX0_init_25 : decode cX0_init 25 = .ok (.aload_n 0, 1) := by decide +kernel
theorem dX0_init_26 : decode cX0_init 26 = .ok (.iconst 0, 1) := by decide +kernel
theorem dX0_init_27 : decode cX0_init 27 = .ok (.putfield 22, 3) := by decide +kernel
theorem dX0_init_30 : decode cX0_init 30 = .ok (.aload_n 0, 1) := by decide +kernel
theorem dX0_init_31 : decode cX0_init 31 = .ok (.iconst 0, 1) := by decide +kernel
theorem dX0_init_32 : decode cX0_init 32 = .ok (.putfield 25, 3) := by decide +kernel
theorem dX0_init_35 : decode cX0_init 35 = .ok (.aload_n 0, 1) := by decide +kernel
theorem dX0_init_36 : decode cX0_init 36 = .ok (.iconst 0, 1) := by decide +kernel
theorem dX0_init_37 : decode cX0_init 37 = .ok (.putfield 28, 3) := by decide +kernel
theorem dX0_init_40 : decode cX0_init 40 = .ok (.aload_n 0, 1) := by decide +kernel
theorem dX0_init_41 : decode cX0_init 41 = .ok (.iconst 0, 1) := by decide +kernel
theorem dX0_init_42 : decode cX0_init 42 = .ok (.putfield 31, 3) := by decide +kernel
theorem dX0_init_45 : decode cX0_init 45 = .ok (.aload_n 0, 1) := by decide +kernel
theorem dX0_init_46 : decode cX0_init 46 = .ok (.iconst 0, 1) := by decide +kernel
theorem dX0_init_47 : decode cX0_init 47 = .ok (.putfield 34, 3) := by decide +kernel
theorem dX0_init_50 : decode cX0_init 50 = .ok (.aload_n 0, 1) := by decide +kernel
theorem dX0_init_51 : decode cX0_init 51 = .ok (.bipush 8, 2) := by decide +kernel
theorem dX0_init_53 : decode cX0_init 53 = .ok (.newarray .int, 2) := by decide +kernel
theorem dX0_init_55 : decode cX0_init 55 = .ok (.putfield 38, 3) := by decide +kernel
theorem dX0_init_58 : decode cX0_init 58 = .ok (.aload_n 0, 1) := by decide +kernel
theorem dX0_init_59 : decode cX0_init 59 = .ok (.bipush 8, 2) := by decide +kernel
theorem dX0_init_61 : decode cX0_init 61 = .ok (.newarray .int, 2) := by decide +kernel
theorem dX0_init_63 : decode cX0_init 63 = .ok (.putfield 41, 3) := by decide +kernel
theorem dX0_init_66 : decode cX0_init 66 = .ok (.aload_n 0, 1) := by decide +kernel
theorem dX0_init_67 : decode cX0_init 67 = .ok (.bipush 8, 2) := by decide +kernel
theorem dX0_init_69 : decode cX0_init 69 = .ok (.newarray .int, 2) := by decide +kernel
theorem dX0_init_71 : decode cX0_init 71 = .ok (.putfield 44, 3) := by decide +kernel
theorem dX0_init_74 : decode cX0_init 74 = .ok (.aload_n 0, 1) := by decide +kernel
theorem dX0_init_75 : decode cX0_init 75 = .ok (.bipush 8, 2) := by decide +kernel
theorem dX0_init_77 : decode cX0_init 77 = .ok (.newarray .int, 2) := by decide +kernel
theorem dX0_init_79 : decode cX0_init 79 = .ok (.putfield 47, 3) := by decide +kernel
theorem dX0_init_82 : decode cX0_init 82 = .ok (.aload_n 0, 1) := by decide +kernel
theorem dX0_init_83 : decode cX0_init 83 = .ok (.iconst 0, 1) := by decide +kernel
theorem dX0_init_84 : decode cX0_init 84 = .ok (.putfield 50, 3) := by decide +kernel
theorem dX0_init_87 : decode cX0_init 87 = .ok (.return_, 1) := by decide +kernel
theorem dX0_clear_0 : decode cX0_clear 0 = .ok (.aload_n 0, 1) := by decide +kernel
theorem dX0_clear_1 : decode cX0_clear 1 = .ok (.iconst 0, 1) := by decide +kernel
theorem dX0_clear_2 : decode cX0_clear 2 = .ok (.putfield 18, 3) := by decide +kernel
theorem dX0_clear_5 : decode cX0_clear 5 = .ok (.aload_n 0, 1) := by decide +kernel
theorem dX0_clear_6 : decode cX0_clear 6 = .ok (.iconst 0, 1) := by decide +kernel
theorem dX0_clear_7 : decode cX0_clear 7 = .ok (.putfield 22, 3) := by decide +kernel
theorem dX0_clear_10 : decode cX0_clear 10 = .ok (.return_, 1) := by decide +kernel
theorem dX0_append_0 : decode cX0_append 0 = .ok (.aload_n 0, 1) := by decide +kernel
theorem dX0_append_1 : decode cX0_append 1 = .ok (.getfield 18, 3) := by decide +kernel
theorem dX0_append_4 : decode cX0_append 4 = .ok (.aload_n 0, 1) := by decide +kernel
theorem dX0_append_5 : decode cX0_append 5 = .ok (.getfield 9, 3) := by decide +kernel
theorem dX0_append_8 : decode cX0_append 8 = .ok (.arraylength, 1) := by decide +kernel
theorem dX0_append_9 : decode cX0_append 9 = .ok (.if_icmp .ge 23, 3) := by decide +kernel
theorem dX0_append_12 : decode cX0_append 12 = .ok (.aload_n 0, 1) := by decide +kernel
theorem dX0_append_13 : decode cX0_append 13 = .ok (.getfield 9, 3) := by decide +kernel
theorem dX0_append_16 : decode cX0_append 16 = .ok (.aload_n 0, 1) := by decide +kernel
theorem dX0_append_17 : decode cX0_append 17 = .ok (.getfield 18, 3) := by decide +kernel
theorem dX0_append_20 : decode cX0_append 20 = .ok (.iload_n 1, 1) := by decide +kernel
theorem dX0_append_21 : decode cX0_append 21 = .ok (.iastore, 1) := by decide +kernel
theorem dX0_append_22 : decode cX0_append 22 = .ok (.aload_n 0, 1) := by decide +kernel
theorem dX0_append_23 : decode cX0_append 23 = .ok (.dup, 1) := by decide +kernel
theorem dX0_append_24 : decode cX0_append 24 = .ok (.getfield 18, 3) := by decide +kernel
theorem dX0_append_27 : decode cX0_append 27 = .ok (.iconst 1, 1) := by decide +kernel
theorem dX0_append_28 : decode cX0_append 28 = .ok (.iadd, 1) := by decide +kernel
theorem dX0_append_29 : decode cX0_append 29 = .ok (.putfield 18, 3) := by decide +kernel
theorem dX0_append_32 : decode cX0_append 32 = .ok (.return_, 1) := by decide +kernel
theorem dX0_closeTrace_0 : decode cX0_closeTrace 0 = .ok (.aload_n 0, 1) := by decide +kernel
theorem dX0_closeTrace_1 : decode cX0_closeTrace 1 = .ok (.getfield 22, 3) := by decide +kernel
theorem dX0_closeTrace_4 : decode cX0_closeTrace 4 = .ok (.aload_n 0, 1) := by decide +kernel
theorem dX0_closeTrace_5 : decode cX0_closeTrace 5 = .ok (.getfield 15, 3) := by decide +kernel
theorem dX0_closeTrace_8 : decode cX0_closeTrace 8 = .ok (.arraylength, 1) := by decide +kernel
theorem dX0_closeTrace_9 : decode cX0_closeTrace 9 = .ok (.if_icmp .ge 26, 3) := by decide +kernel
theorem dX0_closeTrace_12 : decode cX0_closeTrace 12 = .ok (.aload_n 0, 1) := by decide +kernel
theorem dX0_closeTrace_13 : decode cX0_closeTrace 13 = .ok (.getfield 15, 3) := by decide +kernel
theorem dX0_closeTrace_16 : decode cX0_closeTrace 16 = .ok (.aload_n 0, 1) := by decide +kernel
theorem dX0_closeTrace_17 : decode cX0_closeTrace 17 = .ok (.getfield 22, 3) := by decide +kernel
theorem dX0_closeTrace_20 : decode cX0_closeTrace 20 = .ok (.aload_n 0, 1) := by decide +kernel
theorem dX0_closeTrace_21 : decode cX0_closeTrace 21 = .ok (.getfield 18, 3) := by decide +kernel
theorem dX0_closeTrace_24 : decode cX0_closeTrace 24 = .ok (.iastore, 1) := by decide +kernel
theorem dX0_closeTrace_25 : decode cX0_closeTrace 25 = .ok (.aload_n 0, 1) := by decide +kernel
theorem dX0_closeTrace_26 : decode cX0_closeTrace 26 = .ok (.dup, 1) := by decide +kernel
theorem dX0_closeTrace_27 : decode cX0_closeTrace 27 = .ok (.getfield 22, 3) := by decide +kernel
theorem dX0_closeTrace_30 : decode cX0_closeTrace 30 = .ok (.iconst 1, 1) := by decide +kernel
theorem dX0_closeTrace_31 : decode cX0_closeTrace 31 = .ok (.iadd, 1) := by decide +kernel
theorem dX0_closeTrace_32 : decode cX0_closeTrace 32 = .ok (.putfield 22, 3) := by decide +kernel
theorem dX0_closeTrace_35 : decode cX0_closeTrace 35 = .ok (.return_, 1) := by decide +kernel
theorem dX0_openStart_0 : decode cX0_openStart 0 = .ok (.aload_n 0, 1) := by decide +kernel
theorem dX0_openStart_1 : decode cX0_openStart 1 = .ok (.getfield 22, 3) := by decide +kernel
theorem dX0_openStart_4 : decode cX0_openStart 4 = .ok (.ifCond .le 17, 3) := by decide +kernel
theorem dX0_openStart_7 : decode cX0_openStart 7 = .ok (.aload_n 0, 1) := by decide +kernel
theorem dX0_openStart_8 : decode cX0_openStart 8 = .ok (.getfield 15, 3) := by decide +kernel
theorem dX0_openStart_11 : decode cX0_openStart 11 = .ok (.aload_n 0, 1) := by decide +kernel
theorem dX0_openStart_12 : decode cX0_openStart 12 = .ok (.getfield 22, 3) := by decide +kernel
theorem dX0_openStart_15 : decode cX0_openStart 15 = .ok (.iconst 1, 1) := by decide +kernel
theorem dX0_openStart_16 : decode cX0_openStart 16 = .ok (.isub, 1) := by decide +kernel
theorem dX0_openStart_17 : decode cX0_openStart 17 = .ok (.iaload, 1) := by decide +kernel
theorem dX0_openStart_18 : decode cX0_openStart 18 = .ok (.goto 4, 3) := by decide +kernel
theorem dX0_openStart_21 : decode cX0_openStart 21 = .ok (.iconst 0, 1) := by decide +kernel
theorem dX0_openStart_22 : decode cX0_openStart 22 = .ok (.ireturn, 1) := by decide +kernel
theorem dX0_take_0 : decode cX0_take 0 = .ok (.iload_n 3, 1) := by decide +kernel
theorem dX0_take_1 : decode cX0_take 1 = .ok (.iconst 3, 1) := by decide +kernel
theorem dX0_take_2 : decode cX0_take 2 = .ok (.if_icmp .eq 8, 3) := by decide +kernel
theorem dX0_take_5 : decode cX0_take 5 = .ok (.iload_n 3, 1) := by decide +kernel
theorem dX0_take_6 : decode cX0_take 6 = .ok (.iconst 4, 1) := by decide +kernel
theorem dX0_take_7 : decode cX0_take 7 = .ok (.if_icmp .ne 7, 3) := by decide +kernel
theorem dX0_take_10 : decode cX0_take 10 = .ok (.iconst 1, 1) := by decide +kernel
theorem dX0_take_11 : decode cX0_take 11 = .ok (.goto 4, 3) := by decide +kernel
theorem dX0_take_14 : decode cX0_take 14 = .ok (.iconst 0, 1) := by decide +kernel
theorem dX0_take_15 : decode cX0_take 15 = .ok (.istore 4, 2) := by decide +kernel
theorem dX0_take_17 : decode cX0_take 17 = .ok (.aload_n 0, 1) := by decide +kernel
theorem dX0_take_18 : decode cX0_take 18 = .ok (.invokevirtual 53, 3) := by decide +kernel
theorem dX0_take_21 : decode cX0_take 21 = .ok (.iconst 0, 1) := by decide +kernel
theorem dX0_take_22 : decode cX0_take 22 = .ok (.istore 5, 2) := by decide +kernel
theorem dX0_take_24 : decode cX0_take 24 = .ok (.iconst 0, 1) := by decide +kernel
theorem dX0_take_25 : decode cX0_take 25 = .ok (.istore 6, 2) := by decide +kernel
theorem dX0_take_27 : decode cX0_take 27 = .ok (.iload 6, 2) := by decide +kernel
theorem dX0_take_29 : decode cX0_take 29 = .ok (.aload_n 1, 1) := by decide +kernel
theorem dX0_take_30 : decode cX0_take 30 = .ok (.getfield 22, 3) := by decide +kernel
theorem dX0_take_33 : decode cX0_take 33 = .ok (.if_icmp .ge 63, 3) := by decide +kernel
theorem dX0_take_36 : decode cX0_take 36 = .ok (.aload_n 0, 1) := by decide +kernel
theorem dX0_take_37 : decode cX0_take 37 = .ok (.aload_n 1, 1) := by decide +kernel
theorem dX0_take_38 : decode cX0_take 38 = .ok (.iload 5, 2) := by decide +kernel
theorem dX0_take_40 : decode cX0_take 40 = .ok (.aload_n 1, 1) := by decide +kernel
theorem dX0_take_41 : decode cX0_take 41 = .ok (.getfield 15, 3) := by decide +kernel
theorem dX0_take_44 : decode cX0_take 44 = .ok (.iload 6, 2) := by decide +kernel
theorem dX0_take_46 : decode cX0_take 46 = .ok (.iaload, 1) := by decide +kernel
theorem dX0_take_47 : decode cX0_take 47 = .ok (.iload_n 2, 1) := by decide +kernel
theorem dX0_take_48 : decode cX0_take 48 = .ok (.iload_n 3, 1) := by decide +kernel
theorem dX0_take_49 : decode cX0_take 49 = .ok (.iconst 5, 1) := by decide +kernel
theorem dX0_take_50 : decode cX0_take 50 = .ok (.if_icmp .ne 7, 3) := by decide +kernel
theorem dX0_take_53 : decode cX0_take 53 = .ok (.iconst 1, 1) := by decide +kernel
theorem dX0_take_54 : decode cX0_take 54 = .ok (.goto 4, 3) := by decide +kernel
theorem dX0_take_57 : decode cX0_take 57 = .ok (.iconst 0, 1) := by decide +kernel
theorem dX0_take_58 : decode cX0_take 58 = .ok (.invokevirtual 56, 3) := by decide +kernel
theorem dX0_take_61 : decode cX0_take 61 = .ok (.iload 4, 2) := by decide +kernel
theorem dX0_take_63 : decode cX0_take 63 = .ok (.ifCond .ne 14, 3) := by decide +kernel
theorem dX0_take_66 : decode cX0_take 66 = .ok (.aload_n 0, 1) := by decide +kernel
theorem dX0_take_67 : decode cX0_take 67 = .ok (.getfield 18, 3) := by decide +kernel
theorem dX0_take_70 : decode cX0_take 70 = .ok (.aload_n 0, 1) := by decide +kernel
theorem dX0_take_71 : decode cX0_take 71 = .ok (.invokevirtual 60, 3) := by decide +kernel
theorem dX0_take_74 : decode cX0_take 74 = .ok (.if_icmp .le 7, 3) := by decide +kernel
theorem dX0_take_77 : decode cX0_take 77 = .ok (.aload_n 0, 1) := by decide +kernel
theorem dX0_take_78 : decode cX0_take 78 = .ok (.invokevirtual 64, 3) := by decide +kernel
theorem dX0_take_81 : decode cX0_take 81 = .ok (.aload_n 1, 1) := by decide +kernel
theorem dX0_take_82 : decode cX0_take 82 = .ok (.getfield 15, 3) := by decide +kernel
theorem dX0_take_85 : decode cX0_take 85 = .ok (.iload 6, 2) := by decide +kernel
theorem dX0_take_87 : decode cX0_take 87 = .ok (.iaload, 1) := by decide +kernel
theorem dX0_take_88 : decode cX0_take 88 = .ok (.istore 5, 2) := by decide +kernel
theorem dX0_take_90 : decode cX0_take 90 = .ok (.iinc 6 1, 3) := by decide +kernel
theorem dX0_take_93 : decode cX0_take 93 = .ok (.goto (-66), 3) := by decide +kernel
theorem dX0_take_96 : decode cX0_take 96 = .ok (.aload_n 0, 1) := by decide +kernel
theorem dX0_take_97 : decode cX0_take 97 = .ok (.invokevirtual 67, 3) := by decide +kernel
theorem dX0_take_100 : decode cX0_take 100 = .ok (.return_, 1) := by decide +kernel
theorem dX0_takeTrace_0 : decode cX0_takeTrace 0 = .ok (.iload_n 2, 1) := by decide +kernel
theorem dX0_takeTrace_1 : decode cX0_takeTrace 1 = .ok (.istore 6, 2) := by decide +kernel
theorem dX0_takeTrace_3 : decode cX0_takeTrace 3 = .ok (.iload 6, 2) := by decide +kernel
theorem dX0_takeTrace_5 : decode cX0_takeTrace 5 = .ok (.iload_n 3, 1) := by decide +kernel
theorem dX0_takeTrace_6 : decode cX0_takeTrace 6 = .ok (.if_icmp .ge 58, 3) := by decide +kernel
theorem dX0_takeTrace_9 : decode cX0_takeTrace 9 = .ok (.iload 4, 2) := by decide +kernel
theorem dX0_takeTrace_11 : decode cX0_takeTrace 11 = .ok (.aload_n 1, 1) := by decide +kernel
theorem dX0_takeTrace_12 : decode cX0_takeTrace 12 = .ok (.getfield 9, 3) := by decide +kernel
theorem dX0_takeTrace_15 : decode cX0_takeTrace 15 = .ok (.iload 6, 2) := by decide +kernel
theorem dX0_takeTrace_17 : decode cX0_takeTrace 17 = .ok (.iaload, 1) := by decide +kernel
theorem dX0_takeTrace_18 : decode cX0_takeTrace 18 = .ok (.invokestatic 70, 3) := by decide +kernel
theorem dX0_takeTrace_21 : decode cX0_takeTrace 21 = .ok (.ifCond .eq 17, 3) := by decide +kernel
theorem dX0_takeTrace_24 : decode cX0_takeTrace 24 = .ok (.aload_n 0, 1) := by decide +kernel
theorem dX0_takeTrace_25 : decode cX0_takeTrace 25 = .ok (.aload_n 1, 1) := by decide +kernel
theorem dX0_takeTrace_26 : decode cX0_takeTrace 26 = .ok (.getfield 9, 3) := by decide +kernel
theorem dX0_takeTrace_29 : decode cX0_takeTrace 29 = .ok (.iload 6, 2) := by decide +kernel
theorem dX0_takeTrace_31 : decode cX0_takeTrace 31 = .ok (.iaload, 1) := by decide +kernel
theorem dX0_takeTrace_32 : decode cX0_takeTrace 32 = .ok (.invokevirtual 74, 3) := by decide +kernel
theorem dX0_takeTrace_35 : decode cX0_takeTrace 35 = .ok (.goto 23, 3) := by decide +kernel
theorem dX0_takeTrace_38 : decode cX0_takeTrace 38 = .ok (.iload 5, 2) := by decide +kernel
theorem dX0_takeTrace_40 : decode cX0_takeTrace 40 = .ok (.ifCond .eq 18, 3) := by decide +kernel
theorem dX0_takeTrace_43 : decode cX0_takeTrace 43 = .ok (.aload_n 0, 1) := by decide +kernel
theorem dX0_takeTrace_44 : decode cX0_takeTrace 44 = .ok (.getfield 18, 3) := by decide +kernel
theorem dX0_takeTrace_47 : decode cX0_takeTrace 47 = .ok (.aload_n 0, 1) := by decide +kernel
theorem dX0_takeTrace_48 : decode cX0_takeTrace 48 = .ok (.invokevirtual 60, 3) := by decide +kernel
theorem dX0_takeTrace_51 : decode cX0_takeTrace 51 = .ok (.if_icmp .le 7, 3) := by decide +kernel
theorem dX0_takeTrace_54 : decode cX0_takeTrace 54 = .ok (.aload_n 0, 1) := by decide +kernel
theorem dX0_takeTrace_55 : decode cX0_takeTrace 55 = .ok (.invokevirtual 64, 3) := by decide +kernel
theorem dX0_takeTrace_58 : decode cX0_takeTrace 58 = .ok (.iinc 6 1, 3) := by decide +kernel
theorem dX0_takeTrace_61 : decode cX0_takeTrace 61 = .ok (.goto (-58), 3) := by decide +kernel
theorem dX0_takeTrace_64 : decode cX0_takeTrace 64 = .ok (.return_, 1) := by decide +kernel
theorem dX0_measure_0 : decode cX0_measure 0 = .ok (.aload_n 0, 1) := by decide +kernel
theorem dX0_measure_1 : decode cX0_measure 1 = .ok (.iconst 0, 1) := by decide +kernel
theorem dX0_measure_2 : decode cX0_measure 2 = .ok (.putfield 25, 3) := by decide +kernel
theorem dX0_measure_5 : decode cX0_measure 5 = .ok (.aload_n 0, 1) := by decide +kernel
theorem dX0_measure_6 : decode cX0_measure 6 = .ok (.iconst 0, 1) := by decide +kernel
theorem dX0_measure_7 : decode cX0_measure 7 = .ok (.putfield 28, 3) := by decide +kernel
theorem dX0_measure_10 : decode cX0_measure 10 = .ok (.aload_n 0, 1) := by decide +kernel
theorem dX0_measure_11 : decode cX0_measure 11 = .ok (.iconst 0, 1) := by decide +kernel
theorem dX0_measure_12 : decode cX0_measure 12 = .ok (.putfield 31, 3) := by decide +kernel
theorem dX0_measure_15 : decode cX0_measure 15 = .ok (.aload_n 0, 1) := by decide +kernel
theorem dX0_measure_16 : decode cX0_measure 16 = .ok (.iconst 0, 1) := by decide +kernel
theorem dX0_measure_17 : decode cX0_measure 17 = .ok (.putfield 34, 3) := by decide +kernel
theorem dX0_measure_20 : decode cX0_measure 20 = .ok (.iconst 0, 1) := by decide +kernel
theorem dX0_measure_21 : decode cX0_measure 21 = .ok (.istore_n 1, 1) := by decide +kernel
theorem dX0_measure_22 : decode cX0_measure 22 = .ok (.iload_n 1, 1) := by decide +kernel
theorem dX0_measure_23 : decode cX0_measure 23 = .ok (.bipush 8, 2) := by decide +kernel
theorem dX0_measure_25 : decode cX0_measure 25 = .ok (.if_icmp .ge 16, 3) := by decide +kernel
theorem dX0_measure_28 : decode cX0_measure 28 = .ok (.aload_n 0, 1) := by decide +kernel
theorem dX0_measure_29 : decode cX0_measure 29 = .ok (.getfield 38, 3) := by decide +kernel
theorem dX0_measure_32 : decode cX0_measure 32 = .ok (.iload_n 1, 1) := by decide +kernel
theorem dX0_measure_33 : decode cX0_measure 33 = .ok (.iconst 0, 1) := by decide +kernel
theorem dX0_measure_34 : decode cX0_measure 34 = .ok (.iastore, 1) := by decide +kernel
theorem dX0_measure_35 : decode cX0_measure 35 = .ok (.iinc 1 1, 3) := by decide +kernel
theorem dX0_measure_38 : decode cX0_measure 38 = .ok (.goto (-16), 3) := by decide +kernel
theorem dX0_measure_41 : decode cX0_measure 41 = .ok (.iconst 0, 1) := by decide +kernel
theorem dX0_measure_42 : decode cX0_measure 42 = .ok (.istore_n 1, 1) := by decide +kernel
theorem dX0_measure_43 : decode cX0_measure 43 = .ok (.iconst 0, 1) := by decide +kernel
theorem dX0_measure_44 : decode cX0_measure 44 = .ok (.istore_n 2, 1) := by decide +kernel
theorem dX0_measure_45 : decode cX0_measure 45 = .ok (.iload_n 2, 1) := by decide +kernel
theorem dX0_measure_46 : decode cX0_measure 46 = .ok (.aload_n 0, 1) := by decide +kernel
theorem dX0_measure_47 : decode cX0_measure 47 = .ok (.getfield 22, 3) := by decide +kernel
theorem dX0_measure_50 : decode cX0_measure 50 = .ok (.if_icmp .ge 27, 3) := by decide +kernel
theorem dX0_measure_53 : decode cX0_measure 53 = .ok (.aload_n 0, 1) := by decide +kernel
theorem dX0_measure_54 : decode cX0_measure 54 = .ok (.iload_n 1, 1) := by decide +kernel
theorem dX0_measure_55 : decode cX0_measure 55 = .ok (.aload_n 0, 1) := by decide +kernel
theorem dX0_measure_56 : decode cX0_measure 56 = .ok (.getfield 15, 3) := by decide +kernel
theorem dX0_measure_59 : decode cX0_measure 59 = .ok (.iload_n 2, 1) := by decide +kernel
theorem dX0_measure_60 : decode cX0_measure 60 = .ok (.iaload, 1) := by decide +kernel
theorem dX0_measure_61 : decode cX0_measure 61 = .ok (.invokevirtual 78, 3) := by decide +kernel
theorem dX0_measure_64 : decode cX0_measure 64 = .ok (.aload_n 0, 1) := by decide +kernel
theorem dX0_measure_65 : decode cX0_measure 65 = .ok (.getfield 15, 3) := by decide +kernel
theorem dX0_measure_68 : decode cX0_measure 68 = .ok (.iload_n 2, 1) := by decide +kernel
theorem dX0_measure_69 : decode cX0_measure 69 = .ok (.iaload, 1) := by decide +kernel
theorem dX0_measure_70 : decode cX0_measure 70 = .ok (.istore_n 1, 1) := by decide +kernel
theorem dX0_measure_71 : decode cX0_measure 71 = .ok (.iinc 2 1, 3) := by decide +kernel
theorem dX0_measure_74 : decode cX0_measure 74 = .ok (.goto (-29), 3) := by decide +kernel
theorem dX0_measure_77 : decode cX0_measure 77 = .ok (.return_, 1) := by decide +kernel
theorem dX0_measureTrace_0 : decode cX0_measureTrace 0 = .ok (.iload_n 1, 1) := by decide +kernel
theorem dX0_measureTrace_1 : decode cX0_measureTrace 1 = .ok (.iload_n 2, 1) := by decide +kernel
theorem dX0_measureTrace_2 : decode cX0_measureTrace 2 = .ok (.if_icmp .lt 9, 3) := by decide +kernel
theorem dX0_measureTrace_5 : decode cX0_measureTrace 5 = .ok (.aload_n 0, 1) := by decide +kernel
theorem dX0_measureTrace_6 : decode cX0_measureTrace 6 = .ok (.iconst 1, 1) := by decide +kernel
theorem dX0_measureTrace_7 : decode cX0_measureTrace 7 = .ok (.putfield 34, 3) := by decide +kernel
theorem dX0_measureTrace_10 : decode cX0_measureTrace 10 = .ok (.return_, 1) := by decide +kernel
theorem dX0_measureTrace_11 : decode cX0_measureTrace 11 = .ok (.aload_n 0, 1) := by decide +kernel
theorem dX0_measureTrace_12 : decode cX0_measureTrace 12 = .ok (.dup, 1) := by decide +kernel
theorem dX0_measureTrace_13 : decode cX0_measureTrace 13 = .ok (.getfield 28, 3) := by decide +kernel
theorem dX0_measureTrace_16 : decode cX0_measureTrace 16 = .ok (.iconst 1, 1) := by decide +kernel
theorem dX0_measureTrace_17 : decode cX0_measureTrace 17 = .ok (.aload_n 0, 1) := by decide +kernel
theorem dX0_measureTrace_18 : decode cX0_measureTrace 18 = .ok (.getfield 9, 3) := by decide +kernel
theorem dX0_measureTrace_21 : decode cX0_measureTrace 21 = .ok (.iload_n 1, 1) := by decide +kernel
theorem dX0_measureTrace_22 : decode cX0_measureTrace 22 = .ok (.iaload, 1) := by decide +kernel
theorem dX0_measureTrace_23 : decode cX0_measureTrace 23 = .ok (.ishl, 1) := by decide +kernel
theorem dX0_measureTrace_24 : decode cX0_measureTrace 24 = .ok (.ior, 1) := by decide +kernel
theorem dX0_measureTrace_25 : decode cX0_measureTrace 25 = .ok (.putfield 28, 3) := by decide +kernel
theorem dX0_measureTrace_28 : decode cX0_measureTrace 28 = .ok (.aload_n 0, 1) := by decide +kernel
theorem dX0_measureTrace_29 : decode cX0_measureTrace 29 = .ok (.dup, 1) := by decide +kernel
theorem dX0_measureTrace_30 : decode cX0_measureTrace 30 = .ok (.getfield 31, 3) := by decide +kernel
theorem dX0_measureTrace_33 : decode cX0_measureTrace 33 = .ok (.iconst 1, 1) := by decide +kernel
theorem dX0_measureTrace_34 : decode cX0_measureTrace 34 = .ok (.aload_n 0, 1) := by decide +kernel
theorem dX0_measureTrace_35 : decode cX0_measureTrace 35 = .ok (.getfield 9, 3) := by decide +kernel
theorem dX0_measureTrace_38 : decode cX0_measureTrace 38 = .ok (.iload_n 2, 1) := by decide +kernel
theorem dX0_measureTrace_39 : decode cX0_measureTrace 39 = .ok (.iconst 1, 1) := by decide +kernel
theorem dX0_measureTrace_40 : decode cX0_measureTrace 40 = .ok (.isub, 1) := by decide +kernel
theorem dX0_measureTrace_41 : decode cX0_measureTrace 41 = .ok (.iaload, 1) := by decide +kernel
theorem dX0_measureTrace_42 : decode cX0_measureTrace 42 = .ok (.ishl, 1) := by decide +kernel
theorem dX0_measureTrace_43 : decode cX0_measureTrace 43 = .ok (.ior, 1) := by decide +kernel
theorem dX0_measureTrace_44 : decode cX0_measureTrace 44 = .ok (.putfield 31, 3) := by decide +kernel
theorem dX0_measureTrace_47 : decode cX0_measureTrace 47 = .ok (.aload_n 0, 1) := by decide +kernel
theorem dX0_measureTrace_48 : decode cX0_measureTrace 48 = .ok (.dup, 1) := by decide +kernel
theorem dX0_measureTrace_49 : decode cX0_measureTrace 49 = .ok (.getfield 25, 3) := by decide +kernel
theorem dX0_measureTrace_52 : decode cX0_measureTrace 52 = .ok (.iconst 1, 1) := by decide +kernel
theorem dX0_measureTrace_53 : decode cX0_measureTrace 53 = .ok (.aload_n 0, 1) := by decide +kernel
theorem dX0_measureTrace_54 : decode cX0_measureTrace 54 = .ok (.getfield 9, 3) := by decide +kernel
theorem dX0_measureTrace_57 : decode cX0_measureTrace 57 = .ok (.iload_n 1, 1) := by decide +kernel
theorem dX0_measureTrace_58 : decode cX0_measureTrace 58 = .ok (.iaload, 1) := by decide +kernel
theorem dX0_measureTrace_59 : decode cX0_measureTrace 59 = .ok (.ishl, 1) := by decide +kernel
theorem dX0_measureTrace_60 : decode cX0_measureTrace 60 = .ok (.ior, 1) := by decide +kernel
theorem dX0_measureTrace_61 : decode cX0_measureTrace 61 = .ok (.putfield 25, 3) := by decide +kernel
theorem dX0_measureTrace_64 : decode cX0_measureTrace 64 = .ok (.iload_n 1, 1) := by decide +kernel
theorem dX0_measureTrace_65 : decode cX0_measureTrace 65 = .ok (.iconst 1, 1) := by decide +kernel
theorem dX0_measureTrace_66 : decode cX0_measureTrace 66 = .ok (.iadd, 1) := by decide +kernel
theorem dX0_measureTrace_67 : decode cX0_measureTrace 67 = .ok (.istore_n 3, 1) := by decide +kernel
theorem dX0_measureTrace_68 : decode cX0_measureTrace 68 = .ok (.iload_n 3, 1) := by decide +kernel
theorem dX0_measureTrace_69 : decode cX0_measureTrace 69 = .ok (.iload_n 2, 1) := by decide +kernel
theorem dX0_measureTrace_70 : decode cX0_measureTrace 70 = .ok (.if_icmp .ge 50, 3) := by decide +kernel
theorem dX0_measureTrace_73 : decode cX0_measureTrace 73 = .ok (.aload_n 0, 1) := by decide +kernel
theorem dX0_measureTrace_74 : decode cX0_measureTrace 74 = .ok (.dup, 1) := by decide +kernel
theorem dX0_measureTrace_75 : decode cX0_measureTrace 75 = .ok (.getfield 25, 3) := by decide +kernel
theorem dX0_measureTrace_78 : decode cX0_measureTrace 78 = .ok (.iconst 1, 1) := by decide +kernel
theorem dX0_measureTrace_79 : decode cX0_measureTrace 79 = .ok (.aload_n 0, 1) := by decide +kernel
theorem dX0_measureTrace_80 : decode cX0_measureTrace 80 = .ok (.getfield 9, 3) := by decide +kernel
theorem dX0_measureTrace_83 : decode cX0_measureTrace 83 = .ok (.iload_n 3, 1) := by decide +kernel
theorem dX0_measureTrace_84 : decode cX0_measureTrace 84 = .ok (.iaload, 1) := by decide +kernel
theorem dX0_measureTrace_85 : decode cX0_measureTrace 85 = .ok (.ishl, 1) := by decide +kernel
theorem dX0_measureTrace_86 : decode cX0_measureTrace 86 = .ok (.ior, 1) := by decide +kernel
theorem dX0_measureTrace_87 : decode cX0_measureTrace 87 = .ok (.putfield 25, 3) := by decide +kernel
theorem dX0_measureTrace_90 : decode cX0_measureTrace 90 = .ok (.aload_n 0, 1) := by decide +kernel
theorem dX0_measureTrace_91 : decode cX0_measureTrace 91 = .ok (.getfield 38, 3) := by decide +kernel
theorem dX0_measureTrace_94 : decode cX0_measureTrace 94 = .ok (.aload_n 0, 1) := by decide +kernel
theorem dX0_measureTrace_95 : decode cX0_measureTrace 95 = .ok (.getfield 9, 3) := by decide +kernel
theorem dX0_measureTrace_98 : decode cX0_measureTrace 98 = .ok (.iload_n 3, 1) := by decide +kernel
theorem dX0_measureTrace_99 : decode cX0_measureTrace 99 = .ok (.iconst 1, 1) := by decide +kernel
theorem dX0_measureTrace_100 : decode cX0_measureTrace 100 = .ok (.isub, 1) := by decide +kernel
theorem dX0_measureTrace_101 : decode cX0_measureTrace 101 = .ok (.iaload, 1) := by decide +kernel
theorem dX0_measureTrace_102 : decode cX0_measureTrace 102 = .ok (.dup2, 1) := by decide +kernel
theorem dX0_measureTrace_103 : decode cX0_measureTrace 103 = .ok (.iaload, 1) := by decide +kernel
theorem dX0_measureTrace_104 : decode cX0_measureTrace 104 = .ok (.iconst 1, 1) := by decide +kernel
theorem dX0_measureTrace_105 : decode cX0_measureTrace 105 = .ok (.aload_n 0, 1) := by decide +kernel
theorem dX0_measureTrace_106 : decode cX0_measureTrace 106 = .ok (.getfield 9, 3) := by decide +kernel
theorem dX0_measureTrace_109 : decode cX0_measureTrace 109 = .ok (.iload_n 3, 1) := by decide +kernel
theorem dX0_measureTrace_110 : decode cX0_measureTrace 110 = .ok (.iaload, 1) := by decide +kernel
theorem dX0_measureTrace_111 : decode cX0_measureTrace 111 = .ok (.ishl, 1) := by decide +kernel
theorem dX0_measureTrace_112 : decode cX0_measureTrace 112 = .ok (.ior, 1) := by decide +kernel
theorem dX0_measureTrace_113 : decode cX0_measureTrace 113 = .ok (.iastore, 1) := by decide +kernel
theorem dX0_measureTrace_114 : decode cX0_measureTrace 114 = .ok (.iinc 3 1, 3) := by decide +kernel
theorem dX0_measureTrace_117 : decode cX0_measureTrace 117 = .ok (.goto (-49), 3) := by decide +kernel
theorem dX0_measureTrace_120 : decode cX0_measureTrace 120 = .ok (.return_, 1) := by decide +kernel
theorem dX0_findReach_0 : decode cX0_findReach 0 = .ok (.iconst 0, 1) := by decide +kernel
theorem dX0_findReach_1 : decode cX0_findReach 1 = .ok (.istore_n 1, 1) := by decide +kernel
theorem dX0_findReach_2 : decode cX0_findReach 2 = .ok (.iload_n 1, 1) := by decide +kernel
theorem dX0_findReach_3 : decode cX0_findReach 3 = .ok (.bipush 8, 2) := by decide +kernel
theorem dX0_findReach_5 : decode cX0_findReach 5 = .ok (.if_icmp .ge 21, 3) := by decide +kernel
theorem dX0_findReach_8 : decode cX0_findReach 8 = .ok (.aload_n 0, 1) := by decide +kernel
theorem dX0_findReach_9 : decode cX0_findReach 9 = .ok (.getfield 41, 3) := by decide +kernel
theorem dX0_findReach_12 : decode cX0_findReach 12 = .ok (.iload_n 1, 1) := by decide +kernel
theorem dX0_findReach_13 : decode cX0_findReach 13 = .ok (.aload_n 0, 1) := by decide +kernel
theorem dX0_findReach_14 : decode cX0_findReach 14 = .ok (.getfield 38, 3) := by decide +kernel
theorem dX0_findReach_17 : decode cX0_findReach 17 = .ok (.iload_n 1, 1) := by decide +kernel
theorem dX0_findReach_18 : decode cX0_findReach 18 = .ok (.iaload, 1) := by decide +kernel
theorem dX0_findReach_19 : decode cX0_findReach 19 = .ok (.iastore, 1) := by decide +kernel
theorem dX0_findReach_20 : decode cX0_findReach 20 = .ok (.iinc 1 1, 3) := by decide +kernel
theorem dX0_findReach_23 : decode cX0_findReach 23 = .ok (.goto (-21), 3) := by decide +kernel
theorem dX0_findReach_26 : decode cX0_findReach 26 = .ok (.iconst 0, 1) := by decide +kernel
theorem dX0_findReach_27 : decode cX0_findReach 27 = .ok (.istore_n 1, 1) := by decide +kernel
theorem dX0_findReach_28 : decode cX0_findReach 28 = .ok (.iload_n 1, 1) := by decide +kernel
theorem dX0_findReach_29 : decode cX0_findReach 29 = .ok (.bipush 8, 2) := by decide +kernel
theorem dX0_findReach_31 : decode cX0_findReach 31 = .ok (.if_icmp .ge 51, 3) := by decide +kernel
theorem dX0_findReach_34 : decode cX0_findReach 34 = .ok (.iconst 0, 1) := by decide +kernel
theorem dX0_findReach_35 : decode cX0_findReach 35 = .ok (.istore_n 2, 1) := by decide +kernel
theorem dX0_findReach_36 : decode cX0_findReach 36 = .ok (.iload_n 2, 1) := by decide +kernel
theorem dX0_findReach_37 : decode cX0_findReach 37 = .ok (.bipush 8, 2) := by decide +kernel
theorem dX0_findReach_39 : decode cX0_findReach 39 = .ok (.if_icmp .ge 37, 3) := by decide +kernel
theorem dX0_findReach_42 : decode cX0_findReach 42 = .ok (.aload_n 0, 1) := by decide +kernel
theorem dX0_findReach_43 : decode cX0_findReach 43 = .ok (.getfield 41, 3) := by decide +kernel
theorem dX0_findReach_46 : decode cX0_findReach 46 = .ok (.iload_n 2, 1) := by decide +kernel
theorem dX0_findReach_47 : decode cX0_findReach 47 = .ok (.iaload, 1) := by decide +kernel
theorem dX0_findReach_48 : decode cX0_findReach 48 = .ok (.iload_n 1, 1) := by decide +kernel
theorem dX0_findReach_49 : decode cX0_findReach 49 = .ok (.invokestatic 70, 3) := by decide +kernel
theorem dX0_findReach_52 : decode cX0_findReach 52 = .ok (.ifCond .eq 18, 3) := by decide +kernel
theorem dX0_findReach_55 : decode cX0_findReach 55 = .ok (.aload_n 0, 1) := by decide +kernel
theorem dX0_findReach_56 : decode cX0_findReach 56 = .ok (.getfield 41, 3) := by decide +kernel
theorem dX0_findReach_59 : decode cX0_findReach 59 = .ok (.iload_n 2, 1) := by decide +kernel
theorem dX0_findReach_60 : decode cX0_findReach 60 = .ok (.dup2, 1) := by decide +kernel
theorem dX0_findReach_61 : decode cX0_findReach 61 = .ok (.iaload, 1) := by decide +kernel
theorem dX0_findReach_62 : decode cX0_findReach 62 = .ok (.aload_n 0, 1) := by decide +kernel
theorem dX0_findReach_63 : decode cX0_findReach 63 = .ok (.getfield 41, 3) := by decide +kernel
theorem dX0_findReach_66 : decode cX0_findReach 66 = .ok (.iload_n 1, 1) := by decide +kernel
theorem dX0_findReach_67 : decode cX0_findReach 67 = .ok (.iaload, 1) := by decide +kernel
theorem dX0_findReach_68 : decode cX0_findReach 68 = .ok (.ior, 1) := by decide +kernel
theorem dX0_findReach_69 : decode cX0_findReach 69 = .ok (.iastore, 1) := by decide +kernel
theorem dX0_findReach_70 : decode cX0_findReach 70 = .ok (.iinc 2 1, 3) := by decide +kernel
theorem dX0_findReach_73 : decode cX0_findReach 73 = .ok (.goto (-37), 3) := by decide +kernel
theorem dX0_findReach_76 : decode cX0_findReach 76 = .ok (.iinc 1 1, 3) := by decide +kernel
theorem dX0_findReach_79 : decode cX0_findReach 79 = .ok (.goto (-51), 3) := by decide +kernel
theorem dX0_findReach_82 : decode cX0_findReach 82 = .ok (.return_, 1) := by decide +kernel
theorem dX0_cut_0 : decode cX0_cut 0 = .ok (.aload_n 0, 1) := by decide +kernel
theorem dX0_cut_1 : decode cX0_cut 1 = .ok (.iconst 0, 1) := by decide +kernel
theorem dX0_cut_2 : decode cX0_cut 2 = .ok (.putfield 50, 3) := by decide +kernel
theorem dX0_cut_5 : decode cX0_cut 5 = .ok (.aload_n 0, 1) := by decide +kernel
theorem dX0_cut_6 : decode cX0_cut 6 = .ok (.getfield 25, 3) := by decide +kernel
theorem dX0_cut_9 : decode cX0_cut 9 = .ok (.ifCond .ne 5, 3) := by decide +kernel
theorem dX0_cut_12 : decode cX0_cut 12 = .ok (.iconst 0, 1) := by decide +kernel
theorem dX0_cut_13 : decode cX0_cut 13 = .ok (.ireturn, 1) := by decide +kernel
theorem dX0_cut_14 : decode cX0_cut 14 = .ok (.aload_n 0, 1) := by decide +kernel
theorem dX0_cut_15 : decode cX0_cut 15 = .ok (.getfield 34, 3) := by decide +kernel
theorem dX0_cut_18 : decode cX0_cut 18 = .ok (.ifCond .eq 13, 3) := by decide +kernel
theorem dX0_cut_21 : decode cX0_cut 21 = .ok (.aload_n 0, 1) := by decide +kernel
theorem dX0_cut_22 : decode cX0_cut 22 = .ok (.aload_n 0, 1) := by decide +kernel
theorem dX0_cut_23 : decode cX0_cut 23 = .ok (.getfield 25, 3) := by decide +kernel
theorem dX0_cut_26 : decode cX0_cut 26 = .ok (.invokevirtual 82, 3) := by decide +kernel
theorem dX0_cut_29 : decode cX0_cut 29 = .ok (.iconst 2, 1) := by decide +kernel
theorem dX0_cut_30 : decode cX0_cut 30 = .ok (.ireturn, 1) := by decide +kernel
theorem dX0_cut_31 : decode cX0_cut 31 = .ok (.aload_n 0, 1) := by decide +kernel
theorem dX0_cut_32 : decode cX0_cut 32 = .ok (.getfield 25, 3) := by decide +kernel
theorem dX0_cut_35 : decode cX0_cut 35 = .ok (.invokestatic 85, 3) := by decide +kernel
theorem dX0_cut_38 : decode cX0_cut 38 = .ok (.iconst 1, 1) := by decide +kernel
theorem dX0_cut_39 : decode cX0_cut 39 = .ok (.if_icmp .ne 16, 3) := by decide +kernel
theorem dX0_cut_42 : decode cX0_cut 42 = .ok (.aload_n 0, 1) := by decide +kernel
theorem dX0_cut_43 : decode cX0_cut 43 = .ok (.invokevirtual 91, 3) := by decide +kernel
theorem dX0_cut_46 : decode cX0_cut 46 = .ok (.ifCond .eq 7, 3) := by decide +kernel
theorem dX0_cut_49 : decode cX0_cut 49 = .ok (.iconst 5, 1) := by decide +kernel
theorem dX0_cut_50 : decode cX0_cut 50 = .ok (.goto 4, 3) := by decide +kernel
theorem dX0_cut_53 : decode cX0_cut 53 = .ok (.iconst 1, 1) := by decide +kernel
theorem dX0_cut_54 : decode cX0_cut 54 = .ok (.ireturn, 1) := by decide +kernel
theorem dX0_cut_55 : decode cX0_cut 55 = .ok (.aload_n 0, 1) := by decide +kernel
theorem dX0_cut_56 : decode cX0_cut 56 = .ok (.invokevirtual 95, 3) := by decide +kernel
theorem dX0_cut_59 : decode cX0_cut 59 = .ok (.ifCond .eq 5, 3) := by decide +kernel
theorem dX0_cut_62 : decode cX0_cut 62 = .ok (.iconst 2, 1) := by decide +kernel
theorem dX0_cut_63 : decode cX0_cut 63 = .ok (.ireturn, 1) := by decide +kernel
theorem dX0_cut_64 : decode cX0_cut 64 = .ok (.aload_n 0, 1) := by decide +kernel
theorem dX0_cut_65 : decode cX0_cut 65 = .ok (.invokevirtual 98, 3) := by decide +kernel
theorem dX0_cut_68 : decode cX0_cut 68 = .ok (.ifCond .eq 5, 3) := by decide +kernel
theorem dX0_cut_71 : decode cX0_cut 71 = .ok (.iconst 3, 1) := by decide +kernel
theorem dX0_cut_72 : decode cX0_cut 72 = .ok (.ireturn, 1) := by decide +kernel
theorem dX0_cut_73 : decode cX0_cut 73 = .ok (.aload_n 0, 1) := by decide +kernel
theorem dX0_cut_74 : decode cX0_cut 74 = .ok (.invokevirtual 101, 3) := by decide +kernel
theorem dX0_cut_77 : decode cX0_cut 77 = .ok (.ifCond .eq 5, 3) := by decide +kernel
theorem dX0_cut_80 : decode cX0_cut 80 = .ok (.iconst 4, 1) := by decide +kernel
theorem dX0_cut_81 : decode cX0_cut 81 = .ok (.ireturn, 1) := by decide +kernel
theorem dX0_cut_82 : decode cX0_cut 82 = .ok (.aload_n 0, 1) := by decide +kernel
theorem dX0_cut_83 : decode cX0_cut 83 = .ok (.invokevirtual 104, 3) := by decide +kernel
theorem dX0_cut_86 : decode cX0_cut 86 = .ok (.ifCond .eq 5, 3) := by decide +kernel
theorem dX0_cut_89 : decode cX0_cut 89 = .ok (.iconst 5, 1) := by decide +kernel
theorem dX0_cut_90 : decode cX0_cut 90 = .ok (.ireturn, 1) := by decide +kernel
theorem dX0_cut_91 : decode cX0_cut 91 = .ok (.aload_n 0, 1) := by decide +kernel
theorem dX0_cut_92 : decode cX0_cut 92 = .ok (.iconst 0, 1) := by decide +kernel
theorem dX0_cut_93 : decode cX0_cut 93 = .ok (.putfield 50, 3) := by decide +kernel
theorem dX0_cut_96 : decode cX0_cut 96 = .ok (.bipush 6, 2) := by decide +kernel
theorem dX0_cut_98 : decode cX0_cut 98 = .ok (.ireturn, 1) := by decide +kernel
theorem dX0_hasNext_0 : decode cX0_hasNext 0 = .ok (.iconst 0, 1) := by decide +kernel
theorem dX0_hasNext_1 : decode cX0_hasNext 1 = .ok (.istore_n 1, 1) := by decide +kernel
theorem dX0_hasNext_2 : decode cX0_hasNext 2 = .ok (.iload_n 1, 1) := by decide +kernel
theorem dX0_hasNext_3 : decode cX0_hasNext 3 = .ok (.bipush 8, 2) := by decide +kernel
theorem dX0_hasNext_5 : decode cX0_hasNext 5 = .ok (.if_icmp .ge 20, 3) := by decide +kernel
theorem dX0_hasNext_8 : decode cX0_hasNext 8 = .ok (.aload_n 0, 1) := by decide +kernel
theorem dX0_hasNext_9 : decode cX0_hasNext 9 = .ok (.getfield 38, 3) := by decide +kernel
theorem dX0_hasNext_12 : decode cX0_hasNext 12 = .ok (.iload_n 1, 1) := by decide +kernel
theorem dX0_hasNext_13 : decode cX0_hasNext 13 = .ok (.iaload, 1) := by decide +kernel
theorem dX0_hasNext_14 : decode cX0_hasNext 14 = .ok (.ifCond .eq 5, 3) := by decide +kernel
theorem dX0_hasNext_17 : decode cX0_hasNext 17 = .ok (.iconst 1, 1) := by decide +kernel
theorem dX0_hasNext_18 : decode cX0_hasNext 18 = .ok (.ireturn, 1) := by decide +kernel
theorem dX0_hasNext_19 : decode cX0_hasNext 19 = .ok (.iinc 1 1, 3) := by decide +kernel
theorem dX0_hasNext_22 : decode cX0_hasNext 22 = .ok (.goto (-20), 3) := by decide +kernel
theorem dX0_hasNext_25 : decode cX0_hasNext 25 = .ok (.iconst 0, 1) := by decide +kernel
theorem dX0_hasNext_26 : decode cX0_hasNext 26 = .ok (.ireturn, 1) := by decide +kernel
theorem dX0_isCutByChoice_0 : decode cX0_isCutByChoice 0 = .ok (.aload_n 0, 1) := by decide +kernel
theorem dX0_isCutByChoice_1 : decode cX0_isCutByChoice 1 = .ok (.iconst 0, 1) := by decide +kernel
theorem dX0_isCutByChoice_2 : decode cX0_isCutByChoice 2 = .ok (.putfield 50, 3) := by decide +kernel
theorem dX0_isCutByChoice_5 : decode cX0_isCutByChoice 5 = .ok (.aload_n 0, 1) := by decide +kernel
theorem dX0_isCutByChoice_6 : decode cX0_isCutByChoice 6 = .ok (.invokevirtual 107, 3) := by decide +kernel
theorem dX0_isCutByChoice_9 : decode cX0_isCutByChoice 9 = .ok (.aload_n 0, 1) := by decide +kernel
theorem dX0_isCutByChoice_10 : decode cX0_isCutByChoice 10 = .ok (.aload_n 0, 1) := by decide +kernel
theorem dX0_isCutByChoice_11 : decode cX0_isCutByChoice 11 = .ok (.getfield 25, 3) := by decide +kernel
theorem dX0_isCutByChoice_14 : decode cX0_isCutByChoice 14 = .ok (.invokevirtual 110, 3) := by decide +kernel
theorem dX0_isCutByChoice_17 : decode cX0_isCutByChoice 17 = .ok (.aload_n 0, 1) := by decide +kernel
theorem dX0_isCutByChoice_18 : decode cX0_isCutByChoice 18 = .ok (.getfield 50, 3) := by decide +kernel
theorem dX0_isCutByChoice_21 : decode cX0_isCutByChoice 21 = .ok (.iconst 1, 1) := by decide +kernel
theorem dX0_isCutByChoice_22 : decode cX0_isCutByChoice 22 = .ok (.if_icmp .le 7, 3) := by decide +kernel
theorem dX0_isCutByChoice_25 : decode cX0_isCutByChoice 25 = .ok (.iconst 1, 1) := by decide +kernel
theorem dX0_isCutByChoice_26 : decode cX0_isCutByChoice 26 = .ok (.goto 4, 3) := by decide +kernel
theorem dX0_isCutByChoice_29 : decode cX0_isCutByChoice 29 = .ok (.iconst 0, 1) := by decide +kernel
theorem dX0_isCutByChoice_30 : decode cX0_isCutByChoice 30 = .ok (.ireturn, 1) := by decide +kernel
theorem dX0_isCutByOrder_0 : decode cX0_isCutByOrder 0 = .ok (.aload_n 0, 1) := by decide +kernel
theorem dX0_isCutByOrder_1 : decode cX0_isCutByOrder 1 = .ok (.iconst 0, 1) := by decide +kernel
theorem dX0_isCutByOrder_2 : decode cX0_isCutByOrder 2 = .ok (.putfield 50, 3) := by decide +kernel
theorem dX0_isCutByOrder_5 : decode cX0_isCutByOrder 5 = .ok (.aload_n 0, 1) := by decide +kernel
theorem dX0_isCutByOrder_6 : decode cX0_isCutByOrder 6 = .ok (.invokevirtual 113, 3) := by decide +kernel
theorem dX0_isCutByOrder_9 : decode cX0_isCutByOrder 9 = .ok (.iconst 0, 1) := by decide +kernel
theorem dX0_isCutByOrder_10 : decode cX0_isCutByOrder 10 = .ok (.istore_n 1, 1) := by decide +kernel
theorem dX0_isCutByOrder_11 : decode cX0_isCutByOrder 11 = .ok (.iload_n 1, 1) := by decide +kernel
theorem dX0_isCutByOrder_12 : decode cX0_isCutByOrder 12 = .ok (.bipush 8, 2) := by decide +kernel
theorem dX0_isCutByOrder_14 : decode cX0_isCutByOrder 14 = .ok (.if_icmp .ge 65, 3) := by decide +kernel
theorem dX0_isCutByOrder_17 : decode cX0_isCutByOrder 17 = .ok (.aload_n 0, 1) := by decide +kernel
theorem dX0_isCutByOrder_18 : decode cX0_isCutByOrder 18 = .ok (.getfield 44, 3) := by decide +kernel
theorem dX0_isCutByOrder_21 : decode cX0_isCutByOrder 21 = .ok (.iload_n 1, 1) := by decide +kernel
theorem dX0_isCutByOrder_22 : decode cX0_isCutByOrder 22 = .ok (.iconst 0, 1) := by decide +kernel
theorem dX0_isCutByOrder_23 : decode cX0_isCutByOrder 23 = .ok (.iastore, 1) := by decide +kernel
theorem dX0_isCutByOrder_24 : decode cX0_isCutByOrder 24 = .ok (.iconst 0, 1) := by decide +kernel
theorem dX0_isCutByOrder_25 : decode cX0_isCutByOrder 25 = .ok (.istore_n 2, 1) := by decide +kernel
theorem dX0_isCutByOrder_26 : decode cX0_isCutByOrder 26 = .ok (.iload_n 2, 1) := by decide +kernel
theorem dX0_isCutByOrder_27 : decode cX0_isCutByOrder 27 = .ok (.bipush 8, 2) := by decide +kernel
theorem dX0_isCutByOrder_29 : decode cX0_isCutByOrder 29 = .ok (.if_icmp .ge 44, 3) := by decide +kernel
theorem dX0_isCutByOrder_32 : decode cX0_isCutByOrder 32 = .ok (.aload_n 0, 1) := by decide +kernel
theorem dX0_isCutByOrder_33 : decode cX0_isCutByOrder 33 = .ok (.getfield 41, 3) := by decide +kernel
theorem dX0_isCutByOrder_36 : decode cX0_isCutByOrder 36 = .ok (.iload_n 1, 1) := by decide +kernel
theorem dX0_isCutByOrder_37 : decode cX0_isCutByOrder 37 = .ok (.iaload, 1) := by decide +kernel
theorem dX0_isCutByOrder_38 : decode cX0_isCutByOrder 38 = .ok (.iload_n 2, 1) := by decide +kernel
theorem dX0_isCutByOrder_39 : decode cX0_isCutByOrder 39 = .ok (.invokestatic 70, 3) := by decide +kernel
theorem dX0_isCutByOrder_42 : decode cX0_isCutByOrder 42 = .ok (.aload_n 0, 1) := by decide +kernel
theorem dX0_isCutByOrder_43 : decode cX0_isCutByOrder 43 = .ok (.getfield 41, 3) := by decide +kernel
theorem dX0_isCutByOrder_46 : decode cX0_isCutByOrder 46 = .ok (.iload_n 2, 1) := by decide +kernel
theorem dX0_isCutByOrder_47 : decode cX0_isCutByOrder 47 = .ok (.iaload, 1) := by decide +kernel
theorem dX0_isCutByOrder_48 : decode cX0_isCutByOrder 48 = .ok (.iload_n 1, 1) := by decide +kernel
theorem dX0_isCutByOrder_49 : decode cX0_isCutByOrder 49 = .ok (.invokestatic 70, 3) := by decide +kernel
theorem dX0_isCutByOrder_52 : decode cX0_isCutByOrder 52 = .ok (.if_icmp .ne 15, 3) := by decide +kernel
theorem dX0_isCutByOrder_55 : decode cX0_isCutByOrder 55 = .ok (.aload_n 0, 1) := by decide +kernel
theorem dX0_isCutByOrder_56 : decode cX0_isCutByOrder 56 = .ok (.getfield 44, 3) := by decide +kernel
theorem dX0_isCutByOrder_59 : decode cX0_isCutByOrder 59 = .ok (.iload_n 1, 1) := by decide +kernel
theorem dX0_isCutByOrder_60 : decode cX0_isCutByOrder 60 = .ok (.dup2, 1) := by decide +kernel
theorem dX0_isCutByOrder_61 : decode cX0_isCutByOrder 61 = .ok (.iaload, 1) := by decide +kernel
theorem dX0_isCutByOrder_62 : decode cX0_isCutByOrder 62 = .ok (.iconst 1, 1) := by decide +kernel
theorem dX0_isCutByOrder_63 : decode cX0_isCutByOrder 63 = .ok (.iload_n 2, 1) := by decide +kernel
theorem dX0_isCutByOrder_64 : decode cX0_isCutByOrder 64 = .ok (.ishl, 1) := by decide +kernel
theorem dX0_isCutByOrder_65 : decode cX0_isCutByOrder 65 = .ok (.ior, 1) := by decide +kernel
theorem dX0_isCutByOrder_66 : decode cX0_isCutByOrder 66 = .ok (.iastore, 1) := by decide +kernel
theorem dX0_isCutByOrder_67 : decode cX0_isCutByOrder 67 = .ok (.iinc 2 1, 3) := by decide +kernel
theorem dX0_isCutByOrder_70 : decode cX0_isCutByOrder 70 = .ok (.goto (-44), 3) := by decide +kernel
theorem dX0_isCutByOrder_73 : decode cX0_isCutByOrder 73 = .ok (.iinc 1 1, 3) := by decide +kernel
theorem dX0_isCutByOrder_76 : decode cX0_isCutByOrder 76 = .ok (.goto (-65), 3) := by decide +kernel
theorem dX0_isCutByOrder_79 : decode cX0_isCutByOrder 79 = .ok (.aload_n 0, 1) := by decide +kernel
theorem dX0_isCutByOrder_80 : decode cX0_isCutByOrder 80 = .ok (.aload_n 0, 1) := by decide +kernel
theorem dX0_isCutByOrder_81 : decode cX0_isCutByOrder 81 = .ok (.getfield 25, 3) := by decide +kernel
theorem dX0_isCutByOrder_84 : decode cX0_isCutByOrder 84 = .ok (.invokevirtual 110, 3) := by decide +kernel
theorem dX0_isCutByOrder_87 : decode cX0_isCutByOrder 87 = .ok (.aload_n 0, 1) := by decide +kernel
theorem dX0_isCutByOrder_88 : decode cX0_isCutByOrder 88 = .ok (.invokevirtual 116, 3) := by decide +kernel
theorem dX0_isCutByOrder_91 : decode cX0_isCutByOrder 91 = .ok (.aload_n 0, 1) := by decide +kernel
theorem dX0_isCutByOrder_92 : decode cX0_isCutByOrder 92 = .ok (.getfield 50, 3) := by decide +kernel
theorem dX0_isCutByOrder_95 : decode cX0_isCutByOrder 95 = .ok (.iconst 1, 1) := by decide +kernel
theorem dX0_isCutByOrder_96 : decode cX0_isCutByOrder 96 = .ok (.if_icmp .le 7, 3) := by decide +kernel
theorem dX0_isCutByOrder_99 : decode cX0_isCutByOrder 99 = .ok (.iconst 1, 1) := by decide +kernel
theorem dX0_isCutByOrder_100 : decode cX0_isCutByOrder 100 = .ok (.goto 4, 3) := by decide +kernel
theorem dX0_isCutByOrder_103 : decode cX0_isCutByOrder 103 = .ok (.iconst 0, 1) := by decide +kernel
theorem dX0_isCutByOrder_104 : decode cX0_isCutByOrder 104 = .ok (.ireturn, 1) := by decide +kernel
theorem dX0_isCutByBoth_0 : decode cX0_isCutByBoth 0 = .ok (.aload_n 0, 1) := by decide +kernel
theorem dX0_isCutByBoth_1 : decode cX0_isCutByBoth 1 = .ok (.iconst 0, 1) := by decide +kernel
theorem dX0_isCutByBoth_2 : decode cX0_isCutByBoth 2 = .ok (.putfield 50, 3) := by decide +kernel
theorem dX0_isCutByBoth_5 : decode cX0_isCutByBoth 5 = .ok (.iconst 0, 1) := by decide +kernel
theorem dX0_isCutByBoth_6 : decode cX0_isCutByBoth 6 = .ok (.istore_n 1, 1) := by decide +kernel
theorem dX0_isCutByBoth_7 : decode cX0_isCutByBoth 7 = .ok (.iload_n 1, 1) := by decide +kernel
theorem dX0_isCutByBoth_8 : decode cX0_isCutByBoth 8 = .ok (.bipush 8, 2) := by decide +kernel
theorem dX0_isCutByBoth_10 : decode cX0_isCutByBoth 10 = .ok (.if_icmp .ge 68, 3) := by decide +kernel
theorem dX0_isCutByBoth_13 : decode cX0_isCutByBoth 13 = .ok (.aload_n 0, 1) := by decide +kernel
theorem dX0_isCutByBoth_14 : decode cX0_isCutByBoth 14 = .ok (.getfield 44, 3) := by decide +kernel
theorem dX0_isCutByBoth_17 : decode cX0_isCutByBoth 17 = .ok (.iload_n 1, 1) := by decide +kernel
theorem dX0_isCutByBoth_18 : decode cX0_isCutByBoth 18 = .ok (.iconst 0, 1) := by decide +kernel
theorem dX0_isCutByBoth_19 : decode cX0_isCutByBoth 19 = .ok (.iastore, 1) := by decide +kernel
theorem dX0_isCutByBoth_20 : decode cX0_isCutByBoth 20 = .ok (.iconst 0, 1) := by decide +kernel
theorem dX0_isCutByBoth_21 : decode cX0_isCutByBoth 21 = .ok (.istore_n 2, 1) := by decide +kernel
theorem dX0_isCutByBoth_22 : decode cX0_isCutByBoth 22 = .ok (.iload_n 2, 1) := by decide +kernel
theorem dX0_isCutByBoth_23 : decode cX0_isCutByBoth 23 = .ok (.bipush 8, 2) := by decide +kernel
theorem dX0_isCutByBoth_25 : decode cX0_isCutByBoth 25 = .ok (.if_icmp .ge 47, 3) := by decide +kernel
theorem dX0_isCutByBoth_28 : decode cX0_isCutByBoth 28 = .ok (.aload_n 0, 1) := by decide +kernel
theorem dX0_isCutByBoth_29 : decode cX0_isCutByBoth 29 = .ok (.getfield 38, 3) := by decide +kernel
theorem dX0_isCutByBoth_32 : decode cX0_isCutByBoth 32 = .ok (.iload_n 1, 1) := by decide +kernel
theorem dX0_isCutByBoth_33 : decode cX0_isCutByBoth 33 = .ok (.iaload, 1) := by decide +kernel
theorem dX0_isCutByBoth_34 : decode cX0_isCutByBoth 34 = .ok (.iload_n 2, 1) := by decide +kernel
theorem dX0_isCutByBoth_35 : decode cX0_isCutByBoth 35 = .ok (.invokestatic 70, 3) := by decide +kernel
theorem dX0_isCutByBoth_38 : decode cX0_isCutByBoth 38 = .ok (.ifCond .eq 16, 3) := by decide +kernel
theorem dX0_isCutByBoth_41 : decode cX0_isCutByBoth 41 = .ok (.aload_n 0, 1) := by decide +kernel
theorem dX0_isCutByBoth_42 : decode cX0_isCutByBoth 42 = .ok (.getfield 38, 3) := by decide +kernel
theorem dX0_isCutByBoth_45 : decode cX0_isCutByBoth 45 = .ok (.iload_n 2, 1) := by decide +kernel
theorem dX0_isCutByBoth_46 : decode cX0_isCutByBoth 46 = .ok (.iaload, 1) := by decide +kernel
theorem dX0_isCutByBoth_47 : decode cX0_isCutByBoth 47 = .ok (.iload_n 1, 1) := by decide +kernel
theorem dX0_isCutByBoth_48 : decode cX0_isCutByBoth 48 = .ok (.invokestatic 70, 3) := by decide +kernel
theorem dX0_isCutByBoth_51 : decode cX0_isCutByBoth 51 = .ok (.ifCond .ne 15, 3) := by decide +kernel
theorem dX0_isCutByBoth_54 : decode cX0_isCutByBoth 54 = .ok (.aload_n 0, 1) := by decide +kernel
theorem dX0_isCutByBoth_55 : decode cX0_isCutByBoth 55 = .ok (.getfield 44, 3) := by decide +kernel
theorem dX0_isCutByBoth_58 : decode cX0_isCutByBoth 58 = .ok (.iload_n 1, 1) := by decide +kernel
theorem dX0_isCutByBoth_59 : decode cX0_isCutByBoth 59 = .ok (.dup2, 1) := by decide +kernel
theorem dX0_isCutByBoth_60 : decode cX0_isCutByBoth 60 = .ok (.iaload, 1) := by decide +kernel
theorem dX0_isCutByBoth_61 : decode cX0_isCutByBoth 61 = .ok (.iconst 1, 1) := by decide +kernel
theorem dX0_isCutByBoth_62 : decode cX0_isCutByBoth 62 = .ok (.iload_n 2, 1) := by decide +kernel
theorem dX0_isCutByBoth_63 : decode cX0_isCutByBoth 63 = .ok (.ishl, 1) := by decide +kernel
theorem dX0_isCutByBoth_64 : decode cX0_isCutByBoth 64 = .ok (.ior, 1) := by decide +kernel
theorem dX0_isCutByBoth_65 : decode cX0_isCutByBoth 65 = .ok (.iastore, 1) := by decide +kernel
theorem dX0_isCutByBoth_66 : decode cX0_isCutByBoth 66 = .ok (.iinc 2 1, 3) := by decide +kernel
theorem dX0_isCutByBoth_69 : decode cX0_isCutByBoth 69 = .ok (.goto (-47), 3) := by decide +kernel
theorem dX0_isCutByBoth_72 : decode cX0_isCutByBoth 72 = .ok (.iinc 1 1, 3) := by decide +kernel
theorem dX0_isCutByBoth_75 : decode cX0_isCutByBoth 75 = .ok (.goto (-68), 3) := by decide +kernel
theorem dX0_isCutByBoth_78 : decode cX0_isCutByBoth 78 = .ok (.aload_n 0, 1) := by decide +kernel
theorem dX0_isCutByBoth_79 : decode cX0_isCutByBoth 79 = .ok (.aload_n 0, 1) := by decide +kernel
theorem dX0_isCutByBoth_80 : decode cX0_isCutByBoth 80 = .ok (.getfield 25, 3) := by decide +kernel
theorem dX0_isCutByBoth_83 : decode cX0_isCutByBoth 83 = .ok (.invokevirtual 110, 3) := by decide +kernel
theorem dX0_isCutByBoth_86 : decode cX0_isCutByBoth 86 = .ok (.aload_n 0, 1) := by decide +kernel
theorem dX0_isCutByBoth_87 : decode cX0_isCutByBoth 87 = .ok (.invokevirtual 119, 3) := by decide +kernel
theorem dX0_isCutByBoth_90 : decode cX0_isCutByBoth 90 = .ok (.aload_n 0, 1) := by decide +kernel
theorem dX0_isCutByBoth_91 : decode cX0_isCutByBoth 91 = .ok (.getfield 50, 3) := by decide +kernel
theorem dX0_isCutByBoth_94 : decode cX0_isCutByBoth 94 = .ok (.iconst 1, 1) := by decide +kernel
theorem dX0_isCutByBoth_95 : decode cX0_isCutByBoth 95 = .ok (.if_icmp .le 7, 3) := by decide +kernel
theorem dX0_isCutByBoth_98 : decode cX0_isCutByBoth 98 = .ok (.iconst 1, 1) := by decide +kernel
theorem dX0_isCutByBoth_99 : decode cX0_isCutByBoth 99 = .ok (.goto 4, 3) := by decide +kernel
theorem dX0_isCutByBoth_102 : decode cX0_isCutByBoth 102 = .ok (.iconst 0, 1) := by decide +kernel
theorem dX0_isCutByBoth_103 : decode cX0_isCutByBoth 103 = .ok (.ireturn, 1) := by decide +kernel
theorem dX0_isCutByAgain_0 : decode cX0_isCutByAgain 0 = .ok (.aload_n 0, 1) := by decide +kernel
theorem dX0_isCutByAgain_1 : decode cX0_isCutByAgain 1 = .ok (.iconst 0, 1) := by decide +kernel
theorem dX0_isCutByAgain_2 : decode cX0_isCutByAgain 2 = .ok (.putfield 50, 3) := by decide +kernel
theorem dX0_isCutByAgain_5 : decode cX0_isCutByAgain 5 = .ok (.aload_n 0, 1) := by decide +kernel
theorem dX0_isCutByAgain_6 : decode cX0_isCutByAgain 6 = .ok (.getfield 28, 3) := by decide +kernel
theorem dX0_isCutByAgain_9 : decode cX0_isCutByAgain 9 = .ok (.aload_n 0, 1) := by decide +kernel
theorem dX0_isCutByAgain_10 : decode cX0_isCutByAgain 10 = .ok (.getfield 31, 3) := by decide +kernel
theorem dX0_isCutByAgain_13 : decode cX0_isCutByAgain 13 = .ok (.ior, 1) := by decide +kernel
theorem dX0_isCutByAgain_14 : decode cX0_isCutByAgain 14 = .ok (.istore_n 1, 1) := by decide +kernel
theorem dX0_isCutByAgain_15 : decode cX0_isCutByAgain 15 = .ok (.aload_n 0, 1) := by decide +kernel
theorem dX0_isCutByAgain_16 : decode cX0_isCutByAgain 16 = .ok (.iload_n 1, 1) := by decide +kernel
theorem dX0_isCutByAgain_17 : decode cX0_isCutByAgain 17 = .ok (.invokevirtual 82, 3) := by decide +kernel
theorem dX0_isCutByAgain_20 : decode cX0_isCutByAgain 20 = .ok (.aload_n 0, 1) := by decide +kernel
theorem dX0_isCutByAgain_21 : decode cX0_isCutByAgain 21 = .ok (.invokevirtual 107, 3) := by decide +kernel
theorem dX0_isCutByAgain_24 : decode cX0_isCutByAgain 24 = .ok (.aload_n 0, 1) := by decide +kernel
theorem dX0_isCutByAgain_25 : decode cX0_isCutByAgain 25 = .ok (.aload_n 0, 1) := by decide +kernel
theorem dX0_isCutByAgain_26 : decode cX0_isCutByAgain 26 = .ok (.getfield 25, 3) := by decide +kernel
theorem dX0_isCutByAgain_29 : decode cX0_isCutByAgain 29 = .ok (.iload_n 1, 1) := by decide +kernel
theorem dX0_isCutByAgain_30 : decode cX0_isCutByAgain 30 = .ok (.iconst (-1), 1) := by decide +kernel
theorem dX0_isCutByAgain_31 : decode cX0_isCutByAgain 31 = .ok (.ixor, 1) := by decide +kernel
theorem dX0_isCutByAgain_32 : decode cX0_isCutByAgain 32 = .ok (.iand, 1) := by decide +kernel
theorem dX0_isCutByAgain_33 : decode cX0_isCutByAgain 33 = .ok (.invokevirtual 110, 3) := by decide +kernel
theorem dX0_isCutByAgain_36 : decode cX0_isCutByAgain 36 = .ok (.iconst 1, 1) := by decide +kernel
theorem dX0_isCutByAgain_37 : decode cX0_isCutByAgain 37 = .ok (.istore_n 2, 1) := by decide +kernel
theorem dX0_isCutByAgain_38 : decode cX0_isCutByAgain 38 = .ok (.iconst 1, 1) := by decide +kernel
theorem dX0_isCutByAgain_39 : decode cX0_isCutByAgain 39 = .ok (.istore_n 3, 1) := by decide +kernel
theorem dX0_isCutByAgain_40 : decode cX0_isCutByAgain 40 = .ok (.iload_n 3, 1) := by decide +kernel
theorem dX0_isCutByAgain_41 : decode cX0_isCutByAgain 41 = .ok (.aload_n 0, 1) := by decide +kernel
theorem dX0_isCutByAgain_42 : decode cX0_isCutByAgain 42 = .ok (.getfield 50, 3) := by decide +kernel
theorem dX0_isCutByAgain_45 : decode cX0_isCutByAgain 45 = .ok (.if_icmp .ge 55, 3) := by decide +kernel
theorem dX0_isCutByAgain_48 : decode cX0_isCutByAgain 48 = .ok (.aload_n 0, 1) := by decide +kernel
theorem dX0_isCutByAgain_49 : decode cX0_isCutByAgain 49 = .ok (.aload_n 0, 1) := by decide +kernel
theorem dX0_isCutByAgain_50 : decode cX0_isCutByAgain 50 = .ok (.getfield 47, 3) := by decide +kernel
theorem dX0_isCutByAgain_53 : decode cX0_isCutByAgain 53 = .ok (.iload_n 3, 1) := by decide +kernel
theorem dX0_isCutByAgain_54 : decode cX0_isCutByAgain 54 = .ok (.iaload, 1) := by decide +kernel
theorem dX0_isCutByAgain_55 : decode cX0_isCutByAgain 55 = .ok (.invokevirtual 122, 3) := by decide +kernel
theorem dX0_isCutByAgain_58 : decode cX0_isCutByAgain 58 = .ok (.ifCond .eq 21, 3) := by decide +kernel
theorem dX0_isCutByAgain_61 : decode cX0_isCutByAgain 61 = .ok (.aload_n 0, 1) := by decide +kernel
theorem dX0_isCutByAgain_62 : decode cX0_isCutByAgain 62 = .ok (.getfield 47, 3) := by decide +kernel
theorem dX0_isCutByAgain_65 : decode cX0_isCutByAgain 65 = .ok (.iconst 0, 1) := by decide +kernel
theorem dX0_isCutByAgain_66 : decode cX0_isCutByAgain 66 = .ok (.dup2, 1) := by decide +kernel
theorem dX0_isCutByAgain_67 : decode cX0_isCutByAgain 67 = .ok (.iaload, 1) := by decide +kernel
theorem dX0_isCutByAgain_68 : decode cX0_isCutByAgain 68 = .ok (.aload_n 0, 1) := by decide +kernel
theorem dX0_isCutByAgain_69 : decode cX0_isCutByAgain 69 = .ok (.getfield 47, 3) := by decide +kernel
theorem dX0_isCutByAgain_72 : decode cX0_isCutByAgain 72 = .ok (.iload_n 3, 1) := by decide +kernel
theorem dX0_isCutByAgain_73 : decode cX0_isCutByAgain 73 = .ok (.iaload, 1) := by decide +kernel
theorem dX0_isCutByAgain_74 : decode cX0_isCutByAgain 74 = .ok (.ior, 1) := by decide +kernel
theorem dX0_isCutByAgain_75 : decode cX0_isCutByAgain 75 = .ok (.iastore, 1) := by decide +kernel
theorem dX0_isCutByAgain_76 : decode cX0_isCutByAgain 76 = .ok (.goto 18, 3) := by decide +kernel
theorem dX0_isCutByAgain_79 : decode cX0_isCutByAgain 79 = .ok (.aload_n 0, 1) := by decide +kernel
theorem dX0_isCutByAgain_80 : decode cX0_isCutByAgain 80 = .ok (.getfield 47, 3) := by decide +kernel
theorem dX0_isCutByAgain_83 : decode cX0_isCutByAgain 83 = .ok (.iload_n 2, 1) := by decide +kernel
theorem dX0_isCutByAgain_84 : decode cX0_isCutByAgain 84 = .ok (.aload_n 0, 1) := by decide +kernel
theorem dX0_isCutByAgain_85 : decode cX0_isCutByAgain 85 = .ok (.getfield 47, 3) := by decide +kernel
theorem dX0_isCutByAgain_88 : decode cX0_isCutByAgain 88 = .ok (.iload_n 3, 1) := by decide +kernel
theorem dX0_isCutByAgain_89 : decode cX0_isCutByAgain 89 = .ok (.iaload, 1) := by decide +kernel
theorem dX0_isCutByAgain_90 : decode cX0_isCutByAgain 90 = .ok (.iastore, 1) := by decide +kernel
theorem dX0_isCutByAgain_91 : decode cX0_isCutByAgain 91 = .ok (.iinc 2 1, 3) := by decide +kernel
theorem dX0_isCutByAgain_94 : decode cX0_isCutByAgain 94 = .ok (.iinc 3 1, 3) := by decide +kernel
theorem dX0_isCutByAgain_97 : decode cX0_isCutByAgain 97 = .ok (.goto (-57), 3) := by decide +kernel
theorem dX0_isCutByAgain_100 : decode cX0_isCutByAgain 100 = .ok (.aload_n 0, 1) := by decide +kernel
theorem dX0_isCutByAgain_101 : decode cX0_isCutByAgain 101 = .ok (.iload_n 2, 1) := by decide +kernel
theorem dX0_isCutByAgain_102 : decode cX0_isCutByAgain 102 = .ok (.putfield 50, 3) := by decide +kernel
theorem dX0_isCutByAgain_105 : decode cX0_isCutByAgain 105 = .ok (.aload_n 0, 1) := by decide +kernel
theorem dX0_isCutByAgain_106 : decode cX0_isCutByAgain 106 = .ok (.getfield 50, 3) := by decide +kernel
theorem dX0_isCutByAgain_109 : decode cX0_isCutByAgain 109 = .ok (.iconst 1, 1) := by decide +kernel
theorem dX0_isCutByAgain_110 : decode cX0_isCutByAgain 110 = .ok (.if_icmp .le 7, 3) := by decide +kernel
theorem dX0_isCutByAgain_113 : decode cX0_isCutByAgain 113 = .ok (.iconst 1, 1) := by decide +kernel
theorem dX0_isCutByAgain_114 : decode cX0_isCutByAgain 114 = .ok (.goto 4, 3) := by decide +kernel
theorem dX0_isCutByAgain_117 : decode cX0_isCutByAgain 117 = .ok (.iconst 0, 1) := by decide +kernel
theorem dX0_isCutByAgain_118 : decode cX0_isCutByAgain 118 = .ok (.ireturn, 1) := by decide +kernel
theorem dX0_addPart_0 : decode cX0_addPart 0 = .ok (.aload_n 0, 1) := by decide +kernel
theorem dX0_addPart_1 : decode cX0_addPart 1 = .ok (.getfield 50, 3) := by decide +kernel
theorem dX0_addPart_4 : decode cX0_addPart 4 = .ok (.aload_n 0, 1) := by decide +kernel
theorem dX0_addPart_5 : decode cX0_addPart 5 = .ok (.getfield 47, 3) := by decide +kernel
theorem dX0_addPart_8 : decode cX0_addPart 8 = .ok (.arraylength, 1) := by decide +kernel
theorem dX0_addPart_9 : decode cX0_addPart 9 = .ok (.if_icmp .ge 23, 3) := by decide +kernel
theorem dX0_addPart_12 : decode cX0_addPart 12 = .ok (.aload_n 0, 1) := by decide +kernel
theorem dX0_addPart_13 : decode cX0_addPart 13 = .ok (.getfield 47, 3) := by decide +kernel
theorem dX0_addPart_16 : decode cX0_addPart 16 = .ok (.aload_n 0, 1) := by decide +kernel
theorem dX0_addPart_17 : decode cX0_addPart 17 = .ok (.getfield 50, 3) := by decide +kernel
theorem dX0_addPart_20 : decode cX0_addPart 20 = .ok (.iload_n 1, 1) := by decide +kernel
theorem dX0_addPart_21 : decode cX0_addPart 21 = .ok (.iastore, 1) := by decide +kernel
theorem dX0_addPart_22 : decode cX0_addPart 22 = .ok (.aload_n 0, 1) := by decide +kernel
theorem dX0_addPart_23 : decode cX0_addPart 23 = .ok (.dup, 1) := by decide +kernel
theorem dX0_addPart_24 : decode cX0_addPart 24 = .ok (.getfield 50, 3) := by decide +kernel
theorem dX0_addPart_27 : decode cX0_addPart 27 = .ok (.iconst 1, 1) := by decide +kernel
theorem dX0_addPart_28 : decode cX0_addPart 28 = .ok (.iadd, 1) := by decide +kernel
theorem dX0_addPart_29 : decode cX0_addPart 29 = .ok (.putfield 50, 3) := by decide +kernel
theorem dX0_addPart_32 : decode cX0_addPart 32 = .ok (.return_, 1) := by decide +kernel
theorem dX0_linkNeighbours_0 : decode cX0_linkNeighbours 0 = .ok (.iconst 0, 1) := by decide +kernel
theorem dX0_linkNeighbours_1 : decode cX0_linkNeighbours 1 = .ok (.istore_n 1, 1) := by decide +kernel
theorem dX0_linkNeighbours_2 : decode cX0_linkNeighbours 2 = .ok (.iload_n 1, 1) := by decide +kernel
theorem dX0_linkNeighbours_3 : decode cX0_linkNeighbours 3 = .ok (.bipush 8, 2) := by decide +kernel
theorem dX0_linkNeighbours_5 : decode cX0_linkNeighbours 5 = .ok (.if_icmp .ge 60, 3) := by decide +kernel
theorem dX0_linkNeighbours_8 : decode cX0_linkNeighbours 8 = .ok (.aload_n 0, 1) := by decide +kernel
theorem dX0_linkNeighbours_9 : decode cX0_linkNeighbours 9 = .ok (.getfield 44, 3) := by decide +kernel
theorem dX0_linkNeighbours_12 : decode cX0_linkNeighbours 12 = .ok (.iload_n 1, 1) := by decide +kernel
theorem dX0_linkNeighbours_13 : decode cX0_linkNeighbours 13 = .ok (.aload_n 0, 1) := by decide +kernel
theorem dX0_linkNeighbours_14 : decode cX0_linkNeighbours 14 = .ok (.getfield 38, 3) := by decide +kernel
theorem dX0_linkNeighbours_17 : decode cX0_linkNeighbours 17 = .ok (.iload_n 1, 1) := by decide +kernel
theorem dX0_linkNeighbours_18 : decode cX0_linkNeighbours 18 = .ok (.iaload, 1) := by decide +kernel
theorem dX0_linkNeighbours_19 : decode cX0_linkNeighbours 19 = .ok (.iastore, 1) := by decide +kernel
theorem dX0_linkNeighbours_20 : decode cX0_linkNeighbours 20 = .ok (.iconst 0, 1) := by decide +kernel
theorem dX0_linkNeighbours_21 : decode cX0_linkNeighbours 21 = .ok (.istore_n 2, 1) := by decide +kernel
theorem dX0_linkNeighbours_22 : decode cX0_linkNeighbours 22 = .ok (.iload_n 2, 1) := by decide +kernel
theorem dX0_linkNeighbours_23 : decode cX0_linkNeighbours 23 = .ok (.bipush 8, 2) := by decide +kernel
theorem dX0_linkNeighbours_25 : decode cX0_linkNeighbours 25 = .ok (.if_icmp .ge 34, 3) := by decide +kernel
theorem dX0_linkNeighbours_28 : decode cX0_linkNeighbours 28 = .ok (.aload_n 0, 1) := by decide +kernel
theorem dX0_linkNeighbours_29 : decode cX0_linkNeighbours 29 = .ok (.getfield 38, 3) := by decide +kernel
theorem dX0_linkNeighbours_32 : decode cX0_linkNeighbours 32 = .ok (.iload_n 2, 1) := by decide +kernel
theorem dX0_linkNeighbours_33 : decode cX0_linkNeighbours 33 = .ok (.iaload, 1) := by decide +kernel
theorem dX0_linkNeighbours_34 : decode cX0_linkNeighbours 34 = .ok (.iload_n 1, 1) := by decide +kernel
theorem dX0_linkNeighbours_35 : decode cX0_linkNeighbours 35 = .ok (.invokestatic 70, 3) := by decide +kernel
theorem dX0_linkNeighbours_38 : decode cX0_linkNeighbours 38 = .ok (.ifCond .eq 15, 3) := by decide +kernel
theorem dX0_linkNeighbours_41 : decode cX0_linkNeighbours 41 = .ok (.aload_n 0, 1) := by decide +kernel
theorem dX0_linkNeighbours_42 : decode cX0_linkNeighbours 42 = .ok (.getfield 44, 3) := by decide +kernel
theorem dX0_linkNeighbours_45 : decode cX0_linkNeighbours 45 = .ok (.iload_n 1, 1) := by decide +kernel
theorem dX0_linkNeighbours_46 : decode cX0_linkNeighbours 46 = .ok (.dup2, 1) := by decide +kernel
theorem dX0_linkNeighbours_47 : decode cX0_linkNeighbours 47 = .ok (.iaload, 1) := by decide +kernel
theorem dX0_linkNeighbours_48 : decode cX0_linkNeighbours 48 = .ok (.iconst 1, 1) := by decide +kernel
theorem dX0_linkNeighbours_49 : decode cX0_linkNeighbours 49 = .ok (.iload_n 2, 1) := by decide +kernel
theorem dX0_linkNeighbours_50 : decode cX0_linkNeighbours 50 = .ok (.ishl, 1) := by decide +kernel
theorem dX0_linkNeighbours_51 : decode cX0_linkNeighbours 51 = .ok (.ior, 1) := by decide +kernel
theorem dX0_linkNeighbours_52 : decode cX0_linkNeighbours 52 = .ok (.iastore, 1) := by decide +kernel
theorem dX0_linkNeighbours_53 : decode cX0_linkNeighbours 53 = .ok (.iinc 2 1, 3) := by decide +kernel
theorem dX0_linkNeighbours_56 : decode cX0_linkNeighbours 56 = .ok (.goto (-34), 3) := by decide +kernel
theorem dX0_linkNeighbours_59 : decode cX0_linkNeighbours 59 = .ok (.iinc 1 1, 3) := by decide +kernel
theorem dX0_linkNeighbours_62 : decode cX0_linkNeighbours 62 = .ok (.goto (-60), 3) := by decide +kernel
theorem dX0_linkNeighbours_65 : decode cX0_linkNeighbours 65 = .ok (.return_, 1) := by decide +kernel
theorem dX0_addGroups_0 : decode cX0_addGroups 0 = .ok (.iload_n 1, 1) := by decide +kernel
theorem dX0_addGroups_1 : decode cX0_addGroups 1 = .ok (.istore_n 2, 1) := by decide +kernel
theorem dX0_addGroups_2 : decode cX0_addGroups 2 = .ok (.iconst 0, 1) := by decide +kernel
theorem dX0_addGroups_3 : decode cX0_addGroups 3 = .ok (.istore_n 3, 1) := by decide +kernel
theorem dX0_addGroups_4 : decode cX0_addGroups 4 = .ok (.iload_n 3, 1) := by decide +kernel
theorem dX0_addGroups_5 : decode cX0_addGroups 5 = .ok (.bipush 8, 2) := by decide +kernel
theorem dX0_addGroups_7 : decode cX0_addGroups 7 = .ok (.if_icmp .ge 38, 3) := by decide +kernel
theorem dX0_addGroups_10 : decode cX0_addGroups 10 = .ok (.iload_n 2, 1) := by decide +kernel
theorem dX0_addGroups_11 : decode cX0_addGroups 11 = .ok (.iload_n 3, 1) := by decide +kernel
theorem dX0_addGroups_12 : decode cX0_addGroups 12 = .ok (.invokestatic 70, 3) := by decide +kernel
theorem dX0_addGroups_15 : decode cX0_addGroups 15 = .ok (.ifCond .eq 24, 3) := by decide +kernel
theorem dX0_addGroups_18 : decode cX0_addGroups 18 = .ok (.aload_n 0, 1) := by decide +kernel
theorem dX0_addGroups_19 : decode cX0_addGroups 19 = .ok (.iload_n 3, 1) := by decide +kernel
theorem dX0_addGroups_20 : decode cX0_addGroups 20 = .ok (.iload_n 1, 1) := by decide +kernel
theorem dX0_addGroups_21 : decode cX0_addGroups 21 = .ok (.invokevirtual 126, 3) := by decide +kernel
theorem dX0_addGroups_24 : decode cX0_addGroups 24 = .ok (.istore 4, 2) := by decide +kernel
theorem dX0_addGroups_26 : decode cX0_addGroups 26 = .ok (.aload_n 0, 1) := by decide +kernel
theorem dX0_addGroups_27 : decode cX0_addGroups 27 = .ok (.iload 4, 2) := by decide +kernel
theorem dX0_addGroups_29 : decode cX0_addGroups 29 = .ok (.invokevirtual 82, 3) := by decide +kernel
theorem dX0_addGroups_32 : decode cX0_addGroups 32 = .ok (.iload_n 2, 1) := by decide +kernel
theorem dX0_addGroups_33 : decode cX0_addGroups 33 = .ok (.iload 4, 2) := by decide +kernel
theorem dX0_addGroups_35 : decode cX0_addGroups 35 = .ok (.iconst (-1), 1) := by decide +kernel
theorem dX0_addGroups_36 : decode cX0_addGroups 36 = .ok (.ixor, 1) := by decide +kernel
theorem dX0_addGroups_37 : decode cX0_addGroups 37 = .ok (.iand, 1) := by decide +kernel
theorem dX0_addGroups_38 : decode cX0_addGroups 38 = .ok (.istore_n 2, 1) := by decide +kernel
theorem dX0_addGroups_39 : decode cX0_addGroups 39 = .ok (.iinc 3 1, 3) := by decide +kernel
theorem dX0_addGroups_42 : decode cX0_addGroups 42 = .ok (.goto (-38), 3) := by decide +kernel
theorem dX0_addGroups_45 : decode cX0_addGroups 45 = .ok (.return_, 1) := by decide +kernel
theorem dX0_groupOf_0 : decode cX0_groupOf 0 = .ok (.iconst 1, 1) := by decide +kernel
theorem dX0_groupOf_1 : decode cX0_groupOf 1 = .ok (.iload_n 1, 1) := by decide +kernel
theorem dX0_groupOf_2 : decode cX0_groupOf 2 = .ok (.ishl, 1) := by decide +kernel
theorem dX0_groupOf_3 : decode cX0_groupOf 3 = .ok (.istore_n 3, 1) := by decide +kernel
theorem dX0_groupOf_4 : decode cX0_groupOf 4 = .ok (.iconst 0, 1) := by decide +kernel
theorem dX0_groupOf_5 : decode cX0_groupOf 5 = .ok (.istore 4, 2) := by decide +kernel
theorem dX0_groupOf_7 : decode cX0_groupOf 7 = .ok (.iload 4, 2) := by decide +kernel
theorem dX0_groupOf_9 : decode cX0_groupOf 9 = .ok (.bipush 8, 2) := by decide +kernel
theorem dX0_groupOf_11 : decode cX0_groupOf 11 = .ok (.if_icmp .ge 46, 3) := by decide +kernel
theorem dX0_groupOf_14 : decode cX0_groupOf 14 = .ok (.iconst 0, 1) := by decide +kernel
theorem dX0_groupOf_15 : decode cX0_groupOf 15 = .ok (.istore 5, 2) := by decide +kernel
theorem dX0_groupOf_17 : decode cX0_groupOf 17 = .ok (.iload 5, 2) := by decide +kernel
theorem dX0_groupOf_19 : decode cX0_groupOf 19 = .ok (.bipush 8, 2) := by decide +kernel
theorem dX0_groupOf_21 : decode cX0_groupOf 21 = .ok (.if_icmp .ge 30, 3) := by decide +kernel
theorem dX0_groupOf_24 : decode cX0_groupOf 24 = .ok (.iload_n 3, 1) := by decide +kernel
theorem dX0_groupOf_25 : decode cX0_groupOf 25 = .ok (.iload 5, 2) := by decide +kernel
theorem dX0_groupOf_27 : decode cX0_groupOf 27 = .ok (.invokestatic 70, 3) := by decide +kernel
theorem dX0_groupOf_30 : decode cX0_groupOf 30 = .ok (.ifCond .eq 15, 3) := by decide +kernel
theorem dX0_groupOf_33 : decode cX0_groupOf 33 = .ok (.iload_n 3, 1) := by decide +kernel
theorem dX0_groupOf_34 : decode cX0_groupOf 34 = .ok (.aload_n 0, 1) := by decide +kernel
theorem dX0_groupOf_35 : decode cX0_groupOf 35 = .ok (.getfield 44, 3) := by decide +kernel
theorem dX0_groupOf_38 : decode cX0_groupOf 38 = .ok (.iload 5, 2) := by decide +kernel
theorem dX0_groupOf_40 : decode cX0_groupOf 40 = .ok (.iaload, 1) := by decide +kernel
theorem dX0_groupOf_41 : decode cX0_groupOf 41 = .ok (.iload_n 2, 1) := by decide +kernel
theorem dX0_groupOf_42 : decode cX0_groupOf 42 = .ok (.iand, 1) := by decide +kernel
theorem dX0_groupOf_43 : decode cX0_groupOf 43 = .ok (.ior, 1) := by decide +kernel
theorem dX0_groupOf_44 : decode cX0_groupOf 44 = .ok (.istore_n 3, 1) := by decide +kernel
theorem dX0_groupOf_45 : decode cX0_groupOf 45 = .ok (.iinc 5 1, 3) := by decide +kernel
theorem dX0_groupOf_48 : decode cX0_groupOf 48 = .ok (.goto (-31), 3) := by decide +kernel
theorem dX0_groupOf_51 : decode cX0_groupOf 51 = .ok (.iinc 4 1, 3) := by decide +kernel
theorem dX0_groupOf_54 : decode cX0_groupOf 54 = .ok (.goto (-47), 3) := by decide +kernel
theorem dX0_groupOf_57 : decode cX0_groupOf 57 = .ok (.iload_n 3, 1) := by decide +kernel
theorem dX0_groupOf_58 : decode cX0_groupOf 58 = .ok (.ireturn, 1) := by decide +kernel
theorem dX0_sortByReach_0 : decode cX0_sortByReach 0 = .ok (.iconst 0, 1) := by decide +kernel
theorem dX0_sortByReach_1 : decode cX0_sortByReach 1 = .ok (.istore_n 1, 1) := by decide +kernel
theorem dX0_sortByReach_2 : decode cX0_sortByReach 2 = .ok (.iload_n 1, 1) := by decide +kernel
theorem dX0_sortByReach_3 : decode cX0_sortByReach 3 = .ok (.aload_n 0, 1) := by decide +kernel
theorem dX0_sortByReach_4 : decode cX0_sortByReach 4 = .ok (.getfield 50, 3) := by decide +kernel
theorem dX0_sortByReach_7 : decode cX0_sortByReach 7 = .ok (.if_icmp .ge 72, 3) := by decide +kernel
theorem dX0_sortByReach_10 : decode cX0_sortByReach 10 = .ok (.iload_n 1, 1) := by decide +kernel
theorem dX0_sortByReach_11 : decode cX0_sortByReach 11 = .ok (.iconst 1, 1) := by decide +kernel
theorem dX0_sortByReach_12 : decode cX0_sortByReach 12 = .ok (.iadd, 1) := by decide +kernel
theorem dX0_sortByReach_13 : decode cX0_sortByReach 13 = .ok (.istore_n 2, 1) := by decide +kernel
theorem dX0_sortByReach_14 : decode cX0_sortByReach 14 = .ok (.iload_n 2, 1) := by decide +kernel
theorem dX0_sortByReach_15 : decode cX0_sortByReach 15 = .ok (.aload_n 0, 1) := by decide +kernel
theorem dX0_sortByReach_16 : decode cX0_sortByReach 16 = .ok (.getfield 50, 3) := by decide +kernel
theorem dX0_sortByReach_19 : decode cX0_sortByReach 19 = .ok (.if_icmp .ge 54, 3) := by decide +kernel
theorem dX0_sortByReach_22 : decode cX0_sortByReach 22 = .ok (.aload_n 0, 1) := by decide +kernel
theorem dX0_sortByReach_23 : decode cX0_sortByReach 23 = .ok (.aload_n 0, 1) := by decide +kernel
theorem dX0_sortByReach_24 : decode cX0_sortByReach 24 = .ok (.getfield 47, 3) := by decide +kernel
theorem dX0_sortByReach_27 : decode cX0_sortByReach 27 = .ok (.iload_n 2, 1) := by decide +kernel
theorem dX0_sortByReach_28 : decode cX0_sortByReach 28 = .ok (.iaload, 1) := by decide +kernel
theorem dX0_sortByReach_29 : decode cX0_sortByReach 29 = .ok (.aload_n 0, 1) := by decide +kernel
theorem dX0_sortByReach_30 : decode cX0_sortByReach 30 = .ok (.getfield 47, 3) := by decide +kernel
theorem dX0_sortByReach_33 : decode cX0_sortByReach 33 = .ok (.iload_n 1, 1) := by decide +kernel
theorem dX0_sortByReach_34 : decode cX0_sortByReach 34 = .ok (.iaload, 1) := by decide +kernel
theorem dX0_sortByReach_35 : decode cX0_sortByReach 35 = .ok (.invokevirtual 130, 3) := by decide +kernel
theorem dX0_sortByReach_38 : decode cX0_sortByReach 38 = .ok (.ifCond .eq 29, 3) := by decide +kernel
theorem dX0_sortByReach_41 : decode cX0_sortByReach 41 = .ok (.aload_n 0, 1) := by decide +kernel
theorem dX0_sortByReach_42 : decode cX0_sortByReach 42 = .ok (.getfield 47, 3) := by decide +kernel
theorem dX0_sortByReach_45 : decode cX0_sortByReach 45 = .ok (.iload_n 1, 1) := by decide +kernel
theorem dX0_sortByReach_46 : decode cX0_sortByReach 46 = .ok (.iaload, 1) := by decide +kernel
theorem dX0_sortByReach_47 : decode cX0_sortByReach 47 = .ok (.istore_n 3, 1) := by decide +kernel
theorem dX0_sortByReach_48 : decode cX0_sortByReach 48 = .ok (.aload_n 0, 1) := by decide +kernel
theorem dX0_sortByReach_49 : decode cX0_sortByReach 49 = .ok (.getfield 47, 3) := by decide +kernel
theorem dX0_sortByReach_52 : decode cX0_sortByReach 52 = .ok (.iload_n 1, 1) := by decide +kernel
theorem dX0_sortByReach_53 : decode cX0_sortByReach 53 = .ok (.aload_n 0, 1) := by decide +kernel
theorem dX0_sortByReach_54 : decode cX0_sortByReach 54 = .ok (.getfield 47, 3) := by decide +kernel
theorem dX0_sortByReach_57 : decode cX0_sortByReach 57 = .ok (.iload_n 2, 1) := by decide +kernel
theorem dX0_sortByReach_58 : decode cX0_sortByReach 58 = .ok (.iaload, 1) := by decide +kernel
theorem dX0_sortByReach_59 : decode cX0_sortByReach 59 = .ok (.iastore, 1) := by decide +kernel
theorem dX0_sortByReach_60 : decode cX0_sortByReach 60 = .ok (.aload_n 0, 1) := by decide +kernel
theorem dX0_sortByReach_61 : decode cX0_sortByReach 61 = .ok (.getfield 47, 3) := by decide +kernel
theorem dX0_sortByReach_64 : decode cX0_sortByReach 64 = .ok (.iload_n 2, 1) := by decide +kernel
theorem dX0_sortByReach_65 : decode cX0_sortByReach 65 = .ok (.iload_n 3, 1) := by decide +kernel
theorem dX0_sortByReach_66 : decode cX0_sortByReach 66 = .ok (.iastore, 1) := by decide +kernel
theorem dX0_sortByReach_67 : decode cX0_sortByReach 67 = .ok (.iinc 2 1, 3) := by decide +kernel
theorem dX0_sortByReach_70 : decode cX0_sortByReach 70 = .ok (.goto (-56), 3) := by decide +kernel
theorem dX0_sortByReach_73 : decode cX0_sortByReach 73 = .ok (.iinc 1 1, 3) := by decide +kernel
theorem dX0_sortByReach_76 : decode cX0_sortByReach 76 = .ok (.goto (-74), 3) := by decide +kernel
theorem dX0_sortByReach_79 : decode cX0_sortByReach 79 = .ok (.return_, 1) := by decide +kernel
theorem dX0_leadsInto_0 : decode cX0_leadsInto 0 = .ok (.iconst 0, 1) := by decide +kernel
theorem dX0_leadsInto_1 : decode cX0_leadsInto 1 = .ok (.istore_n 3, 1) := by decide +kernel
theorem dX0_leadsInto_2 : decode cX0_leadsInto 2 = .ok (.iload_n 3, 1) := by decide +kernel
theorem dX0_leadsInto_3 : decode cX0_leadsInto 3 = .ok (.bipush 8, 2) := by decide +kernel
theorem dX0_leadsInto_5 : decode cX0_leadsInto 5 = .ok (.if_icmp .ge 30, 3) := by decide +kernel
theorem dX0_leadsInto_8 : decode cX0_leadsInto 8 = .ok (.iload_n 1, 1) := by decide +kernel
theorem dX0_leadsInto_9 : decode cX0_leadsInto 9 = .ok (.iload_n 3, 1) := by decide +kernel
theorem dX0_leadsInto_10 : decode cX0_leadsInto 10 = .ok (.invokestatic 70, 3) := by decide +kernel
theorem dX0_leadsInto_13 : decode cX0_leadsInto 13 = .ok (.ifCond .eq 16, 3) := by decide +kernel
theorem dX0_leadsInto_16 : decode cX0_leadsInto 16 = .ok (.aload_n 0, 1) := by decide +kernel
theorem dX0_leadsInto_17 : decode cX0_leadsInto 17 = .ok (.getfield 41, 3) := by decide +kernel
theorem dX0_leadsInto_20 : decode cX0_leadsInto 20 = .ok (.iload_n 3, 1) := by decide +kernel
theorem dX0_leadsInto_21 : decode cX0_leadsInto 21 = .ok (.iaload, 1) := by decide +kernel
theorem dX0_leadsInto_22 : decode cX0_leadsInto 22 = .ok (.iload_n 2, 1) := by decide +kernel
theorem dX0_leadsInto_23 : decode cX0_leadsInto 23 = .ok (.iand, 1) := by decide +kernel
theorem dX0_leadsInto_24 : decode cX0_leadsInto 24 = .ok (.ifCond .eq 5, 3) := by decide +kernel
theorem dX0_leadsInto_27 : decode cX0_leadsInto 27 = .ok (.iconst 1, 1) := by decide +kernel
theorem dX0_leadsInto_28 : decode cX0_leadsInto 28 = .ok (.ireturn, 1) := by decide +kernel
theorem dX0_leadsInto_29 : decode cX0_leadsInto 29 = .ok (.iinc 3 1, 3) := by decide +kernel
theorem dX0_leadsInto_32 : decode cX0_leadsInto 32 = .ok (.goto (-30), 3) := by decide +kernel
theorem dX0_leadsInto_35 : decode cX0_leadsInto 35 = .ok (.iconst 0, 1) := by decide +kernel
theorem dX0_leadsInto_36 : decode cX0_leadsInto 36 = .ok (.ireturn, 1) := by decide +kernel
theorem dX0_joinLacking_0 : decode cX0_joinLacking 0 = .ok (.iconst 0, 1) := by decide +kernel
theorem dX0_joinLacking_1 : decode cX0_joinLacking 1 = .ok (.istore_n 1, 1) := by decide +kernel
theorem dX0_joinLacking_2 : decode cX0_joinLacking 2 = .ok (.iload_n 1, 1) := by decide +kernel
theorem dX0_joinLacking_3 : decode cX0_joinLacking 3 = .ok (.bipush 8, 2) := by decide +kernel
theorem dX0_joinLacking_5 : decode cX0_joinLacking 5 = .ok (.if_icmp .ge 40, 3) := by decide +kernel
theorem dX0_joinLacking_8 : decode cX0_joinLacking 8 = .ok (.aload_n 0, 1) := by decide +kernel
theorem dX0_joinLacking_9 : decode cX0_joinLacking 9 = .ok (.invokevirtual 133, 3) := by decide +kernel
theorem dX0_joinLacking_12 : decode cX0_joinLacking 12 = .ok (.istore_n 2, 1) := by decide +kernel
theorem dX0_joinLacking_13 : decode cX0_joinLacking 13 = .ok (.iload_n 2, 1) := by decide +kernel
theorem dX0_joinLacking_14 : decode cX0_joinLacking 14 = .ok (.ifCond .lt 11, 3) := by decide +kernel
theorem dX0_joinLacking_17 : decode cX0_joinLacking 17 = .ok (.aload_n 0, 1) := by decide +kernel
theorem dX0_joinLacking_18 : decode cX0_joinLacking 18 = .ok (.getfield 50, 3) := by decide +kernel
theorem dX0_joinLacking_21 : decode cX0_joinLacking 21 = .ok (.iconst 2, 1) := by decide +kernel
theorem dX0_joinLacking_22 : decode cX0_joinLacking 22 = .ok (.if_icmp .ge 4, 3) := by decide +kernel
theorem dX0_joinLacking_25 : decode cX0_joinLacking 25 = .ok (.return_, 1) := by decide +kernel
theorem dX0_joinLacking_26 : decode cX0_joinLacking 26 = .ok (.aload_n 0, 1) := by decide +kernel
theorem dX0_joinLacking_27 : decode cX0_joinLacking 27 = .ok (.iload_n 2, 1) := by decide +kernel
theorem dX0_joinLacking_28 : decode cX0_joinLacking 28 = .ok (.ifCond .ne 7, 3) := by decide +kernel
theorem dX0_joinLacking_31 : decode cX0_joinLacking 31 = .ok (.iconst 1, 1) := by decide +kernel
theorem dX0_joinLacking_32 : decode cX0_joinLacking 32 = .ok (.goto 4, 3) := by decide +kernel
theorem dX0_joinLacking_35 : decode cX0_joinLacking 35 = .ok (.iload_n 2, 1) := by decide +kernel
theorem dX0_joinLacking_36 : decode cX0_joinLacking 36 = .ok (.invokevirtual 136, 3) := by decide +kernel
theorem dX0_joinLacking_39 : decode cX0_joinLacking 39 = .ok (.iinc 1 1, 3) := by decide +kernel
theorem dX0_joinLacking_42 : decode cX0_joinLacking 42 = .ok (.goto (-40), 3) := by decide +kernel
theorem dX0_joinLacking_45 : decode cX0_joinLacking 45 = .ok (.return_, 1) := by decide +kernel
theorem dX0_firstLacking_0 : decode cX0_firstLacking 0 = .ok (.iconst 0, 1) := by decide +kernel
theorem dX0_firstLacking_1 : decode cX0_firstLacking 1 = .ok (.istore_n 1, 1) := by decide +kernel
theorem dX0_firstLacking_2 : decode cX0_firstLacking 2 = .ok (.iload_n 1, 1) := by decide +kernel
theorem dX0_firstLacking_3 : decode cX0_firstLacking 3 = .ok (.aload_n 0, 1) := by decide +kernel
theorem dX0_firstLacking_4 : decode cX0_firstLacking 4 = .ok (.getfield 50, 3) := by decide +kernel
theorem dX0_firstLacking_7 : decode cX0_firstLacking 7 = .ok (.if_icmp .ge 39, 3) := by decide +kernel
theorem dX0_firstLacking_10 : decode cX0_firstLacking 10 = .ok (.aload_n 0, 1) := by decide +kernel
theorem dX0_firstLacking_11 : decode cX0_firstLacking 11 = .ok (.getfield 47, 3) := by decide +kernel
theorem dX0_firstLacking_14 : decode cX0_firstLacking 14 = .ok (.iload_n 1, 1) := by decide +kernel
theorem dX0_firstLacking_15 : decode cX0_firstLacking 15 = .ok (.iaload, 1) := by decide +kernel
theorem dX0_firstLacking_16 : decode cX0_firstLacking 16 = .ok (.aload_n 0, 1) := by decide +kernel
theorem dX0_firstLacking_17 : decode cX0_firstLacking 17 = .ok (.getfield 28, 3) := by decide +kernel
theorem dX0_firstLacking_20 : decode cX0_firstLacking 20 = .ok (.iand, 1) := by decide +kernel
theorem dX0_firstLacking_21 : decode cX0_firstLacking 21 = .ok (.ifCond .eq 17, 3) := by decide +kernel
theorem dX0_firstLacking_24 : decode cX0_firstLacking 24 = .ok (.aload_n 0, 1) := by decide +kernel
theorem dX0_firstLacking_25 : decode cX0_firstLacking 25 = .ok (.getfield 47, 3) := by decide +kernel
theorem dX0_firstLacking_28 : decode cX0_firstLacking 28 = .ok (.iload_n 1, 1) := by decide +kernel
theorem dX0_firstLacking_29 : decode cX0_firstLacking 29 = .ok (.iaload, 1) := by decide +kernel
theorem dX0_firstLacking_30 : decode cX0_firstLacking 30 = .ok (.aload_n 0, 1) := by decide +kernel
theorem dX0_firstLacking_31 : decode cX0_firstLacking 31 = .ok (.getfield 31, 3) := by decide +kernel
theorem dX0_firstLacking_34 : decode cX0_firstLacking 34 = .ok (.iand, 1) := by decide +kernel
theorem dX0_firstLacking_35 : decode cX0_firstLacking 35 = .ok (.ifCond .ne 5, 3) := by decide +kernel
theorem dX0_firstLacking_38 : decode cX0_firstLacking 38 = .ok (.iload_n 1, 1) := by decide +kernel
theorem dX0_firstLacking_39 : decode cX0_firstLacking 39 = .ok (.ireturn, 1) := by decide +kernel
theorem dX0_firstLacking_40 : decode cX0_firstLacking 40 = .ok (.iinc 1 1, 3) := by decide +kernel
theorem dX0_firstLacking_43 : decode cX0_firstLacking 43 = .ok (.goto (-41), 3) := by decide +kernel
theorem dX0_firstLacking_46 : decode cX0_firstLacking 46 = .ok (.iconst (-1), 1) := by decide +kernel
theorem dX0_firstLacking_47 : decode cX0_firstLacking 47 = .ok (.ireturn, 1) := by decide +kernel
theorem dX0_joinToFirst_0 : decode cX0_joinToFirst 0 = .ok (.aload_n 0, 1) := by decide +kernel
theorem dX0_joinToFirst_1 : decode cX0_joinToFirst 1 = .ok (.getfield 47, 3) := by decide +kernel
theorem dX0_joinToFirst_4 : decode cX0_joinToFirst 4 = .ok (.iconst 0, 1) := by decide +kernel
theorem dX0_joinToFirst_5 : decode cX0_joinToFirst 5 = .ok (.dup2, 1) := by decide +kernel
theorem dX0_joinToFirst_6 : decode cX0_joinToFirst 6 = .ok (.iaload, 1) := by decide +kernel
theorem dX0_joinToFirst_7 : decode cX0_joinToFirst 7 = .ok (.aload_n 0, 1) := by decide +kernel
theorem dX0_joinToFirst_8 : decode cX0_joinToFirst 8 = .ok (.getfield 47, 3) := by decide +kernel
theorem dX0_joinToFirst_11 : decode cX0_joinToFirst 11 = .ok (.iload_n 1, 1) := by decide +kernel
theorem dX0_joinToFirst_12 : decode cX0_joinToFirst 12 = .ok (.iaload, 1) := by decide +kernel
theorem dX0_joinToFirst_13 : decode cX0_joinToFirst 13 = .ok (.ior, 1) := by decide +kernel
theorem dX0_joinToFirst_14 : decode cX0_joinToFirst 14 = .ok (.iastore, 1) := by decide +kernel
theorem dX0_joinToFirst_15 : decode cX0_joinToFirst 15 = .ok (.aload_n 0, 1) := by decide +kernel
theorem dX0_joinToFirst_16 : decode cX0_joinToFirst 16 = .ok (.dup, 1) := by decide +kernel
theorem dX0_joinToFirst_17 : decode cX0_joinToFirst 17 = .ok (.getfield 50, 3) := by decide +kernel
theorem dX0_joinToFirst_20 : decode cX0_joinToFirst 20 = .ok (.iconst 1, 1) := by decide +kernel
theorem dX0_joinToFirst_21 : decode cX0_joinToFirst 21 = .ok (.isub, 1) := by decide +kernel
theorem dX0_joinToFirst_22 : decode cX0_joinToFirst 22 = .ok (.putfield 50, 3) := by decide +kernel
theorem dX0_joinToFirst_25 : decode cX0_joinToFirst 25 = .ok (.iload_n 1, 1) := by decide +kernel
theorem dX0_joinToFirst_26 : decode cX0_joinToFirst 26 = .ok (.istore_n 2, 1) := by decide +kernel
theorem dX0_joinToFirst_27 : decode cX0_joinToFirst 27 = .ok (.iload_n 2, 1) := by decide +kernel
theorem dX0_joinToFirst_28 : decode cX0_joinToFirst 28 = .ok (.aload_n 0, 1) := by decide +kernel
theorem dX0_joinToFirst_29 : decode cX0_joinToFirst 29 = .ok (.getfield 50, 3) := by decide +kernel
theorem dX0_joinToFirst_32 : decode cX0_joinToFirst 32 = .ok (.if_icmp .ge 23, 3) := by decide +kernel
theorem dX0_joinToFirst_35 : decode cX0_joinToFirst 35 = .ok (.aload_n 0, 1) := by decide +kernel
theorem dX0_joinToFirst_36 : decode cX0_joinToFirst 36 = .ok (.getfield 47, 3) := by decide +kernel
theorem dX0_joinToFirst_39 : decode cX0_joinToFirst 39 = .ok (.iload_n 2, 1) := by decide +kernel
theorem dX0_joinToFirst_40 : decode cX0_joinToFirst 40 = .ok (.aload_n 0, 1) := by decide +kernel
theorem dX0_joinToFirst_41 : decode cX0_joinToFirst 41 = .ok (.getfield 47, 3) := by decide +kernel
theorem dX0_joinToFirst_44 : decode cX0_joinToFirst 44 = .ok (.iload_n 2, 1) := by decide +kernel
theorem dX0_joinToFirst_45 : decode cX0_joinToFirst 45 = .ok (.iconst 1, 1) := by decide +kernel
theorem dX0_joinToFirst_46 : decode cX0_joinToFirst 46 = .ok (.iadd, 1) := by decide +kernel
theorem dX0_joinToFirst_47 : decode cX0_joinToFirst 47 = .ok (.iaload, 1) := by decide +kernel
theorem dX0_joinToFirst_48 : decode cX0_joinToFirst 48 = .ok (.iastore, 1) := by decide +kernel
theorem dX0_joinToFirst_49 : decode cX0_joinToFirst 49 = .ok (.iinc 2 1, 3) := by decide +kernel
theorem dX0_joinToFirst_52 : decode cX0_joinToFirst 52 = .ok (.goto (-25), 3) := by decide +kernel
theorem dX0_joinToFirst_55 : decode cX0_joinToFirst 55 = .ok (.return_, 1) := by decide +kernel
theorem dX0_belongsToFirst_0 : decode cX0_belongsToFirst 0 = .ok (.aload_n 0, 1) := by decide +kernel
theorem dX0_belongsToFirst_1 : decode cX0_belongsToFirst 1 = .ok (.getfield 28, 3) := by decide +kernel
theorem dX0_belongsToFirst_4 : decode cX0_belongsToFirst 4 = .ok (.aload_n 0, 1) := by decide +kernel
theorem dX0_belongsToFirst_5 : decode cX0_belongsToFirst 5 = .ok (.getfield 31, 3) := by decide +kernel
theorem dX0_belongsToFirst_8 : decode cX0_belongsToFirst 8 = .ok (.iconst (-1), 1) := by decide +kernel
theorem dX0_belongsToFirst_9 : decode cX0_belongsToFirst 9 = .ok (.ixor, 1) := by decide +kernel
theorem dX0_belongsToFirst_10 : decode cX0_belongsToFirst 10 = .ok (.iand, 1) := by decide +kernel
theorem dX0_belongsToFirst_11 : decode cX0_belongsToFirst 11 = .ok (.istore_n 2, 1) := by decide +kernel
theorem dX0_belongsToFirst_12 : decode cX0_belongsToFirst 12 = .ok (.aload_n 0, 1) := by decide +kernel
theorem dX0_belongsToFirst_13 : decode cX0_belongsToFirst 13 = .ok (.getfield 31, 3) := by decide +kernel
theorem dX0_belongsToFirst_16 : decode cX0_belongsToFirst 16 = .ok (.aload_n 0, 1) := by decide +kernel
theorem dX0_belongsToFirst_17 : decode cX0_belongsToFirst 17 = .ok (.getfield 28, 3) := by decide +kernel
theorem dX0_belongsToFirst_20 : decode cX0_belongsToFirst 20 = .ok (.iconst (-1), 1) := by decide +kernel
theorem dX0_belongsToFirst_21 : decode cX0_belongsToFirst 21 = .ok (.ixor, 1) := by decide +kernel
theorem dX0_belongsToFirst_22 : decode cX0_belongsToFirst 22 = .ok (.iand, 1) := by decide +kernel
theorem dX0_belongsToFirst_23 : decode cX0_belongsToFirst 23 = .ok (.istore_n 3, 1) := by decide +kernel
theorem dX0_belongsToFirst_24 : decode cX0_belongsToFirst 24 = .ok (.iconst 0, 1) := by decide +kernel
theorem dX0_belongsToFirst_25 : decode cX0_belongsToFirst 25 = .ok (.istore 4, 2) := by decide +kernel
theorem dX0_belongsToFirst_27 : decode cX0_belongsToFirst 27 = .ok (.iload 4, 2) := by decide +kernel
theorem dX0_belongsToFirst_29 : decode cX0_belongsToFirst 29 = .ok (.bipush 8, 2) := by decide +kernel
theorem dX0_belongsToFirst_31 : decode cX0_belongsToFirst 31 = .ok (.if_icmp .ge 55, 3) := by decide +kernel
theorem dX0_belongsToFirst_34 : decode cX0_belongsToFirst 34 = .ok (.iload_n 2, 1) := by decide +kernel
theorem dX0_belongsToFirst_35 : decode cX0_belongsToFirst 35 = .ok (.iload 4, 2) := by decide +kernel
theorem dX0_belongsToFirst_37 : decode cX0_belongsToFirst 37 = .ok (.invokestatic 70, 3) := by decide +kernel
theorem dX0_belongsToFirst_40 : decode cX0_belongsToFirst 40 = .ok (.ifCond .eq 17, 3) := by decide +kernel
theorem dX0_belongsToFirst_43 : decode cX0_belongsToFirst 43 = .ok (.aload_n 0, 1) := by decide +kernel
theorem dX0_belongsToFirst_44 : decode cX0_belongsToFirst 44 = .ok (.getfield 38, 3) := by decide +kernel
theorem dX0_belongsToFirst_47 : decode cX0_belongsToFirst 47 = .ok (.iload 4, 2) := by decide +kernel
theorem dX0_belongsToFirst_49 : decode cX0_belongsToFirst 49 = .ok (.iaload, 1) := by decide +kernel
theorem dX0_belongsToFirst_50 : decode cX0_belongsToFirst 50 = .ok (.iload_n 1, 1) := by decide +kernel
theorem dX0_belongsToFirst_51 : decode cX0_belongsToFirst 51 = .ok (.iand, 1) := by decide +kernel
theorem dX0_belongsToFirst_52 : decode cX0_belongsToFirst 52 = .ok (.ifCond .eq 5, 3) := by decide +kernel
theorem dX0_belongsToFirst_55 : decode cX0_belongsToFirst 55 = .ok (.iconst 1, 1) := by decide +kernel
theorem dX0_belongsToFirst_56 : decode cX0_belongsToFirst 56 = .ok (.ireturn, 1) := by decide +kernel
theorem dX0_belongsToFirst_57 : decode cX0_belongsToFirst 57 = .ok (.iload_n 1, 1) := by decide +kernel
theorem dX0_belongsToFirst_58 : decode cX0_belongsToFirst 58 = .ok (.iload 4, 2) := by decide +kernel
theorem dX0_belongsToFirst_60 : decode cX0_belongsToFirst 60 = .ok (.invokestatic 70, 3) := by decide +kernel
theorem dX0_belongsToFirst_63 : decode cX0_belongsToFirst 63 = .ok (.ifCond .eq 17, 3) := by decide +kernel
theorem dX0_belongsToFirst_66 : decode cX0_belongsToFirst 66 = .ok (.aload_n 0, 1) := by decide +kernel
theorem dX0_belongsToFirst_67 : decode cX0_belongsToFirst 67 = .ok (.getfield 38, 3) := by decide +kernel
theorem dX0_belongsToFirst_70 : decode cX0_belongsToFirst 70 = .ok (.iload 4, 2) := by decide +kernel
theorem dX0_belongsToFirst_72 : decode cX0_belongsToFirst 72 = .ok (.iaload, 1) := by decide +kernel
theorem dX0_belongsToFirst_73 : decode cX0_belongsToFirst 73 = .ok (.iload_n 3, 1) := by decide +kernel
theorem dX0_belongsToFirst_74 : decode cX0_belongsToFirst 74 = .ok (.iand, 1) := by decide +kernel
theorem dX0_belongsToFirst_75 : decode cX0_belongsToFirst 75 = .ok (.ifCond .eq 5, 3) := by decide +kernel
theorem dX0_belongsToFirst_78 : decode cX0_belongsToFirst 78 = .ok (.iconst 1, 1) := by decide +kernel
theorem dX0_belongsToFirst_79 : decode cX0_belongsToFirst 79 = .ok (.ireturn, 1) := by decide +kernel
theorem dX0_belongsToFirst_80 : decode cX0_belongsToFirst 80 = .ok (.iinc 4 1, 3) := by decide +kernel
theorem dX0_belongsToFirst_83 : decode cX0_belongsToFirst 83 = .ok (.goto (-56), 3) := by decide +kernel
theorem dX0_belongsToFirst_86 : decode cX0_belongsToFirst 86 = .ok (.iconst 0, 1) := by decide +kernel
theorem dX0_belongsToFirst_87 : decode cX0_belongsToFirst 87 = .ok (.ireturn, 1) := by decide +kernel

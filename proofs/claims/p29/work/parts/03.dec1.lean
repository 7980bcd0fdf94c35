theorem dX1_init_0 : decode cX1_init 0 = .ok (.aload_n 0, 1) := by decide +kernel
theorem dX1_init_1 : decode cX1_init 1 = .ok (.invokespecial 3, 3) := by decide +kernel
theorem dX1_init_4 : decode cX1_init 4 = .ok (.aload_n 0, 1) := by decide +kernel
theorem dX1_init_5 : decode cX1_init 5 = .ok (.new 9, 3) := by decide +kernel
theorem dX1_init_8 : decode cX1_init 8 = .ok (.dup, 1) := by decide +kernel
theorem dX1_init_9 : decode cX1_init 9 = .ok (.invokespecial 11, 3) := by decide +kernel
theorem dX1_init_12 : decode cX1_init 12 = .ok (.putfield 12, 3) := by decide +kernel
theorem dX1_init_15 : decode cX1_init 15 = .ok (.aload_n 0, 1) := by decide +kernel
theorem dX1_init_16 : decode cX1_init 16 = .ok (.bipush 12, 2) := by decide +kernel
theorem dX1_init_18 : decode cX1_init 18 = .ok (.newarray .int, 2) := by decide +kernel
theorem dX1_init_20 : decode cX1_init 20 = .ok (.putfield 18, 3) := by decide +kernel
theorem dX1_init_23 : decode cX1_init 23 = .ok (.aload_n 0, 1) := by decide +kernel
theorem dX1_init_24 : decode cX1_init 24 = .ok (.iconst 0, 1) := by decide +kernel
theorem dX1_init_25 : decode cX1_init 25 = .ok (.putfield 22, 3) := by decide +kernel
theorem dX1_init_28 : decode cX1_init 28 = .ok (.aload_n 0, 1) := by decide +kernel
theorem dX1_init_29 : decode cX1_init 29 = .ok (.sipush 832, 3) := by decide +kernel
theorem dX1_init_32 : decode cX1_init 32 = .ok (.newarray .int, 2) := by decide +kernel
theorem dX1_init_34 : decode cX1_init 34 = .ok (.putfield 26, 3) := by decide +kernel
theorem dX1_init_37 : decode cX1_init 37 = .ok (.return_, 1) := by decide +kernel
theorem dX1_matches_0 : decode cX1_matches 0 = .ok (.iconst 0, 1) := by decide +kernel
theorem dX1_matches_1 : decode cX1_matches 1 = .ok (.istore 4, 2) := by decide +kernel
theorem dX1_matches_3 : decode cX1_matches 3 = .ok (.iconst 0, 1) := by decide +kernel
theorem dX1_matches_4 : decode cX1_matches 4 = .ok (.istore 5, 2) := by decide +kernel
theorem dX1_matches_6 : decode cX1_matches 6 = .ok (.iload 5, 2) := by decide +kernel
theorem dX1_matches_8 : decode cX1_matches 8 = .ok (.iload_n 3, 1) := by decide +kernel
theorem dX1_matches_9 : decode cX1_matches 9 = .ok (.if_icmp .ge 36, 3) := by decide +kernel
theorem dX1_matches_12 : decode cX1_matches 12 = .ok (.aload_n 0, 1) := by decide +kernel
theorem dX1_matches_13 : decode cX1_matches 13 = .ok (.getfield 18, 3) := by decide +kernel
theorem dX1_matches_16 : decode cX1_matches 16 = .ok (.iload 5, 2) := by decide +kernel
theorem dX1_matches_18 : decode cX1_matches 18 = .ok (.iconst 1, 1) := by decide +kernel
theorem dX1_matches_19 : decode cX1_matches 19 = .ok (.aload_n 1, 1) := by decide +kernel
theorem dX1_matches_20 : decode cX1_matches 20 = .ok (.iload_n 2, 1) := by decide +kernel
theorem dX1_matches_21 : decode cX1_matches 21 = .ok (.iload 5, 2) := by decide +kernel
theorem dX1_matches_23 : decode cX1_matches 23 = .ok (.iadd, 1) := by decide +kernel
theorem dX1_matches_24 : decode cX1_matches 24 = .ok (.iaload, 1) := by decide +kernel
theorem dX1_matches_25 : decode cX1_matches 25 = .ok (.ishl, 1) := by decide +kernel
theorem dX1_matches_26 : decode cX1_matches 26 = .ok (.iastore, 1) := by decide +kernel
theorem dX1_matches_27 : decode cX1_matches 27 = .ok (.iload 4, 2) := by decide +kernel
theorem dX1_matches_29 : decode cX1_matches 29 = .ok (.aload_n 0, 1) := by decide +kernel
theorem dX1_matches_30 : decode cX1_matches 30 = .ok (.getfield 18, 3) := by decide +kernel
theorem dX1_matches_33 : decode cX1_matches 33 = .ok (.iload 5, 2) := by decide +kernel
theorem dX1_matches_35 : decode cX1_matches 35 = .ok (.iaload, 1) := by decide +kernel
theorem dX1_matches_36 : decode cX1_matches 36 = .ok (.ior, 1) := by decide +kernel
theorem dX1_matches_37 : decode cX1_matches 37 = .ok (.istore 4, 2) := by decide +kernel
theorem dX1_matches_39 : decode cX1_matches 39 = .ok (.iinc 5 1, 3) := by decide +kernel
theorem dX1_matches_42 : decode cX1_matches 42 = .ok (.goto (-36), 3) := by decide +kernel
theorem dX1_matches_45 : decode cX1_matches 45 = .ok (.aload_n 0, 1) := by decide +kernel
theorem dX1_matches_46 : decode cX1_matches 46 = .ok (.iload_n 3, 1) := by decide +kernel
theorem dX1_matches_47 : decode cX1_matches 47 = .ok (.putfield 22, 3) := by decide +kernel
theorem dX1_matches_50 : decode cX1_matches 50 = .ok (.iload 4, 2) := by decide +kernel
theorem dX1_matches_52 : decode cX1_matches 52 = .ok (.aload_n 0, 1) := by decide +kernel
theorem dX1_matches_53 : decode cX1_matches 53 = .ok (.getfield 12, 3) := by decide +kernel
theorem dX1_matches_56 : decode cX1_matches 56 = .ok (.getfield 29, 3) := by decide +kernel
theorem dX1_matches_59 : decode cX1_matches 59 = .ok (.iconst 0, 1) := by decide +kernel
theorem dX1_matches_60 : decode cX1_matches 60 = .ok (.iaload, 1) := by decide +kernel
theorem dX1_matches_61 : decode cX1_matches 61 = .ok (.iconst (-1), 1) := by decide +kernel
theorem dX1_matches_62 : decode cX1_matches 62 = .ok (.ixor, 1) := by decide +kernel
theorem dX1_matches_63 : decode cX1_matches 63 = .ok (.iand, 1) := by decide +kernel
theorem dX1_matches_64 : decode cX1_matches 64 = .ok (.ifCond .eq 5, 3) := by decide +kernel
theorem dX1_matches_67 : decode cX1_matches 67 = .ok (.iconst 0, 1) := by decide +kernel
theorem dX1_matches_68 : decode cX1_matches 68 = .ok (.ireturn, 1) := by decide +kernel
theorem dX1_matches_69 : decode cX1_matches 69 = .ok (.aload_n 0, 1) := by decide +kernel
theorem dX1_matches_70 : decode cX1_matches 70 = .ok (.getfield 22, 3) := by decide +kernel
theorem dX1_matches_73 : decode cX1_matches 73 = .ok (.istore 5, 2) := by decide +kernel
theorem dX1_matches_75 : decode cX1_matches 75 = .ok (.iload 5, 2) := by decide +kernel
theorem dX1_matches_77 : decode cX1_matches 77 = .ok (.ifCond .lt 15, 3) := by decide +kernel
theorem dX1_matches_80 : decode cX1_matches 80 = .ok (.aload_n 0, 1) := by decide +kernel
theorem dX1_matches_81 : decode cX1_matches 81 = .ok (.iload 5, 2) := by decide +kernel
theorem dX1_matches_83 : decode cX1_matches 83 = .ok (.invokevirtual 32, 3) := by decide +kernel
theorem dX1_matches_86 : decode cX1_matches 86 = .ok (.iinc 5 (-1), 3) := by decide +kernel
theorem dX1_matches_89 : decode cX1_matches 89 = .ok (.goto (-14), 3) := by decide +kernel
theorem dX1_matches_92 : decode cX1_matches 92 = .ok (.aload_n 0, 1) := by decide +kernel
theorem dX1_matches_93 : decode cX1_matches 93 = .ok (.invokevirtual 36, 3) := by decide +kernel
theorem dX1_matches_96 : decode cX1_matches 96 = .ok (.ireturn, 1) := by decide +kernel
theorem dX1_countWords_0 : decode cX1_countWords 0 = .ok (.aload_n 0, 1) := by decide +kernel
theorem dX1_countWords_1 : decode cX1_countWords 1 = .ok (.iload_n 1, 1) := by decide +kernel
theorem dX1_countWords_2 : decode cX1_countWords 2 = .ok (.putfield 22, 3) := by decide +kernel
theorem dX1_countWords_5 : decode cX1_countWords 5 = .ok (.aload_n 0, 1) := by decide +kernel
theorem dX1_countWords_6 : decode cX1_countWords 6 = .ok (.iload_n 1, 1) := by decide +kernel
theorem dX1_countWords_7 : decode cX1_countWords 7 = .ok (.invokevirtual 32, 3) := by decide +kernel
theorem dX1_countWords_10 : decode cX1_countWords 10 = .ok (.aload_n 0, 1) := by decide +kernel
theorem dX1_countWords_11 : decode cX1_countWords 11 = .ok (.iload_n 1, 1) := by decide +kernel
theorem dX1_countWords_12 : decode cX1_countWords 12 = .ok (.iconst 1, 1) := by decide +kernel
theorem dX1_countWords_13 : decode cX1_countWords 13 = .ok (.isub, 1) := by decide +kernel
theorem dX1_countWords_14 : decode cX1_countWords 14 = .ok (.invokestatic 40, 3) := by decide +kernel
theorem dX1_countWords_17 : decode cX1_countWords 17 = .ok (.ireturn, 1) := by decide +kernel
theorem dX1_countSpelt_0 : decode cX1_countSpelt 0 = .ok (.iload_n 1, 1) := by decide +kernel
theorem dX1_countSpelt_1 : decode cX1_countSpelt 1 = .ok (.ifCond .lt 9, 3) := by decide +kernel
theorem dX1_countSpelt_4 : decode cX1_countSpelt 4 = .ok (.iload_n 1, 1) := by decide +kernel
theorem dX1_countSpelt_5 : decode cX1_countSpelt 5 = .ok (.bipush 12, 2) := by decide +kernel
theorem dX1_countSpelt_7 : decode cX1_countSpelt 7 = .ok (.if_icmp .lt 16, 3) := by decide +kernel
theorem dX1_countSpelt_10 : decode cX1_countSpelt 10 = .ok (.aload_n 0, 1) := by decide +kernel
theorem dX1_countSpelt_11 : decode cX1_countSpelt 11 = .ok (.invokevirtual 36, 3) := by decide +kernel
theorem dX1_countSpelt_14 : decode cX1_countSpelt 14 = .ok (.ifCond .eq 7, 3) := by decide +kernel
theorem dX1_countSpelt_17 : decode cX1_countSpelt 17 = .ok (.iconst 1, 1) := by decide +kernel
theorem dX1_countSpelt_18 : decode cX1_countSpelt 18 = .ok (.goto 4, 3) := by decide +kernel
theorem dX1_countSpelt_21 : decode cX1_countSpelt 21 = .ok (.iconst 0, 1) := by decide +kernel
theorem dX1_countSpelt_22 : decode cX1_countSpelt 22 = .ok (.ireturn, 1) := by decide +kernel
theorem dX1_countSpelt_23 : decode cX1_countSpelt 23 = .ok (.iconst 0, 1) := by decide +kernel
theorem dX1_countSpelt_24 : decode cX1_countSpelt 24 = .ok (.istore_n 2, 1) := by decide +kernel
theorem dX1_countSpelt_25 : decode cX1_countSpelt 25 = .ok (.iconst 0, 1) := by decide +kernel
theorem dX1_countSpelt_26 : decode cX1_countSpelt 26 = .ok (.istore_n 3, 1) := by decide +kernel
theorem dX1_countSpelt_27 : decode cX1_countSpelt 27 = .ok (.iload_n 3, 1) := by decide +kernel
theorem dX1_countSpelt_28 : decode cX1_countSpelt 28 = .ok (.bipush 8, 2) := by decide +kernel
theorem dX1_countSpelt_30 : decode cX1_countSpelt 30 = .ok (.if_icmp .ge 49, 3) := by decide +kernel
theorem dX1_countSpelt_33 : decode cX1_countSpelt 33 = .ok (.aload_n 0, 1) := by decide +kernel
theorem dX1_countSpelt_34 : decode cX1_countSpelt 34 = .ok (.getfield 12, 3) := by decide +kernel
theorem dX1_countSpelt_37 : decode cX1_countSpelt 37 = .ok (.getfield 29, 3) := by decide +kernel
theorem dX1_countSpelt_40 : decode cX1_countSpelt 40 = .ok (.iconst 0, 1) := by decide +kernel
theorem dX1_countSpelt_41 : decode cX1_countSpelt 41 = .ok (.iaload, 1) := by decide +kernel
theorem dX1_countSpelt_42 : decode cX1_countSpelt 42 = .ok (.iload_n 3, 1) := by decide +kernel
theorem dX1_countSpelt_43 : decode cX1_countSpelt 43 = .ok (.invokestatic 44, 3) := by decide +kernel
theorem dX1_countSpelt_46 : decode cX1_countSpelt 46 = .ok (.ifCond .eq 27, 3) := by decide +kernel
theorem dX1_countSpelt_49 : decode cX1_countSpelt 49 = .ok (.aload_n 0, 1) := by decide +kernel
theorem dX1_countSpelt_50 : decode cX1_countSpelt 50 = .ok (.getfield 18, 3) := by decide +kernel
theorem dX1_countSpelt_53 : decode cX1_countSpelt 53 = .ok (.iload_n 1, 1) := by decide +kernel
theorem dX1_countSpelt_54 : decode cX1_countSpelt 54 = .ok (.iconst 1, 1) := by decide +kernel
theorem dX1_countSpelt_55 : decode cX1_countSpelt 55 = .ok (.iload_n 3, 1) := by decide +kernel
theorem dX1_countSpelt_56 : decode cX1_countSpelt 56 = .ok (.ishl, 1) := by decide +kernel
theorem dX1_countSpelt_57 : decode cX1_countSpelt 57 = .ok (.iastore, 1) := by decide +kernel
theorem dX1_countSpelt_58 : decode cX1_countSpelt 58 = .ok (.aload_n 0, 1) := by decide +kernel
theorem dX1_countSpelt_59 : decode cX1_countSpelt 59 = .ok (.iload_n 1, 1) := by decide +kernel
theorem dX1_countSpelt_60 : decode cX1_countSpelt 60 = .ok (.invokevirtual 32, 3) := by decide +kernel
theorem dX1_countSpelt_63 : decode cX1_countSpelt 63 = .ok (.iload_n 2, 1) := by decide +kernel
theorem dX1_countSpelt_64 : decode cX1_countSpelt 64 = .ok (.aload_n 0, 1) := by decide +kernel
theorem dX1_countSpelt_65 : decode cX1_countSpelt 65 = .ok (.iload_n 1, 1) := by decide +kernel
theorem dX1_countSpelt_66 : decode cX1_countSpelt 66 = .ok (.iconst 1, 1) := by decide +kernel
theorem dX1_countSpelt_67 : decode cX1_countSpelt 67 = .ok (.isub, 1) := by decide +kernel
theorem dX1_countSpelt_68 : decode cX1_countSpelt 68 = .ok (.invokestatic 40, 3) := by decide +kernel
theorem dX1_countSpelt_71 : decode cX1_countSpelt 71 = .ok (.iadd, 1) := by decide +kernel
theorem dX1_countSpelt_72 : decode cX1_countSpelt 72 = .ok (.istore_n 2, 1) := by decide +kernel
theorem dX1_countSpelt_73 : decode cX1_countSpelt 73 = .ok (.iinc 3 1, 3) := by decide +kernel
theorem dX1_countSpelt_76 : decode cX1_countSpelt 76 = .ok (.goto (-49), 3) := by decide +kernel
theorem dX1_countSpelt_79 : decode cX1_countSpelt 79 = .ok (.iload_n 2, 1) := by decide +kernel
theorem dX1_countSpelt_80 : decode cX1_countSpelt 80 = .ok (.ireturn, 1) := by decide +kernel
theorem dX1_isWhole_0 : decode cX1_isWhole 0 = .ok (.aload_n 0, 1) := by decide +kernel
theorem dX1_isWhole_1 : decode cX1_isWhole 1 = .ok (.getfield 26, 3) := by decide +kernel
theorem dX1_isWhole_4 : decode cX1_isWhole 4 = .ok (.iconst 0, 1) := by decide +kernel
theorem dX1_isWhole_5 : decode cX1_isWhole 5 = .ok (.iaload, 1) := by decide +kernel
theorem dX1_isWhole_6 : decode cX1_isWhole 6 = .ok (.aload_n 0, 1) := by decide +kernel
theorem dX1_isWhole_7 : decode cX1_isWhole 7 = .ok (.getfield 22, 3) := by decide +kernel
theorem dX1_isWhole_10 : decode cX1_isWhole 10 = .ok (.ishr, 1) := by decide +kernel
theorem dX1_isWhole_11 : decode cX1_isWhole 11 = .ok (.iconst 1, 1) := by decide +kernel
theorem dX1_isWhole_12 : decode cX1_isWhole 12 = .ok (.iand, 1) := by decide +kernel
theorem dX1_isWhole_13 : decode cX1_isWhole 13 = .ok (.ifCond .eq 7, 3) := by decide +kernel
theorem dX1_isWhole_16 : decode cX1_isWhole 16 = .ok (.iconst 1, 1) := by decide +kernel
theorem dX1_isWhole_17 : decode cX1_isWhole 17 = .ok (.goto 4, 3) := by decide +kernel
theorem dX1_isWhole_20 : decode cX1_isWhole 20 = .ok (.iconst 0, 1) := by decide +kernel
theorem dX1_isWhole_21 : decode cX1_isWhole 21 = .ok (.ireturn, 1) := by decide +kernel
theorem dX1_readFrom_0 : decode cX1_readFrom 0 = .ok (.aload_n 0, 1) := by decide +kernel
theorem dX1_readFrom_1 : decode cX1_readFrom 1 = .ok (.getfield 12, 3) := by decide +kernel
theorem dX1_readFrom_4 : decode cX1_readFrom 4 = .ok (.getfield 48, 3) := by decide +kernel
theorem dX1_readFrom_7 : decode cX1_readFrom 7 = .ok (.iconst 1, 1) := by decide +kernel
theorem dX1_readFrom_8 : decode cX1_readFrom 8 = .ok (.isub, 1) := by decide +kernel
theorem dX1_readFrom_9 : decode cX1_readFrom 9 = .ok (.istore_n 2, 1) := by decide +kernel
theorem dX1_readFrom_10 : decode cX1_readFrom 10 = .ok (.iload_n 2, 1) := by decide +kernel
theorem dX1_readFrom_11 : decode cX1_readFrom 11 = .ok (.ifCond .lt 26, 3) := by decide +kernel
theorem dX1_readFrom_14 : decode cX1_readFrom 14 = .ok (.aload_n 0, 1) := by decide +kernel
theorem dX1_readFrom_15 : decode cX1_readFrom 15 = .ok (.getfield 26, 3) := by decide +kernel
theorem dX1_readFrom_18 : decode cX1_readFrom 18 = .ok (.iload_n 2, 1) := by decide +kernel
theorem dX1_readFrom_19 : decode cX1_readFrom 19 = .ok (.bipush 13, 2) := by decide +kernel
theorem dX1_readFrom_21 : decode cX1_readFrom 21 = .ok (.imul, 1) := by decide +kernel
theorem dX1_readFrom_22 : decode cX1_readFrom 22 = .ok (.iload_n 1, 1) := by decide +kernel
theorem dX1_readFrom_23 : decode cX1_readFrom 23 = .ok (.iadd, 1) := by decide +kernel
theorem dX1_readFrom_24 : decode cX1_readFrom 24 = .ok (.aload_n 0, 1) := by decide +kernel
theorem dX1_readFrom_25 : decode cX1_readFrom 25 = .ok (.iload_n 2, 1) := by decide +kernel
theorem dX1_readFrom_26 : decode cX1_readFrom 26 = .ok (.iload_n 1, 1) := by decide +kernel
theorem dX1_readFrom_27 : decode cX1_readFrom 27 = .ok (.invokevirtual 51, 3) := by decide +kernel
theorem dX1_readFrom_30 : decode cX1_readFrom 30 = .ok (.iastore, 1) := by decide +kernel
theorem dX1_readFrom_31 : decode cX1_readFrom 31 = .ok (.iinc 2 (-1), 3) := by decide +kernel
theorem dX1_readFrom_34 : decode cX1_readFrom 34 = .ok (.goto (-24), 3) := by decide +kernel
theorem dX1_readFrom_37 : decode cX1_readFrom 37 = .ok (.return_, 1) := by decide +kernel
theorem dX1_endsOf_0 : decode cX1_endsOf 0 = .ok (.aload_n 0, 1) := by decide +kernel
theorem dX1_endsOf_1 : decode cX1_endsOf 1 = .ok (.getfield 12, 3) := by decide +kernel
theorem dX1_endsOf_4 : decode cX1_endsOf 4 = .ok (.getfield 55, 3) := by decide +kernel
theorem dX1_endsOf_7 : decode cX1_endsOf 7 = .ok (.iload_n 1, 1) := by decide +kernel
theorem dX1_endsOf_8 : decode cX1_endsOf 8 = .ok (.iaload, 1) := by decide +kernel
theorem dX1_endsOf_9 : decode cX1_endsOf 9 = .ok (.tableswitch 71 1 5 #[35, 42, 50, 57, 64], 35) := by decide +kernel
theorem dX1_endsOf_44 : decode cX1_endsOf 44 = .ok (.aload_n 0, 1) := by decide +kernel
theorem dX1_endsOf_45 : decode cX1_endsOf 45 = .ok (.iload_n 1, 1) := by decide +kernel
theorem dX1_endsOf_46 : decode cX1_endsOf 46 = .ok (.iload_n 2, 1) := by decide +kernel
theorem dX1_endsOf_47 : decode cX1_endsOf 47 = .ok (.invokevirtual 58, 3) := by decide +kernel
theorem dX1_endsOf_50 : decode cX1_endsOf 50 = .ok (.ireturn, 1) := by decide +kernel
theorem dX1_endsOf_51 : decode cX1_endsOf 51 = .ok (.aload_n 0, 1) := by decide +kernel
theorem dX1_endsOf_52 : decode cX1_endsOf 52 = .ok (.iload_n 1, 1) := by decide +kernel
theorem dX1_endsOf_53 : decode cX1_endsOf 53 = .ok (.iconst 0, 1) := by decide +kernel
theorem dX1_endsOf_54 : decode cX1_endsOf 54 = .ok (.iload_n 2, 1) := by decide +kernel
theorem dX1_endsOf_55 : decode cX1_endsOf 55 = .ok (.invokevirtual 61, 3) := by decide +kernel
theorem dX1_endsOf_58 : decode cX1_endsOf 58 = .ok (.ireturn, 1) := by decide +kernel
theorem dX1_endsOf_59 : decode cX1_endsOf 59 = .ok (.aload_n 0, 1) := by decide +kernel
theorem dX1_endsOf_60 : decode cX1_endsOf 60 = .ok (.iload_n 1, 1) := by decide +kernel
theorem dX1_endsOf_61 : decode cX1_endsOf 61 = .ok (.iload_n 2, 1) := by decide +kernel
theorem dX1_endsOf_62 : decode cX1_endsOf 62 = .ok (.invokevirtual 65, 3) := by decide +kernel
theorem dX1_endsOf_65 : decode cX1_endsOf 65 = .ok (.ireturn, 1) := by decide +kernel
theorem dX1_endsOf_66 : decode cX1_endsOf 66 = .ok (.aload_n 0, 1) := by decide +kernel
theorem dX1_endsOf_67 : decode cX1_endsOf 67 = .ok (.iload_n 1, 1) := by decide +kernel
theorem dX1_endsOf_68 : decode cX1_endsOf 68 = .ok (.iload_n 2, 1) := by decide +kernel
theorem dX1_endsOf_69 : decode cX1_endsOf 69 = .ok (.invokevirtual 68, 3) := by decide +kernel
theorem dX1_endsOf_72 : decode cX1_endsOf 72 = .ok (.ireturn, 1) := by decide +kernel
theorem dX1_endsOf_73 : decode cX1_endsOf 73 = .ok (.aload_n 0, 1) := by decide +kernel
theorem dX1_endsOf_74 : decode cX1_endsOf 74 = .ok (.iload_n 1, 1) := by decide +kernel
theorem dX1_endsOf_75 : decode cX1_endsOf 75 = .ok (.iload_n 2, 1) := by decide +kernel
theorem dX1_endsOf_76 : decode cX1_endsOf 76 = .ok (.invokevirtual 71, 3) := by decide +kernel
theorem dX1_endsOf_79 : decode cX1_endsOf 79 = .ok (.ireturn, 1) := by decide +kernel
theorem dX1_endsOf_80 : decode cX1_endsOf 80 = .ok (.aload_n 0, 1) := by decide +kernel
theorem dX1_endsOf_81 : decode cX1_endsOf 81 = .ok (.iload_n 2, 1) := by decide +kernel
theorem dX1_endsOf_82 : decode cX1_endsOf 82 = .ok (.invokevirtual 74, 3) := by decide +kernel
theorem dX1_endsOf_85 : decode cX1_endsOf 85 = .ok (.ireturn, 1) := by decide +kernel
theorem dX1_allEnds_0 : decode cX1_allEnds 0 = .ok (.iconst 0, 1) := by decide +kernel
theorem dX1_allEnds_1 : decode cX1_allEnds 1 = .ok (.istore_n 2, 1) := by decide +kernel
theorem dX1_allEnds_2 : decode cX1_allEnds 2 = .ok (.iload_n 1, 1) := by decide +kernel
theorem dX1_allEnds_3 : decode cX1_allEnds 3 = .ok (.istore_n 3, 1) := by decide +kernel
theorem dX1_allEnds_4 : decode cX1_allEnds 4 = .ok (.iload_n 3, 1) := by decide +kernel
theorem dX1_allEnds_5 : decode cX1_allEnds 5 = .ok (.aload_n 0, 1) := by decide +kernel
theorem dX1_allEnds_6 : decode cX1_allEnds 6 = .ok (.getfield 22, 3) := by decide +kernel
theorem dX1_allEnds_9 : decode cX1_allEnds 9 = .ok (.if_icmp .gt 15, 3) := by decide +kernel
theorem dX1_allEnds_12 : decode cX1_allEnds 12 = .ok (.iload_n 2, 1) := by decide +kernel
theorem dX1_allEnds_13 : decode cX1_allEnds 13 = .ok (.iconst 1, 1) := by decide +kernel
theorem dX1_allEnds_14 : decode cX1_allEnds 14 = .ok (.iload_n 3, 1) := by decide +kernel
theorem dX1_allEnds_15 : decode cX1_allEnds 15 = .ok (.ishl, 1) := by decide +kernel
theorem dX1_allEnds_16 : decode cX1_allEnds 16 = .ok (.ior, 1) := by decide +kernel
theorem dX1_allEnds_17 : decode cX1_allEnds 17 = .ok (.istore_n 2, 1) := by decide +kernel
theorem dX1_allEnds_18 : decode cX1_allEnds 18 = .ok (.iinc 3 1, 3) := by decide +kernel
theorem dX1_allEnds_21 : decode cX1_allEnds 21 = .ok (.goto (-17), 3) := by decide +kernel
theorem dX1_allEnds_24 : decode cX1_allEnds 24 = .ok (.iload_n 2, 1) := by decide +kernel
theorem dX1_allEnds_25 : decode cX1_allEnds 25 = .ok (.ireturn, 1) := by decide +kernel
theorem dX1_endsOfLabel_0 : decode cX1_endsOfLabel 0 = .ok (.iconst 0, 1) := by decide +kernel
theorem dX1_endsOfLabel_1 : decode cX1_endsOfLabel 1 = .ok (.istore_n 3, 1) := by decide +kernel
theorem dX1_endsOfLabel_2 : decode cX1_endsOfLabel 2 = .ok (.iconst 0, 1) := by decide +kernel
theorem dX1_endsOfLabel_3 : decode cX1_endsOfLabel 3 = .ok (.istore 4, 2) := by decide +kernel
theorem dX1_endsOfLabel_5 : decode cX1_endsOfLabel 5 = .ok (.iload_n 2, 1) := by decide +kernel
theorem dX1_endsOfLabel_6 : decode cX1_endsOfLabel 6 = .ok (.istore 5, 2) := by decide +kernel
theorem dX1_endsOfLabel_8 : decode cX1_endsOfLabel 8 = .ok (.iload 5, 2) := by decide +kernel
theorem dX1_endsOfLabel_10 : decode cX1_endsOfLabel 10 = .ok (.aload_n 0, 1) := by decide +kernel
theorem dX1_endsOfLabel_11 : decode cX1_endsOfLabel 11 = .ok (.getfield 22, 3) := by decide +kernel
theorem dX1_endsOfLabel_14 : decode cX1_endsOfLabel 14 = .ok (.if_icmp .ge 47, 3) := by decide +kernel
theorem dX1_endsOfLabel_17 : decode cX1_endsOfLabel 17 = .ok (.aload_n 0, 1) := by decide +kernel
theorem dX1_endsOfLabel_18 : decode cX1_endsOfLabel 18 = .ok (.getfield 18, 3) := by decide +kernel
theorem dX1_endsOfLabel_21 : decode cX1_endsOfLabel 21 = .ok (.iload 5, 2) := by decide +kernel
theorem dX1_endsOfLabel_23 : decode cX1_endsOfLabel 23 = .ok (.iaload, 1) := by decide +kernel
theorem dX1_endsOfLabel_24 : decode cX1_endsOfLabel 24 = .ok (.aload_n 0, 1) := by decide +kernel
theorem dX1_endsOfLabel_25 : decode cX1_endsOfLabel 25 = .ok (.getfield 12, 3) := by decide +kernel
theorem dX1_endsOfLabel_28 : decode cX1_endsOfLabel 28 = .ok (.getfield 29, 3) := by decide +kernel
theorem dX1_endsOfLabel_31 : decode cX1_endsOfLabel 31 = .ok (.iload_n 1, 1) := by decide +kernel
theorem dX1_endsOfLabel_32 : decode cX1_endsOfLabel 32 = .ok (.iaload, 1) := by decide +kernel
theorem dX1_endsOfLabel_33 : decode cX1_endsOfLabel 33 = .ok (.if_icmp .ne 6, 3) := by decide +kernel
theorem dX1_endsOfLabel_36 : decode cX1_endsOfLabel 36 = .ok (.iinc 3 1, 3) := by decide +kernel
theorem dX1_endsOfLabel_39 : decode cX1_endsOfLabel 39 = .ok (.iload_n 3, 1) := by decide +kernel
theorem dX1_endsOfLabel_40 : decode cX1_endsOfLabel 40 = .ok (.iconst 1, 1) := by decide +kernel
theorem dX1_endsOfLabel_41 : decode cX1_endsOfLabel 41 = .ok (.if_icmp .ne 14, 3) := by decide +kernel
theorem dX1_endsOfLabel_44 : decode cX1_endsOfLabel 44 = .ok (.iload 4, 2) := by decide +kernel
theorem dX1_endsOfLabel_46 : decode cX1_endsOfLabel 46 = .ok (.iconst 1, 1) := by decide +kernel
theorem dX1_endsOfLabel_47 : decode cX1_endsOfLabel 47 = .ok (.iload 5, 2) := by decide +kernel
theorem dX1_endsOfLabel_49 : decode cX1_endsOfLabel 49 = .ok (.iconst 1, 1) := by decide +kernel
theorem dX1_endsOfLabel_50 : decode cX1_endsOfLabel 50 = .ok (.iadd, 1) := by decide +kernel
theorem dX1_endsOfLabel_51 : decode cX1_endsOfLabel 51 = .ok (.ishl, 1) := by decide +kernel
theorem dX1_endsOfLabel_52 : decode cX1_endsOfLabel 52 = .ok (.ior, 1) := by decide +kernel
theorem dX1_endsOfLabel_53 : decode cX1_endsOfLabel 53 = .ok (.istore 4, 2) := by decide +kernel
theorem dX1_endsOfLabel_55 : decode cX1_endsOfLabel 55 = .ok (.iinc 5 1, 3) := by decide +kernel
theorem dX1_endsOfLabel_58 : decode cX1_endsOfLabel 58 = .ok (.goto (-50), 3) := by decide +kernel
theorem dX1_endsOfLabel_61 : decode cX1_endsOfLabel 61 = .ok (.iload 4, 2) := by decide +kernel
theorem dX1_endsOfLabel_63 : decode cX1_endsOfLabel 63 = .ok (.ireturn, 1) := by decide +kernel
theorem dX1_endsOfAlternatives_0 : decode cX1_endsOfAlternatives 0 = .ok (.iconst 0, 1) := by decide +kernel
theorem dX1_endsOfAlternatives_1 : decode cX1_endsOfAlternatives 1 = .ok (.istore 4, 2) := by decide +kernel
theorem dX1_endsOfAlternatives_3 : decode cX1_endsOfAlternatives 3 = .ok (.iload_n 2, 1) := by decide +kernel
theorem dX1_endsOfAlternatives_4 : decode cX1_endsOfAlternatives 4 = .ok (.istore 5, 2) := by decide +kernel
theorem dX1_endsOfAlternatives_6 : decode cX1_endsOfAlternatives 6 = .ok (.iload 5, 2) := by decide +kernel
theorem dX1_endsOfAlternatives_8 : decode cX1_endsOfAlternatives 8 = .ok (.aload_n 0, 1) := by decide +kernel
theorem dX1_endsOfAlternatives_9 : decode cX1_endsOfAlternatives 9 = .ok (.getfield 12, 3) := by decide +kernel
theorem dX1_endsOfAlternatives_12 : decode cX1_endsOfAlternatives 12 = .ok (.getfield 78, 3) := by decide +kernel
theorem dX1_endsOfAlternatives_15 : decode cX1_endsOfAlternatives 15 = .ok (.iload_n 1, 1) := by decide +kernel
theorem dX1_endsOfAlternatives_16 : decode cX1_endsOfAlternatives 16 = .ok (.iaload, 1) := by decide +kernel
theorem dX1_endsOfAlternatives_17 : decode cX1_endsOfAlternatives 17 = .ok (.if_icmp .ge 30, 3) := by decide +kernel
theorem dX1_endsOfAlternatives_20 : decode cX1_endsOfAlternatives 20 = .ok (.iload 4, 2) := by decide +kernel
theorem dX1_endsOfAlternatives_22 : decode cX1_endsOfAlternatives 22 = .ok (.aload_n 0, 1) := by decide +kernel
theorem dX1_endsOfAlternatives_23 : decode cX1_endsOfAlternatives 23 = .ok (.iload_n 1, 1) := by decide +kernel
theorem dX1_endsOfAlternatives_24 : decode cX1_endsOfAlternatives 24 = .ok (.aload_n 0, 1) := by decide +kernel
theorem dX1_endsOfAlternatives_25 : decode cX1_endsOfAlternatives 25 = .ok (.getfield 12, 3) := by decide +kernel
theorem dX1_endsOfAlternatives_28 : decode cX1_endsOfAlternatives 28 = .ok (.iload_n 1, 1) := by decide +kernel
theorem dX1_endsOfAlternatives_29 : decode cX1_endsOfAlternatives 29 = .ok (.iload 5, 2) := by decide +kernel
theorem dX1_endsOfAlternatives_31 : decode cX1_endsOfAlternatives 31 = .ok (.invokevirtual 81, 3) := by decide +kernel
theorem dX1_endsOfAlternatives_34 : decode cX1_endsOfAlternatives 34 = .ok (.iload_n 3, 1) := by decide +kernel
theorem dX1_endsOfAlternatives_35 : decode cX1_endsOfAlternatives 35 = .ok (.invokevirtual 84, 3) := by decide +kernel
theorem dX1_endsOfAlternatives_38 : decode cX1_endsOfAlternatives 38 = .ok (.ior, 1) := by decide +kernel
theorem dX1_endsOfAlternatives_39 : decode cX1_endsOfAlternatives 39 = .ok (.istore 4, 2) := by decide +kernel
theorem dX1_endsOfAlternatives_41 : decode cX1_endsOfAlternatives 41 = .ok (.iinc 5 1, 3) := by decide +kernel
theorem dX1_endsOfAlternatives_44 : decode cX1_endsOfAlternatives 44 = .ok (.goto (-38), 3) := by decide +kernel
theorem dX1_endsOfAlternatives_47 : decode cX1_endsOfAlternatives 47 = .ok (.iload 4, 2) := by decide +kernel
theorem dX1_endsOfAlternatives_49 : decode cX1_endsOfAlternatives 49 = .ok (.ireturn, 1) := by decide +kernel
theorem dX1_endsOfOrder_0 : decode cX1_endsOfOrder 0 = .ok (.iconst 1, 1) := by decide +kernel
theorem dX1_endsOfOrder_1 : decode cX1_endsOfOrder 1 = .ok (.iload_n 2, 1) := by decide +kernel
theorem dX1_endsOfOrder_2 : decode cX1_endsOfOrder 2 = .ok (.ishl, 1) := by decide +kernel
theorem dX1_endsOfOrder_3 : decode cX1_endsOfOrder 3 = .ok (.istore_n 3, 1) := by decide +kernel
theorem dX1_endsOfOrder_4 : decode cX1_endsOfOrder 4 = .ok (.iconst 0, 1) := by decide +kernel
theorem dX1_endsOfOrder_5 : decode cX1_endsOfOrder 5 = .ok (.istore 4, 2) := by decide +kernel
theorem dX1_endsOfOrder_7 : decode cX1_endsOfOrder 7 = .ok (.iload 4, 2) := by decide +kernel
theorem dX1_endsOfOrder_9 : decode cX1_endsOfOrder 9 = .ok (.aload_n 0, 1) := by decide +kernel
theorem dX1_endsOfOrder_10 : decode cX1_endsOfOrder 10 = .ok (.getfield 12, 3) := by decide +kernel
theorem dX1_endsOfOrder_13 : decode cX1_endsOfOrder 13 = .ok (.getfield 78, 3) := by decide +kernel
theorem dX1_endsOfOrder_16 : decode cX1_endsOfOrder 16 = .ok (.iload_n 1, 1) := by decide +kernel
theorem dX1_endsOfOrder_17 : decode cX1_endsOfOrder 17 = .ok (.iaload, 1) := by decide +kernel
theorem dX1_endsOfOrder_18 : decode cX1_endsOfOrder 18 = .ok (.if_icmp .ge 64, 3) := by decide +kernel
theorem dX1_endsOfOrder_21 : decode cX1_endsOfOrder 21 = .ok (.iconst 0, 1) := by decide +kernel
theorem dX1_endsOfOrder_22 : decode cX1_endsOfOrder 22 = .ok (.istore 5, 2) := by decide +kernel
theorem dX1_endsOfOrder_24 : decode cX1_endsOfOrder 24 = .ok (.iload_n 2, 1) := by decide +kernel
theorem dX1_endsOfOrder_25 : decode cX1_endsOfOrder 25 = .ok (.istore 6, 2) := by decide +kernel
theorem dX1_endsOfOrder_27 : decode cX1_endsOfOrder 27 = .ok (.iload 6, 2) := by decide +kernel
theorem dX1_endsOfOrder_29 : decode cX1_endsOfOrder 29 = .ok (.aload_n 0, 1) := by decide +kernel
theorem dX1_endsOfOrder_30 : decode cX1_endsOfOrder 30 = .ok (.getfield 22, 3) := by decide +kernel
theorem dX1_endsOfOrder_33 : decode cX1_endsOfOrder 33 = .ok (.if_icmp .gt 40, 3) := by decide +kernel
theorem dX1_endsOfOrder_36 : decode cX1_endsOfOrder 36 = .ok (.iload_n 3, 1) := by decide +kernel
theorem dX1_endsOfOrder_37 : decode cX1_endsOfOrder 37 = .ok (.iload 6, 2) := by decide +kernel
theorem dX1_endsOfOrder_39 : decode cX1_endsOfOrder 39 = .ok (.invokestatic 44, 3) := by decide +kernel
theorem dX1_endsOfOrder_42 : decode cX1_endsOfOrder 42 = .ok (.ifCond .eq 25, 3) := by decide +kernel
theorem dX1_endsOfOrder_45 : decode cX1_endsOfOrder 45 = .ok (.iload 5, 2) := by decide +kernel
theorem dX1_endsOfOrder_47 : decode cX1_endsOfOrder 47 = .ok (.aload_n 0, 1) := by decide +kernel
theorem dX1_endsOfOrder_48 : decode cX1_endsOfOrder 48 = .ok (.iload_n 1, 1) := by decide +kernel
theorem dX1_endsOfOrder_49 : decode cX1_endsOfOrder 49 = .ok (.aload_n 0, 1) := by decide +kernel
theorem dX1_endsOfOrder_50 : decode cX1_endsOfOrder 50 = .ok (.getfield 12, 3) := by decide +kernel
theorem dX1_endsOfOrder_53 : decode cX1_endsOfOrder 53 = .ok (.iload_n 1, 1) := by decide +kernel
theorem dX1_endsOfOrder_54 : decode cX1_endsOfOrder 54 = .ok (.iload 4, 2) := by decide +kernel
theorem dX1_endsOfOrder_56 : decode cX1_endsOfOrder 56 = .ok (.invokevirtual 81, 3) := by decide +kernel
theorem dX1_endsOfOrder_59 : decode cX1_endsOfOrder 59 = .ok (.iload 6, 2) := by decide +kernel
theorem dX1_endsOfOrder_61 : decode cX1_endsOfOrder 61 = .ok (.invokevirtual 84, 3) := by decide +kernel
theorem dX1_endsOfOrder_64 : decode cX1_endsOfOrder 64 = .ok (.ior, 1) := by decide +kernel
theorem dX1_endsOfOrder_65 : decode cX1_endsOfOrder 65 = .ok (.istore 5, 2) := by decide +kernel
theorem dX1_endsOfOrder_67 : decode cX1_endsOfOrder 67 = .ok (.iinc 6 1, 3) := by decide +kernel
theorem dX1_endsOfOrder_70 : decode cX1_endsOfOrder 70 = .ok (.goto (-43), 3) := by decide +kernel
theorem dX1_endsOfOrder_73 : decode cX1_endsOfOrder 73 = .ok (.iload 5, 2) := by decide +kernel
theorem dX1_endsOfOrder_75 : decode cX1_endsOfOrder 75 = .ok (.istore_n 3, 1) := by decide +kernel
theorem dX1_endsOfOrder_76 : decode cX1_endsOfOrder 76 = .ok (.iinc 4 1, 3) := by decide +kernel
theorem dX1_endsOfOrder_79 : decode cX1_endsOfOrder 79 = .ok (.goto (-72), 3) := by decide +kernel
theorem dX1_endsOfOrder_82 : decode cX1_endsOfOrder 82 = .ok (.iload_n 3, 1) := by decide +kernel
theorem dX1_endsOfOrder_83 : decode cX1_endsOfOrder 83 = .ok (.ireturn, 1) := by decide +kernel
theorem dX1_endsOfBoth_0 : decode cX1_endsOfBoth 0 = .ok (.aload_n 0, 1) := by decide +kernel
theorem dX1_endsOfBoth_1 : decode cX1_endsOfBoth 1 = .ok (.iload_n 2, 1) := by decide +kernel
theorem dX1_endsOfBoth_2 : decode cX1_endsOfBoth 2 = .ok (.invokevirtual 74, 3) := by decide +kernel
theorem dX1_endsOfBoth_5 : decode cX1_endsOfBoth 5 = .ok (.istore_n 3, 1) := by decide +kernel
theorem dX1_endsOfBoth_6 : decode cX1_endsOfBoth 6 = .ok (.iconst 0, 1) := by decide +kernel
theorem dX1_endsOfBoth_7 : decode cX1_endsOfBoth 7 = .ok (.istore 4, 2) := by decide +kernel
theorem dX1_endsOfBoth_9 : decode cX1_endsOfBoth 9 = .ok (.iload 4, 2) := by decide +kernel
theorem dX1_endsOfBoth_11 : decode cX1_endsOfBoth 11 = .ok (.aload_n 0, 1) := by decide +kernel
theorem dX1_endsOfBoth_12 : decode cX1_endsOfBoth 12 = .ok (.getfield 12, 3) := by decide +kernel
theorem dX1_endsOfBoth_15 : decode cX1_endsOfBoth 15 = .ok (.getfield 78, 3) := by decide +kernel
theorem dX1_endsOfBoth_18 : decode cX1_endsOfBoth 18 = .ok (.iload_n 1, 1) := by decide +kernel
theorem dX1_endsOfBoth_19 : decode cX1_endsOfBoth 19 = .ok (.iaload, 1) := by decide +kernel
theorem dX1_endsOfBoth_20 : decode cX1_endsOfBoth 20 = .ok (.if_icmp .ge 32, 3) := by decide +kernel
theorem dX1_endsOfBoth_23 : decode cX1_endsOfBoth 23 = .ok (.iload_n 3, 1) := by decide +kernel
theorem dX1_endsOfBoth_24 : decode cX1_endsOfBoth 24 = .ok (.aload_n 0, 1) := by decide +kernel
theorem dX1_endsOfBoth_25 : decode cX1_endsOfBoth 25 = .ok (.getfield 26, 3) := by decide +kernel
theorem dX1_endsOfBoth_28 : decode cX1_endsOfBoth 28 = .ok (.aload_n 0, 1) := by decide +kernel
theorem dX1_endsOfBoth_29 : decode cX1_endsOfBoth 29 = .ok (.getfield 12, 3) := by decide +kernel
theorem dX1_endsOfBoth_32 : decode cX1_endsOfBoth 32 = .ok (.iload_n 1, 1) := by decide +kernel
theorem dX1_endsOfBoth_33 : decode cX1_endsOfBoth 33 = .ok (.iload 4, 2) := by decide +kernel
theorem dX1_endsOfBoth_35 : decode cX1_endsOfBoth 35 = .ok (.invokevirtual 81, 3) := by decide +kernel
theorem dX1_endsOfBoth_38 : decode cX1_endsOfBoth 38 = .ok (.bipush 13, 2) := by decide +kernel
theorem dX1_endsOfBoth_40 : decode cX1_endsOfBoth 40 = .ok (.imul, 1) := by decide +kernel
theorem dX1_endsOfBoth_41 : decode cX1_endsOfBoth 41 = .ok (.iload_n 2, 1) := by decide +kernel
theorem dX1_endsOfBoth_42 : decode cX1_endsOfBoth 42 = .ok (.iadd, 1) := by decide +kernel
theorem dX1_endsOfBoth_43 : decode cX1_endsOfBoth 43 = .ok (.iaload, 1) := by decide +kernel
theorem dX1_endsOfBoth_44 : decode cX1_endsOfBoth 44 = .ok (.iand, 1) := by decide +kernel
theorem dX1_endsOfBoth_45 : decode cX1_endsOfBoth 45 = .ok (.istore_n 3, 1) := by decide +kernel
theorem dX1_endsOfBoth_46 : decode cX1_endsOfBoth 46 = .ok (.iinc 4 1, 3) := by decide +kernel
theorem dX1_endsOfBoth_49 : decode cX1_endsOfBoth 49 = .ok (.goto (-40), 3) := by decide +kernel
theorem dX1_endsOfBoth_52 : decode cX1_endsOfBoth 52 = .ok (.iload_n 3, 1) := by decide +kernel
theorem dX1_endsOfBoth_53 : decode cX1_endsOfBoth 53 = .ok (.ireturn, 1) := by decide +kernel
theorem dX1_endsOfAgain_0 : decode cX1_endsOfAgain 0 = .ok (.aload_n 0, 1) := by decide +kernel
theorem dX1_endsOfAgain_1 : decode cX1_endsOfAgain 1 = .ok (.iload_n 1, 1) := by decide +kernel
theorem dX1_endsOfAgain_2 : decode cX1_endsOfAgain 2 = .ok (.aload_n 0, 1) := by decide +kernel
theorem dX1_endsOfAgain_3 : decode cX1_endsOfAgain 3 = .ok (.getfield 12, 3) := by decide +kernel
theorem dX1_endsOfAgain_6 : decode cX1_endsOfAgain 6 = .ok (.iload_n 1, 1) := by decide +kernel
theorem dX1_endsOfAgain_7 : decode cX1_endsOfAgain 7 = .ok (.iconst 0, 1) := by decide +kernel
theorem dX1_endsOfAgain_8 : decode cX1_endsOfAgain 8 = .ok (.invokevirtual 81, 3) := by decide +kernel
theorem dX1_endsOfAgain_11 : decode cX1_endsOfAgain 11 = .ok (.iload_n 2, 1) := by decide +kernel
theorem dX1_endsOfAgain_12 : decode cX1_endsOfAgain 12 = .ok (.invokevirtual 84, 3) := by decide +kernel
theorem dX1_endsOfAgain_15 : decode cX1_endsOfAgain 15 = .ok (.istore_n 3, 1) := by decide +kernel
theorem dX1_endsOfAgain_16 : decode cX1_endsOfAgain 16 = .ok (.iconst 0, 1) := by decide +kernel
theorem dX1_endsOfAgain_17 : decode cX1_endsOfAgain 17 = .ok (.istore 4, 2) := by decide +kernel
theorem dX1_endsOfAgain_19 : decode cX1_endsOfAgain 19 = .ok (.iload_n 2, 1) := by decide +kernel
theorem dX1_endsOfAgain_20 : decode cX1_endsOfAgain 20 = .ok (.istore 5, 2) := by decide +kernel
theorem dX1_endsOfAgain_22 : decode cX1_endsOfAgain 22 = .ok (.iload 5, 2) := by decide +kernel
theorem dX1_endsOfAgain_24 : decode cX1_endsOfAgain 24 = .ok (.aload_n 0, 1) := by decide +kernel
theorem dX1_endsOfAgain_25 : decode cX1_endsOfAgain 25 = .ok (.getfield 22, 3) := by decide +kernel
theorem dX1_endsOfAgain_28 : decode cX1_endsOfAgain 28 = .ok (.if_icmp .gt 31, 3) := by decide +kernel
theorem dX1_endsOfAgain_31 : decode cX1_endsOfAgain 31 = .ok (.iload_n 3, 1) := by decide +kernel
theorem dX1_endsOfAgain_32 : decode cX1_endsOfAgain 32 = .ok (.iload 5, 2) := by decide +kernel
theorem dX1_endsOfAgain_34 : decode cX1_endsOfAgain 34 = .ok (.invokestatic 44, 3) := by decide +kernel
theorem dX1_endsOfAgain_37 : decode cX1_endsOfAgain 37 = .ok (.ifCond .eq 16, 3) := by decide +kernel
theorem dX1_endsOfAgain_40 : decode cX1_endsOfAgain 40 = .ok (.iload 4, 2) := by decide +kernel
theorem dX1_endsOfAgain_42 : decode cX1_endsOfAgain 42 = .ok (.aload_n 0, 1) := by decide +kernel
theorem dX1_endsOfAgain_43 : decode cX1_endsOfAgain 43 = .ok (.iload_n 1, 1) := by decide +kernel
theorem dX1_endsOfAgain_44 : decode cX1_endsOfAgain 44 = .ok (.iconst 1, 1) := by decide +kernel
theorem dX1_endsOfAgain_45 : decode cX1_endsOfAgain 45 = .ok (.iload 5, 2) := by decide +kernel
theorem dX1_endsOfAgain_47 : decode cX1_endsOfAgain 47 = .ok (.invokevirtual 61, 3) := by decide +kernel
theorem dX1_endsOfAgain_50 : decode cX1_endsOfAgain 50 = .ok (.ior, 1) := by decide +kernel
theorem dX1_endsOfAgain_51 : decode cX1_endsOfAgain 51 = .ok (.istore 4, 2) := by decide +kernel
theorem dX1_endsOfAgain_53 : decode cX1_endsOfAgain 53 = .ok (.iinc 5 1, 3) := by decide +kernel
theorem dX1_endsOfAgain_56 : decode cX1_endsOfAgain 56 = .ok (.goto (-34), 3) := by decide +kernel
theorem dX1_endsOfAgain_59 : decode cX1_endsOfAgain 59 = .ok (.iload_n 3, 1) := by decide +kernel
theorem dX1_endsOfAgain_60 : decode cX1_endsOfAgain 60 = .ok (.istore 5, 2) := by decide +kernel
theorem dX1_endsOfAgain_62 : decode cX1_endsOfAgain 62 = .ok (.iload_n 2, 1) := by decide +kernel
theorem dX1_endsOfAgain_63 : decode cX1_endsOfAgain 63 = .ok (.iconst 1, 1) := by decide +kernel
theorem dX1_endsOfAgain_64 : decode cX1_endsOfAgain 64 = .ok (.iadd, 1) := by decide +kernel
theorem dX1_endsOfAgain_65 : decode cX1_endsOfAgain 65 = .ok (.istore 6, 2) := by decide +kernel
theorem dX1_endsOfAgain_67 : decode cX1_endsOfAgain 67 = .ok (.iload 6, 2) := by decide +kernel
theorem dX1_endsOfAgain_69 : decode cX1_endsOfAgain 69 = .ok (.aload_n 0, 1) := by decide +kernel
theorem dX1_endsOfAgain_70 : decode cX1_endsOfAgain 70 = .ok (.getfield 22, 3) := by decide +kernel
theorem dX1_endsOfAgain_73 : decode cX1_endsOfAgain 73 = .ok (.if_icmp .gt 36, 3) := by decide +kernel
theorem dX1_endsOfAgain_76 : decode cX1_endsOfAgain 76 = .ok (.iload 4, 2) := by decide +kernel
theorem dX1_endsOfAgain_78 : decode cX1_endsOfAgain 78 = .ok (.iload 6, 2) := by decide +kernel
theorem dX1_endsOfAgain_80 : decode cX1_endsOfAgain 80 = .ok (.invokestatic 44, 3) := by decide +kernel
theorem dX1_endsOfAgain_83 : decode cX1_endsOfAgain 83 = .ok (.ifCond .eq 20, 3) := by decide +kernel
theorem dX1_endsOfAgain_86 : decode cX1_endsOfAgain 86 = .ok (.iload 5, 2) := by decide +kernel
theorem dX1_endsOfAgain_88 : decode cX1_endsOfAgain 88 = .ok (.aload_n 0, 1) := by decide +kernel
theorem dX1_endsOfAgain_89 : decode cX1_endsOfAgain 89 = .ok (.getfield 26, 3) := by decide +kernel
theorem dX1_endsOfAgain_92 : decode cX1_endsOfAgain 92 = .ok (.iload_n 1, 1) := by decide +kernel
theorem dX1_endsOfAgain_93 : decode cX1_endsOfAgain 93 = .ok (.bipush 13, 2) := by decide +kernel
theorem dX1_endsOfAgain_95 : decode cX1_endsOfAgain 95 = .ok (.imul, 1) := by decide +kernel
theorem dX1_endsOfAgain_96 : decode cX1_endsOfAgain 96 = .ok (.iload 6, 2) := by decide +kernel
theorem dX1_endsOfAgain_98 : decode cX1_endsOfAgain 98 = .ok (.iadd, 1) := by decide +kernel
theorem dX1_endsOfAgain_99 : decode cX1_endsOfAgain 99 = .ok (.iaload, 1) := by decide +kernel
theorem dX1_endsOfAgain_100 : decode cX1_endsOfAgain 100 = .ok (.ior, 1) := by decide +kernel
theorem dX1_endsOfAgain_101 : decode cX1_endsOfAgain 101 = .ok (.istore 5, 2) := by decide +kernel
theorem dX1_endsOfAgain_103 : decode cX1_endsOfAgain 103 = .ok (.iinc 6 1, 3) := by decide +kernel
theorem dX1_endsOfAgain_106 : decode cX1_endsOfAgain 106 = .ok (.goto (-39), 3) := by decide +kernel
theorem dX1_endsOfAgain_109 : decode cX1_endsOfAgain 109 = .ok (.iload 5, 2) := by decide +kernel
theorem dX1_endsOfAgain_111 : decode cX1_endsOfAgain 111 = .ok (.ireturn, 1) := by decide +kernel
theorem dX1_endsOfChild_0 : decode cX1_endsOfChild 0 = .ok (.aload_n 0, 1) := by decide +kernel
theorem dX1_endsOfChild_1 : decode cX1_endsOfChild 1 = .ok (.getfield 12, 3) := by decide +kernel
theorem dX1_endsOfChild_4 : decode cX1_endsOfChild 4 = .ok (.getfield 29, 3) := by decide +kernel
theorem dX1_endsOfChild_7 : decode cX1_endsOfChild 7 = .ok (.iload_n 1, 1) := by decide +kernel
theorem dX1_endsOfChild_8 : decode cX1_endsOfChild 8 = .ok (.iaload, 1) := by decide +kernel
theorem dX1_endsOfChild_9 : decode cX1_endsOfChild 9 = .ok (.aload_n 0, 1) := by decide +kernel
theorem dX1_endsOfChild_10 : decode cX1_endsOfChild 10 = .ok (.getfield 12, 3) := by decide +kernel
theorem dX1_endsOfChild_13 : decode cX1_endsOfChild 13 = .ok (.getfield 29, 3) := by decide +kernel
theorem dX1_endsOfChild_16 : decode cX1_endsOfChild 16 = .ok (.iload_n 2, 1) := by decide +kernel
theorem dX1_endsOfChild_17 : decode cX1_endsOfChild 17 = .ok (.iaload, 1) := by decide +kernel
theorem dX1_endsOfChild_18 : decode cX1_endsOfChild 18 = .ok (.iconst (-1), 1) := by decide +kernel
theorem dX1_endsOfChild_19 : decode cX1_endsOfChild 19 = .ok (.ixor, 1) := by decide +kernel
theorem dX1_endsOfChild_20 : decode cX1_endsOfChild 20 = .ok (.iand, 1) := by decide +kernel
theorem dX1_endsOfChild_21 : decode cX1_endsOfChild 21 = .ok (.istore 4, 2) := by decide +kernel
theorem dX1_endsOfChild_23 : decode cX1_endsOfChild 23 = .ok (.iload_n 3, 1) := by decide +kernel
theorem dX1_endsOfChild_24 : decode cX1_endsOfChild 24 = .ok (.istore 5, 2) := by decide +kernel
theorem dX1_endsOfChild_26 : decode cX1_endsOfChild 26 = .ok (.iload 5, 2) := by decide +kernel
theorem dX1_endsOfChild_28 : decode cX1_endsOfChild 28 = .ok (.aload_n 0, 1) := by decide +kernel
theorem dX1_endsOfChild_29 : decode cX1_endsOfChild 29 = .ok (.getfield 22, 3) := by decide +kernel
theorem dX1_endsOfChild_32 : decode cX1_endsOfChild 32 = .ok (.if_icmp .ge 22, 3) := by decide +kernel
theorem dX1_endsOfChild_35 : decode cX1_endsOfChild 35 = .ok (.aload_n 0, 1) := by decide +kernel
theorem dX1_endsOfChild_36 : decode cX1_endsOfChild 36 = .ok (.getfield 18, 3) := by decide +kernel
theorem dX1_endsOfChild_39 : decode cX1_endsOfChild 39 = .ok (.iload 5, 2) := by decide +kernel
theorem dX1_endsOfChild_41 : decode cX1_endsOfChild 41 = .ok (.iaload, 1) := by decide +kernel
theorem dX1_endsOfChild_42 : decode cX1_endsOfChild 42 = .ok (.iload 4, 2) := by decide +kernel
theorem dX1_endsOfChild_44 : decode cX1_endsOfChild 44 = .ok (.iand, 1) := by decide +kernel
theorem dX1_endsOfChild_45 : decode cX1_endsOfChild 45 = .ok (.ifCond .ne 9, 3) := by decide +kernel
theorem dX1_endsOfChild_48 : decode cX1_endsOfChild 48 = .ok (.iinc 5 1, 3) := by decide +kernel
theorem dX1_endsOfChild_51 : decode cX1_endsOfChild 51 = .ok (.goto (-25), 3) := by decide +kernel
theorem dX1_endsOfChild_54 : decode cX1_endsOfChild 54 = .ok (.aload_n 0, 1) := by decide +kernel
theorem dX1_endsOfChild_55 : decode cX1_endsOfChild 55 = .ok (.getfield 26, 3) := by decide +kernel
theorem dX1_endsOfChild_58 : decode cX1_endsOfChild 58 = .ok (.iload_n 2, 1) := by decide +kernel
theorem dX1_endsOfChild_59 : decode cX1_endsOfChild 59 = .ok (.bipush 13, 2) := by decide +kernel
theorem dX1_endsOfChild_61 : decode cX1_endsOfChild 61 = .ok (.imul, 1) := by decide +kernel
theorem dX1_endsOfChild_62 : decode cX1_endsOfChild 62 = .ok (.iload_n 3, 1) := by decide +kernel
theorem dX1_endsOfChild_63 : decode cX1_endsOfChild 63 = .ok (.iadd, 1) := by decide +kernel
theorem dX1_endsOfChild_64 : decode cX1_endsOfChild 64 = .ok (.iaload, 1) := by decide +kernel
theorem dX1_endsOfChild_65 : decode cX1_endsOfChild 65 = .ok (.iconst 2, 1) := by decide +kernel
theorem dX1_endsOfChild_66 : decode cX1_endsOfChild 66 = .ok (.iload 5, 2) := by decide +kernel
theorem dX1_endsOfChild_68 : decode cX1_endsOfChild 68 = .ok (.ishl, 1) := by decide +kernel
theorem dX1_endsOfChild_69 : decode cX1_endsOfChild 69 = .ok (.iconst 1, 1) := by decide +kernel
theorem dX1_endsOfChild_70 : decode cX1_endsOfChild 70 = .ok (.isub, 1) := by decide +kernel
theorem dX1_endsOfChild_71 : decode cX1_endsOfChild 71 = .ok (.iand, 1) := by decide +kernel
theorem dX1_endsOfChild_72 : decode cX1_endsOfChild 72 = .ok (.ireturn, 1) := by decide +kernel
theorem dX2_init_0 : decode cX2_init 0 = .ok (.aload_n 0, 1) := by decide +kernel
theorem dX2_init_1 : decode cX2_init 1 = .ok (.invokespecial 3, 3) := by decide +kernel
theorem dX2_init_4 : decode cX2_init 4 = .ok (.aload_n 0, 1) := by decide +kernel
theorem dX2_init_5 : decode cX2_init 5 = .ok (.bipush 64, 2) := by decide +kernel
theorem dX2_init_7 : decode cX2_init 7 = .ok (.newarray .int, 2) := by decide +kernel
theorem dX2_init_9 : decode cX2_init 9 = .ok (.putfield 9, 3) := by decide +kernel
theorem dX2_init_12 : decode cX2_init 12 = .ok (.aload_n 0, 1) := by decide +kernel
theorem dX2_init_13 : decode cX2_init 13 = .ok (.bipush 64, 2) := by decide +kernel
theorem dX2_init_15 : decode cX2_init 15 = .ok (.newarray .int, 2) := by decide +kernel
theorem dX2_init_17 : decode cX2_init 17 = .ok (.putfield 15, 3) := by decide +kernel
theorem dX2_init_20 : decode cX2_init 20 = .ok (.aload_n 0, 1) := by decide +kernel
theorem dX2_init_21 : decode cX2_init 21 = .ok (.bipush 64, 2) := by decide +kernel
theorem dX2_init_23 : decode cX2_init 23 = .ok (.newarray .int, 2) := by decide +kernel
theorem dX2_init_25 : decode cX2_init 25 = .ok (.putfield 18, 3) := by decide +kernel
theorem dX2_init_28 : decode cX2_init 28 = .ok (.aload_n 0, 1) := by decide +kernel
theorem dX2_init_29 : decode cX2_init 29 = .ok (.bipush 64, 2) := by decide +kernel
theorem dX2_init_31 : decode cX2_init 31 = .ok (.newarray .int, 2) := by decide +kernel
theorem dX2_init_33 : decode cX2_init 33 = .ok (.putfield 21, 3) := by decide +kernel
theorem dX2_init_36 : decode cX2_init 36 = .ok (.aload_n 0, 1) := by decide +kernel
theorem dX2_init_37 : decode cX2_init 37 = .ok (.sipush 512, 3) := by decide +kernel
theorem dX2_init_40 : decode cX2_init 40 = .ok (.newarray .int, 2) := by decide +kernel
theorem dX2_init_42 : decode cX2_init 42 = .ok (.putfield 24, 3) := by decide +kernel
theorem dX2_init_45 : decode cX2_init 45 = .ok (.aload_n 0, 1) := by decide +kernel
theorem dX2_init_46 : decode cX2_init 46 = .ok (.bipush 64, 2) := by decide +kernel
theorem dX2_init_48 : decode cX2_init 48 = .ok (.newarray .int, 2) := by decide +kernel
theorem dX2_init_50 : decode cX2_init 50 = .ok (.putfield 27, 3) := by decide +kernel
theorem dX2_init_53 : decode cX2_init 53 = .ok (.aload_n 0, 1) := by decide +kernel
theorem dX2_init_54 : decode cX2_init 54 = .ok (.iconst 0, 1) := by decide +kernel
theorem dX2_init_55 : decode cX2_init 55 = .ok (.putfield 30, 3) := by decide +kernel
theorem dX2_init_58 : decode cX2_init 58 = .ok (.return_, 1) := by decide +kernel
theorem dX2_add_0 : decode cX2_add 0 = .ok (.aload_n 0, 1) := by decide +kernel
theorem dX2_add_1 : decode cX2_add 1 = .ok (.getfield 30, 3) := by decide +kernel
theorem dX2_add_4 : decode cX2_add 4 = .ok (.bipush 64, 2) := by decide +kernel
theorem dX2_add_6 : decode cX2_add 6 = .ok (.if_icmp .lt 5, 3) := by decide +kernel
theorem dX2_add_9 : decode cX2_add 9 = .ok (.iconst (-1), 1) := by decide +kernel
theorem dX2_add_10 : decode cX2_add 10 = .ok (.ireturn, 1) := by decide +kernel
theorem dX2_add_11 : decode cX2_add 11 = .ok (.aload_n 0, 1) := by decide +kernel
theorem dX2_add_12 : decode cX2_add 12 = .ok (.getfield 30, 3) := by decide +kernel
theorem dX2_add_15 : decode cX2_add 15 = .ok (.istore 4, 2) := by decide +kernel
theorem dX2_add_17 : decode cX2_add 17 = .ok (.aload_n 0, 1) := by decide +kernel
theorem dX2_add_18 : decode cX2_add 18 = .ok (.getfield 9, 3) := by decide +kernel
theorem dX2_add_21 : decode cX2_add 21 = .ok (.iload 4, 2) := by decide +kernel
theorem dX2_add_23 : decode cX2_add 23 = .ok (.iload_n 1, 1) := by decide +kernel
theorem dX2_add_24 : decode cX2_add 24 = .ok (.iastore, 1) := by decide +kernel
theorem dX2_add_25 : decode cX2_add 25 = .ok (.aload_n 0, 1) := by decide +kernel
theorem dX2_add_26 : decode cX2_add 26 = .ok (.getfield 15, 3) := by decide +kernel
theorem dX2_add_29 : decode cX2_add 29 = .ok (.iload 4, 2) := by decide +kernel
theorem dX2_add_31 : decode cX2_add 31 = .ok (.iload_n 2, 1) := by decide +kernel
theorem dX2_add_32 : decode cX2_add 32 = .ok (.iastore, 1) := by decide +kernel
theorem dX2_add_33 : decode cX2_add 33 = .ok (.aload_n 0, 1) := by decide +kernel
theorem dX2_add_34 : decode cX2_add 34 = .ok (.getfield 18, 3) := by decide +kernel
theorem dX2_add_37 : decode cX2_add 37 = .ok (.iload 4, 2) := by decide +kernel
theorem dX2_add_39 : decode cX2_add 39 = .ok (.iload_n 3, 1) := by decide +kernel
theorem dX2_add_40 : decode cX2_add 40 = .ok (.iastore, 1) := by decide +kernel
theorem dX2_add_41 : decode cX2_add 41 = .ok (.aload_n 0, 1) := by decide +kernel
theorem dX2_add_42 : decode cX2_add 42 = .ok (.getfield 21, 3) := by decide +kernel
theorem dX2_add_45 : decode cX2_add 45 = .ok (.iload 4, 2) := by decide +kernel
theorem dX2_add_47 : decode cX2_add 47 = .ok (.iconst 0, 1) := by decide +kernel
theorem dX2_add_48 : decode cX2_add 48 = .ok (.iastore, 1) := by decide +kernel
theorem dX2_add_49 : decode cX2_add 49 = .ok (.aload_n 0, 1) := by decide +kernel
theorem dX2_add_50 : decode cX2_add 50 = .ok (.dup, 1) := by decide +kernel
theorem dX2_add_51 : decode cX2_add 51 = .ok (.getfield 30, 3) := by decide +kernel
theorem dX2_add_54 : decode cX2_add 54 = .ok (.iconst 1, 1) := by decide +kernel
theorem dX2_add_55 : decode cX2_add 55 = .ok (.iadd, 1) := by decide +kernel
theorem dX2_add_56 : decode cX2_add 56 = .ok (.putfield 30, 3) := by decide +kernel
theorem dX2_add_59 : decode cX2_add 59 = .ok (.iload_n 3, 1) := by decide +kernel
theorem dX2_add_60 : decode cX2_add 60 = .ok (.ifCond .lt 48, 3) := by decide +kernel
theorem dX2_add_63 : decode cX2_add 63 = .ok (.iload_n 3, 1) := by decide +kernel
theorem dX2_add_64 : decode cX2_add 64 = .ok (.iload 4, 2) := by decide +kernel
theorem dX2_add_66 : decode cX2_add 66 = .ok (.if_icmp .ge 42, 3) := by decide +kernel
theorem dX2_add_69 : decode cX2_add 69 = .ok (.aload_n 0, 1) := by decide +kernel
theorem dX2_add_70 : decode cX2_add 70 = .ok (.getfield 21, 3) := by decide +kernel
theorem dX2_add_73 : decode cX2_add 73 = .ok (.iload_n 3, 1) := by decide +kernel
theorem dX2_add_74 : decode cX2_add 74 = .ok (.iaload, 1) := by decide +kernel
theorem dX2_add_75 : decode cX2_add 75 = .ok (.bipush 8, 2) := by decide +kernel
theorem dX2_add_77 : decode cX2_add 77 = .ok (.if_icmp .ge 31, 3) := by decide +kernel
theorem dX2_add_80 : decode cX2_add 80 = .ok (.aload_n 0, 1) := by decide +kernel
theorem dX2_add_81 : decode cX2_add 81 = .ok (.getfield 24, 3) := by decide +kernel
theorem dX2_add_84 : decode cX2_add 84 = .ok (.iload_n 3, 1) := by decide +kernel
theorem dX2_add_85 : decode cX2_add 85 = .ok (.bipush 8, 2) := by decide +kernel
theorem dX2_add_87 : decode cX2_add 87 = .ok (.imul, 1) := by decide +kernel
theorem dX2_add_88 : decode cX2_add 88 = .ok (.aload_n 0, 1) := by decide +kernel
theorem dX2_add_89 : decode cX2_add 89 = .ok (.getfield 21, 3) := by decide +kernel
theorem dX2_add_92 : decode cX2_add 92 = .ok (.iload_n 3, 1) := by decide +kernel
theorem dX2_add_93 : decode cX2_add 93 = .ok (.iaload, 1) := by decide +kernel
theorem dX2_add_94 : decode cX2_add 94 = .ok (.iadd, 1) := by decide +kernel
theorem dX2_add_95 : decode cX2_add 95 = .ok (.iload 4, 2) := by decide +kernel
theorem dX2_add_97 : decode cX2_add 97 = .ok (.iastore, 1) := by decide +kernel
theorem dX2_add_98 : decode cX2_add 98 = .ok (.aload_n 0, 1) := by decide +kernel
theorem dX2_add_99 : decode cX2_add 99 = .ok (.getfield 21, 3) := by decide +kernel
theorem dX2_add_102 : decode cX2_add 102 = .ok (.iload_n 3, 1) := by decide +kernel
theorem dX2_add_103 : decode cX2_add 103 = .ok (.dup2, 1) := by decide +kernel
theorem dX2_add_104 : decode cX2_add 104 = .ok (.iaload, 1) := by decide +kernel
theorem dX2_add_105 : decode cX2_add 105 = .ok (.iconst 1, 1) := by decide +kernel
theorem dX2_add_106 : decode cX2_add 106 = .ok (.iadd, 1) := by decide +kernel
theorem dX2_add_107 : decode cX2_add 107 = .ok (.iastore, 1) := by decide +kernel
theorem dX2_add_108 : decode cX2_add 108 = .ok (.iload 4, 2) := by decide +kernel
theorem dX2_add_110 : decode cX2_add 110 = .ok (.ireturn, 1) := by decide +kernel
theorem dX2_childOf_0 : decode cX2_childOf 0 = .ok (.aload_n 0, 1) := by decide +kernel
theorem dX2_childOf_1 : decode cX2_childOf 1 = .ok (.getfield 24, 3) := by decide +kernel
theorem dX2_childOf_4 : decode cX2_childOf 4 = .ok (.iload_n 1, 1) := by decide +kernel
theorem dX2_childOf_5 : decode cX2_childOf 5 = .ok (.bipush 8, 2) := by decide +kernel
theorem dX2_childOf_7 : decode cX2_childOf 7 = .ok (.imul, 1) := by decide +kernel
theorem dX2_childOf_8 : decode cX2_childOf 8 = .ok (.iload_n 2, 1) := by decide +kernel
theorem dX2_childOf_9 : decode cX2_childOf 9 = .ok (.iadd, 1) := by decide +kernel
theorem dX2_childOf_10 : decode cX2_childOf 10 = .ok (.iaload, 1) := by decide +kernel
theorem dX2_childOf_11 : decode cX2_childOf 11 = .ok (.ireturn, 1) := by decide +kernel
theorem dX2_leastLabels_0 : decode cX2_leastLabels 0 = .ok (.aload_n 0, 1) := by decide +kernel
theorem dX2_leastLabels_1 : decode cX2_leastLabels 1 = .ok (.getfield 30, 3) := by decide +kernel
theorem dX2_leastLabels_4 : decode cX2_leastLabels 4 = .ok (.iconst 1, 1) := by decide +kernel
theorem dX2_leastLabels_5 : decode cX2_leastLabels 5 = .ok (.isub, 1) := by decide +kernel
theorem dX2_leastLabels_6 : decode cX2_leastLabels 6 = .ok (.istore_n 2, 1) := by decide +kernel
theorem dX2_leastLabels_7 : decode cX2_leastLabels 7 = .ok (.iload_n 2, 1) := by decide +kernel
theorem dX2_leastLabels_8 : decode cX2_leastLabels 8 = .ok (.iload_n 1, 1) := by decide +kernel
theorem dX2_leastLabels_9 : decode cX2_leastLabels 9 = .ok (.if_icmp .lt 20, 3) := by decide +kernel
theorem dX2_leastLabels_12 : decode cX2_leastLabels 12 = .ok (.aload_n 0, 1) := by decide +kernel
theorem dX2_leastLabels_13 : decode cX2_leastLabels 13 = .ok (.getfield 27, 3) := by decide +kernel
theorem dX2_leastLabels_16 : decode cX2_leastLabels 16 = .ok (.iload_n 2, 1) := by decide +kernel
theorem dX2_leastLabels_17 : decode cX2_leastLabels 17 = .ok (.aload_n 0, 1) := by decide +kernel
theorem dX2_leastLabels_18 : decode cX2_leastLabels 18 = .ok (.iload_n 2, 1) := by decide +kernel
theorem dX2_leastLabels_19 : decode cX2_leastLabels 19 = .ok (.invokevirtual 34, 3) := by decide +kernel
theorem dX2_leastLabels_22 : decode cX2_leastLabels 22 = .ok (.iastore, 1) := by decide +kernel
theorem dX2_leastLabels_23 : decode cX2_leastLabels 23 = .ok (.iinc 2 (-1), 3) := by decide +kernel
theorem dX2_leastLabels_26 : decode cX2_leastLabels 26 = .ok (.goto (-19), 3) := by decide +kernel
theorem dX2_leastLabels_29 : decode cX2_leastLabels 29 = .ok (.aload_n 0, 1) := by decide +kernel
theorem dX2_leastLabels_30 : decode cX2_leastLabels 30 = .ok (.getfield 27, 3) := by decide +kernel
theorem dX2_leastLabels_33 : decode cX2_leastLabels 33 = .ok (.iload_n 1, 1) := by decide +kernel
theorem dX2_leastLabels_34 : decode cX2_leastLabels 34 = .ok (.iaload, 1) := by decide +kernel
theorem dX2_leastLabels_35 : decode cX2_leastLabels 35 = .ok (.ireturn, 1) := by decide +kernel
theorem dX2_leastByChildren_0 : decode cX2_leastByChildren 0 = .ok (.aload_n 0, 1) := by decide +kernel
theorem dX2_leastByChildren_1 : decode cX2_leastByChildren 1 = .ok (.getfield 9, 3) := by decide +kernel
theorem dX2_leastByChildren_4 : decode cX2_leastByChildren 4 = .ok (.iload_n 1, 1) := by decide +kernel
theorem dX2_leastByChildren_5 : decode cX2_leastByChildren 5 = .ok (.iaload, 1) := by decide +kernel
theorem dX2_leastByChildren_6 : decode cX2_leastByChildren 6 = .ok (.tableswitch 60 1 5 #[34, 36, 42, 42, 48], 34) := by decide +kernel
theorem dX2_leastByChildren_40 : decode cX2_leastByChildren 40 = .ok (.iconst 1, 1) := by decide +kernel
theorem dX2_leastByChildren_41 : decode cX2_leastByChildren 41 = .ok (.ireturn, 1) := by decide +kernel
theorem dX2_leastByChildren_42 : decode cX2_leastByChildren 42 = .ok (.aload_n 0, 1) := by decide +kernel
theorem dX2_leastByChildren_43 : decode cX2_leastByChildren 43 = .ok (.iload_n 1, 1) := by decide +kernel
theorem dX2_leastByChildren_44 : decode cX2_leastByChildren 44 = .ok (.invokevirtual 38, 3) := by decide +kernel
theorem dX2_leastByChildren_47 : decode cX2_leastByChildren 47 = .ok (.ireturn, 1) := by decide +kernel
theorem dX2_leastByChildren_48 : decode cX2_leastByChildren 48 = .ok (.aload_n 0, 1) := by decide +kernel
theorem dX2_leastByChildren_49 : decode cX2_leastByChildren 49 = .ok (.iload_n 1, 1) := by decide +kernel
theorem dX2_leastByChildren_50 : decode cX2_leastByChildren 50 = .ok (.invokevirtual 41, 3) := by decide +kernel
theorem dX2_leastByChildren_53 : decode cX2_leastByChildren 53 = .ok (.ireturn, 1) := by decide +kernel
theorem dX2_leastByChildren_54 : decode cX2_leastByChildren 54 = .ok (.aload_n 0, 1) := by decide +kernel
theorem dX2_leastByChildren_55 : decode cX2_leastByChildren 55 = .ok (.getfield 27, 3) := by decide +kernel
theorem dX2_leastByChildren_58 : decode cX2_leastByChildren 58 = .ok (.aload_n 0, 1) := by decide +kernel
theorem dX2_leastByChildren_59 : decode cX2_leastByChildren 59 = .ok (.iload_n 1, 1) := by decide +kernel
theorem dX2_leastByChildren_60 : decode cX2_leastByChildren 60 = .ok (.iconst 0, 1) := by decide +kernel
theorem dX2_leastByChildren_61 : decode cX2_leastByChildren 61 = .ok (.invokevirtual 44, 3) := by decide +kernel
theorem dX2_leastByChildren_64 : decode cX2_leastByChildren 64 = .ok (.iaload, 1) := by decide +kernel
theorem dX2_leastByChildren_65 : decode cX2_leastByChildren 65 = .ok (.ireturn, 1) := by decide +kernel
theorem dX2_leastByChildren_66 : decode cX2_leastByChildren 66 = .ok (.iconst 0, 1) := by decide +kernel
theorem dX2_leastByChildren_67 : decode cX2_leastByChildren 67 = .ok (.ireturn, 1) := by decide +kernel
theorem dX2_leastOfChildren_0 : decode cX2_leastOfChildren 0 = .ok (.aload_n 0, 1) := by decide +kernel
theorem dX2_leastOfChildren_1 : decode cX2_leastOfChildren 1 = .ok (.getfield 27, 3) := by decide +kernel
theorem dX2_leastOfChildren_4 : decode cX2_leastOfChildren 4 = .ok (.aload_n 0, 1) := by decide +kernel
theorem dX2_leastOfChildren_5 : decode cX2_leastOfChildren 5 = .ok (.iload_n 1, 1) := by decide +kernel
theorem dX2_leastOfChildren_6 : decode cX2_leastOfChildren 6 = .ok (.iconst 0, 1) := by decide +kernel
theorem dX2_leastOfChildren_7 : decode cX2_leastOfChildren 7 = .ok (.invokevirtual 44, 3) := by decide +kernel
theorem dX2_leastOfChildren_10 : decode cX2_leastOfChildren 10 = .ok (.iaload, 1) := by decide +kernel
theorem dX2_leastOfChildren_11 : decode cX2_leastOfChildren 11 = .ok (.istore_n 2, 1) := by decide +kernel
theorem dX2_leastOfChildren_12 : decode cX2_leastOfChildren 12 = .ok (.iconst 1, 1) := by decide +kernel
theorem dX2_leastOfChildren_13 : decode cX2_leastOfChildren 13 = .ok (.istore_n 3, 1) := by decide +kernel
theorem dX2_leastOfChildren_14 : decode cX2_leastOfChildren 14 = .ok (.iload_n 3, 1) := by decide +kernel
theorem dX2_leastOfChildren_15 : decode cX2_leastOfChildren 15 = .ok (.aload_n 0, 1) := by decide +kernel
theorem dX2_leastOfChildren_16 : decode cX2_leastOfChildren 16 = .ok (.getfield 21, 3) := by decide +kernel
theorem dX2_leastOfChildren_19 : decode cX2_leastOfChildren 19 = .ok (.iload_n 1, 1) := by decide +kernel
theorem dX2_leastOfChildren_20 : decode cX2_leastOfChildren 20 = .ok (.iaload, 1) := by decide +kernel
theorem dX2_leastOfChildren_21 : decode cX2_leastOfChildren 21 = .ok (.if_icmp .ge 25, 3) := by decide +kernel
theorem dX2_leastOfChildren_24 : decode cX2_leastOfChildren 24 = .ok (.iload_n 2, 1) := by decide +kernel
theorem dX2_leastOfChildren_25 : decode cX2_leastOfChildren 25 = .ok (.aload_n 0, 1) := by decide +kernel
theorem dX2_leastOfChildren_26 : decode cX2_leastOfChildren 26 = .ok (.getfield 27, 3) := by decide +kernel
theorem dX2_leastOfChildren_29 : decode cX2_leastOfChildren 29 = .ok (.aload_n 0, 1) := by decide +kernel
theorem dX2_leastOfChildren_30 : decode cX2_leastOfChildren 30 = .ok (.iload_n 1, 1) := by decide +kernel
theorem dX2_leastOfChildren_31 : decode cX2_leastOfChildren 31 = .ok (.iload_n 3, 1) := by decide +kernel
theorem dX2_leastOfChildren_32 : decode cX2_leastOfChildren 32 = .ok (.invokevirtual 44, 3) := by decide +kernel
theorem dX2_leastOfChildren_35 : decode cX2_leastOfChildren 35 = .ok (.iaload, 1) := by decide +kernel
theorem dX2_leastOfChildren_36 : decode cX2_leastOfChildren 36 = .ok (.invokestatic 48, 3) := by decide +kernel
theorem dX2_leastOfChildren_39 : decode cX2_leastOfChildren 39 = .ok (.istore_n 2, 1) := by decide +kernel
theorem dX2_leastOfChildren_40 : decode cX2_leastOfChildren 40 = .ok (.iinc 3 1, 3) := by decide +kernel
theorem dX2_leastOfChildren_43 : decode cX2_leastOfChildren 43 = .ok (.goto (-29), 3) := by decide +kernel
theorem dX2_leastOfChildren_46 : decode cX2_leastOfChildren 46 = .ok (.iload_n 2, 1) := by decide +kernel
theorem dX2_leastOfChildren_47 : decode cX2_leastOfChildren 47 = .ok (.ireturn, 1) := by decide +kernel
theorem dX2_sumOfChildren_0 : decode cX2_sumOfChildren 0 = .ok (.iconst 0, 1) := by decide +kernel
theorem dX2_sumOfChildren_1 : decode cX2_sumOfChildren 1 = .ok (.istore_n 2, 1) := by decide +kernel
theorem dX2_sumOfChildren_2 : decode cX2_sumOfChildren 2 = .ok (.iconst 0, 1) := by decide +kernel
theorem dX2_sumOfChildren_3 : decode cX2_sumOfChildren 3 = .ok (.istore_n 3, 1) := by decide +kernel
theorem dX2_sumOfChildren_4 : decode cX2_sumOfChildren 4 = .ok (.iload_n 3, 1) := by decide +kernel
theorem dX2_sumOfChildren_5 : decode cX2_sumOfChildren 5 = .ok (.aload_n 0, 1) := by decide +kernel
theorem dX2_sumOfChildren_6 : decode cX2_sumOfChildren 6 = .ok (.getfield 21, 3) := by decide +kernel
theorem dX2_sumOfChildren_9 : decode cX2_sumOfChildren 9 = .ok (.iload_n 1, 1) := by decide +kernel
theorem dX2_sumOfChildren_10 : decode cX2_sumOfChildren 10 = .ok (.iaload, 1) := by decide +kernel
theorem dX2_sumOfChildren_11 : decode cX2_sumOfChildren 11 = .ok (.if_icmp .ge 23, 3) := by decide +kernel
theorem dX2_sumOfChildren_14 : decode cX2_sumOfChildren 14 = .ok (.iload_n 2, 1) := by decide +kernel
theorem dX2_sumOfChildren_15 : decode cX2_sumOfChildren 15 = .ok (.aload_n 0, 1) := by decide +kernel
theorem dX2_sumOfChildren_16 : decode cX2_sumOfChildren 16 = .ok (.getfield 27, 3) := by decide +kernel
theorem dX2_sumOfChildren_19 : decode cX2_sumOfChildren 19 = .ok (.aload_n 0, 1) := by decide +kernel
theorem dX2_sumOfChildren_20 : decode cX2_sumOfChildren 20 = .ok (.iload_n 1, 1) := by decide +kernel
theorem dX2_sumOfChildren_21 : decode cX2_sumOfChildren 21 = .ok (.iload_n 3, 1) := by decide +kernel
theorem dX2_sumOfChildren_22 : decode cX2_sumOfChildren 22 = .ok (.invokevirtual 44, 3) := by decide +kernel
theorem dX2_sumOfChildren_25 : decode cX2_sumOfChildren 25 = .ok (.iaload, 1) := by decide +kernel
theorem dX2_sumOfChildren_26 : decode cX2_sumOfChildren 26 = .ok (.iadd, 1) := by decide +kernel
theorem dX2_sumOfChildren_27 : decode cX2_sumOfChildren 27 = .ok (.istore_n 2, 1) := by decide +kernel
theorem dX2_sumOfChildren_28 : decode cX2_sumOfChildren 28 = .ok (.iinc 3 1, 3) := by decide +kernel
theorem dX2_sumOfChildren_31 : decode cX2_sumOfChildren 31 = .ok (.goto (-27), 3) := by decide +kernel
theorem dX2_sumOfChildren_34 : decode cX2_sumOfChildren 34 = .ok (.iload_n 2, 1) := by decide +kernel
theorem dX2_sumOfChildren_35 : decode cX2_sumOfChildren 35 = .ok (.ireturn, 1) := by decide +kernel
theorem dJ6_numberOfTrailingZeros_0f7a4_0 : decode cJ6_numberOfTrailingZeros_0f7a4 0 = .ok (.iload_n 0, 1) := by decide +kernel
theorem dJ6_numberOfTrailingZeros_0f7a4_1 : decode cJ6_numberOfTrailingZeros_0f7a4 1 = .ok (.iconst (-1), 1) := by decide +kernel
theorem dJ6_numberOfTrailingZeros_0f7a4_2 : decode cJ6_numberOfTrailingZeros_0f7a4 2 = .ok (.ixor, 1) := by decide +kernel
theorem dJ6_numberOfTrailingZeros_0f7a4_3 : decode cJ6_numberOfTrailingZeros_0f7a4 3 = .ok (.iload_n 0, 1) := by decide +kernel
theorem dJ6_numberOfTrailingZeros_0f7a4_4 : decode cJ6_numberOfTrailingZeros_0f7a4 4 = .ok (.iconst 1, 1) := by decide +kernel
theorem dJ6_numberOfTrailingZeros_0f7a4_5 : decode cJ6_numberOfTrailingZeros_0f7a4 5 = .ok (.isub, 1) := by decide +kernel
theorem dJ6_numberOfTrailingZeros_0f7a4_6 : decode cJ6_numberOfTrailingZeros_0f7a4 6 = .ok (.iand, 1) := by decide +kernel
theorem dJ6_numberOfTrailingZeros_0f7a4_7 : decode cJ6_numberOfTrailingZeros_0f7a4 7 = .ok (.istore_n 0, 1) := by decide +kernel
theorem dJ6_numberOfTrailingZeros_0f7a4_8 : decode cJ6_numberOfTrailingZeros_0f7a4 8 = .ok (.iload_n 0, 1) := by decide +kernel
theorem dJ6_numberOfTrailingZeros_0f7a4_9 : decode cJ6_numberOfTrailingZeros_0f7a4 9 = .ok (.ifCond .gt 8, 3) := by decide +kernel
theorem dJ6_numberOfTrailingZeros_0f7a4_12 : decode cJ6_numberOfTrailingZeros_0f7a4 12 = .ok (.iload_n 0, 1) := by decide +kernel
theorem dJ6_numberOfTrailingZeros_0f7a4_13 : decode cJ6_numberOfTrailingZeros_0f7a4 13 = .ok (.bipush 32, 2) := by decide +kernel
theorem dJ6_numberOfTrailingZeros_0f7a4_15 : decode cJ6_numberOfTrailingZeros_0f7a4 15 = .ok (.iand, 1) := by decide +kernel
theorem dJ6_numberOfTrailingZeros_0f7a4_16 : decode cJ6_numberOfTrailingZeros_0f7a4 16 = .ok (.ireturn, 1) := by decide +kernel
theorem dJ6_numberOfTrailingZeros_0f7a4_17 : decode cJ6_numberOfTrailingZeros_0f7a4 17 = .ok (.iconst 1, 1) := by decide +kernel
theorem dJ6_numberOfTrailingZeros_0f7a4_18 : decode cJ6_numberOfTrailingZeros_0f7a4 18 = .ok (.istore_n 1, 1) := by decide +kernel
theorem dJ6_numberOfTrailingZeros_0f7a4_19 : decode cJ6_numberOfTrailingZeros_0f7a4 19 = .ok (.iload_n 0, 1) := by decide +kernel
theorem dJ6_numberOfTrailingZeros_0f7a4_20 : decode cJ6_numberOfTrailingZeros_0f7a4 20 = .ok (.ldc_w 264, 3) := by decide +kernel
theorem dJ6_numberOfTrailingZeros_0f7a4_23 : decode cJ6_numberOfTrailingZeros_0f7a4 23 = .ok (.if_icmp .le 11, 3) := by decide +kernel
theorem dJ6_numberOfTrailingZeros_0f7a4_26 : decode cJ6_numberOfTrailingZeros_0f7a4 26 = .ok (.iinc 1 16, 3) := by decide +kernel
theorem dJ6_numberOfTrailingZeros_0f7a4_29 : decode cJ6_numberOfTrailingZeros_0f7a4 29 = .ok (.iload_n 0, 1) := by decide +kernel
theorem dJ6_numberOfTrailingZeros_0f7a4_30 : decode cJ6_numberOfTrailingZeros_0f7a4 30 = .ok (.bipush 16, 2) := by decide +kernel
theorem dJ6_numberOfTrailingZeros_0f7a4_32 : decode cJ6_numberOfTrailingZeros_0f7a4 32 = .ok (.iushr, 1) := by decide +kernel
theorem dJ6_numberOfTrailingZeros_0f7a4_33 : decode cJ6_numberOfTrailingZeros_0f7a4 33 = .ok (.istore_n 0, 1) := by decide +kernel
theorem dJ6_numberOfTrailingZeros_0f7a4_34 : decode cJ6_numberOfTrailingZeros_0f7a4 34 = .ok (.iload_n 0, 1) := by decide +kernel
theorem dJ6_numberOfTrailingZeros_0f7a4_35 : decode cJ6_numberOfTrailingZeros_0f7a4 35 = .ok (.sipush 256, 3) := by decide +kernel
theorem dJ6_numberOfTrailingZeros_0f7a4_38 : decode cJ6_numberOfTrailingZeros_0f7a4 38 = .ok (.if_icmp .le 11, 3) := by decide +kernel
theorem dJ6_numberOfTrailingZeros_0f7a4_41 : decode cJ6_numberOfTrailingZeros_0f7a4 41 = .ok (.iinc 1 8, 3) := by decide +kernel
theorem dJ6_numberOfTrailingZeros_0f7a4_44 : decode cJ6_numberOfTrailingZeros_0f7a4 44 = .ok (.iload_n 0, 1) := by decide +kernel
theorem dJ6_numberOfTrailingZeros_0f7a4_45 : decode cJ6_numberOfTrailingZeros_0f7a4 45 = .ok (.bipush 8, 2) := by decide +kernel
theorem dJ6_numberOfTrailingZeros_0f7a4_47 : decode cJ6_numberOfTrailingZeros_0f7a4 47 = .ok (.iushr, 1) := by decide +kernel
theorem dJ6_numberOfTrailingZeros_0f7a4_48 : decode cJ6_numberOfTrailingZeros_0f7a4 48 = .ok (.istore_n 0, 1) := by decide +kernel
theorem dJ6_numberOfTrailingZeros_0f7a4_49 : decode cJ6_numberOfTrailingZeros_0f7a4 49 = .ok (.iload_n 0, 1) := by decide +kernel
theorem dJ6_numberOfTrailingZeros_0f7a4_50 : decode cJ6_numberOfTrailingZeros_0f7a4 50 = .ok (.bipush 16, 2) := by decide +kernel
theorem dJ6_numberOfTrailingZeros_0f7a4_52 : decode cJ6_numberOfTrailingZeros_0f7a4 52 = .ok (.if_icmp .le 10, 3) := by decide +kernel
theorem dJ6_numberOfTrailingZeros_0f7a4_55 : decode cJ6_numberOfTrailingZeros_0f7a4 55 = .ok (.iinc 1 4, 3) := by decide +kernel
theorem dJ6_numberOfTrailingZeros_0f7a4_58 : decode cJ6_numberOfTrailingZeros_0f7a4 58 = .ok (.iload_n 0, 1) := by decide +kernel
theorem dJ6_numberOfTrailingZeros_0f7a4_59 : decode cJ6_numberOfTrailingZeros_0f7a4 59 = .ok (.iconst 4, 1) := by decide +kernel
theorem dJ6_numberOfTrailingZeros_0f7a4_60 : decode cJ6_numberOfTrailingZeros_0f7a4 60 = .ok (.iushr, 1) := by decide +kernel
theorem dJ6_numberOfTrailingZeros_0f7a4_61 : decode cJ6_numberOfTrailingZeros_0f7a4 61 = .ok (.istore_n 0, 1) := by decide +kernel
theorem dJ6_numberOfTrailingZeros_0f7a4_62 : decode cJ6_numberOfTrailingZeros_0f7a4 62 = .ok (.iload_n 0, 1) := by decide +kernel
theorem dJ6_numberOfTrailingZeros_0f7a4_63 : decode cJ6_numberOfTrailingZeros_0f7a4 63 = .ok (.iconst 4, 1) := by decide +kernel
theorem dJ6_numberOfTrailingZeros_0f7a4_64 : decode cJ6_numberOfTrailingZeros_0f7a4 64 = .ok (.if_icmp .le 10, 3) := by decide +kernel
theorem dJ6_numberOfTrailingZeros_0f7a4_67 : decode cJ6_numberOfTrailingZeros_0f7a4 67 = .ok (.iinc 1 2, 3) := by decide +kernel
theorem dJ6_numberOfTrailingZeros_0f7a4_70 : decode cJ6_numberOfTrailingZeros_0f7a4 70 = .ok (.iload_n 0, 1) := by decide +kernel
theorem dJ6_numberOfTrailingZeros_0f7a4_71 : decode cJ6_numberOfTrailingZeros_0f7a4 71 = .ok (.iconst 2, 1) := by decide +kernel
theorem dJ6_numberOfTrailingZeros_0f7a4_72 : decode cJ6_numberOfTrailingZeros_0f7a4 72 = .ok (.iushr, 1) := by decide +kernel
theorem dJ6_numberOfTrailingZeros_0f7a4_73 : decode cJ6_numberOfTrailingZeros_0f7a4 73 = .ok (.istore_n 0, 1) := by decide +kernel
theorem dJ6_numberOfTrailingZeros_0f7a4_74 : decode cJ6_numberOfTrailingZeros_0f7a4 74 = .ok (.iload_n 1, 1) := by decide +kernel
theorem dJ6_numberOfTrailingZeros_0f7a4_75 : decode cJ6_numberOfTrailingZeros_0f7a4 75 = .ok (.iload_n 0, 1) := by decide +kernel
theorem dJ6_numberOfTrailingZeros_0f7a4_76 : decode cJ6_numberOfTrailingZeros_0f7a4 76 = .ok (.iconst 1, 1) := by decide +kernel
theorem dJ6_numberOfTrailingZeros_0f7a4_77 : decode cJ6_numberOfTrailingZeros_0f7a4 77 = .ok (.iushr, 1) := by decide +kernel
theorem dJ6_numberOfTrailingZeros_0f7a4_78 : decode cJ6_numberOfTrailingZeros_0f7a4 78 = .ok (.iadd, 1) := by decide +kernel
theorem dJ6_numberOfTrailingZeros_0f7a4_79 : decode cJ6_numberOfTrailingZeros_0f7a4 79 = .ok (.ireturn, 1) := by decide +kernel
theorem dJ6_bitCount_0f7a4_0 : decode cJ6_bitCount_0f7a4 0 = .ok (.iload_n 0, 1) := by decide +kernel
theorem dJ6_bitCount_0f7a4_1 : decode cJ6_bitCount_0f7a4 1 = .ok (.iload_n 0, 1) := by decide +kernel
theorem dJ6_bitCount_0f7a4_2 : decode cJ6_bitCount_0f7a4 2 = .ok (.iconst 1, 1) := by decide +kernel
theorem dJ6_bitCount_0f7a4_3 : decode cJ6_bitCount_0f7a4 3 = .ok (.iushr, 1) := by decide +kernel
theorem dJ6_bitCount_0f7a4_4 : decode cJ6_bitCount_0f7a4 4 = .ok (.ldc_w 265, 3) := by decide +kernel
theorem dJ6_bitCount_0f7a4_7 : decode cJ6_bitCount_0f7a4 7 = .ok (.iand, 1) := by decide +kernel
theorem dJ6_bitCount_0f7a4_8 : decode cJ6_bitCount_0f7a4 8 = .ok (.isub, 1) := by decide +kernel
theorem dJ6_bitCount_0f7a4_9 : decode cJ6_bitCount_0f7a4 9 = .ok (.istore_n 0, 1) := by decide +kernel
theorem dJ6_bitCount_0f7a4_10 : decode cJ6_bitCount_0f7a4 10 = .ok (.iload_n 0, 1) := by decide +kernel
theorem dJ6_bitCount_0f7a4_11 : decode cJ6_bitCount_0f7a4 11 = .ok (.ldc_w 266, 3) := by decide +kernel
theorem dJ6_bitCount_0f7a4_14 : decode cJ6_bitCount_0f7a4 14 = .ok (.iand, 1) := by decide +kernel
theorem dJ6_bitCount_0f7a4_15 : decode cJ6_bitCount_0f7a4 15 = .ok (.iload_n 0, 1) := by decide +kernel
theorem dJ6_bitCount_0f7a4_16 : decode cJ6_bitCount_0f7a4 16 = .ok (.iconst 2, 1) := by decide +kernel
theorem dJ6_bitCount_0f7a4_17 : decode cJ6_bitCount_0f7a4 17 = .ok (.iushr, 1) := by decide +kernel
theorem dJ6_bitCount_0f7a4_18 : decode cJ6_bitCount_0f7a4 18 = .ok (.ldc_w 266, 3) := by decide +kernel
theorem dJ6_bitCount_0f7a4_21 : decode cJ6_bitCount_0f7a4 21 = .ok (.iand, 1) := by decide +kernel
theorem dJ6_bitCount_0f7a4_22 : decode cJ6_bitCount_0f7a4 22 = .ok (.iadd, 1) := by decide +kernel
theorem dJ6_bitCount_0f7a4_23 : decode cJ6_bitCount_0f7a4 23 = .ok (.istore_n 0, 1) := by decide +kernel
theorem dJ6_bitCount_0f7a4_24 : decode cJ6_bitCount_0f7a4 24 = .ok (.iload_n 0, 1) := by decide +kernel
theorem dJ6_bitCount_0f7a4_25 : decode cJ6_bitCount_0f7a4 25 = .ok (.iload_n 0, 1) := by decide +kernel
theorem dJ6_bitCount_0f7a4_26 : decode cJ6_bitCount_0f7a4 26 = .ok (.iconst 4, 1) := by decide +kernel
theorem dJ6_bitCount_0f7a4_27 : decode cJ6_bitCount_0f7a4 27 = .ok (.iushr, 1) := by decide +kernel
theorem dJ6_bitCount_0f7a4_28 : decode cJ6_bitCount_0f7a4 28 = .ok (.iadd, 1) := by decide +kernel
theorem dJ6_bitCount_0f7a4_29 : decode cJ6_bitCount_0f7a4 29 = .ok (.ldc_w 267, 3) := by decide +kernel
theorem dJ6_bitCount_0f7a4_32 : decode cJ6_bitCount_0f7a4 32 = .ok (.iand, 1) := by decide +kernel
theorem dJ6_bitCount_0f7a4_33 : decode cJ6_bitCount_0f7a4 33 = .ok (.istore_n 0, 1) := by decide +kernel
theorem dJ6_bitCount_0f7a4_34 : decode cJ6_bitCount_0f7a4 34 = .ok (.iload_n 0, 1) := by decide +kernel
theorem dJ6_bitCount_0f7a4_35 : decode cJ6_bitCount_0f7a4 35 = .ok (.iload_n 0, 1) := by decide +kernel
theorem dJ6_bitCount_0f7a4_36 : decode cJ6_bitCount_0f7a4 36 = .ok (.bipush 8, 2) := by decide +kernel
theorem dJ6_bitCount_0f7a4_38 : decode cJ6_bitCount_0f7a4 38 = .ok (.iushr, 1) := by decide +kernel
theorem dJ6_bitCount_0f7a4_39 : decode cJ6_bitCount_0f7a4 39 = .ok (.iadd, 1) := by decide +kernel
theorem dJ6_bitCount_0f7a4_40 : decode cJ6_bitCount_0f7a4 40 = .ok (.istore_n 0, 1) := by decide +kernel
theorem dJ6_bitCount_0f7a4_41 : decode cJ6_bitCount_0f7a4 41 = .ok (.iload_n 0, 1) := by decide +kernel
theorem dJ6_bitCount_0f7a4_42 : decode cJ6_bitCount_0f7a4 42 = .ok (.iload_n 0, 1) := by decide +kernel
theorem dJ6_bitCount_0f7a4_43 : decode cJ6_bitCount_0f7a4 43 = .ok (.bipush 16, 2) := by decide +kernel
theorem dJ6_bitCount_0f7a4_45 : decode cJ6_bitCount_0f7a4 45 = .ok (.iushr, 1) := by decide +kernel
theorem dJ6_bitCount_0f7a4_46 : decode cJ6_bitCount_0f7a4 46 = .ok (.iadd, 1) := by decide +kernel
theorem dJ6_bitCount_0f7a4_47 : decode cJ6_bitCount_0f7a4 47 = .ok (.istore_n 0, 1) := by decide +kernel
theorem dJ6_bitCount_0f7a4_48 : decode cJ6_bitCount_0f7a4 48 = .ok (.iload_n 0, 1) := by decide +kernel
theorem dJ6_bitCount_0f7a4_49 : decode cJ6_bitCount_0f7a4 49 = .ok (.bipush 63, 2) := by decide +kernel
theorem dJ6_bitCount_0f7a4_51 : decode cJ6_bitCount_0f7a4 51 = .ok (.iand, 1) := by decide +kernel
theorem dJ6_bitCount_0f7a4_52 : decode cJ6_bitCount_0f7a4 52 = .ok (.ireturn, 1) := by decide +kernel
theorem dJ9_min_7cf53_0 : decode cJ9_min_7cf53 0 = .ok (.iload_n 0, 1) := by decide +kernel
theorem dJ9_min_7cf53_1 : decode cJ9_min_7cf53 1 = .ok (.iload_n 1, 1) := by decide +kernel
theorem dJ9_min_7cf53_2 : decode cJ9_min_7cf53 2 = .ok (.if_icmp .gt 7, 3) := by decide +kernel
theorem dJ9_min_7cf53_5 : decode cJ9_min_7cf53 5 = .ok (.iload_n 0, 1) := by decide +kernel
theorem dJ9_min_7cf53_6 : decode cJ9_min_7cf53 6 = .ok (.goto 4, 3) := by decide +kernel
theorem dJ9_min_7cf53_9 : decode cJ9_min_7cf53 9 = .ok (.iload_n 1, 1) := by decide +kernel
theorem dJ9_min_7cf53_10 : decode cJ9_min_7cf53 10 = .ok (.ireturn, 1) := by decide +kernel

theorem dX4_only_43 : decode cX4_only 43 = .ok (.arraylength, 1) := by decide +kernel
theorem dX4_only_44 : decode cX4_only 44 = .ok (.istore 11, 2) := by decide +kernel
theorem dX4_only_46 : decode cX4_only 46 = .ok (.iconst 0, 1) := by decide +kernel
theorem dX4_only_47 : decode cX4_only 47 = .ok (.istore 12, 2) := by decide +kernel
theorem dX4_only_49 : decode cX4_only 49 = .ok (.iload 12, 2) := by decide +kernel
theorem dX4_only_51 : decode cX4_only 51 = .ok (.iload 11, 2) := by decide +kernel
theorem dX4_only_53 : decode cX4_only 53 = .ok (.if_icmp .ge 35, 3) := by decide +kernel
theorem dX4_only_56 : decode cX4_only 56 = .ok (.aload 10, 2) := by decide +kernel
theorem dX4_only_58 : decode cX4_only 58 = .ok (.iload 12, 2) := by decide +kernel
theorem dX4_only_60 : decode cX4_only 60 = .ok (.iaload, 1) := by decide +kernel
theorem dX4_only_61 : decode cX4_only 61 = .ok (.istore 13, 2) := by decide +kernel
theorem dX4_only_63 : decode cX4_only 63 = .ok (.iload 9, 2) := by decide +kernel
theorem dX4_only_65 : decode cX4_only 65 = .ok (.iload_n 1, 1) := by decide +kernel
theorem dX4_only_66 : decode cX4_only 66 = .ok (.iload 13, 2) := by decide +kernel
theorem dX4_only_68 : decode cX4_only 68 = .ok (.invokestatic 66, 3) := by decide +kernel
theorem dX4_only_71 : decode cX4_only 71 = .ok (.ifCond .eq 7, 3) := by decide +kernel
theorem dX4_only_74 : decode cX4_only 74 = .ok (.iconst 1, 1) := by decide +kernel
theorem dX4_only_75 : decode cX4_only 75 = .ok (.goto 4, 3) := by decide +kernel
theorem dX4_only_78 : decode cX4_only 78 = .ok (.iconst 0, 1) := by decide +kernel
theorem dX4_only_79 : decode cX4_only 79 = .ok (.iadd, 1) := by decide +kernel
theorem dX4_only_80 : decode cX4_only 80 = .ok (.istore 9, 2) := by decide +kernel
theorem dX4_only_82 : decode cX4_only 82 = .ok (.iinc 12 1, 3) := by decide +kernel
theorem dX4_only_85 : decode cX4_only 85 = .ok (.goto (-36), 3) := by decide +kernel
theorem dX4_only_88 : decode cX4_only 88 = .ok (.iload 9, 2) := by decide +kernel
theorem dX4_only_90 : decode cX4_only 90 = .ok (.ifCond .ne 10, 3) := by decide +kernel
theorem dX4_only_93 : decode cX4_only 93 = .ok (.iload_n 2, 1) := by decide +kernel
theorem dX4_only_94 : decode cX4_only 94 = .ok (.ifCond .ne 6, 3) := by decide +kernel
theorem dX4_only_97 : decode cX4_only 97 = .ok (.goto 73, 3) := by decide +kernel
theorem dX4_only_100 : decode cX4_only 100 = .ok (.aload 4, 2) := by decide +kernel
theorem dX4_only_102 : decode cX4_only 102 = .ok (.iload_n 3, 1) := by decide +kernel
theorem dX4_only_103 : decode cX4_only 103 = .ok (.iload 9, 2) := by decide +kernel
theorem dX4_only_105 : decode cX4_only 105 = .ok (.newarray .int, 2) := by decide +kernel
theorem dX4_only_107 : decode cX4_only 107 = .ok (.aastore, 1) := by decide +kernel
theorem dX4_only_108 : decode cX4_only 108 = .ok (.iconst 0, 1) := by decide +kernel
theorem dX4_only_109 : decode cX4_only 109 = .ok (.istore 10, 2) := by decide +kernel
theorem dX4_only_111 : decode cX4_only 111 = .ok (.aload 8, 2) := by decide +kernel
theorem dX4_only_113 : decode cX4_only 113 = .ok (.astore 11, 2) := by decide +kernel
theorem dX4_only_115 : decode cX4_only 115 = .ok (.aload 11, 2) := by decide +kernel
theorem dX4_only_117 : decode cX4_only 117 = .ok (.arraylength, 1) := by decide +kernel
theorem dX4_only_118 : decode cX4_only 118 = .ok (.istore 12, 2) := by decide +kernel
theorem dX4_only_120 : decode cX4_only 120 = .ok (.iconst 0, 1) := by decide +kernel
theorem dX4_only_121 : decode cX4_only 121 = .ok (.istore 13, 2) := by decide +kernel
theorem dX4_only_123 : decode cX4_only 123 = .ok (.iload 13, 2) := by decide +kernel
theorem dX4_only_125 : decode cX4_only 125 = .ok (.iload 12, 2) := by decide +kernel
theorem dX4_only_127 : decode cX4_only 127 = .ok (.if_icmp .ge 40, 3) := by decide +kernel
theorem dX4_only_130 : decode cX4_only 130 = .ok (.aload 11, 2) := by decide +kernel
theorem dX4_only_132 : decode cX4_only 132 = .ok (.iload 13, 2) := by decide +kernel
theorem dX4_only_134 : decode cX4_only 134 = .ok (.iaload, 1) := by decide +kernel
theorem dX4_only_135 : decode cX4_only 135 = .ok (.istore 14, 2) := by decide +kernel
theorem dX4_only_137 : decode cX4_only 137 = .ok (.iload_n 1, 1) := by decide +kernel
theorem dX4_only_138 : decode cX4_only 138 = .ok (.iload 14, 2) := by decide +kernel
theorem dX4_only_140 : decode cX4_only 140 = .ok (.invokestatic 66, 3) := by decide +kernel
theorem dX4_only_143 : decode cX4_only 143 = .ok (.ifCond .ne 6, 3) := by decide +kernel
theorem dX4_only_146 : decode cX4_only 146 = .ok (.goto 15, 3) := by decide +kernel
theorem dX4_only_149 : decode cX4_only 149 = .ok (.aload 4, 2) := by decide +kernel
theorem dX4_only_151 : decode cX4_only 151 = .ok (.iload_n 3, 1) := by decide +kernel
theorem dX4_only_152 : decode cX4_only 152 = .ok (.aaload, 1) := by decide +kernel
theorem dX4_only_153 : decode cX4_only 153 = .ok (.iload 10, 2) := by decide +kernel
theorem dX4_only_155 : decode cX4_only 155 = .ok (.iload 14, 2) := by decide +kernel
theorem dX4_only_157 : decode cX4_only 157 = .ok (.iastore, 1) := by decide +kernel
theorem dX4_only_158 : decode cX4_only 158 = .ok (.iinc 10 1, 3) := by decide +kernel
theorem dX4_only_161 : decode cX4_only 161 = .ok (.iinc 13 1, 3) := by decide +kernel
theorem dX4_only_164 : decode cX4_only 164 = .ok (.goto (-41), 3) := by decide +kernel
theorem dX4_only_167 : decode cX4_only 167 = .ok (.iinc 3 1, 3) := by decide +kernel
theorem dX4_only_170 : decode cX4_only 170 = .ok (.iinc 7 1, 3) := by decide +kernel
theorem dX4_only_173 : decode cX4_only 173 = .ok (.goto (-153), 3) := by decide +kernel
theorem dX4_only_176 : decode cX4_only 176 = .ok (.aload 4, 2) := by decide +kernel
theorem dX4_only_178 : decode cX4_only 178 = .ok (.iload_n 3, 1) := by decide +kernel
theorem dX4_only_179 : decode cX4_only 179 = .ok (.invokestatic 85, 3) := by decide +kernel
theorem dX4_only_182 : decode cX4_only 182 = .ok (.areturn, 1) := by decide +kernel
theorem dX4_shortened_0 : decode cX4_shortened 0 = .ok (.iload_n 1, 1) := by decide +kernel
theorem dX4_shortened_1 : decode cX4_shortened 1 = .ok (.anewarray 84, 3) := by decide +kernel
theorem dX4_shortened_4 : decode cX4_shortened 4 = .ok (.astore_n 2, 1) := by decide +kernel
theorem dX4_shortened_5 : decode cX4_shortened 5 = .ok (.iconst 0, 1) := by decide +kernel
theorem dX4_shortened_6 : decode cX4_shortened 6 = .ok (.istore_n 3, 1) := by decide +kernel
theorem dX4_shortened_7 : decode cX4_shortened 7 = .ok (.iload_n 3, 1) := by decide +kernel
theorem dX4_shortened_8 : decode cX4_shortened 8 = .ok (.iload_n 1, 1) := by decide +kernel
theorem dX4_shortened_9 : decode cX4_shortened 9 = .ok (.if_icmp .ge 15, 3) := by decide +kernel
theorem dX4_shortened_12 : decode cX4_shortened 12 = .ok (.aload_n 2, 1) := by decide +kernel
theorem dX4_shortened_13 : decode cX4_shortened 13 = .ok (.iload_n 3, 1) := by decide +kernel
theorem dX4_shortened_14 : decode cX4_shortened 14 = .ok (.aload_n 0, 1) := by decide +kernel
theorem dX4_shortened_15 : decode cX4_shortened 15 = .ok (.iload_n 3, 1) := by decide +kernel
theorem dX4_shortened_16 : decode cX4_shortened 16 = .ok (.aaload, 1) := by decide +kernel
theorem dX4_shortened_17 : decode cX4_shortened 17 = .ok (.aastore, 1) := by decide +kernel
theorem dX4_shortened_18 : decode cX4_shortened 18 = .ok (.iinc 3 1, 3) := by decide +kernel
theorem dX4_shortened_21 : decode cX4_shortened 21 = .ok (.goto (-14), 3) := by decide +kernel
theorem dX4_shortened_24 : decode cX4_shortened 24 = .ok (.aload_n 2, 1) := by decide +kernel
theorem dX4_shortened_25 : decode cX4_shortened 25 = .ok (.areturn, 1) := by decide +kernel
theorem dX4_pieces_0 : decode cX4_pieces 0 = .ok (.bipush 12, 2) := by decide +kernel
theorem dX4_pieces_2 : decode cX4_pieces 2 = .ok (.aload_n 0, 1) := by decide +kernel
theorem dX4_pieces_3 : decode cX4_pieces 3 = .ok (.arraylength, 1) := by decide +kernel
theorem dX4_pieces_4 : decode cX4_pieces 4 = .ok (.iconst 1, 1) := by decide +kernel
theorem dX4_pieces_5 : decode cX4_pieces 5 = .ok (.iadd, 1) := by decide +kernel
theorem dX4_pieces_6 : decode cX4_pieces 6 = .ok (.imul, 1) := by decide +kernel
theorem dX4_pieces_7 : decode cX4_pieces 7 = .ok (.anewarray 84, 3) := by decide +kernel
theorem dX4_pieces_10 : decode cX4_pieces 10 = .ok (.astore_n 2, 1) := by decide +kernel
theorem dX4_pieces_11 : decode cX4_pieces 11 = .ok (.iconst 0, 1) := by decide +kernel
theorem dX4_pieces_12 : decode cX4_pieces 12 = .ok (.istore_n 3, 1) := by decide +kernel
theorem dX4_pieces_13 : decode cX4_pieces 13 = .ok (.aload_n 0, 1) := by decide +kernel
theorem dX4_pieces_14 : decode cX4_pieces 14 = .ok (.astore 4, 2) := by decide +kernel
theorem dX4_pieces_16 : decode cX4_pieces 16 = .ok (.aload 4, 2) := by decide +kernel
theorem dX4_pieces_18 : decode cX4_pieces 18 = .ok (.arraylength, 1) := by decide +kernel
theorem dX4_pieces_19 : decode cX4_pieces 19 = .ok (.istore 5, 2) := by decide +kernel
theorem dX4_pieces_21 : decode cX4_pieces 21 = .ok (.iconst 0, 1) := by decide +kernel
theorem dX4_pieces_22 : decode cX4_pieces 22 = .ok (.istore 6, 2) := by decide +kernel
theorem dX4_pieces_24 : decode cX4_pieces 24 = .ok (.iload 6, 2) := by decide +kernel
theorem dX4_pieces_26 : decode cX4_pieces 26 = .ok (.iload 5, 2) := by decide +kernel
theorem dX4_pieces_28 : decode cX4_pieces 28 = .ok (.if_icmp .ge 107, 3) := by decide +kernel
theorem dX4_pieces_31 : decode cX4_pieces 31 = .ok (.aload 4, 2) := by decide +kernel
theorem dX4_pieces_33 : decode cX4_pieces 33 = .ok (.iload 6, 2) := by decide +kernel
theorem dX4_pieces_35 : decode cX4_pieces 35 = .ok (.aaload, 1) := by decide +kernel
theorem dX4_pieces_36 : decode cX4_pieces 36 = .ok (.astore 7, 2) := by decide +kernel
theorem dX4_pieces_38 : decode cX4_pieces 38 = .ok (.iconst 0, 1) := by decide +kernel
theorem dX4_pieces_39 : decode cX4_pieces 39 = .ok (.istore 8, 2) := by decide +kernel
theorem dX4_pieces_41 : decode cX4_pieces 41 = .ok (.iload 8, 2) := by decide +kernel
theorem dX4_pieces_43 : decode cX4_pieces 43 = .ok (.aload 7, 2) := by decide +kernel
theorem dX4_pieces_45 : decode cX4_pieces 45 = .ok (.arraylength, 1) := by decide +kernel
theorem dX4_pieces_46 : decode cX4_pieces 46 = .ok (.if_icmp .ge 83, 3) := by decide +kernel
theorem dX4_pieces_49 : decode cX4_pieces 49 = .ok (.iload 8, 2) := by decide +kernel
theorem dX4_pieces_51 : decode cX4_pieces 51 = .ok (.istore 9, 2) := by decide +kernel
theorem dX4_pieces_53 : decode cX4_pieces 53 = .ok (.iload 9, 2) := by decide +kernel
theorem dX4_pieces_55 : decode cX4_pieces 55 = .ok (.aload 7, 2) := by decide +kernel
theorem dX4_pieces_57 : decode cX4_pieces 57 = .ok (.arraylength, 1) := by decide +kernel
theorem dX4_pieces_58 : decode cX4_pieces 58 = .ok (.if_icmp .ge 21, 3) := by decide +kernel
theorem dX4_pieces_61 : decode cX4_pieces 61 = .ok (.iload_n 1, 1) := by decide +kernel
theorem dX4_pieces_62 : decode cX4_pieces 62 = .ok (.aload 7, 2) := by decide +kernel
theorem dX4_pieces_64 : decode cX4_pieces 64 = .ok (.iload 9, 2) := by decide +kernel
theorem dX4_pieces_66 : decode cX4_pieces 66 = .ok (.iaload, 1) := by decide +kernel
theorem dX4_pieces_67 : decode cX4_pieces 67 = .ok (.invokestatic 66, 3) := by decide +kernel
theorem dX4_pieces_70 : decode cX4_pieces 70 = .ok (.ifCond .eq 9, 3) := by decide +kernel
theorem dX4_pieces_73 : decode cX4_pieces 73 = .ok (.iinc 9 1, 3) := by decide +kernel
theorem dX4_pieces_76 : decode cX4_pieces 76 = .ok (.goto (-23), 3) := by decide +kernel
theorem dX4_pieces_79 : decode cX4_pieces 79 = .ok (.iload 9, 2) := by decide +kernel
theorem dX4_pieces_81 : decode cX4_pieces 81 = .ok (.iload 8, 2) := by decide +kernel
theorem dX4_pieces_83 : decode cX4_pieces 83 = .ok (.if_icmp .le 32, 3) := by decide +kernel
theorem dX4_pieces_86 : decode cX4_pieces 86 = .ok (.aload_n 2, 1) := by decide +kernel
theorem dX4_pieces_87 : decode cX4_pieces 87 = .ok (.iload_n 3, 1) := by decide +kernel
theorem dX4_pieces_88 : decode cX4_pieces 88 = .ok (.iload 9, 2) := by decide +kernel
theorem dX4_pieces_90 : decode cX4_pieces 90 = .ok (.iload 8, 2) := by decide +kernel
theorem dX4_pieces_92 : decode cX4_pieces 92 = .ok (.isub, 1) := by decide +kernel
theorem dX4_pieces_93 : decode cX4_pieces 93 = .ok (.newarray .int, 2) := by decide +kernel
theorem dX4_pieces_95 : decode cX4_pieces 95 = .ok (.aastore, 1) := by decide +kernel
theorem dX4_pieces_96 : decode cX4_pieces 96 = .ok (.aload 7, 2) := by decide +kernel
theorem dX4_pieces_98 : decode cX4_pieces 98 = .ok (.iload 8, 2) := by decide +kernel
theorem dX4_pieces_100 : decode cX4_pieces 100 = .ok (.aload_n 2, 1) := by decide +kernel
theorem dX4_pieces_101 : decode cX4_pieces 101 = .ok (.iload_n 3, 1) := by decide +kernel
theorem dX4_pieces_102 : decode cX4_pieces 102 = .ok (.aaload, 1) := by decide +kernel
theorem dX4_pieces_103 : decode cX4_pieces 103 = .ok (.iconst 0, 1) := by decide +kernel
theorem dX4_pieces_104 : decode cX4_pieces 104 = .ok (.iload 9, 2) := by decide +kernel
theorem dX4_pieces_106 : decode cX4_pieces 106 = .ok (.iload 8, 2) := by decide +kernel
theorem dX4_pieces_108 : decode cX4_pieces 108 = .ok (.isub, 1) := by decide +kernel
theorem dX4_pieces_109 : decode cX4_pieces 109 = .ok (.invokestatic 78, 3) := by decide +kernel
theorem dX4_pieces_112 : decode cX4_pieces 112 = .ok (.iinc 3 1, 3) := by decide +kernel
theorem dX4_pieces_115 : decode cX4_pieces 115 = .ok (.iload 9, 2) := by decide +kernel
theorem dX4_pieces_117 : decode cX4_pieces 117 = .ok (.iload 8, 2) := by decide +kernel
theorem dX4_pieces_119 : decode cX4_pieces 119 = .ok (.iconst 1, 1) := by decide +kernel
theorem dX4_pieces_120 : decode cX4_pieces 120 = .ok (.iadd, 1) := by decide +kernel
theorem dX4_pieces_121 : decode cX4_pieces 121 = .ok (.invokestatic 89, 3) := by decide +kernel
theorem dX4_pieces_124 : decode cX4_pieces 124 = .ok (.istore 8, 2) := by decide +kernel
theorem dX4_pieces_126 : decode cX4_pieces 126 = .ok (.goto (-85), 3) := by decide +kernel
theorem dX4_pieces_129 : decode cX4_pieces 129 = .ok (.iinc 6 1, 3) := by decide +kernel
theorem dX4_pieces_132 : decode cX4_pieces 132 = .ok (.goto (-108), 3) := by decide +kernel
theorem dX4_pieces_135 : decode cX4_pieces 135 = .ok (.aload_n 2, 1) := by decide +kernel
theorem dX4_pieces_136 : decode cX4_pieces 136 = .ok (.iload_n 3, 1) := by decide +kernel
theorem dX4_pieces_137 : decode cX4_pieces 137 = .ok (.invokestatic 85, 3) := by decide +kernel
theorem dX4_pieces_140 : decode cX4_pieces 140 = .ok (.areturn, 1) := by decide +kernel
theorem dX4_add_0 : decode cX4_add 0 = .ok (.aload_n 0, 1) := by decide +kernel
theorem dX4_add_1 : decode cX4_add 1 = .ok (.getfield 22, 3) := by decide +kernel
theorem dX4_add_4 : decode cX4_add 4 = .ok (.aload_n 0, 1) := by decide +kernel
theorem dX4_add_5 : decode cX4_add 5 = .ok (.getfield 94, 3) := by decide +kernel
theorem dX4_add_8 : decode cX4_add 8 = .ok (.iload_n 1, 1) := by decide +kernel
theorem dX4_add_9 : decode cX4_add 9 = .ok (.iastore, 1) := by decide +kernel
theorem dX4_add_10 : decode cX4_add 10 = .ok (.aload_n 0, 1) := by decide +kernel
theorem dX4_add_11 : decode cX4_add 11 = .ok (.getfield 25, 3) := by decide +kernel
theorem dX4_add_14 : decode cX4_add 14 = .ok (.aload_n 0, 1) := by decide +kernel
theorem dX4_add_15 : decode cX4_add 15 = .ok (.getfield 94, 3) := by decide +kernel
theorem dX4_add_18 : decode cX4_add 18 = .ok (.iload_n 2, 1) := by decide +kernel
theorem dX4_add_19 : decode cX4_add 19 = .ok (.iastore, 1) := by decide +kernel
theorem dX4_add_20 : decode cX4_add 20 = .ok (.aload_n 0, 1) := by decide +kernel
theorem dX4_add_21 : decode cX4_add 21 = .ok (.getfield 28, 3) := by decide +kernel
theorem dX4_add_24 : decode cX4_add 24 = .ok (.aload_n 0, 1) := by decide +kernel
theorem dX4_add_25 : decode cX4_add 25 = .ok (.getfield 94, 3) := by decide +kernel
theorem dX4_add_28 : decode cX4_add 28 = .ok (.iload_n 3, 1) := by decide +kernel
theorem dX4_add_29 : decode cX4_add 29 = .ok (.iastore, 1) := by decide +kernel
theorem dX4_add_30 : decode cX4_add 30 = .ok (.aload_n 0, 1) := by decide +kernel
theorem dX4_add_31 : decode cX4_add 31 = .ok (.dup, 1) := by decide +kernel
theorem dX4_add_32 : decode cX4_add 32 = .ok (.getfield 94, 3) := by decide +kernel
theorem dX4_add_35 : decode cX4_add 35 = .ok (.iconst 1, 1) := by decide +kernel
theorem dX4_add_36 : decode cX4_add 36 = .ok (.iadd, 1) := by decide +kernel
theorem dX4_add_37 : decode cX4_add 37 = .ok (.putfield 94, 3) := by decide +kernel
theorem dX4_add_40 : decode cX4_add 40 = .ok (.aload_n 0, 1) := by decide +kernel
theorem dX4_add_41 : decode cX4_add 41 = .ok (.getfield 94, 3) := by decide +kernel
theorem dX4_add_44 : decode cX4_add 44 = .ok (.iconst 1, 1) := by decide +kernel
theorem dX4_add_45 : decode cX4_add 45 = .ok (.isub, 1) := by decide +kernel
theorem dX4_add_46 : decode cX4_add 46 = .ok (.ireturn, 1) := by decide +kernel
theorem dX4_mineInto_0 : decode cX4_mineInto 0 = .ok (.aload_n 1, 1) := by decide +kernel
theorem dX4_mineInto_1 : decode cX4_mineInto 1 = .ok (.invokestatic 97, 3) := by decide +kernel
theorem dX4_mineInto_4 : decode cX4_mineInto 4 = .ok (.istore_n 3, 1) := by decide +kernel
theorem dX4_mineInto_5 : decode cX4_mineInto 5 = .ok (.iload_n 3, 1) := by decide +kernel
theorem dX4_mineInto_6 : decode cX4_mineInto 6 = .ok (.ifCond .ne 12, 3) := by decide +kernel
theorem dX4_mineInto_9 : decode cX4_mineInto 9 = .ok (.aload_n 0, 1) := by decide +kernel
theorem dX4_mineInto_10 : decode cX4_mineInto 10 = .ok (.iconst 0, 1) := by decide +kernel
theorem dX4_mineInto_11 : decode cX4_mineInto 11 = .ok (.iload_n 2, 1) := by decide +kernel
theorem dX4_mineInto_12 : decode cX4_mineInto 12 = .ok (.iconst 0, 1) := by decide +kernel
theorem dX4_mineInto_13 : decode cX4_mineInto 13 = .ok (.invokevirtual 101, 3) := by decide +kernel
theorem dX4_mineInto_16 : decode cX4_mineInto 16 = .ok (.pop, 1) := by decide +kernel
theorem dX4_mineInto_17 : decode cX4_mineInto 17 = .ok (.return_, 1) := by decide +kernel
theorem dX4_mineInto_18 : decode cX4_mineInto 18 = .ok (.iconst 0, 1) := by decide +kernel
theorem dX4_mineInto_19 : decode cX4_mineInto 19 = .ok (.istore 4, 2) := by decide +kernel
theorem dX4_mineInto_21 : decode cX4_mineInto 21 = .ok (.iconst 1, 1) := by decide +kernel
theorem dX4_mineInto_22 : decode cX4_mineInto 22 = .ok (.istore 5, 2) := by decide +kernel
theorem dX4_mineInto_24 : decode cX4_mineInto 24 = .ok (.aload_n 1, 1) := by decide +kernel
theorem dX4_mineInto_25 : decode cX4_mineInto 25 = .ok (.astore 6, 2) := by decide +kernel
theorem dX4_mineInto_27 : decode cX4_mineInto 27 = .ok (.aload 6, 2) := by decide +kernel
theorem dX4_mineInto_29 : decode cX4_mineInto 29 = .ok (.arraylength, 1) := by decide +kernel
theorem dX4_mineInto_30 : decode cX4_mineInto 30 = .ok (.istore 7, 2) := by decide +kernel
theorem dX4_mineInto_32 : decode cX4_mineInto 32 = .ok (.iconst 0, 1) := by decide +kernel
theorem dX4_mineInto_33 : decode cX4_mineInto 33 = .ok (.istore 8, 2) := by decide +kernel
theorem dX4_mineInto_35 : decode cX4_mineInto 35 = .ok (.iload 8, 2) := by decide +kernel
theorem dX4_mineInto_37 : decode cX4_mineInto 37 = .ok (.iload 7, 2) := by decide +kernel
theorem dX4_mineInto_39 : decode cX4_mineInto 39 = .ok (.if_icmp .ge 53, 3) := by decide +kernel
theorem dX4_mineInto_42 : decode cX4_mineInto 42 = .ok (.aload 6, 2) := by decide +kernel
theorem dX4_mineInto_44 : decode cX4_mineInto 44 = .ok (.iload 8, 2) := by decide +kernel
theorem dX4_mineInto_46 : decode cX4_mineInto 46 = .ok (.aaload, 1) := by decide +kernel
theorem dX4_mineInto_47 : decode cX4_mineInto 47 = .ok (.astore 9, 2) := by decide +kernel
theorem dX4_mineInto_49 : decode cX4_mineInto 49 = .ok (.iload 4, 2) := by decide +kernel
theorem dX4_mineInto_51 : decode cX4_mineInto 51 = .ok (.ifCond .ne 9, 3) := by decide +kernel
theorem dX4_mineInto_54 : decode cX4_mineInto 54 = .ok (.aload 9, 2) := by decide +kernel
theorem dX4_mineInto_56 : decode cX4_mineInto 56 = .ok (.arraylength, 1) := by decide +kernel
theorem dX4_mineInto_57 : decode cX4_mineInto 57 = .ok (.ifCond .ne 7, 3) := by decide +kernel
theorem dX4_mineInto_60 : decode cX4_mineInto 60 = .ok (.iconst 1, 1) := by decide +kernel
theorem dX4_mineInto_61 : decode cX4_mineInto 61 = .ok (.goto 4, 3) := by decide +kernel
theorem dX4_mineInto_64 : decode cX4_mineInto 64 = .ok (.iconst 0, 1) := by decide +kernel
theorem dX4_mineInto_65 : decode cX4_mineInto 65 = .ok (.istore 4, 2) := by decide +kernel
theorem dX4_mineInto_67 : decode cX4_mineInto 67 = .ok (.iload 5, 2) := by decide +kernel
theorem dX4_mineInto_69 : decode cX4_mineInto 69 = .ok (.ifCond .eq 14, 3) := by decide +kernel
theorem dX4_mineInto_72 : decode cX4_mineInto 72 = .ok (.aload 9, 2) := by decide +kernel
theorem dX4_mineInto_74 : decode cX4_mineInto 74 = .ok (.arraylength, 1) := by decide +kernel
theorem dX4_mineInto_75 : decode cX4_mineInto 75 = .ok (.iconst 1, 1) := by decide +kernel
theorem dX4_mineInto_76 : decode cX4_mineInto 76 = .ok (.if_icmp .ne 7, 3) := by decide +kernel
theorem dX4_mineInto_79 : decode cX4_mineInto 79 = .ok (.iconst 1, 1) := by decide +kernel
theorem dX4_mineInto_80 : decode cX4_mineInto 80 = .ok (.goto 4, 3) := by decide +kernel
theorem dX4_mineInto_83 : decode cX4_mineInto 83 = .ok (.iconst 0, 1) := by decide +kernel
theorem dX4_mineInto_84 : decode cX4_mineInto 84 = .ok (.istore 5, 2) := by decide +kernel
theorem dX4_mineInto_86 : decode cX4_mineInto 86 = .ok (.iinc 8 1, 3) := by decide +kernel
theorem dX4_mineInto_89 : decode cX4_mineInto 89 = .ok (.goto (-54), 3) := by decide +kernel
theorem dX4_mineInto_92 : decode cX4_mineInto 92 = .ok (.iload 4, 2) := by decide +kernel
theorem dX4_mineInto_94 : decode cX4_mineInto 94 = .ok (.ifCond .eq 34, 3) := by decide +kernel
theorem dX4_mineInto_97 : decode cX4_mineInto 97 = .ok (.aload_n 0, 1) := by decide +kernel
theorem dX4_mineInto_98 : decode cX4_mineInto 98 = .ok (.iconst 2, 1) := by decide +kernel
theorem dX4_mineInto_99 : decode cX4_mineInto 99 = .ok (.iload_n 2, 1) := by decide +kernel
theorem dX4_mineInto_100 : decode cX4_mineInto 100 = .ok (.iload_n 3, 1) := by decide +kernel
theorem dX4_mineInto_101 : decode cX4_mineInto 101 = .ok (.invokevirtual 101, 3) := by decide +kernel
theorem dX4_mineInto_104 : decode cX4_mineInto 104 = .ok (.istore 6, 2) := by decide +kernel
theorem dX4_mineInto_106 : decode cX4_mineInto 106 = .ok (.aload_n 0, 1) := by decide +kernel
theorem dX4_mineInto_107 : decode cX4_mineInto 107 = .ok (.iconst 0, 1) := by decide +kernel
theorem dX4_mineInto_108 : decode cX4_mineInto 108 = .ok (.iload 6, 2) := by decide +kernel
theorem dX4_mineInto_110 : decode cX4_mineInto 110 = .ok (.iconst 0, 1) := by decide +kernel
theorem dX4_mineInto_111 : decode cX4_mineInto 111 = .ok (.invokevirtual 101, 3) := by decide +kernel
theorem dX4_mineInto_114 : decode cX4_mineInto 114 = .ok (.pop, 1) := by decide +kernel
theorem dX4_mineInto_115 : decode cX4_mineInto 115 = .ok (.aload_n 0, 1) := by decide +kernel
theorem dX4_mineInto_116 : decode cX4_mineInto 116 = .ok (.aload_n 1, 1) := by decide +kernel
theorem dX4_mineInto_117 : decode cX4_mineInto 117 = .ok (.iload_n 3, 1) := by decide +kernel
theorem dX4_mineInto_118 : decode cX4_mineInto 118 = .ok (.iconst 0, 1) := by decide +kernel
theorem dX4_mineInto_119 : decode cX4_mineInto 119 = .ok (.invokestatic 105, 3) := by decide +kernel
theorem dX4_mineInto_122 : decode cX4_mineInto 122 = .ok (.iload 6, 2) := by decide +kernel
theorem dX4_mineInto_124 : decode cX4_mineInto 124 = .ok (.invokevirtual 109, 3) := by decide +kernel
theorem dX4_mineInto_127 : decode cX4_mineInto 127 = .ok (.return_, 1) := by decide +kernel
theorem dX4_mineInto_128 : decode cX4_mineInto 128 = .ok (.iload_n 3, 1) := by decide +kernel
theorem dX4_mineInto_129 : decode cX4_mineInto 129 = .ok (.invokestatic 70, 3) := by decide +kernel
theorem dX4_mineInto_132 : decode cX4_mineInto 132 = .ok (.iconst 1, 1) := by decide +kernel
theorem dX4_mineInto_133 : decode cX4_mineInto 133 = .ok (.if_icmp .ne 45, 3) := by decide +kernel
theorem dX4_mineInto_136 : decode cX4_mineInto 136 = .ok (.iload 5, 2) := by decide +kernel
theorem dX4_mineInto_138 : decode cX4_mineInto 138 = .ok (.ifCond .eq 7, 3) := by decide +kernel
theorem dX4_mineInto_141 : decode cX4_mineInto 141 = .ok (.iload_n 2, 1) := by decide +kernel
theorem dX4_mineInto_142 : decode cX4_mineInto 142 = .ok (.goto 10, 3) := by decide +kernel
theorem dX4_mineInto_145 : decode cX4_mineInto 145 = .ok (.aload_n 0, 1) := by decide +kernel
theorem dX4_mineInto_146 : decode cX4_mineInto 146 = .ok (.iconst 5, 1) := by decide +kernel
theorem dX4_mineInto_147 : decode cX4_mineInto 147 = .ok (.iload_n 2, 1) := by decide +kernel
theorem dX4_mineInto_148 : decode cX4_mineInto 148 = .ok (.iload_n 3, 1) := by decide +kernel
theorem dX4_mineInto_149 : decode cX4_mineInto 149 = .ok (.invokevirtual 101, 3) := by decide +kernel
theorem dX4_mineInto_152 : decode cX4_mineInto 152 = .ok (.istore 6, 2) := by decide +kernel
theorem dX4_mineInto_154 : decode cX4_mineInto 154 = .ok (.aload_n 0, 1) := by decide +kernel
theorem dX4_mineInto_155 : decode cX4_mineInto 155 = .ok (.iconst 1, 1) := by decide +kernel
theorem dX4_mineInto_156 : decode cX4_mineInto 156 = .ok (.iload 6, 2) := by decide +kernel
theorem dX4_mineInto_158 : decode cX4_mineInto 158 = .ok (.iload_n 3, 1) := by decide +kernel
theorem dX4_mineInto_159 : decode cX4_mineInto 159 = .ok (.invokevirtual 101, 3) := by decide +kernel
theorem dX4_mineInto_162 : decode cX4_mineInto 162 = .ok (.pop, 1) := by decide +kernel
theorem dX4_mineInto_163 : decode cX4_mineInto 163 = .ok (.iload 5, 2) := by decide +kernel
theorem dX4_mineInto_165 : decode cX4_mineInto 165 = .ok (.ifCond .ne 12, 3) := by decide +kernel
theorem dX4_mineInto_168 : decode cX4_mineInto 168 = .ok (.aload_n 0, 1) := by decide +kernel
theorem dX4_mineInto_169 : decode cX4_mineInto 169 = .ok (.iconst 0, 1) := by decide +kernel
theorem dX4_mineInto_170 : decode cX4_mineInto 170 = .ok (.iload 6, 2) := by decide +kernel
theorem dX4_mineInto_172 : decode cX4_mineInto 172 = .ok (.iconst 0, 1) := by decide +kernel
theorem dX4_mineInto_173 : decode cX4_mineInto 173 = .ok (.invokevirtual 101, 3) := by decide +kernel
theorem dX4_mineInto_176 : decode cX4_mineInto 176 = .ok (.pop, 1) := by decide +kernel
theorem dX4_mineInto_177 : decode cX4_mineInto 177 = .ok (.return_, 1) := by decide +kernel
theorem dX4_mineInto_178 : decode cX4_mineInto 178 = .ok (.aload_n 1, 1) := by decide +kernel
theorem dX4_mineInto_179 : decode cX4_mineInto 179 = .ok (.invokestatic 113, 3) := by decide +kernel
theorem dX4_mineInto_182 : decode cX4_mineInto 182 = .ok (.astore 6, 2) := by decide +kernel
theorem dX4_mineInto_184 : decode cX4_mineInto 184 = .ok (.aload_n 0, 1) := by decide +kernel
theorem dX4_mineInto_185 : decode cX4_mineInto 185 = .ok (.aload_n 1, 1) := by decide +kernel
theorem dX4_mineInto_186 : decode cX4_mineInto 186 = .ok (.iload_n 3, 1) := by decide +kernel
theorem dX4_mineInto_187 : decode cX4_mineInto 187 = .ok (.aload 6, 2) := by decide +kernel
theorem dX4_mineInto_189 : decode cX4_mineInto 189 = .ok (.iload_n 2, 1) := by decide +kernel
theorem dX4_mineInto_190 : decode cX4_mineInto 190 = .ok (.invokevirtual 117, 3) := by decide +kernel
theorem dX4_mineInto_193 : decode cX4_mineInto 193 = .ok (.ifCond .ne 48, 3) := by decide +kernel
theorem dX4_mineInto_196 : decode cX4_mineInto 196 = .ok (.aload_n 0, 1) := by decide +kernel
theorem dX4_mineInto_197 : decode cX4_mineInto 197 = .ok (.aload_n 1, 1) := by decide +kernel
theorem dX4_mineInto_198 : decode cX4_mineInto 198 = .ok (.iload_n 3, 1) := by decide +kernel
theorem dX4_mineInto_199 : decode cX4_mineInto 199 = .ok (.aload 6, 2) := by decide +kernel
theorem dX4_mineInto_201 : decode cX4_mineInto 201 = .ok (.iload_n 2, 1) := by decide +kernel
theorem dX4_mineInto_202 : decode cX4_mineInto 202 = .ok (.invokevirtual 121, 3) := by decide +kernel
theorem dX4_mineInto_205 : decode cX4_mineInto 205 = .ok (.ifCond .ne 36, 3) := by decide +kernel
theorem dX4_mineInto_208 : decode cX4_mineInto 208 = .ok (.aload_n 0, 1) := by decide +kernel
theorem dX4_mineInto_209 : decode cX4_mineInto 209 = .ok (.aload_n 1, 1) := by decide +kernel
theorem dX4_mineInto_210 : decode cX4_mineInto 210 = .ok (.iload_n 3, 1) := by decide +kernel
theorem dX4_mineInto_211 : decode cX4_mineInto 211 = .ok (.aload 6, 2) := by decide +kernel
theorem dX4_mineInto_213 : decode cX4_mineInto 213 = .ok (.iload_n 2, 1) := by decide +kernel
theorem dX4_mineInto_214 : decode cX4_mineInto 214 = .ok (.invokevirtual 124, 3) := by decide +kernel
theorem dX4_mineInto_217 : decode cX4_mineInto 217 = .ok (.ifCond .ne 24, 3) := by decide +kernel
theorem dX4_mineInto_220 : decode cX4_mineInto 220 = .ok (.aload_n 0, 1) := by decide +kernel
theorem dX4_mineInto_221 : decode cX4_mineInto 221 = .ok (.aload_n 1, 1) := by decide +kernel
theorem dX4_mineInto_222 : decode cX4_mineInto 222 = .ok (.iload_n 3, 1) := by decide +kernel
theorem dX4_mineInto_223 : decode cX4_mineInto 223 = .ok (.aload 6, 2) := by decide +kernel
theorem dX4_mineInto_225 : decode cX4_mineInto 225 = .ok (.iload_n 2, 1) := by decide +kernel
theorem dX4_mineInto_226 : decode cX4_mineInto 226 = .ok (.invokevirtual 127, 3) := by decide +kernel
theorem dX4_mineInto_229 : decode cX4_mineInto 229 = .ok (.ifCond .ne 12, 3) := by decide +kernel
theorem dX4_mineInto_232 : decode cX4_mineInto 232 = .ok (.aload_n 0, 1) := by decide +kernel
theorem dX4_mineInto_233 : decode cX4_mineInto 233 = .ok (.bipush 6, 2) := by decide +kernel
theorem dX4_mineInto_235 : decode cX4_mineInto 235 = .ok (.iload_n 2, 1) := by decide +kernel
theorem dX4_mineInto_236 : decode cX4_mineInto 236 = .ok (.iload_n 3, 1) := by decide +kernel
theorem dX4_mineInto_237 : decode cX4_mineInto 237 = .ok (.invokevirtual 101, 3) := by decide +kernel
theorem dX4_mineInto_240 : decode cX4_mineInto 240 = .ok (.pop, 1) := by decide +kernel
theorem dX4_mineInto_241 : decode cX4_mineInto 241 = .ok (.return_, 1) := by decide +kernel
theorem dX4_mineChoice_0 : decode cX4_mineChoice 0 = .ok (.iload_n 2, 1) := by decide +kernel
theorem dX4_mineChoice_1 : decode cX4_mineChoice 1 = .ok (.aload_n 3, 1) := by decide +kernel
theorem dX4_mineChoice_2 : decode cX4_mineChoice 2 = .ok (.invokestatic 130, 3) := by decide +kernel
theorem dX4_mineChoice_5 : decode cX4_mineChoice 5 = .ok (.astore 5, 2) := by decide +kernel
theorem dX4_mineChoice_7 : decode cX4_mineChoice 7 = .ok (.aload 5, 2) := by decide +kernel
theorem dX4_mineChoice_9 : decode cX4_mineChoice 9 = .ok (.arraylength, 1) := by decide +kernel
theorem dX4_mineChoice_10 : decode cX4_mineChoice 10 = .ok (.iconst 2, 1) := by decide +kernel
theorem dX4_mineChoice_11 : decode cX4_mineChoice 11 = .ok (.if_icmp .ge 5, 3) := by decide +kernel
theorem dX4_mineChoice_14 : decode cX4_mineChoice 14 = .ok (.iconst 0, 1) := by decide +kernel
theorem dX4_mineChoice_15 : decode cX4_mineChoice 15 = .ok (.ireturn, 1) := by decide +kernel
theorem dX4_mineChoice_16 : decode cX4_mineChoice 16 = .ok (.aload_n 0, 1) := by decide +kernel
theorem dX4_mineChoice_17 : decode cX4_mineChoice 17 = .ok (.iconst 2, 1) := by decide +kernel
theorem dX4_mineChoice_18 : decode cX4_mineChoice 18 = .ok (.iload 4, 2) := by decide +kernel
theorem dX4_mineChoice_20 : decode cX4_mineChoice 20 = .ok (.iload_n 2, 1) := by decide +kernel
theorem dX4_mineChoice_21 : decode cX4_mineChoice 21 = .ok (.invokevirtual 101, 3) := by decide +kernel
theorem dX4_mineChoice_24 : decode cX4_mineChoice 24 = .ok (.istore 6, 2) := by decide +kernel
theorem dX4_mineChoice_26 : decode cX4_mineChoice 26 = .ok (.aload 5, 2) := by decide +kernel
theorem dX4_mineChoice_28 : decode cX4_mineChoice 28 = .ok (.astore 7, 2) := by decide +kernel
theorem dX4_mineChoice_30 : decode cX4_mineChoice 30 = .ok (.aload 7, 2) := by decide +kernel
theorem dX4_mineChoice_32 : decode cX4_mineChoice 32 = .ok (.arraylength, 1) := by decide +kernel
theorem dX4_mineChoice_33 : decode cX4_mineChoice 33 = .ok (.istore 8, 2) := by decide +kernel
theorem dX4_mineChoice_35 : decode cX4_mineChoice 35 = .ok (.iconst 0, 1) := by decide +kernel
theorem dX4_mineChoice_36 : decode cX4_mineChoice 36 = .ok (.istore 9, 2) := by decide +kernel
theorem dX4_mineChoice_38 : decode cX4_mineChoice 38 = .ok (.iload 9, 2) := by decide +kernel
theorem dX4_mineChoice_40 : decode cX4_mineChoice 40 = .ok (.iload 8, 2) := by decide +kernel
theorem dX4_mineChoice_42 : decode cX4_mineChoice 42 = .ok (.if_icmp .ge 29, 3) := by decide +kernel
theorem dX4_mineChoice_45 : decode cX4_mineChoice 45 = .ok (.aload 7, 2) := by decide +kernel
theorem dX4_mineChoice_47 : decode cX4_mineChoice 47 = .ok (.iload 9, 2) := by decide +kernel
theorem dX4_mineChoice_49 : decode cX4_mineChoice 49 = .ok (.iaload, 1) := by decide +kernel
theorem dX4_mineChoice_50 : decode cX4_mineChoice 50 = .ok (.istore 10, 2) := by decide +kernel
theorem dX4_mineChoice_52 : decode cX4_mineChoice 52 = .ok (.aload_n 0, 1) := by decide +kernel
theorem dX4_mineChoice_53 : decode cX4_mineChoice 53 = .ok (.aload_n 1, 1) := by decide +kernel
theorem dX4_mineChoice_54 : decode cX4_mineChoice 54 = .ok (.iload 10, 2) := by decide +kernel
theorem dX4_mineChoice_56 : decode cX4_mineChoice 56 = .ok (.iconst 0, 1) := by decide +kernel
theorem dX4_mineChoice_57 : decode cX4_mineChoice 57 = .ok (.invokestatic 105, 3) := by decide +kernel
theorem dX4_mineChoice_60 : decode cX4_mineChoice 60 = .ok (.iload 6, 2) := by decide +kernel
theorem dX4_mineChoice_62 : decode cX4_mineChoice 62 = .ok (.invokevirtual 109, 3) := by decide +kernel
theorem dX4_mineChoice_65 : decode cX4_mineChoice 65 = .ok (.iinc 9 1, 3) := by decide +kernel
theorem dX4_mineChoice_68 : decode cX4_mineChoice 68 = .ok (.goto (-30), 3) := by decide +kernel
theorem dX4_mineChoice_71 : decode cX4_mineChoice 71 = .ok (.iconst 1, 1) := by decide +kernel
theorem dX4_mineChoice_72 : decode cX4_mineChoice 72 = .ok (.ireturn, 1) := by decide +kernel
theorem dX4_mineOrder_0 : decode cX4_mineOrder 0 = .ok (.aload_n 3, 1) := by decide +kernel
theorem dX4_mineOrder_1 : decode cX4_mineOrder 1 = .ok (.invokevirtual 134, 3) := by decide +kernel
theorem dX4_mineOrder_4 : decode cX4_mineOrder 4 = .ok (.checkcast 84, 3) := by decide +kernel
theorem dX4_mineOrder_7 : decode cX4_mineOrder 7 = .ok (.astore 5, 2) := by decide +kernel
theorem dX4_mineOrder_9 : decode cX4_mineOrder 9 = .ok (.iconst 0, 1) := by decide +kernel
theorem dX4_mineOrder_10 : decode cX4_mineOrder 10 = .ok (.istore 6, 2) := by decide +kernel
theorem dX4_mineOrder_12 : decode cX4_mineOrder 12 = .ok (.iload 6, 2) := by decide +kernel
theorem dX4_mineOrder_14 : decode cX4_mineOrder 14 = .ok (.bipush 8, 2) := by decide +kernel
theorem dX4_mineOrder_16 : decode cX4_mineOrder 16 = .ok (.if_icmp .ge 51, 3) := by decide +kernel
theorem dX4_mineOrder_19 : decode cX4_mineOrder 19 = .ok (.iconst 0, 1) := by decide +kernel
theorem dX4_mineOrder_20 : decode cX4_mineOrder 20 = .ok (.istore 7, 2) := by decide +kernel
theorem dX4_mineOrder_22 : decode cX4_mineOrder 22 = .ok (.iload 7, 2) := by decide +kernel
theorem dX4_mineOrder_24 : decode cX4_mineOrder 24 = .ok (.bipush 8, 2) := by decide +kernel
theorem dX4_mineOrder_26 : decode cX4_mineOrder 26 = .ok (.if_icmp .ge 35, 3) := by decide +kernel
theorem dX4_mineOrder_29 : decode cX4_mineOrder 29 = .ok (.aload 5, 2) := by decide +kernel
theorem dX4_mineOrder_31 : decode cX4_mineOrder 31 = .ok (.iload 7, 2) := by decide +kernel
theorem dX4_mineOrder_33 : decode cX4_mineOrder 33 = .ok (.iaload, 1) := by decide +kernel
theorem dX4_mineOrder_34 : decode cX4_mineOrder 34 = .ok (.iload 6, 2) := by decide +kernel
theorem dX4_mineOrder_36 : decode cX4_mineOrder 36 = .ok (.invokestatic 66, 3) := by decide +kernel
theorem dX4_mineOrder_39 : decode cX4_mineOrder 39 = .ok (.ifCond .eq 16, 3) := by decide +kernel
theorem dX4_mineOrder_42 : decode cX4_mineOrder 42 = .ok (.aload 5, 2) := by decide +kernel
theorem dX4_mineOrder_44 : decode cX4_mineOrder 44 = .ok (.iload 7, 2) := by decide +kernel
theorem dX4_mineOrder_46 : decode cX4_mineOrder 46 = .ok (.dup2, 1) := by decide +kernel
theorem dX4_mineOrder_47 : decode cX4_mineOrder 47 = .ok (.iaload, 1) := by decide +kernel
theorem dX4_mineOrder_48 : decode cX4_mineOrder 48 = .ok (.aload 5, 2) := by decide +kernel
theorem dX4_mineOrder_50 : decode cX4_mineOrder 50 = .ok (.iload 6, 2) := by decide +kernel
theorem dX4_mineOrder_52 : decode cX4_mineOrder 52 = .ok (.iaload, 1) := by decide +kernel
theorem dX4_mineOrder_53 : decode cX4_mineOrder 53 = .ok (.ior, 1) := by decide +kernel
theorem dX4_mineOrder_54 : decode cX4_mineOrder 54 = .ok (.iastore, 1) := by decide +kernel
theorem dX4_mineOrder_55 : decode cX4_mineOrder 55 = .ok (.iinc 7 1, 3) := by decide +kernel
theorem dX4_mineOrder_58 : decode cX4_mineOrder 58 = .ok (.goto (-36), 3) := by decide +kernel
theorem dX4_mineOrder_61 : decode cX4_mineOrder 61 = .ok (.iinc 6 1, 3) := by decide +kernel
theorem dX4_mineOrder_64 : decode cX4_mineOrder 64 = .ok (.goto (-52), 3) := by decide +kernel
theorem dX4_mineOrder_67 : decode cX4_mineOrder 67 = .ok (.bipush 8, 2) := by decide +kernel
theorem dX4_mineOrder_69 : decode cX4_mineOrder 69 = .ok (.newarray .int, 2) := by decide +kernel
theorem dX4_mineOrder_71 : decode cX4_mineOrder 71 = .ok (.astore 6, 2) := by decide +kernel
theorem dX4_mineOrder_73 : decode cX4_mineOrder 73 = .ok (.iconst 0, 1) := by decide +kernel
theorem dX4_mineOrder_74 : decode cX4_mineOrder 74 = .ok (.istore 7, 2) := by decide +kernel
theorem dX4_mineOrder_76 : decode cX4_mineOrder 76 = .ok (.iload 7, 2) := by decide +kernel
theorem dX4_mineOrder_78 : decode cX4_mineOrder 78 = .ok (.bipush 8, 2) := by decide +kernel
theorem dX4_mineOrder_80 : decode cX4_mineOrder 80 = .ok (.if_icmp .ge 60, 3) := by decide +kernel
theorem dX4_mineOrder_83 : decode cX4_mineOrder 83 = .ok (.iconst 0, 1) := by decide +kernel
theorem dX4_mineOrder_84 : decode cX4_mineOrder 84 = .ok (.istore 8, 2) := by decide +kernel
theorem dX4_mineOrder_86 : decode cX4_mineOrder 86 = .ok (.iload 8, 2) := by decide +kernel
theorem dX4_mineOrder_88 : decode cX4_mineOrder 88 = .ok (.bipush 8, 2) := by decide +kernel
theorem dX4_mineOrder_90 : decode cX4_mineOrder 90 = .ok (.if_icmp .ge 44, 3) := by decide +kernel
theorem dX4_mineOrder_93 : decode cX4_mineOrder 93 = .ok (.aload 5, 2) := by decide +kernel
theorem dX4_mineOrder_95 : decode cX4_mineOrder 95 = .ok (.iload 7, 2) := by decide +kernel
theorem dX4_mineOrder_97 : decode cX4_mineOrder 97 = .ok (.iaload, 1) := by decide +kernel
theorem dX4_mineOrder_98 : decode cX4_mineOrder 98 = .ok (.iload 8, 2) := by decide +kernel
theorem dX4_mineOrder_100 : decode cX4_mineOrder 100 = .ok (.invokestatic 66, 3) := by decide +kernel
theorem dX4_mineOrder_103 : decode cX4_mineOrder 103 = .ok (.aload 5, 2) := by decide +kernel
theorem dX4_mineOrder_105 : decode cX4_mineOrder 105 = .ok (.iload 8, 2) := by decide +kernel
theorem dX4_mineOrder_107 : decode cX4_mineOrder 107 = .ok (.iaload, 1) := by decide +kernel
theorem dX4_mineOrder_108 : decode cX4_mineOrder 108 = .ok (.iload 7, 2) := by decide +kernel
theorem dX4_mineOrder_110 : decode cX4_mineOrder 110 = .ok (.invokestatic 66, 3) := by decide +kernel
theorem dX4_mineOrder_113 : decode cX4_mineOrder 113 = .ok (.if_icmp .ne 15, 3) := by decide +kernel
theorem dX4_mineOrder_116 : decode cX4_mineOrder 116 = .ok (.aload 6, 2) := by decide +kernel
theorem dX4_mineOrder_118 : decode cX4_mineOrder 118 = .ok (.iload 7, 2) := by decide +kernel
theorem dX4_mineOrder_120 : decode cX4_mineOrder 120 = .ok (.dup2, 1) := by decide +kernel
theorem dX4_mineOrder_121 : decode cX4_mineOrder 121 = .ok (.iaload, 1) := by decide +kernel
theorem dX4_mineOrder_122 : decode cX4_mineOrder 122 = .ok (.iconst 1, 1) := by decide +kernel
theorem dX4_mineOrder_123 : decode cX4_mineOrder 123 = .ok (.iload 8, 2) := by decide +kernel
theorem dX4_mineOrder_125 : decode cX4_mineOrder 125 = .ok (.ishl, 1) := by decide +kernel
theorem dX4_mineOrder_126 : decode cX4_mineOrder 126 = .ok (.ior, 1) := by decide +kernel
theorem dX4_mineOrder_127 : decode cX4_mineOrder 127 = .ok (.iastore, 1) := by decide +kernel
theorem dX4_mineOrder_128 : decode cX4_mineOrder 128 = .ok (.iinc 8 1, 3) := by decide +kernel
theorem dX4_mineOrder_131 : decode cX4_mineOrder 131 = .ok (.goto (-45), 3) := by decide +kernel
theorem dX4_mineOrder_134 : decode cX4_mineOrder 134 = .ok (.iinc 7 1, 3) := by decide +kernel
theorem dX4_mineOrder_137 : decode cX4_mineOrder 137 = .ok (.goto (-61), 3) := by decide +kernel
theorem dX4_mineOrder_140 : decode cX4_mineOrder 140 = .ok (.iload_n 2, 1) := by decide +kernel
theorem dX4_mineOrder_141 : decode cX4_mineOrder 141 = .ok (.aload 6, 2) := by decide +kernel
theorem dX4_mineOrder_143 : decode cX4_mineOrder 143 = .ok (.invokestatic 130, 3) := by decide +kernel
theorem dX4_mineOrder_146 : decode cX4_mineOrder 146 = .ok (.astore 7, 2) := by decide +kernel
theorem dX4_mineOrder_148 : decode cX4_mineOrder 148 = .ok (.aload 7, 2) := by decide +kernel
theorem dX4_mineOrder_150 : decode cX4_mineOrder 150 = .ok (.arraylength, 1) := by decide +kernel
theorem dX4_mineOrder_151 : decode cX4_mineOrder 151 = .ok (.iconst 2, 1) := by decide +kernel
theorem dX4_mineOrder_152 : decode cX4_mineOrder 152 = .ok (.if_icmp .ge 5, 3) := by decide +kernel
theorem dX4_mineOrder_155 : decode cX4_mineOrder 155 = .ok (.iconst 0, 1) := by decide +kernel
theorem dX4_mineOrder_156 : decode cX4_mineOrder 156 = .ok (.ireturn, 1) := by decide +kernel
theorem dX4_mineOrder_157 : decode cX4_mineOrder 157 = .ok (.aload_n 0, 1) := by decide +kernel
theorem dX4_mineOrder_158 : decode cX4_mineOrder 158 = .ok (.iconst 3, 1) := by decide +kernel
theorem dX4_mineOrder_159 : decode cX4_mineOrder 159 = .ok (.iload 4, 2) := by decide +kernel
theorem dX4_mineOrder_161 : decode cX4_mineOrder 161 = .ok (.iload_n 2, 1) := by decide +kernel
theorem dX4_mineOrder_162 : decode cX4_mineOrder 162 = .ok (.invokevirtual 101, 3) := by decide +kernel
theorem dX4_mineOrder_165 : decode cX4_mineOrder 165 = .ok (.istore 8, 2) := by decide +kernel
theorem dX4_mineOrder_167 : decode cX4_mineOrder 167 = .ok (.iconst 0, 1) := by decide +kernel
theorem dX4_mineOrder_168 : decode cX4_mineOrder 168 = .ok (.istore 9, 2) := by decide +kernel
theorem dX4_mineOrder_170 : decode cX4_mineOrder 170 = .ok (.iload 9, 2) := by decide +kernel
theorem dX4_mineOrder_172 : decode cX4_mineOrder 172 = .ok (.aload 7, 2) := by decide +kernel
theorem dX4_mineOrder_174 : decode cX4_mineOrder 174 = .ok (.arraylength, 1) := by decide +kernel
theorem dX4_mineOrder_175 : decode cX4_mineOrder 175 = .ok (.if_icmp .ge 132, 3) := by decide +kernel
theorem dX4_mineOrder_178 : decode cX4_mineOrder 178 = .ok (.aload 7, 2) := by decide +kernel
theorem dX4_mineOrder_180 : decode cX4_mineOrder 180 = .ok (.astore 10, 2) := by decide +kernel
theorem dX4_mineOrder_182 : decode cX4_mineOrder 182 = .ok (.aload 10, 2) := by decide +kernel
theorem dX4_mineOrder_184 : decode cX4_mineOrder 184 = .ok (.arraylength, 1) := by decide +kernel
theorem dX4_mineOrder_185 : decode cX4_mineOrder 185 = .ok (.istore 11, 2) := by decide +kernel
theorem dX4_mineOrder_187 : decode cX4_mineOrder 187 = .ok (.iconst 0, 1) := by decide +kernel
theorem dX4_mineOrder_188 : decode cX4_mineOrder 188 = .ok (.istore 12, 2) := by decide +kernel
theorem dX4_mineOrder_190 : decode cX4_mineOrder 190 = .ok (.iload 12, 2) := by decide +kernel
theorem dX4_mineOrder_192 : decode cX4_mineOrder 192 = .ok (.iload 11, 2) := by decide +kernel
theorem dX4_mineOrder_194 : decode cX4_mineOrder 194 = .ok (.if_icmp .ge 107, 3) := by decide +kernel
theorem dX4_mineOrder_197 : decode cX4_mineOrder 197 = .ok (.aload 10, 2) := by decide +kernel
theorem dX4_mineOrder_199 : decode cX4_mineOrder 199 = .ok (.iload 12, 2) := by decide +kernel
theorem dX4_mineOrder_201 : decode cX4_mineOrder 201 = .ok (.iaload, 1) := by decide +kernel
theorem dX4_mineOrder_202 : decode cX4_mineOrder 202 = .ok (.istore 13, 2) := by decide +kernel
theorem dX4_mineOrder_204 : decode cX4_mineOrder 204 = .ok (.iconst 0, 1) := by decide +kernel
theorem dX4_mineOrder_205 : decode cX4_mineOrder 205 = .ok (.istore 14, 2) := by decide +kernel
theorem dX4_mineOrder_207 : decode cX4_mineOrder 207 = .ok (.aload 7, 2) := by decide +kernel
theorem dX4_mineOrder_209 : decode cX4_mineOrder 209 = .ok (.astore 15, 2) := by decide +kernel
theorem dX4_mineOrder_211 : decode cX4_mineOrder 211 = .ok (.aload 15, 2) := by decide +kernel
theorem dX4_mineOrder_213 : decode cX4_mineOrder 213 = .ok (.arraylength, 1) := by decide +kernel
theorem dX4_mineOrder_214 : decode cX4_mineOrder 214 = .ok (.istore 16, 2) := by decide +kernel
theorem dX4_mineOrder_216 : decode cX4_mineOrder 216 = .ok (.iconst 0, 1) := by decide +kernel
theorem dX4_mineOrder_217 : decode cX4_mineOrder 217 = .ok (.istore 17, 2) := by decide +kernel
theorem dX4_mineOrder_219 : decode cX4_mineOrder 219 = .ok (.iload 17, 2) := by decide +kernel
theorem dX4_mineOrder_221 : decode cX4_mineOrder 221 = .ok (.iload 16, 2) := by decide +kernel
theorem dX4_mineOrder_223 : decode cX4_mineOrder 223 = .ok (.if_icmp .ge 52, 3) := by decide +kernel
theorem dX4_mineOrder_226 : decode cX4_mineOrder 226 = .ok (.aload 15, 2) := by decide +kernel
theorem dX4_mineOrder_228 : decode cX4_mineOrder 228 = .ok (.iload 17, 2) := by decide +kernel
theorem dX4_mineOrder_230 : decode cX4_mineOrder 230 = .ok (.iaload, 1) := by decide +kernel
theorem dX4_mineOrder_231 : decode cX4_mineOrder 231 = .ok (.istore 18, 2) := by decide +kernel
theorem dX4_mineOrder_233 : decode cX4_mineOrder 233 = .ok (.iload 14, 2) := by decide +kernel
theorem dX4_mineOrder_235 : decode cX4_mineOrder 235 = .ok (.iload 18, 2) := by decide +kernel
theorem dX4_mineOrder_237 : decode cX4_mineOrder 237 = .ok (.iload 13, 2) := by decide +kernel
theorem dX4_mineOrder_239 : decode cX4_mineOrder 239 = .ok (.if_icmp .eq 26, 3) := by decide +kernel
theorem dX4_mineOrder_242 : decode cX4_mineOrder 242 = .ok (.aload 5, 2) := by decide +kernel
theorem dX4_mineOrder_244 : decode cX4_mineOrder 244 = .ok (.iload 18, 2) := by decide +kernel
theorem dX4_mineOrder_246 : decode cX4_mineOrder 246 = .ok (.invokestatic 138, 3) := by decide +kernel
theorem dX4_mineOrder_249 : decode cX4_mineOrder 249 = .ok (.iaload, 1) := by decide +kernel
theorem dX4_mineOrder_250 : decode cX4_mineOrder 250 = .ok (.iload 13, 2) := by decide +kernel
theorem dX4_mineOrder_252 : decode cX4_mineOrder 252 = .ok (.invokestatic 138, 3) := by decide +kernel
theorem dX4_mineOrder_255 : decode cX4_mineOrder 255 = .ok (.invokestatic 66, 3) := by decide +kernel
theorem dX4_mineOrder_258 : decode cX4_mineOrder 258 = .ok (.ifCond .eq 7, 3) := by decide +kernel
theorem dX4_mineOrder_261 : decode cX4_mineOrder 261 = .ok (.iconst 1, 1) := by decide +kernel
theorem dX4_mineOrder_262 : decode cX4_mineOrder 262 = .ok (.goto 4, 3) := by decide +kernel
theorem dX4_mineOrder_265 : decode cX4_mineOrder 265 = .ok (.iconst 0, 1) := by decide +kernel
theorem dX4_mineOrder_266 : decode cX4_mineOrder 266 = .ok (.iadd, 1) := by decide +kernel
theorem dX4_mineOrder_267 : decode cX4_mineOrder 267 = .ok (.istore 14, 2) := by decide +kernel
theorem dX4_mineOrder_269 : decode cX4_mineOrder 269 = .ok (.iinc 17 1, 3) := by decide +kernel
theorem dX4_mineOrder_272 : decode cX4_mineOrder 272 = .ok (.goto (-53), 3) := by decide +kernel
theorem dX4_mineOrder_275 : decode cX4_mineOrder 275 = .ok (.iload 14, 2) := by decide +kernel
theorem dX4_mineOrder_277 : decode cX4_mineOrder 277 = .ok (.iload 9, 2) := by decide +kernel
theorem dX4_mineOrder_279 : decode cX4_mineOrder 279 = .ok (.if_icmp .ne 16, 3) := by decide +kernel
theorem dX4_mineOrder_282 : decode cX4_mineOrder 282 = .ok (.aload_n 0, 1) := by decide +kernel
theorem dX4_mineOrder_283 : decode cX4_mineOrder 283 = .ok (.aload_n 1, 1) := by decide +kernel
theorem dX4_mineOrder_284 : decode cX4_mineOrder 284 = .ok (.iload 13, 2) := by decide +kernel
theorem dX4_mineOrder_286 : decode cX4_mineOrder 286 = .ok (.iconst 1, 1) := by decide +kernel
theorem dX4_mineOrder_287 : decode cX4_mineOrder 287 = .ok (.invokestatic 105, 3) := by decide +kernel
theorem dX4_mineOrder_290 : decode cX4_mineOrder 290 = .ok (.iload 8, 2) := by decide +kernel
theorem dX4_mineOrder_292 : decode cX4_mineOrder 292 = .ok (.invokevirtual 109, 3) := by decide +kernel
theorem dX4_mineOrder_295 : decode cX4_mineOrder 295 = .ok (.iinc 12 1, 3) := by decide +kernel
theorem dX4_mineOrder_298 : decode cX4_mineOrder 298 = .ok (.goto (-108), 3) := by decide +kernel
theorem dX4_mineOrder_301 : decode cX4_mineOrder 301 = .ok (.iinc 9 1, 3) := by decide +kernel
theorem dX4_mineOrder_304 : decode cX4_mineOrder 304 = .ok (.goto (-134), 3) := by decide +kernel
theorem dX4_mineOrder_307 : decode cX4_mineOrder 307 = .ok (.iconst 1, 1) := by decide +kernel
theorem dX4_mineOrder_308 : decode cX4_mineOrder 308 = .ok (.ireturn, 1) := by decide +kernel
theorem dX4_mineBoth_0 : decode cX4_mineBoth 0 = .ok (.bipush 8, 2) := by decide +kernel
theorem dX4_mineBoth_2 : decode cX4_mineBoth 2 = .ok (.newarray .int, 2) := by decide +kernel
theorem dX4_mineBoth_4 : decode cX4_mineBoth 4 = .ok (.astore 5, 2) := by decide +kernel
theorem dX4_mineBoth_6 : decode cX4_mineBoth 6 = .ok (.iconst 0, 1) := by decide +kernel
theorem dX4_mineBoth_7 : decode cX4_mineBoth 7 = .ok (.istore 6, 2) := by decide +kernel
theorem dX4_mineBoth_9 : decode cX4_mineBoth 9 = .ok (.iload 6, 2) := by decide +kernel
theorem dX4_mineBoth_11 : decode cX4_mineBoth 11 = .ok (.bipush 8, 2) := by decide +kernel
theorem dX4_mineBoth_13 : decode cX4_mineBoth 13 = .ok (.if_icmp .ge 61, 3) := by decide +kernel
theorem dX4_mineBoth_16 : decode cX4_mineBoth 16 = .ok (.iconst 0, 1) := by decide +kernel
theorem dX4_mineBoth_17 : decode cX4_mineBoth 17 = .ok (.istore 7, 2) := by decide +kernel
theorem dX4_mineBoth_19 : decode cX4_mineBoth 19 = .ok (.iload 7, 2) := by decide +kernel
theorem dX4_mineBoth_21 : decode cX4_mineBoth 21 = .ok (.bipush 8, 2) := by decide +kernel
theorem dX4_mineBoth_23 : decode cX4_mineBoth 23 = .ok (.if_icmp .ge 45, 3) := by decide +kernel
theorem dX4_mineBoth_26 : decode cX4_mineBoth 26 = .ok (.aload_n 3, 1) := by decide +kernel
theorem dX4_mineBoth_27 : decode cX4_mineBoth 27 = .ok (.iload 6, 2) := by decide +kernel
theorem dX4_mineBoth_29 : decode cX4_mineBoth 29 = .ok (.iaload, 1) := by decide +kernel
theorem dX4_mineBoth_30 : decode cX4_mineBoth 30 = .ok (.iload 7, 2) := by decide +kernel
theorem dX4_mineBoth_32 : decode cX4_mineBoth 32 = .ok (.invokestatic 66, 3) := by decide +kernel
theorem dX4_mineBoth_35 : decode cX4_mineBoth 35 = .ok (.ifCond .eq 15, 3) := by decide +kernel
theorem dX4_mineBoth_38 : decode cX4_mineBoth 38 = .ok (.aload_n 3, 1) := by decide +kernel
theorem dX4_mineBoth_39 : decode cX4_mineBoth 39 = .ok (.iload 7, 2) := by decide +kernel
theorem dX4_mineBoth_41 : decode cX4_mineBoth 41 = .ok (.iaload, 1) := by decide +kernel
theorem dX4_mineBoth_42 : decode cX4_mineBoth 42 = .ok (.iload 6, 2) := by decide +kernel
theorem dX4_mineBoth_44 : decode cX4_mineBoth 44 = .ok (.invokestatic 66, 3) := by decide +kernel
theorem dX4_mineBoth_47 : decode cX4_mineBoth 47 = .ok (.ifCond .ne 15, 3) := by decide +kernel
theorem dX4_mineBoth_50 : decode cX4_mineBoth 50 = .ok (.aload 5, 2) := by decide +kernel
theorem dX4_mineBoth_52 : decode cX4_mineBoth 52 = .ok (.iload 6, 2) := by decide +kernel
theorem dX4_mineBoth_54 : decode cX4_mineBoth 54 = .ok (.dup2, 1) := by decide +kernel
theorem dX4_mineBoth_55 : decode cX4_mineBoth 55 = .ok (.iaload, 1) := by decide +kernel
theorem dX4_mineBoth_56 : decode cX4_mineBoth 56 = .ok (.iconst 1, 1) := by decide +kernel
theorem dX4_mineBoth_57 : decode cX4_mineBoth 57 = .ok (.iload 7, 2) := by decide +kernel
theorem dX4_mineBoth_59 : decode cX4_mineBoth 59 = .ok (.ishl, 1) := by decide +kernel
theorem dX4_mineBoth_60 : decode cX4_mineBoth 60 = .ok (.ior, 1) := by decide +kernel
theorem dX4_mineBoth_61 : decode cX4_mineBoth 61 = .ok (.iastore, 1) := by decide +kernel
theorem dX4_mineBoth_62 : decode cX4_mineBoth 62 = .ok (.iinc 7 1, 3) := by decide +kernel
theorem dX4_mineBoth_65 : decode cX4_mineBoth 65 = .ok (.goto (-46), 3) := by decide +kernel
theorem dX4_mineBoth_68 : decode cX4_mineBoth 68 = .ok (.iinc 6 1, 3) := by decide +kernel
theorem dX4_mineBoth_71 : decode cX4_mineBoth 71 = .ok (.goto (-62), 3) := by decide +kernel
theorem dX4_mineBoth_74 : decode cX4_mineBoth 74 = .ok (.iload_n 2, 1) := by decide +kernel
theorem dX4_mineBoth_75 : decode cX4_mineBoth 75 = .ok (.aload 5, 2) := by decide +kernel
theorem dX4_mineBoth_77 : decode cX4_mineBoth 77 = .ok (.invokestatic 130, 3) := by decide +kernel
theorem dX4_mineBoth_80 : decode cX4_mineBoth 80 = .ok (.astore 6, 2) := by decide +kernel
theorem dX4_mineBoth_82 : decode cX4_mineBoth 82 = .ok (.aload_n 1, 1) := by decide +kernel
theorem dX4_mineBoth_83 : decode cX4_mineBoth 83 = .ok (.iconst 0, 1) := by decide +kernel
theorem dX4_mineBoth_84 : decode cX4_mineBoth 84 = .ok (.invokestatic 141, 3) := by decide +kernel
theorem dX4_mineBoth_87 : decode cX4_mineBoth 87 = .ok (.istore 7, 2) := by decide +kernel
theorem dX4_mineBoth_89 : decode cX4_mineBoth 89 = .ok (.aload_n 1, 1) := by decide +kernel
theorem dX4_mineBoth_90 : decode cX4_mineBoth 90 = .ok (.iconst 1, 1) := by decide +kernel
theorem dX4_mineBoth_91 : decode cX4_mineBoth 91 = .ok (.invokestatic 141, 3) := by decide +kernel
theorem dX4_mineBoth_94 : decode cX4_mineBoth 94 = .ok (.istore 8, 2) := by decide +kernel
theorem dX4_mineBoth_96 : decode cX4_mineBoth 96 = .ok (.aload 6, 2) := by decide +kernel
theorem dX4_mineBoth_98 : decode cX4_mineBoth 98 = .ok (.arraylength, 1) := by decide +kernel
theorem dX4_mineBoth_99 : decode cX4_mineBoth 99 = .ok (.istore 9, 2) := by decide +kernel
theorem dX4_mineBoth_101 : decode cX4_mineBoth 101 = .ok (.iconst 0, 1) := by decide +kernel
theorem dX4_mineBoth_102 : decode cX4_mineBoth 102 = .ok (.istore 10, 2) := by decide +kernel
theorem dX4_mineBoth_104 : decode cX4_mineBoth 104 = .ok (.iload 9, 2) := by decide +kernel
theorem dX4_mineBoth_106 : decode cX4_mineBoth 106 = .ok (.iconst 1, 1) := by decide +kernel
theorem dX4_mineBoth_107 : decode cX4_mineBoth 107 = .ok (.if_icmp .le 140, 3) := by decide +kernel
theorem dX4_mineBoth_110 : decode cX4_mineBoth 110 = .ok (.iload 10, 2) := by decide +kernel
theorem dX4_mineBoth_112 : decode cX4_mineBoth 112 = .ok (.iload 9, 2) := by decide +kernel
theorem dX4_mineBoth_114 : decode cX4_mineBoth 114 = .ok (.if_icmp .ge 133, 3) := by decide +kernel
theorem dX4_mineBoth_117 : decode cX4_mineBoth 117 = .ok (.iconst 0, 1) := by decide +kernel
theorem dX4_mineBoth_118 : decode cX4_mineBoth 118 = .ok (.istore 10, 2) := by decide +kernel
theorem dX4_mineBoth_120 : decode cX4_mineBoth 120 = .ok (.iload 10, 2) := by decide +kernel
theorem dX4_mineBoth_122 : decode cX4_mineBoth 122 = .ok (.iload 9, 2) := by decide +kernel
theorem dX4_mineBoth_124 : decode cX4_mineBoth 124 = .ok (.if_icmp .ge 31, 3) := by decide +kernel
theorem dX4_mineBoth_127 : decode cX4_mineBoth 127 = .ok (.aload 6, 2) := by decide +kernel
theorem dX4_mineBoth_129 : decode cX4_mineBoth 129 = .ok (.iload 10, 2) := by decide +kernel
theorem dX4_mineBoth_131 : decode cX4_mineBoth 131 = .ok (.iaload, 1) := by decide +kernel
theorem dX4_mineBoth_132 : decode cX4_mineBoth 132 = .ok (.iload 7, 2) := by decide +kernel
theorem dX4_mineBoth_134 : decode cX4_mineBoth 134 = .ok (.iand, 1) := by decide +kernel
theorem dX4_mineBoth_135 : decode cX4_mineBoth 135 = .ok (.ifCond .eq 20, 3) := by decide +kernel
theorem dX4_mineBoth_138 : decode cX4_mineBoth 138 = .ok (.aload 6, 2) := by decide +kernel
theorem dX4_mineBoth_140 : decode cX4_mineBoth 140 = .ok (.iload 10, 2) := by decide +kernel
theorem dX4_mineBoth_142 : decode cX4_mineBoth 142 = .ok (.iaload, 1) := by decide +kernel
theorem dX4_mineBoth_143 : decode cX4_mineBoth 143 = .ok (.iload 8, 2) := by decide +kernel
theorem dX4_mineBoth_145 : decode cX4_mineBoth 145 = .ok (.iand, 1) := by decide +kernel
theorem dX4_mineBoth_146 : decode cX4_mineBoth 146 = .ok (.ifCond .eq 9, 3) := by decide +kernel
theorem dX4_mineBoth_149 : decode cX4_mineBoth 149 = .ok (.iinc 10 1, 3) := by decide +kernel
theorem dX4_mineBoth_152 : decode cX4_mineBoth 152 = .ok (.goto (-32), 3) := by decide +kernel
theorem dX4_mineBoth_155 : decode cX4_mineBoth 155 = .ok (.iload 10, 2) := by decide +kernel
theorem dX4_mineBoth_157 : decode cX4_mineBoth 157 = .ok (.iload 9, 2) := by decide +kernel
theorem dX4_mineBoth_159 : decode cX4_mineBoth 159 = .ok (.if_icmp .ne 6, 3) := by decide +kernel
theorem dX4_mineBoth_162 : decode cX4_mineBoth 162 = .ok (.goto (-58), 3) := by decide +kernel
theorem dX4_mineBoth_165 : decode cX4_mineBoth 165 = .ok (.iload 10, 2) := by decide +kernel
theorem dX4_mineBoth_167 : decode cX4_mineBoth 167 = .ok (.ifCond .ne 7, 3) := by decide +kernel
theorem dX4_mineBoth_170 : decode cX4_mineBoth 170 = .ok (.iconst 1, 1) := by decide +kernel
theorem dX4_mineBoth_171 : decode cX4_mineBoth 171 = .ok (.goto 4, 3) := by decide +kernel
theorem dX4_mineBoth_174 : decode cX4_mineBoth 174 = .ok (.iconst 0, 1) := by decide +kernel
theorem dX4_mineBoth_175 : decode cX4_mineBoth 175 = .ok (.istore 11, 2) := by decide +kernel
theorem dX4_mineBoth_177 : decode cX4_mineBoth 177 = .ok (.aload 6, 2) := by decide +kernel
theorem dX4_mineBoth_179 : decode cX4_mineBoth 179 = .ok (.iload 10, 2) := by decide +kernel
theorem dX4_mineBoth_181 : decode cX4_mineBoth 181 = .ok (.iaload, 1) := by decide +kernel
theorem dX4_mineBoth_182 : decode cX4_mineBoth 182 = .ok (.aload 6, 2) := by decide +kernel
theorem dX4_mineBoth_184 : decode cX4_mineBoth 184 = .ok (.iload 11, 2) := by decide +kernel
theorem dX4_mineBoth_186 : decode cX4_mineBoth 186 = .ok (.iaload, 1) := by decide +kernel
theorem dX4_mineBoth_187 : decode cX4_mineBoth 187 = .ok (.ior, 1) := by decide +kernel
theorem dX4_mineBoth_188 : decode cX4_mineBoth 188 = .ok (.istore 12, 2) := by decide +kernel
theorem dX4_mineBoth_190 : decode cX4_mineBoth 190 = .ok (.aload 6, 2) := by decide +kernel
theorem dX4_mineBoth_192 : decode cX4_mineBoth 192 = .ok (.iload 10, 2) := by decide +kernel
theorem dX4_mineBoth_194 : decode cX4_mineBoth 194 = .ok (.iload 11, 2) := by decide +kernel
theorem dX4_mineBoth_196 : decode cX4_mineBoth 196 = .ok (.invokestatic 145, 3) := by decide +kernel
theorem dX4_mineBoth_199 : decode cX4_mineBoth 199 = .ok (.iload 12, 2) := by decide +kernel
theorem dX4_mineBoth_201 : decode cX4_mineBoth 201 = .ok (.iastore, 1) := by decide +kernel
theorem dX4_mineBoth_202 : decode cX4_mineBoth 202 = .ok (.iload 10, 2) := by decide +kernel
theorem dX4_mineBoth_204 : decode cX4_mineBoth 204 = .ok (.iload 11, 2) := by decide +kernel
theorem dX4_mineBoth_206 : decode cX4_mineBoth 206 = .ok (.invokestatic 89, 3) := by decide +kernel
theorem dX4_mineBoth_209 : decode cX4_mineBoth 209 = .ok (.iconst 1, 1) := by decide +kernel
theorem dX4_mineBoth_210 : decode cX4_mineBoth 210 = .ok (.iadd, 1) := by decide +kernel
theorem dX4_mineBoth_211 : decode cX4_mineBoth 211 = .ok (.istore 13, 2) := by decide +kernel
theorem dX4_mineBoth_213 : decode cX4_mineBoth 213 = .ok (.iload 13, 2) := by decide +kernel
theorem dX4_mineBoth_215 : decode cX4_mineBoth 215 = .ok (.iload 9, 2) := by decide +kernel
theorem dX4_mineBoth_217 : decode cX4_mineBoth 217 = .ok (.if_icmp .ge 21, 3) := by decide +kernel
theorem dX4_mineBoth_220 : decode cX4_mineBoth 220 = .ok (.aload 6, 2) := by decide +kernel
theorem dX4_mineBoth_222 : decode cX4_mineBoth 222 = .ok (.iload 13, 2) := by decide +kernel
theorem dX4_mineBoth_224 : decode cX4_mineBoth 224 = .ok (.iconst 1, 1) := by decide +kernel
theorem dX4_mineBoth_225 : decode cX4_mineBoth 225 = .ok (.isub, 1) := by decide +kernel
theorem dX4_mineBoth_226 : decode cX4_mineBoth 226 = .ok (.aload 6, 2) := by decide +kernel
theorem dX4_mineBoth_228 : decode cX4_mineBoth 228 = .ok (.iload 13, 2) := by decide +kernel
theorem dX4_mineBoth_230 : decode cX4_mineBoth 230 = .ok (.iaload, 1) := by decide +kernel
theorem dX4_mineBoth_231 : decode cX4_mineBoth 231 = .ok (.iastore, 1) := by decide +kernel
theorem dX4_mineBoth_232 : decode cX4_mineBoth 232 = .ok (.iinc 13 1, 3) := by decide +kernel
theorem dX4_mineBoth_235 : decode cX4_mineBoth 235 = .ok (.goto (-22), 3) := by decide +kernel
theorem dX4_mineBoth_238 : decode cX4_mineBoth 238 = .ok (.iinc 9 (-1), 3) := by decide +kernel
theorem dX4_mineBoth_241 : decode cX4_mineBoth 241 = .ok (.iconst 0, 1) := by decide +kernel
theorem dX4_mineBoth_242 : decode cX4_mineBoth 242 = .ok (.istore 10, 2) := by decide +kernel
theorem dX4_mineBoth_244 : decode cX4_mineBoth 244 = .ok (.goto (-140), 3) := by decide +kernel
theorem dX4_mineBoth_247 : decode cX4_mineBoth 247 = .ok (.iload 9, 2) := by decide +kernel
theorem dX4_mineBoth_249 : decode cX4_mineBoth 249 = .ok (.iconst 2, 1) := by decide +kernel
theorem dX4_mineBoth_250 : decode cX4_mineBoth 250 = .ok (.if_icmp .ge 5, 3) := by decide +kernel
theorem dX4_mineBoth_253 : decode cX4_mineBoth 253 = .ok (.iconst 0, 1) := by decide +kernel
theorem dX4_mineBoth_254 : decode cX4_mineBoth 254 = .ok (.ireturn, 1) := by decide +kernel
theorem dX4_mineBoth_255 : decode cX4_mineBoth 255 = .ok (.aload_n 0, 1) := by decide +kernel
theorem dX4_mineBoth_256 : decode cX4_mineBoth 256 = .ok (.iconst 4, 1) := by decide +kernel
theorem dX4_mineBoth_257 : decode cX4_mineBoth 257 = .ok (.iload 4, 2) := by decide +kernel
theorem dX4_mineBoth_259 : decode cX4_mineBoth 259 = .ok (.iload_n 2, 1) := by decide +kernel
theorem dX4_mineBoth_260 : decode cX4_mineBoth 260 = .ok (.invokevirtual 101, 3) := by decide +kernel
theorem dX4_mineBoth_263 : decode cX4_mineBoth 263 = .ok (.istore 11, 2) := by decide +kernel
theorem dX4_mineBoth_265 : decode cX4_mineBoth 265 = .ok (.iconst 0, 1) := by decide +kernel
theorem dX4_mineBoth_266 : decode cX4_mineBoth 266 = .ok (.istore 12, 2) := by decide +kernel
theorem dX4_mineBoth_268 : decode cX4_mineBoth 268 = .ok (.iload 12, 2) := by decide +kernel
theorem dX4_mineBoth_270 : decode cX4_mineBoth 270 = .ok (.iload 9, 2) := by decide +kernel
theorem dX4_mineBoth_272 : decode cX4_mineBoth 272 = .ok (.if_icmp .ge 25, 3) := by decide +kernel
theorem dX4_mineBoth_275 : decode cX4_mineBoth 275 = .ok (.aload_n 0, 1) := by decide +kernel
theorem dX4_mineBoth_276 : decode cX4_mineBoth 276 = .ok (.aload_n 1, 1) := by decide +kernel
theorem dX4_mineBoth_277 : decode cX4_mineBoth 277 = .ok (.aload 6, 2) := by decide +kernel
theorem dX4_mineBoth_279 : decode cX4_mineBoth 279 = .ok (.iload 12, 2) := by decide +kernel
theorem dX4_mineBoth_281 : decode cX4_mineBoth 281 = .ok (.iaload, 1) := by decide +kernel
theorem dX4_mineBoth_282 : decode cX4_mineBoth 282 = .ok (.iconst 1, 1) := by decide +kernel
theorem dX4_mineBoth_283 : decode cX4_mineBoth 283 = .ok (.invokestatic 105, 3) := by decide +kernel
theorem dX4_mineBoth_286 : decode cX4_mineBoth 286 = .ok (.iload 11, 2) := by decide +kernel
theorem dX4_mineBoth_288 : decode cX4_mineBoth 288 = .ok (.invokevirtual 109, 3) := by decide +kernel
theorem dX4_mineBoth_291 : decode cX4_mineBoth 291 = .ok (.iinc 12 1, 3) := by decide +kernel
theorem dX4_mineBoth_294 : decode cX4_mineBoth 294 = .ok (.goto (-26), 3) := by decide +kernel
theorem dX4_mineBoth_297 : decode cX4_mineBoth 297 = .ok (.iconst 1, 1) := by decide +kernel
theorem dX4_mineBoth_298 : decode cX4_mineBoth 298 = .ok (.ireturn, 1) := by decide +kernel
theorem dX4_mineAgain_0 : decode cX4_mineAgain 0 = .ok (.aload_n 1, 1) := by decide +kernel
theorem dX4_mineAgain_1 : decode cX4_mineAgain 1 = .ok (.iconst 0, 1) := by decide +kernel
theorem dX4_mineAgain_2 : decode cX4_mineAgain 2 = .ok (.invokestatic 141, 3) := by decide +kernel
theorem dX4_mineAgain_5 : decode cX4_mineAgain 5 = .ok (.istore 5, 2) := by decide +kernel
theorem dX4_mineAgain_7 : decode cX4_mineAgain 7 = .ok (.aload_n 1, 1) := by decide +kernel
theorem dX4_mineAgain_8 : decode cX4_mineAgain 8 = .ok (.iconst 1, 1) := by decide +kernel
theorem dX4_mineAgain_9 : decode cX4_mineAgain 9 = .ok (.invokestatic 141, 3) := by decide +kernel
theorem dX4_mineAgain_12 : decode cX4_mineAgain 12 = .ok (.istore 6, 2) := by decide +kernel
theorem dX4_mineAgain_14 : decode cX4_mineAgain 14 = .ok (.iload 5, 2) := by decide +kernel
theorem dX4_mineAgain_16 : decode cX4_mineAgain 16 = .ok (.iload 6, 2) := by decide +kernel
theorem dX4_mineAgain_18 : decode cX4_mineAgain 18 = .ok (.ior, 1) := by decide +kernel
theorem dX4_mineAgain_19 : decode cX4_mineAgain 19 = .ok (.istore 7, 2) := by decide +kernel
theorem dX4_mineAgain_21 : decode cX4_mineAgain 21 = .ok (.iload_n 2, 1) := by decide +kernel
theorem dX4_mineAgain_22 : decode cX4_mineAgain 22 = .ok (.iload 7, 2) := by decide +kernel
theorem dX4_mineAgain_24 : decode cX4_mineAgain 24 = .ok (.iconst (-1), 1) := by decide +kernel
theorem dX4_mineAgain_25 : decode cX4_mineAgain 25 = .ok (.ixor, 1) := by decide +kernel
theorem dX4_mineAgain_26 : decode cX4_mineAgain 26 = .ok (.iand, 1) := by decide +kernel
theorem dX4_mineAgain_27 : decode cX4_mineAgain 27 = .ok (.aload_n 3, 1) := by decide +kernel
theorem dX4_mineAgain_28 : decode cX4_mineAgain 28 = .ok (.invokestatic 130, 3) := by decide +kernel
theorem dX4_mineAgain_31 : decode cX4_mineAgain 31 = .ok (.astore 8, 2) := by decide +kernel
theorem dX4_mineAgain_33 : decode cX4_mineAgain 33 = .ok (.iconst 1, 1) := by decide +kernel
theorem dX4_mineAgain_34 : decode cX4_mineAgain 34 = .ok (.istore 9, 2) := by decide +kernel
theorem dX4_mineAgain_36 : decode cX4_mineAgain 36 = .ok (.iload 9, 2) := by decide +kernel
theorem dX4_mineAgain_38 : decode cX4_mineAgain 38 = .ok (.ifCond .eq 74, 3) := by decide +kernel
theorem dX4_mineAgain_41 : decode cX4_mineAgain 41 = .ok (.iconst 0, 1) := by decide +kernel
theorem dX4_mineAgain_42 : decode cX4_mineAgain 42 = .ok (.istore 9, 2) := by decide +kernel
theorem dX4_mineAgain_44 : decode cX4_mineAgain 44 = .ok (.iconst 0, 1) := by decide +kernel
theorem dX4_mineAgain_45 : decode cX4_mineAgain 45 = .ok (.istore 10, 2) := by decide +kernel
theorem dX4_mineAgain_47 : decode cX4_mineAgain 47 = .ok (.iload 10, 2) := by decide +kernel
theorem dX4_mineAgain_49 : decode cX4_mineAgain 49 = .ok (.aload 8, 2) := by decide +kernel
theorem dX4_mineAgain_51 : decode cX4_mineAgain 51 = .ok (.arraylength, 1) := by decide +kernel
theorem dX4_mineAgain_52 : decode cX4_mineAgain 52 = .ok (.if_icmp .ge 57, 3) := by decide +kernel
theorem dX4_mineAgain_55 : decode cX4_mineAgain 55 = .ok (.aload 8, 2) := by decide +kernel
theorem dX4_mineAgain_57 : decode cX4_mineAgain 57 = .ok (.iload 10, 2) := by decide +kernel
theorem dX4_mineAgain_59 : decode cX4_mineAgain 59 = .ok (.iaload, 1) := by decide +kernel
theorem dX4_mineAgain_60 : decode cX4_mineAgain 60 = .ok (.ifCond .eq 43, 3) := by decide +kernel
theorem dX4_mineAgain_63 : decode cX4_mineAgain 63 = .ok (.aload 8, 2) := by decide +kernel
theorem dX4_mineAgain_65 : decode cX4_mineAgain 65 = .ok (.iload 10, 2) := by decide +kernel
theorem dX4_mineAgain_67 : decode cX4_mineAgain 67 = .ok (.iaload, 1) := by decide +kernel
theorem dX4_mineAgain_68 : decode cX4_mineAgain 68 = .ok (.iload 7, 2) := by decide +kernel
theorem dX4_mineAgain_70 : decode cX4_mineAgain 70 = .ok (.iload 5, 2) := by decide +kernel
theorem dX4_mineAgain_72 : decode cX4_mineAgain 72 = .ok (.iload 6, 2) := by decide +kernel
theorem dX4_mineAgain_74 : decode cX4_mineAgain 74 = .ok (.aload_n 3, 1) := by decide +kernel
theorem dX4_mineAgain_75 : decode cX4_mineAgain 75 = .ok (.invokestatic 148, 3) := by decide +kernel
theorem dX4_mineAgain_78 : decode cX4_mineAgain 78 = .ok (.ifCond .ne 6, 3) := by decide +kernel
theorem dX4_mineAgain_81 : decode cX4_mineAgain 81 = .ok (.goto 22, 3) := by decide +kernel
theorem dX4_mineAgain_84 : decode cX4_mineAgain 84 = .ok (.iload 7, 2) := by decide +kernel
theorem dX4_mineAgain_86 : decode cX4_mineAgain 86 = .ok (.aload 8, 2) := by decide +kernel
theorem dX4_mineAgain_88 : decode cX4_mineAgain 88 = .ok (.iload 10, 2) := by decide +kernel
theorem dX4_mineAgain_90 : decode cX4_mineAgain 90 = .ok (.iaload, 1) := by decide +kernel
theorem dX4_mineAgain_91 : decode cX4_mineAgain 91 = .ok (.ior, 1) := by decide +kernel
theorem dX4_mineAgain_92 : decode cX4_mineAgain 92 = .ok (.istore 7, 2) := by decide +kernel
theorem dX4_mineAgain_94 : decode cX4_mineAgain 94 = .ok (.aload 8, 2) := by decide +kernel
theorem dX4_mineAgain_96 : decode cX4_mineAgain 96 = .ok (.iload 10, 2) := by decide +kernel
theorem dX4_mineAgain_98 : decode cX4_mineAgain 98 = .ok (.iconst 0, 1) := by decide +kernel
theorem dX4_mineAgain_99 : decode cX4_mineAgain 99 = .ok (.iastore, 1) := by decide +kernel
theorem dX4_mineAgain_100 : decode cX4_mineAgain 100 = .ok (.iconst 1, 1) := by decide +kernel
theorem dX4_mineAgain_101 : decode cX4_mineAgain 101 = .ok (.istore 9, 2) := by decide +kernel
theorem dX4_mineAgain_103 : decode cX4_mineAgain 103 = .ok (.iinc 10 1, 3) := by decide +kernel
theorem dX4_mineAgain_106 : decode cX4_mineAgain 106 = .ok (.goto (-59), 3) := by decide +kernel
theorem dX4_mineAgain_109 : decode cX4_mineAgain 109 = .ok (.goto (-73), 3) := by decide +kernel
theorem dX4_mineAgain_112 : decode cX4_mineAgain 112 = .ok (.iload 7, 2) := by decide +kernel
theorem dX4_mineAgain_114 : decode cX4_mineAgain 114 = .ok (.iload_n 2, 1) := by decide +kernel
theorem dX4_mineAgain_115 : decode cX4_mineAgain 115 = .ok (.if_icmp .ne 5, 3) := by decide +kernel
theorem dX4_mineAgain_118 : decode cX4_mineAgain 118 = .ok (.iconst 0, 1) := by decide +kernel
theorem dX4_mineAgain_119 : decode cX4_mineAgain 119 = .ok (.ireturn, 1) := by decide +kernel
theorem dX4_mineAgain_120 : decode cX4_mineAgain 120 = .ok (.aload_n 0, 1) := by decide +kernel
theorem dX4_mineAgain_121 : decode cX4_mineAgain 121 = .ok (.iconst 5, 1) := by decide +kernel
theorem dX4_mineAgain_122 : decode cX4_mineAgain 122 = .ok (.iload 4, 2) := by decide +kernel
theorem dX4_mineAgain_124 : decode cX4_mineAgain 124 = .ok (.iload_n 2, 1) := by decide +kernel
theorem dX4_mineAgain_125 : decode cX4_mineAgain 125 = .ok (.invokevirtual 101, 3) := by decide +kernel
theorem dX4_mineAgain_128 : decode cX4_mineAgain 128 = .ok (.istore 10, 2) := by decide +kernel
theorem dX4_mineAgain_130 : decode cX4_mineAgain 130 = .ok (.aload_n 0, 1) := by decide +kernel
theorem dX4_mineAgain_131 : decode cX4_mineAgain 131 = .ok (.aload_n 1, 1) := by decide +kernel
theorem dX4_mineAgain_132 : decode cX4_mineAgain 132 = .ok (.iload 7, 2) := by decide +kernel
theorem dX4_mineAgain_134 : decode cX4_mineAgain 134 = .ok (.invokestatic 152, 3) := by decide +kernel
theorem dX4_mineAgain_137 : decode cX4_mineAgain 137 = .ok (.iload 10, 2) := by decide +kernel
theorem dX4_mineAgain_139 : decode cX4_mineAgain 139 = .ok (.invokevirtual 109, 3) := by decide +kernel
theorem dX4_mineAgain_142 : decode cX4_mineAgain 142 = .ok (.aload 8, 2) := by decide +kernel
theorem dX4_mineAgain_144 : decode cX4_mineAgain 144 = .ok (.astore 11, 2) := by decide +kernel
theorem dX4_mineAgain_146 : decode cX4_mineAgain 146 = .ok (.aload 11, 2) := by decide +kernel
theorem dX4_mineAgain_148 : decode cX4_mineAgain 148 = .ok (.arraylength, 1) := by decide +kernel
theorem dX4_mineAgain_149 : decode cX4_mineAgain 149 = .ok (.istore 12, 2) := by decide +kernel
theorem dX4_mineAgain_151 : decode cX4_mineAgain 151 = .ok (.iconst 0, 1) := by decide +kernel
theorem dX4_mineAgain_152 : decode cX4_mineAgain 152 = .ok (.istore 13, 2) := by decide +kernel
theorem dX4_mineAgain_154 : decode cX4_mineAgain 154 = .ok (.iload 13, 2) := by decide +kernel
theorem dX4_mineAgain_156 : decode cX4_mineAgain 156 = .ok (.iload 12, 2) := by decide +kernel
theorem dX4_mineAgain_158 : decode cX4_mineAgain 158 = .ok (.if_icmp .ge 33, 3) := by decide +kernel
theorem dX4_mineAgain_161 : decode cX4_mineAgain 161 = .ok (.aload 11, 2) := by decide +kernel
theorem dX4_mineAgain_163 : decode cX4_mineAgain 163 = .ok (.iload 13, 2) := by decide +kernel
theorem dX4_mineAgain_165 : decode cX4_mineAgain 165 = .ok (.iaload, 1) := by decide +kernel
theorem dX4_mineAgain_166 : decode cX4_mineAgain 166 = .ok (.istore 14, 2) := by decide +kernel
theorem dX4_mineAgain_168 : decode cX4_mineAgain 168 = .ok (.iload 14, 2) := by decide +kernel
theorem dX4_mineAgain_170 : decode cX4_mineAgain 170 = .ok (.ifCond .eq 15, 3) := by decide +kernel
theorem dX4_mineAgain_173 : decode cX4_mineAgain 173 = .ok (.aload_n 0, 1) := by decide +kernel
theorem dX4_mineAgain_174 : decode cX4_mineAgain 174 = .ok (.aload_n 1, 1) := by decide +kernel
theorem dX4_mineAgain_175 : decode cX4_mineAgain 175 = .ok (.iload 14, 2) := by decide +kernel
theorem dX4_mineAgain_177 : decode cX4_mineAgain 177 = .ok (.invokestatic 152, 3) := by decide +kernel
theorem dX4_mineAgain_180 : decode cX4_mineAgain 180 = .ok (.iload 10, 2) := by decide +kernel
theorem dX4_mineAgain_182 : decode cX4_mineAgain 182 = .ok (.invokevirtual 109, 3) := by decide +kernel
theorem dX4_mineAgain_185 : decode cX4_mineAgain 185 = .ok (.iinc 13 1, 3) := by decide +kernel
theorem dX4_mineAgain_188 : decode cX4_mineAgain 188 = .ok (.goto (-34), 3) := by decide +kernel
theorem dX4_mineAgain_191 : decode cX4_mineAgain 191 = .ok (.iconst 1, 1) := by decide +kernel
theorem dX4_mineAgain_192 : decode cX4_mineAgain 192 = .ok (.ireturn, 1) := by decide +kernel
theorem dX4_belongs_0 : decode cX4_belongs 0 = .ok (.iconst 0, 1) := by decide +kernel
theorem dX4_belongs_1 : decode cX4_belongs 1 = .ok (.istore 5, 2) := by decide +kernel
theorem dX4_belongs_3 : decode cX4_belongs 3 = .ok (.iconst 0, 1) := by decide +kernel
theorem dX4_belongs_4 : decode cX4_belongs 4 = .ok (.istore 6, 2) := by decide +kernel
theorem dX4_belongs_6 : decode cX4_belongs 6 = .ok (.iload 6, 2) := by decide +kernel
theorem dX4_belongs_8 : decode cX4_belongs 8 = .ok (.bipush 8, 2) := by decide +kernel
theorem dX4_belongs_10 : decode cX4_belongs 10 = .ok (.if_icmp .ge 97, 3) := by decide +kernel
theorem dX4_belongs_13 : decode cX4_belongs 13 = .ok (.iconst 0, 1) := by decide +kernel
theorem dX4_belongs_14 : decode cX4_belongs 14 = .ok (.istore 7, 2) := by decide +kernel
theorem dX4_belongs_16 : decode cX4_belongs 16 = .ok (.iload 7, 2) := by decide +kernel
theorem dX4_belongs_18 : decode cX4_belongs 18 = .ok (.bipush 8, 2) := by decide +kernel
theorem dX4_belongs_20 : decode cX4_belongs 20 = .ok (.if_icmp .ge 81, 3) := by decide +kernel
theorem dX4_belongs_23 : decode cX4_belongs 23 = .ok (.aload 4, 2) := by decide +kernel
theorem dX4_belongs_25 : decode cX4_belongs 25 = .ok (.iload 6, 2) := by decide +kernel
theorem dX4_belongs_27 : decode cX4_belongs 27 = .ok (.iaload, 1) := by decide +kernel
theorem dX4_belongs_28 : decode cX4_belongs 28 = .ok (.iload 7, 2) := by decide +kernel
theorem dX4_belongs_30 : decode cX4_belongs 30 = .ok (.invokestatic 66, 3) := by decide +kernel
theorem dX4_belongs_33 : decode cX4_belongs 33 = .ok (.ifCond .ne 6, 3) := by decide +kernel
theorem dX4_belongs_36 : decode cX4_belongs 36 = .ok (.goto 59, 3) := by decide +kernel
theorem dX4_belongs_39 : decode cX4_belongs 39 = .ok (.iload 5, 2) := by decide +kernel
theorem dX4_belongs_41 : decode cX4_belongs 41 = .ok (.ifCond .ne 47, 3) := by decide +kernel
theorem dX4_belongs_44 : decode cX4_belongs 44 = .ok (.iload_n 1, 1) := by decide +kernel
theorem dX4_belongs_45 : decode cX4_belongs 45 = .ok (.iload_n 3, 1) := by decide +kernel
theorem dX4_belongs_46 : decode cX4_belongs 46 = .ok (.iconst (-1), 1) := by decide +kernel
theorem dX4_belongs_47 : decode cX4_belongs 47 = .ok (.ixor, 1) := by decide +kernel
theorem dX4_belongs_48 : decode cX4_belongs 48 = .ok (.iand, 1) := by decide +kernel
theorem dX4_belongs_49 : decode cX4_belongs 49 = .ok (.iload 6, 2) := by decide +kernel
theorem dX4_belongs_51 : decode cX4_belongs 51 = .ok (.invokestatic 66, 3) := by decide +kernel
theorem dX4_belongs_54 : decode cX4_belongs 54 = .ok (.ifCond .eq 12, 3) := by decide +kernel
theorem dX4_belongs_57 : decode cX4_belongs 57 = .ok (.iload_n 0, 1) := by decide +kernel
theorem dX4_belongs_58 : decode cX4_belongs 58 = .ok (.iload 7, 2) := by decide +kernel
theorem dX4_belongs_60 : decode cX4_belongs 60 = .ok (.invokestatic 66, 3) := by decide +kernel
theorem dX4_belongs_63 : decode cX4_belongs 63 = .ok (.ifCond .ne 25, 3) := by decide +kernel
theorem dX4_belongs_66 : decode cX4_belongs 66 = .ok (.iload_n 0, 1) := by decide +kernel
theorem dX4_belongs_67 : decode cX4_belongs 67 = .ok (.iload 6, 2) := by decide +kernel
theorem dX4_belongs_69 : decode cX4_belongs 69 = .ok (.invokestatic 66, 3) := by decide +kernel
theorem dX4_belongs_72 : decode cX4_belongs 72 = .ok (.ifCond .eq 20, 3) := by decide +kernel
theorem dX4_belongs_75 : decode cX4_belongs 75 = .ok (.iload_n 1, 1) := by decide +kernel
theorem dX4_belongs_76 : decode cX4_belongs 76 = .ok (.iload_n 2, 1) := by decide +kernel
theorem dX4_belongs_77 : decode cX4_belongs 77 = .ok (.iconst (-1), 1) := by decide +kernel
theorem dX4_belongs_78 : decode cX4_belongs 78 = .ok (.ixor, 1) := by decide +kernel
theorem dX4_belongs_79 : decode cX4_belongs 79 = .ok (.iand, 1) := by decide +kernel
theorem dX4_belongs_80 : decode cX4_belongs 80 = .ok (.iload 7, 2) := by decide +kernel
theorem dX4_belongs_82 : decode cX4_belongs 82 = .ok (.invokestatic 66, 3) := by decide +kernel
theorem dX4_belongs_85 : decode cX4_belongs 85 = .ok (.ifCond .eq 7, 3) := by decide +kernel
theorem dX4_belongs_88 : decode cX4_belongs 88 = .ok (.iconst 1, 1) := by decide +kernel
theorem dX4_belongs_89 : decode cX4_belongs 89 = .ok (.goto 4, 3) := by decide +kernel
theorem dX4_belongs_92 : decode cX4_belongs 92 = .ok (.iconst 0, 1) := by decide +kernel
theorem dX4_belongs_93 : decode cX4_belongs 93 = .ok (.istore 5, 2) := by decide +kernel
theorem dX4_belongs_95 : decode cX4_belongs 95 = .ok (.iinc 7 1, 3) := by decide +kernel
theorem dX4_belongs_98 : decode cX4_belongs 98 = .ok (.goto (-82), 3) := by decide +kernel
theorem dX4_belongs_101 : decode cX4_belongs 101 = .ok (.iinc 6 1, 3) := by decide +kernel
theorem dX4_belongs_104 : decode cX4_belongs 104 = .ok (.goto (-98), 3) := by decide +kernel
theorem dX4_belongs_107 : decode cX4_belongs 107 = .ok (.iload 5, 2) := by decide +kernel
theorem dX4_belongs_109 : decode cX4_belongs 109 = .ok (.ireturn, 1) := by decide +kernel
theorem dX4_mine_0 : decode cX4_mine 0 = .ok (.aload_n 0, 1) := by decide +kernel
theorem dX4_mine_1 : decode cX4_mine 1 = .ok (.iconst 0, 1) := by decide +kernel
theorem dX4_mine_2 : decode cX4_mine 2 = .ok (.putfield 34, 3) := by decide +kernel
theorem dX4_mine_5 : decode cX4_mine 5 = .ok (.aload_n 0, 1) := by decide +kernel
theorem dX4_mine_6 : decode cX4_mine 6 = .ok (.getfield 55, 3) := by decide +kernel
theorem dX4_mine_9 : decode cX4_mine 9 = .ok (.ifCond .eq 8, 3) := by decide +kernel
theorem dX4_mine_12 : decode cX4_mine 12 = .ok (.aload_n 0, 1) := by decide +kernel
theorem dX4_mine_13 : decode cX4_mine 13 = .ok (.getfield 94, 3) := by decide +kernel
theorem dX4_mine_16 : decode cX4_mine 16 = .ok (.ireturn, 1) := by decide +kernel
theorem dX4_mine_17 : decode cX4_mine 17 = .ok (.aload_n 0, 1) := by decide +kernel
theorem dX4_mine_18 : decode cX4_mine 18 = .ok (.getfield 38, 3) := by decide +kernel
theorem dX4_mine_21 : decode cX4_mine 21 = .ok (.anewarray 84, 3) := by decide +kernel
theorem dX4_mine_24 : decode cX4_mine 24 = .ok (.astore_n 1, 1) := by decide +kernel
theorem dX4_mine_25 : decode cX4_mine 25 = .ok (.iconst 0, 1) := by decide +kernel
theorem dX4_mine_26 : decode cX4_mine 26 = .ok (.istore_n 2, 1) := by decide +kernel
theorem dX4_mine_27 : decode cX4_mine 27 = .ok (.iconst 0, 1) := by decide +kernel
theorem dX4_mine_28 : decode cX4_mine 28 = .ok (.istore_n 3, 1) := by decide +kernel
theorem dX4_mine_29 : decode cX4_mine 29 = .ok (.iload_n 3, 1) := by decide +kernel
theorem dX4_mine_30 : decode cX4_mine 30 = .ok (.aload_n 0, 1) := by decide +kernel
theorem dX4_mine_31 : decode cX4_mine 31 = .ok (.getfield 38, 3) := by decide +kernel
theorem dX4_mine_34 : decode cX4_mine 34 = .ok (.if_icmp .ge 73, 3) := by decide +kernel
theorem dX4_mine_37 : decode cX4_mine 37 = .ok (.aload_n 0, 1) := by decide +kernel
theorem dX4_mine_38 : decode cX4_mine 38 = .ok (.getfield 13, 3) := by decide +kernel
theorem dX4_mine_41 : decode cX4_mine 41 = .ok (.iload_n 3, 1) := by decide +kernel
theorem dX4_mine_42 : decode cX4_mine 42 = .ok (.iaload, 1) := by decide +kernel
theorem dX4_mine_43 : decode cX4_mine 43 = .ok (.ifCond .ne 6, 3) := by decide +kernel
theorem dX4_mine_46 : decode cX4_mine 46 = .ok (.goto 55, 3) := by decide +kernel
theorem dX4_mine_49 : decode cX4_mine 49 = .ok (.aload_n 1, 1) := by decide +kernel
theorem dX4_mine_50 : decode cX4_mine 50 = .ok (.iload_n 2, 1) := by decide +kernel
theorem dX4_mine_51 : decode cX4_mine 51 = .ok (.aload_n 0, 1) := by decide +kernel
theorem dX4_mine_52 : decode cX4_mine 52 = .ok (.getfield 16, 3) := by decide +kernel
theorem dX4_mine_55 : decode cX4_mine 55 = .ok (.iload_n 3, 1) := by decide +kernel
theorem dX4_mine_56 : decode cX4_mine 56 = .ok (.iaload, 1) := by decide +kernel
theorem dX4_mine_57 : decode cX4_mine 57 = .ok (.newarray .int, 2) := by decide +kernel
theorem dX4_mine_59 : decode cX4_mine 59 = .ok (.aastore, 1) := by decide +kernel
theorem dX4_mine_60 : decode cX4_mine 60 = .ok (.iconst 0, 1) := by decide +kernel
theorem dX4_mine_61 : decode cX4_mine 61 = .ok (.istore 4, 2) := by decide +kernel
theorem dX4_mine_63 : decode cX4_mine 63 = .ok (.iload 4, 2) := by decide +kernel
theorem dX4_mine_65 : decode cX4_mine 65 = .ok (.aload_n 0, 1) := by decide +kernel
theorem dX4_mine_66 : decode cX4_mine 66 = .ok (.getfield 16, 3) := by decide +kernel
theorem dX4_mine_69 : decode cX4_mine 69 = .ok (.iload_n 3, 1) := by decide +kernel
theorem dX4_mine_70 : decode cX4_mine 70 = .ok (.iaload, 1) := by decide +kernel
theorem dX4_mine_71 : decode cX4_mine 71 = .ok (.if_icmp .ge 27, 3) := by decide +kernel
theorem dX4_mine_74 : decode cX4_mine 74 = .ok (.aload_n 1, 1) := by decide +kernel
theorem dX4_mine_75 : decode cX4_mine 75 = .ok (.iload_n 2, 1) := by decide +kernel
theorem dX4_mine_76 : decode cX4_mine 76 = .ok (.aaload, 1) := by decide +kernel
theorem dX4_mine_77 : decode cX4_mine 77 = .ok (.iload 4, 2) := by decide +kernel
theorem dX4_mine_79 : decode cX4_mine 79 = .ok (.aload_n 0, 1) := by decide +kernel
theorem dX4_mine_80 : decode cX4_mine 80 = .ok (.getfield 19, 3) := by decide +kernel
theorem dX4_mine_83 : decode cX4_mine 83 = .ok (.bipush 12, 2) := by decide +kernel
theorem dX4_mine_85 : decode cX4_mine 85 = .ok (.iload_n 3, 1) := by decide +kernel
theorem dX4_mine_86 : decode cX4_mine 86 = .ok (.imul, 1) := by decide +kernel

theorem dX4_mine_87 : decode cX4_mine 87 = .ok (.iload 4, 2) := by decide +kernel
theorem dX4_mine_89 : decode cX4_mine 89 = .ok (.iadd, 1) := by decide +kernel
theorem dX4_mine_90 : decode cX4_mine 90 = .ok (.iaload, 1) := by decide +kernel
theorem dX4_mine_91 : decode cX4_mine 91 = .ok (.iastore, 1) := by decide +kernel
theorem dX4_mine_92 : decode cX4_mine 92 = .ok (.iinc 4 1, 3) := by decide +kernel
theorem dX4_mine_95 : decode cX4_mine 95 = .ok (.goto (-32), 3) := by decide +kernel
theorem dX4_mine_98 : decode cX4_mine 98 = .ok (.iinc 2 1, 3) := by decide +kernel
theorem dX4_mine_101 : decode cX4_mine 101 = .ok (.iinc 3 1, 3) := by decide +kernel
theorem dX4_mine_104 : decode cX4_mine 104 = .ok (.goto (-75), 3) := by decide +kernel
theorem dX4_mine_107 : decode cX4_mine 107 = .ok (.aload_n 0, 1) := by decide +kernel
theorem dX4_mine_108 : decode cX4_mine 108 = .ok (.iconst 0, 1) := by decide +kernel
theorem dX4_mine_109 : decode cX4_mine 109 = .ok (.putfield 94, 3) := by decide +kernel
theorem dX4_mine_112 : decode cX4_mine 112 = .ok (.aload_n 0, 1) := by decide +kernel
theorem dX4_mine_113 : decode cX4_mine 113 = .ok (.aload_n 1, 1) := by decide +kernel
theorem dX4_mine_114 : decode cX4_mine 114 = .ok (.iload_n 2, 1) := by decide +kernel
theorem dX4_mine_115 : decode cX4_mine 115 = .ok (.invokestatic 85, 3) := by decide +kernel
theorem dX4_mine_118 : decode cX4_mine 118 = .ok (.iconst (-1), 1) := by decide +kernel
theorem dX4_mine_119 : decode cX4_mine 119 = .ok (.invokevirtual 109, 3) := by decide +kernel
theorem dX4_mine_122 : decode cX4_mine 122 = .ok (.aload_n 0, 1) := by decide +kernel
theorem dX4_mine_123 : decode cX4_mine 123 = .ok (.iconst 1, 1) := by decide +kernel
theorem dX4_mine_124 : decode cX4_mine 124 = .ok (.putfield 55, 3) := by decide +kernel
theorem dX4_mine_127 : decode cX4_mine 127 = .ok (.aload_n 0, 1) := by decide +kernel
theorem dX4_mine_128 : decode cX4_mine 128 = .ok (.getfield 94, 3) := by decide +kernel
theorem dX4_mine_131 : decode cX4_mine 131 = .ok (.ireturn, 1) := by decide +kernel
theorem dX4_asks_0 : decode cX4_asks 0 = .ok (.aload_n 0, 1) := by decide +kernel
theorem dX4_asks_1 : decode cX4_asks 1 = .ok (.aload_n 0, 1) := by decide +kernel
theorem dX4_asks_2 : decode cX4_asks 2 = .ok (.getfield 55, 3) := by decide +kernel
theorem dX4_asks_5 : decode cX4_asks 5 = .ok (.ifCond .ne 7, 3) := by decide +kernel
theorem dX4_asks_8 : decode cX4_asks 8 = .ok (.iconst 1, 1) := by decide +kernel
theorem dX4_asks_9 : decode cX4_asks 9 = .ok (.goto 17, 3) := by decide +kernel
theorem dX4_asks_12 : decode cX4_asks 12 = .ok (.iload_n 1, 1) := by decide +kernel
theorem dX4_asks_13 : decode cX4_asks 13 = .ok (.ifCond .lt 8, 3) := by decide +kernel
theorem dX4_asks_16 : decode cX4_asks 16 = .ok (.iload_n 1, 1) := by decide +kernel
theorem dX4_asks_17 : decode cX4_asks 17 = .ok (.iload_n 2, 1) := by decide +kernel
theorem dX4_asks_18 : decode cX4_asks 18 = .ok (.if_icmp .lt 7, 3) := by decide +kernel
theorem dX4_asks_21 : decode cX4_asks 21 = .ok (.iconst 2, 1) := by decide +kernel
theorem dX4_asks_22 : decode cX4_asks 22 = .ok (.goto 4, 3) := by decide +kernel
theorem dX4_asks_25 : decode cX4_asks 25 = .ok (.iconst 0, 1) := by decide +kernel
theorem dX4_asks_26 : decode cX4_asks 26 = .ok (.putfield 34, 3) := by decide +kernel
theorem dX4_asks_29 : decode cX4_asks 29 = .ok (.aload_n 0, 1) := by decide +kernel
theorem dX4_asks_30 : decode cX4_asks 30 = .ok (.getfield 34, 3) := by decide +kernel
theorem dX4_asks_33 : decode cX4_asks 33 = .ok (.ifCond .ne 7, 3) := by decide +kernel
theorem dX4_asks_36 : decode cX4_asks 36 = .ok (.iconst 1, 1) := by decide +kernel
theorem dX4_asks_37 : decode cX4_asks 37 = .ok (.goto 4, 3) := by decide +kernel
theorem dX4_asks_40 : decode cX4_asks 40 = .ok (.iconst 0, 1) := by decide +kernel
theorem dX4_asks_41 : decode cX4_asks 41 = .ok (.ireturn, 1) := by decide +kernel
theorem dX4_kind_0 : decode cX4_kind 0 = .ok (.aload_n 0, 1) := by decide +kernel
theorem dX4_kind_1 : decode cX4_kind 1 = .ok (.iload_n 1, 1) := by decide +kernel
theorem dX4_kind_2 : decode cX4_kind 2 = .ok (.aload_n 0, 1) := by decide +kernel
theorem dX4_kind_3 : decode cX4_kind 3 = .ok (.getfield 94, 3) := by decide +kernel
theorem dX4_kind_6 : decode cX4_kind 6 = .ok (.invokevirtual 155, 3) := by decide +kernel
theorem dX4_kind_9 : decode cX4_kind 9 = .ok (.ifCond .eq 12, 3) := by decide +kernel
theorem dX4_kind_12 : decode cX4_kind 12 = .ok (.aload_n 0, 1) := by decide +kernel
theorem dX4_kind_13 : decode cX4_kind 13 = .ok (.getfield 22, 3) := by decide +kernel
theorem dX4_kind_16 : decode cX4_kind 16 = .ok (.iload_n 1, 1) := by decide +kernel
theorem dX4_kind_17 : decode cX4_kind 17 = .ok (.iaload, 1) := by decide +kernel
theorem dX4_kind_18 : decode cX4_kind 18 = .ok (.goto 4, 3) := by decide +kernel
theorem dX4_kind_21 : decode cX4_kind 21 = .ok (.iconst 0, 1) := by decide +kernel
theorem dX4_kind_22 : decode cX4_kind 22 = .ok (.ireturn, 1) := by decide +kernel
theorem dX4_labelsOf_0 : decode cX4_labelsOf 0 = .ok (.aload_n 0, 1) := by decide +kernel
theorem dX4_labelsOf_1 : decode cX4_labelsOf 1 = .ok (.iload_n 1, 1) := by decide +kernel
theorem dX4_labelsOf_2 : decode cX4_labelsOf 2 = .ok (.aload_n 0, 1) := by decide +kernel
theorem dX4_labelsOf_3 : decode cX4_labelsOf 3 = .ok (.getfield 94, 3) := by decide +kernel
theorem dX4_labelsOf_6 : decode cX4_labelsOf 6 = .ok (.invokevirtual 155, 3) := by decide +kernel
theorem dX4_labelsOf_9 : decode cX4_labelsOf 9 = .ok (.ifCond .eq 12, 3) := by decide +kernel
theorem dX4_labelsOf_12 : decode cX4_labelsOf 12 = .ok (.aload_n 0, 1) := by decide +kernel
theorem dX4_labelsOf_13 : decode cX4_labelsOf 13 = .ok (.getfield 28, 3) := by decide +kernel
theorem dX4_labelsOf_16 : decode cX4_labelsOf 16 = .ok (.iload_n 1, 1) := by decide +kernel
theorem dX4_labelsOf_17 : decode cX4_labelsOf 17 = .ok (.iaload, 1) := by decide +kernel
theorem dX4_labelsOf_18 : decode cX4_labelsOf 18 = .ok (.goto 4, 3) := by decide +kernel
theorem dX4_labelsOf_21 : decode cX4_labelsOf 21 = .ok (.iconst 0, 1) := by decide +kernel
theorem dX4_labelsOf_22 : decode cX4_labelsOf 22 = .ok (.ireturn, 1) := by decide +kernel
theorem dX4_parent_0 : decode cX4_parent 0 = .ok (.aload_n 0, 1) := by decide +kernel
theorem dX4_parent_1 : decode cX4_parent 1 = .ok (.iload_n 1, 1) := by decide +kernel
theorem dX4_parent_2 : decode cX4_parent 2 = .ok (.aload_n 0, 1) := by decide +kernel
theorem dX4_parent_3 : decode cX4_parent 3 = .ok (.getfield 94, 3) := by decide +kernel
theorem dX4_parent_6 : decode cX4_parent 6 = .ok (.invokevirtual 155, 3) := by decide +kernel
theorem dX4_parent_9 : decode cX4_parent 9 = .ok (.ifCond .eq 12, 3) := by decide +kernel
theorem dX4_parent_12 : decode cX4_parent 12 = .ok (.aload_n 0, 1) := by decide +kernel
theorem dX4_parent_13 : decode cX4_parent 13 = .ok (.getfield 25, 3) := by decide +kernel
theorem dX4_parent_16 : decode cX4_parent 16 = .ok (.iload_n 1, 1) := by decide +kernel
theorem dX4_parent_17 : decode cX4_parent 17 = .ok (.iaload, 1) := by decide +kernel
theorem dX4_parent_18 : decode cX4_parent 18 = .ok (.goto 4, 3) := by decide +kernel
theorem dX4_parent_21 : decode cX4_parent 21 = .ok (.iconst 0, 1) := by decide +kernel
theorem dX4_parent_22 : decode cX4_parent 22 = .ok (.ireturn, 1) := by decide +kernel
theorem dX4_childCount_0 : decode cX4_childCount 0 = .ok (.iconst 0, 1) := by decide +kernel
theorem dX4_childCount_1 : decode cX4_childCount 1 = .ok (.istore_n 2, 1) := by decide +kernel
theorem dX4_childCount_2 : decode cX4_childCount 2 = .ok (.iload_n 1, 1) := by decide +kernel
theorem dX4_childCount_3 : decode cX4_childCount 3 = .ok (.iconst 1, 1) := by decide +kernel
theorem dX4_childCount_4 : decode cX4_childCount 4 = .ok (.iadd, 1) := by decide +kernel
theorem dX4_childCount_5 : decode cX4_childCount 5 = .ok (.istore_n 3, 1) := by decide +kernel
theorem dX4_childCount_6 : decode cX4_childCount 6 = .ok (.iload_n 3, 1) := by decide +kernel
theorem dX4_childCount_7 : decode cX4_childCount 7 = .ok (.aload_n 0, 1) := by decide +kernel
theorem dX4_childCount_8 : decode cX4_childCount 8 = .ok (.getfield 94, 3) := by decide +kernel
theorem dX4_childCount_11 : decode cX4_childCount 11 = .ok (.if_icmp .ge 27, 3) := by decide +kernel
theorem dX4_childCount_14 : decode cX4_childCount 14 = .ok (.iload_n 2, 1) := by decide +kernel
theorem dX4_childCount_15 : decode cX4_childCount 15 = .ok (.aload_n 0, 1) := by decide +kernel
theorem dX4_childCount_16 : decode cX4_childCount 16 = .ok (.getfield 25, 3) := by decide +kernel
theorem dX4_childCount_19 : decode cX4_childCount 19 = .ok (.iload_n 3, 1) := by decide +kernel
theorem dX4_childCount_20 : decode cX4_childCount 20 = .ok (.iaload, 1) := by decide +kernel
theorem dX4_childCount_21 : decode cX4_childCount 21 = .ok (.iload_n 1, 1) := by decide +kernel
theorem dX4_childCount_22 : decode cX4_childCount 22 = .ok (.if_icmp .ne 7, 3) := by decide +kernel
theorem dX4_childCount_25 : decode cX4_childCount 25 = .ok (.iconst 1, 1) := by decide +kernel
theorem dX4_childCount_26 : decode cX4_childCount 26 = .ok (.goto 4, 3) := by decide +kernel
theorem dX4_childCount_29 : decode cX4_childCount 29 = .ok (.iconst 0, 1) := by decide +kernel
theorem dX4_childCount_30 : decode cX4_childCount 30 = .ok (.iadd, 1) := by decide +kernel
theorem dX4_childCount_31 : decode cX4_childCount 31 = .ok (.istore_n 2, 1) := by decide +kernel
theorem dX4_childCount_32 : decode cX4_childCount 32 = .ok (.iinc 3 1, 3) := by decide +kernel
theorem dX4_childCount_35 : decode cX4_childCount 35 = .ok (.goto (-29), 3) := by decide +kernel
theorem dX4_childCount_38 : decode cX4_childCount 38 = .ok (.iload_n 2, 1) := by decide +kernel
theorem dX4_childCount_39 : decode cX4_childCount 39 = .ok (.ireturn, 1) := by decide +kernel
theorem dX4_childOf_0 : decode cX4_childOf 0 = .ok (.iload_n 2, 1) := by decide +kernel
theorem dX4_childOf_1 : decode cX4_childOf 1 = .ok (.istore_n 3, 1) := by decide +kernel
theorem dX4_childOf_2 : decode cX4_childOf 2 = .ok (.iload_n 1, 1) := by decide +kernel
theorem dX4_childOf_3 : decode cX4_childOf 3 = .ok (.iconst 1, 1) := by decide +kernel
theorem dX4_childOf_4 : decode cX4_childOf 4 = .ok (.iadd, 1) := by decide +kernel
theorem dX4_childOf_5 : decode cX4_childOf 5 = .ok (.istore 4, 2) := by decide +kernel
theorem dX4_childOf_7 : decode cX4_childOf 7 = .ok (.aload_n 0, 1) := by decide +kernel
theorem dX4_childOf_8 : decode cX4_childOf 8 = .ok (.getfield 25, 3) := by decide +kernel
theorem dX4_childOf_11 : decode cX4_childOf 11 = .ok (.iload 4, 2) := by decide +kernel
theorem dX4_childOf_13 : decode cX4_childOf 13 = .ok (.iaload, 1) := by decide +kernel
theorem dX4_childOf_14 : decode cX4_childOf 14 = .ok (.iload_n 1, 1) := by decide +kernel
theorem dX4_childOf_15 : decode cX4_childOf 15 = .ok (.if_icmp .ne 7, 3) := by decide +kernel
theorem dX4_childOf_18 : decode cX4_childOf 18 = .ok (.iload_n 3, 1) := by decide +kernel
theorem dX4_childOf_19 : decode cX4_childOf 19 = .ok (.ifCond .le 28, 3) := by decide +kernel
theorem dX4_childOf_22 : decode cX4_childOf 22 = .ok (.iload_n 3, 1) := by decide +kernel
theorem dX4_childOf_23 : decode cX4_childOf 23 = .ok (.aload_n 0, 1) := by decide +kernel
theorem dX4_childOf_24 : decode cX4_childOf 24 = .ok (.getfield 25, 3) := by decide +kernel
theorem dX4_childOf_27 : decode cX4_childOf 27 = .ok (.iload 4, 2) := by decide +kernel
theorem dX4_childOf_29 : decode cX4_childOf 29 = .ok (.iaload, 1) := by decide +kernel
theorem dX4_childOf_30 : decode cX4_childOf 30 = .ok (.iload_n 1, 1) := by decide +kernel
theorem dX4_childOf_31 : decode cX4_childOf 31 = .ok (.if_icmp .ne 7, 3) := by decide +kernel
theorem dX4_childOf_34 : decode cX4_childOf 34 = .ok (.iconst 1, 1) := by decide +kernel
theorem dX4_childOf_35 : decode cX4_childOf 35 = .ok (.goto 4, 3) := by decide +kernel
theorem dX4_childOf_38 : decode cX4_childOf 38 = .ok (.iconst 0, 1) := by decide +kernel
theorem dX4_childOf_39 : decode cX4_childOf 39 = .ok (.isub, 1) := by decide +kernel
theorem dX4_childOf_40 : decode cX4_childOf 40 = .ok (.istore_n 3, 1) := by decide +kernel
theorem dX4_childOf_41 : decode cX4_childOf 41 = .ok (.iinc 4 1, 3) := by decide +kernel
theorem dX4_childOf_44 : decode cX4_childOf 44 = .ok (.goto (-37), 3) := by decide +kernel
theorem dX4_childOf_47 : decode cX4_childOf 47 = .ok (.iload 4, 2) := by decide +kernel
theorem dX4_childOf_49 : decode cX4_childOf 49 = .ok (.ireturn, 1) := by decide +kernel
theorem dX4_children_0 : decode cX4_children 0 = .ok (.aload_n 0, 1) := by decide +kernel
theorem dX4_children_1 : decode cX4_children 1 = .ok (.iload_n 1, 1) := by decide +kernel
theorem dX4_children_2 : decode cX4_children 2 = .ok (.aload_n 0, 1) := by decide +kernel
theorem dX4_children_3 : decode cX4_children 3 = .ok (.getfield 94, 3) := by decide +kernel
theorem dX4_children_6 : decode cX4_children 6 = .ok (.invokevirtual 155, 3) := by decide +kernel
theorem dX4_children_9 : decode cX4_children 9 = .ok (.ifCond .eq 11, 3) := by decide +kernel
theorem dX4_children_12 : decode cX4_children 12 = .ok (.aload_n 0, 1) := by decide +kernel
theorem dX4_children_13 : decode cX4_children 13 = .ok (.iload_n 1, 1) := by decide +kernel
theorem dX4_children_14 : decode cX4_children 14 = .ok (.invokevirtual 158, 3) := by decide +kernel
theorem dX4_children_17 : decode cX4_children 17 = .ok (.goto 4, 3) := by decide +kernel
theorem dX4_children_20 : decode cX4_children 20 = .ok (.iconst 0, 1) := by decide +kernel
theorem dX4_children_21 : decode cX4_children 21 = .ok (.ireturn, 1) := by decide +kernel
theorem dX4_child_0 : decode cX4_child 0 = .ok (.aload_n 0, 1) := by decide +kernel
theorem dX4_child_1 : decode cX4_child 1 = .ok (.iload_n 1, 1) := by decide +kernel
theorem dX4_child_2 : decode cX4_child 2 = .ok (.aload_n 0, 1) := by decide +kernel
theorem dX4_child_3 : decode cX4_child 3 = .ok (.getfield 94, 3) := by decide +kernel
theorem dX4_child_6 : decode cX4_child 6 = .ok (.invokevirtual 155, 3) := by decide +kernel
theorem dX4_child_9 : decode cX4_child 9 = .ok (.ifCond .eq 25, 3) := by decide +kernel
theorem dX4_child_12 : decode cX4_child 12 = .ok (.aload_n 0, 1) := by decide +kernel
theorem dX4_child_13 : decode cX4_child 13 = .ok (.iload_n 2, 1) := by decide +kernel
theorem dX4_child_14 : decode cX4_child 14 = .ok (.aload_n 0, 1) := by decide +kernel
theorem dX4_child_15 : decode cX4_child 15 = .ok (.iload_n 1, 1) := by decide +kernel
theorem dX4_child_16 : decode cX4_child 16 = .ok (.invokevirtual 158, 3) := by decide +kernel
theorem dX4_child_19 : decode cX4_child 19 = .ok (.invokevirtual 155, 3) := by decide +kernel
theorem dX4_child_22 : decode cX4_child 22 = .ok (.ifCond .eq 12, 3) := by decide +kernel
theorem dX4_child_25 : decode cX4_child 25 = .ok (.aload_n 0, 1) := by decide +kernel
theorem dX4_child_26 : decode cX4_child 26 = .ok (.iload_n 1, 1) := by decide +kernel
theorem dX4_child_27 : decode cX4_child 27 = .ok (.iload_n 2, 1) := by decide +kernel
theorem dX4_child_28 : decode cX4_child 28 = .ok (.invokevirtual 161, 3) := by decide +kernel
theorem dX4_child_31 : decode cX4_child 31 = .ok (.goto 4, 3) := by decide +kernel
theorem dX4_child_34 : decode cX4_child 34 = .ok (.iconst 0, 1) := by decide +kernel
theorem dX4_child_35 : decode cX4_child 35 = .ok (.ireturn, 1) := by decide +kernel
theorem dX4_shortestOf_0 : decode cX4_shortestOf 0 = .ok (.aload_n 0, 1) := by decide +kernel
theorem dX4_shortestOf_1 : decode cX4_shortestOf 1 = .ok (.iload_n 1, 1) := by decide +kernel
theorem dX4_shortestOf_2 : decode cX4_shortestOf 2 = .ok (.invokevirtual 158, 3) := by decide +kernel
theorem dX4_shortestOf_5 : decode cX4_shortestOf 5 = .ok (.istore_n 2, 1) := by decide +kernel
theorem dX4_shortestOf_6 : decode cX4_shortestOf 6 = .ok (.iload_n 2, 1) := by decide +kernel
theorem dX4_shortestOf_7 : decode cX4_shortestOf 7 = .ok (.ifCond .ne 19, 3) := by decide +kernel
theorem dX4_shortestOf_10 : decode cX4_shortestOf 10 = .ok (.aload_n 0, 1) := by decide +kernel
theorem dX4_shortestOf_11 : decode cX4_shortestOf 11 = .ok (.getfield 22, 3) := by decide +kernel
theorem dX4_shortestOf_14 : decode cX4_shortestOf 14 = .ok (.iload_n 1, 1) := by decide +kernel
theorem dX4_shortestOf_15 : decode cX4_shortestOf 15 = .ok (.iaload, 1) := by decide +kernel
theorem dX4_shortestOf_16 : decode cX4_shortestOf 16 = .ok (.iconst 1, 1) := by decide +kernel
theorem dX4_shortestOf_17 : decode cX4_shortestOf 17 = .ok (.if_icmp .ne 7, 3) := by decide +kernel
theorem dX4_shortestOf_20 : decode cX4_shortestOf 20 = .ok (.iconst 1, 1) := by decide +kernel
theorem dX4_shortestOf_21 : decode cX4_shortestOf 21 = .ok (.goto 4, 3) := by decide +kernel
theorem dX4_shortestOf_24 : decode cX4_shortestOf 24 = .ok (.iconst 0, 1) := by decide +kernel
theorem dX4_shortestOf_25 : decode cX4_shortestOf 25 = .ok (.ireturn, 1) := by decide +kernel
theorem dX4_shortestOf_26 : decode cX4_shortestOf 26 = .ok (.aload_n 0, 1) := by decide +kernel
theorem dX4_shortestOf_27 : decode cX4_shortestOf 27 = .ok (.aload_n 0, 1) := by decide +kernel
theorem dX4_shortestOf_28 : decode cX4_shortestOf 28 = .ok (.iload_n 1, 1) := by decide +kernel
theorem dX4_shortestOf_29 : decode cX4_shortestOf 29 = .ok (.iconst 0, 1) := by decide +kernel
theorem dX4_shortestOf_30 : decode cX4_shortestOf 30 = .ok (.invokevirtual 161, 3) := by decide +kernel
theorem dX4_shortestOf_33 : decode cX4_shortestOf 33 = .ok (.invokevirtual 164, 3) := by decide +kernel
theorem dX4_shortestOf_36 : decode cX4_shortestOf 36 = .ok (.istore_n 3, 1) := by decide +kernel
theorem dX4_shortestOf_37 : decode cX4_shortestOf 37 = .ok (.iconst 1, 1) := by decide +kernel
theorem dX4_shortestOf_38 : decode cX4_shortestOf 38 = .ok (.istore 4, 2) := by decide +kernel
theorem dX4_shortestOf_40 : decode cX4_shortestOf 40 = .ok (.iload 4, 2) := by decide +kernel
theorem dX4_shortestOf_42 : decode cX4_shortestOf 42 = .ok (.iload_n 2, 1) := by decide +kernel
theorem dX4_shortestOf_43 : decode cX4_shortestOf 43 = .ok (.if_icmp .ge 56, 3) := by decide +kernel
theorem dX4_shortestOf_46 : decode cX4_shortestOf 46 = .ok (.aload_n 0, 1) := by decide +kernel
theorem dX4_shortestOf_47 : decode cX4_shortestOf 47 = .ok (.getfield 22, 3) := by decide +kernel
theorem dX4_shortestOf_50 : decode cX4_shortestOf 50 = .ok (.iload_n 1, 1) := by decide +kernel
theorem dX4_shortestOf_51 : decode cX4_shortestOf 51 = .ok (.iaload, 1) := by decide +kernel
theorem dX4_shortestOf_52 : decode cX4_shortestOf 52 = .ok (.iconst 5, 1) := by decide +kernel
theorem dX4_shortestOf_53 : decode cX4_shortestOf 53 = .ok (.if_icmp .eq 46, 3) := by decide +kernel
theorem dX4_shortestOf_56 : decode cX4_shortestOf 56 = .ok (.aload_n 0, 1) := by decide +kernel
theorem dX4_shortestOf_57 : decode cX4_shortestOf 57 = .ok (.aload_n 0, 1) := by decide +kernel
theorem dX4_shortestOf_58 : decode cX4_shortestOf 58 = .ok (.iload_n 1, 1) := by decide +kernel
theorem dX4_shortestOf_59 : decode cX4_shortestOf 59 = .ok (.iload 4, 2) := by decide +kernel
theorem dX4_shortestOf_61 : decode cX4_shortestOf 61 = .ok (.invokevirtual 161, 3) := by decide +kernel
theorem dX4_shortestOf_64 : decode cX4_shortestOf 64 = .ok (.invokevirtual 164, 3) := by decide +kernel
theorem dX4_shortestOf_67 : decode cX4_shortestOf 67 = .ok (.istore 5, 2) := by decide +kernel
theorem dX4_shortestOf_69 : decode cX4_shortestOf 69 = .ok (.aload_n 0, 1) := by decide +kernel
theorem dX4_shortestOf_70 : decode cX4_shortestOf 70 = .ok (.getfield 22, 3) := by decide +kernel
theorem dX4_shortestOf_73 : decode cX4_shortestOf 73 = .ok (.iload_n 1, 1) := by decide +kernel
theorem dX4_shortestOf_74 : decode cX4_shortestOf 74 = .ok (.iaload, 1) := by decide +kernel
theorem dX4_shortestOf_75 : decode cX4_shortestOf 75 = .ok (.iconst 2, 1) := by decide +kernel
theorem dX4_shortestOf_76 : decode cX4_shortestOf 76 = .ok (.if_icmp .ne 12, 3) := by decide +kernel
theorem dX4_shortestOf_79 : decode cX4_shortestOf 79 = .ok (.iload_n 3, 1) := by decide +kernel
theorem dX4_shortestOf_80 : decode cX4_shortestOf 80 = .ok (.iload 5, 2) := by decide +kernel
theorem dX4_shortestOf_82 : decode cX4_shortestOf 82 = .ok (.invokestatic 145, 3) := by decide +kernel
theorem dX4_shortestOf_85 : decode cX4_shortestOf 85 = .ok (.goto 7, 3) := by decide +kernel
theorem dX4_shortestOf_88 : decode cX4_shortestOf 88 = .ok (.iload_n 3, 1) := by decide +kernel
theorem dX4_shortestOf_89 : decode cX4_shortestOf 89 = .ok (.iload 5, 2) := by decide +kernel
theorem dX4_shortestOf_91 : decode cX4_shortestOf 91 = .ok (.iadd, 1) := by decide +kernel
theorem dX4_shortestOf_92 : decode cX4_shortestOf 92 = .ok (.istore_n 3, 1) := by decide +kernel
theorem dX4_shortestOf_93 : decode cX4_shortestOf 93 = .ok (.iinc 4 1, 3) := by decide +kernel
theorem dX4_shortestOf_96 : decode cX4_shortestOf 96 = .ok (.goto (-56), 3) := by decide +kernel
theorem dX4_shortestOf_99 : decode cX4_shortestOf 99 = .ok (.iload_n 3, 1) := by decide +kernel
theorem dX4_shortestOf_100 : decode cX4_shortestOf 100 = .ok (.ireturn, 1) := by decide +kernel
theorem dX4_shortest_0 : decode cX4_shortest 0 = .ok (.aload_n 0, 1) := by decide +kernel
theorem dX4_shortest_1 : decode cX4_shortest 1 = .ok (.iload_n 1, 1) := by decide +kernel
theorem dX4_shortest_2 : decode cX4_shortest 2 = .ok (.aload_n 0, 1) := by decide +kernel
theorem dX4_shortest_3 : decode cX4_shortest 3 = .ok (.getfield 94, 3) := by decide +kernel
theorem dX4_shortest_6 : decode cX4_shortest 6 = .ok (.invokevirtual 155, 3) := by decide +kernel
theorem dX4_shortest_9 : decode cX4_shortest 9 = .ok (.ifCond .eq 11, 3) := by decide +kernel
theorem dX4_shortest_12 : decode cX4_shortest 12 = .ok (.aload_n 0, 1) := by decide +kernel
theorem dX4_shortest_13 : decode cX4_shortest 13 = .ok (.iload_n 1, 1) := by decide +kernel
theorem dX4_shortest_14 : decode cX4_shortest 14 = .ok (.invokevirtual 164, 3) := by decide +kernel
theorem dX4_shortest_17 : decode cX4_shortest 17 = .ok (.goto 4, 3) := by decide +kernel
theorem dX4_shortest_20 : decode cX4_shortest 20 = .ok (.iconst 0, 1) := by decide +kernel
theorem dX4_shortest_21 : decode cX4_shortest 21 = .ok (.ireturn, 1) := by decide +kernel
theorem dX4_height_0 : decode cX4_height 0 = .ok (.aload_n 0, 1) := by decide +kernel
theorem dX4_height_1 : decode cX4_height 1 = .ok (.iconst 0, 1) := by decide +kernel
theorem dX4_height_2 : decode cX4_height 2 = .ok (.iconst 1, 1) := by decide +kernel
theorem dX4_height_3 : decode cX4_height 3 = .ok (.invokevirtual 155, 3) := by decide +kernel
theorem dX4_height_6 : decode cX4_height 6 = .ok (.ifCond .ne 5, 3) := by decide +kernel
theorem dX4_height_9 : decode cX4_height 9 = .ok (.iconst 0, 1) := by decide +kernel
theorem dX4_height_10 : decode cX4_height 10 = .ok (.ireturn, 1) := by decide +kernel
theorem dX4_height_11 : decode cX4_height 11 = .ok (.iconst 0, 1) := by decide +kernel
theorem dX4_height_12 : decode cX4_height 12 = .ok (.istore_n 1, 1) := by decide +kernel
theorem dX4_height_13 : decode cX4_height 13 = .ok (.iconst 0, 1) := by decide +kernel
theorem dX4_height_14 : decode cX4_height 14 = .ok (.istore_n 2, 1) := by decide +kernel
theorem dX4_height_15 : decode cX4_height 15 = .ok (.iload_n 2, 1) := by decide +kernel
theorem dX4_height_16 : decode cX4_height 16 = .ok (.aload_n 0, 1) := by decide +kernel
theorem dX4_height_17 : decode cX4_height 17 = .ok (.getfield 94, 3) := by decide +kernel
theorem dX4_height_20 : decode cX4_height 20 = .ok (.if_icmp .ge 41, 3) := by decide +kernel
theorem dX4_height_23 : decode cX4_height 23 = .ok (.iconst 0, 1) := by decide +kernel
theorem dX4_height_24 : decode cX4_height 24 = .ok (.istore_n 3, 1) := by decide +kernel
theorem dX4_height_25 : decode cX4_height 25 = .ok (.iload_n 2, 1) := by decide +kernel
theorem dX4_height_26 : decode cX4_height 26 = .ok (.istore 4, 2) := by decide +kernel
theorem dX4_height_28 : decode cX4_height 28 = .ok (.iload 4, 2) := by decide +kernel
theorem dX4_height_30 : decode cX4_height 30 = .ok (.iconst (-1), 1) := by decide +kernel
theorem dX4_height_31 : decode cX4_height 31 = .ok (.if_icmp .eq 18, 3) := by decide +kernel
theorem dX4_height_34 : decode cX4_height 34 = .ok (.iinc 3 1, 3) := by decide +kernel
theorem dX4_height_37 : decode cX4_height 37 = .ok (.aload_n 0, 1) := by decide +kernel
theorem dX4_height_38 : decode cX4_height 38 = .ok (.getfield 25, 3) := by decide +kernel
theorem dX4_height_41 : decode cX4_height 41 = .ok (.iload 4, 2) := by decide +kernel
theorem dX4_height_43 : decode cX4_height 43 = .ok (.iaload, 1) := by decide +kernel
theorem dX4_height_44 : decode cX4_height 44 = .ok (.istore 4, 2) := by decide +kernel
theorem dX4_height_46 : decode cX4_height 46 = .ok (.goto (-18), 3) := by decide +kernel
theorem dX4_height_49 : decode cX4_height 49 = .ok (.iload_n 1, 1) := by decide +kernel
theorem dX4_height_50 : decode cX4_height 50 = .ok (.iload_n 3, 1) := by decide +kernel
theorem dX4_height_51 : decode cX4_height 51 = .ok (.invokestatic 89, 3) := by decide +kernel
theorem dX4_height_54 : decode cX4_height 54 = .ok (.istore_n 1, 1) := by decide +kernel
theorem dX4_height_55 : decode cX4_height 55 = .ok (.iinc 2 1, 3) := by decide +kernel
theorem dX4_height_58 : decode cX4_height 58 = .ok (.goto (-43), 3) := by decide +kernel
theorem dX4_height_61 : decode cX4_height 61 = .ok (.iload_n 1, 1) := by decide +kernel
theorem dX4_height_62 : decode cX4_height 62 = .ok (.ireturn, 1) := by decide +kernel
theorem dX4_placesOf_0 : decode cX4_placesOf 0 = .ok (.iconst 0, 1) := by decide +kernel
theorem dX4_placesOf_1 : decode cX4_placesOf 1 = .ok (.istore_n 3, 1) := by decide +kernel
theorem dX4_placesOf_2 : decode cX4_placesOf 2 = .ok (.iconst 0, 1) := by decide +kernel
theorem dX4_placesOf_3 : decode cX4_placesOf 3 = .ok (.istore 4, 2) := by decide +kernel
theorem dX4_placesOf_5 : decode cX4_placesOf 5 = .ok (.iload 4, 2) := by decide +kernel
theorem dX4_placesOf_7 : decode cX4_placesOf 7 = .ok (.bipush 12, 2) := by decide +kernel
theorem dX4_placesOf_9 : decode cX4_placesOf 9 = .ok (.if_icmp .ge 39, 3) := by decide +kernel
theorem dX4_placesOf_12 : decode cX4_placesOf 12 = .ok (.iload_n 1, 1) := by decide +kernel
theorem dX4_placesOf_13 : decode cX4_placesOf 13 = .ok (.iload 4, 2) := by decide +kernel
theorem dX4_placesOf_15 : decode cX4_placesOf 15 = .ok (.invokestatic 66, 3) := by decide +kernel
theorem dX4_placesOf_18 : decode cX4_placesOf 18 = .ok (.ifCond .eq 24, 3) := by decide +kernel
theorem dX4_placesOf_21 : decode cX4_placesOf 21 = .ok (.iload_n 2, 1) := by decide +kernel
theorem dX4_placesOf_22 : decode cX4_placesOf 22 = .ok (.aload_n 0, 1) := by decide +kernel
theorem dX4_placesOf_23 : decode cX4_placesOf 23 = .ok (.getfield 31, 3) := by decide +kernel
theorem dX4_placesOf_26 : decode cX4_placesOf 26 = .ok (.iload 4, 2) := by decide +kernel
theorem dX4_placesOf_28 : decode cX4_placesOf 28 = .ok (.iaload, 1) := by decide +kernel
theorem dX4_placesOf_29 : decode cX4_placesOf 29 = .ok (.invokestatic 66, 3) := by decide +kernel
theorem dX4_placesOf_32 : decode cX4_placesOf 32 = .ok (.ifCond .eq 10, 3) := by decide +kernel
theorem dX4_placesOf_35 : decode cX4_placesOf 35 = .ok (.iload_n 3, 1) := by decide +kernel
theorem dX4_placesOf_36 : decode cX4_placesOf 36 = .ok (.iconst 1, 1) := by decide +kernel
theorem dX4_placesOf_37 : decode cX4_placesOf 37 = .ok (.iload 4, 2) := by decide +kernel
theorem dX4_placesOf_39 : decode cX4_placesOf 39 = .ok (.ishl, 1) := by decide +kernel
theorem dX4_placesOf_40 : decode cX4_placesOf 40 = .ok (.ior, 1) := by decide +kernel
theorem dX4_placesOf_41 : decode cX4_placesOf 41 = .ok (.istore_n 3, 1) := by decide +kernel
theorem dX4_placesOf_42 : decode cX4_placesOf 42 = .ok (.iinc 4 1, 3) := by decide +kernel
theorem dX4_placesOf_45 : decode cX4_placesOf 45 = .ok (.goto (-40), 3) := by decide +kernel
theorem dX4_placesOf_48 : decode cX4_placesOf 48 = .ok (.iload_n 3, 1) := by decide +kernel
theorem dX4_placesOf_49 : decode cX4_placesOf 49 = .ok (.ireturn, 1) := by decide +kernel
theorem dX4_until_0 : decode cX4_until 0 = .ok (.iload_n 0, 1) := by decide +kernel
theorem dX4_until_1 : decode cX4_until 1 = .ok (.iconst 1, 1) := by decide +kernel
theorem dX4_until_2 : decode cX4_until 2 = .ok (.iload_n 1, 1) := by decide +kernel
theorem dX4_until_3 : decode cX4_until 3 = .ok (.ishl, 1) := by decide +kernel
theorem dX4_until_4 : decode cX4_until 4 = .ok (.iconst 1, 1) := by decide +kernel
theorem dX4_until_5 : decode cX4_until 5 = .ok (.isub, 1) := by decide +kernel
theorem dX4_until_6 : decode cX4_until 6 = .ok (.iand, 1) := by decide +kernel
theorem dX4_until_7 : decode cX4_until 7 = .ok (.ireturn, 1) := by decide +kernel
theorem dX4_isCut_0 : decode cX4_isCut 0 = .ok (.iload_n 1, 1) := by decide +kernel
theorem dX4_isCut_1 : decode cX4_isCut 1 = .ok (.ifCond .eq 13, 3) := by decide +kernel
theorem dX4_isCut_4 : decode cX4_isCut 4 = .ok (.iload_n 0, 1) := by decide +kernel
theorem dX4_isCut_5 : decode cX4_isCut 5 = .ok (.iload_n 1, 1) := by decide +kernel
theorem dX4_isCut_6 : decode cX4_isCut 6 = .ok (.iconst 1, 1) := by decide +kernel
theorem dX4_isCut_7 : decode cX4_isCut 7 = .ok (.isub, 1) := by decide +kernel
theorem dX4_isCut_8 : decode cX4_isCut 8 = .ok (.invokestatic 66, 3) := by decide +kernel
theorem dX4_isCut_11 : decode cX4_isCut 11 = .ok (.ifCond .eq 7, 3) := by decide +kernel
theorem dX4_isCut_14 : decode cX4_isCut 14 = .ok (.iconst 1, 1) := by decide +kernel
theorem dX4_isCut_15 : decode cX4_isCut 15 = .ok (.goto 4, 3) := by decide +kernel
theorem dX4_isCut_18 : decode cX4_isCut 18 = .ok (.iconst 0, 1) := by decide +kernel
theorem dX4_isCut_19 : decode cX4_isCut 19 = .ok (.ireturn, 1) := by decide +kernel
theorem dX4_isWord_0 : decode cX4_isWord 0 = .ok (.aload_n 0, 1) := by decide +kernel
theorem dX4_isWord_1 : decode cX4_isWord 1 = .ok (.iload_n 2, 1) := by decide +kernel
theorem dX4_isWord_2 : decode cX4_isWord 2 = .ok (.aload_n 0, 1) := by decide +kernel
theorem dX4_isWord_3 : decode cX4_isWord 3 = .ok (.getfield 28, 3) := by decide +kernel
theorem dX4_isWord_6 : decode cX4_isWord 6 = .ok (.iload_n 1, 1) := by decide +kernel
theorem dX4_isWord_7 : decode cX4_isWord 7 = .ok (.iaload, 1) := by decide +kernel
theorem dX4_isWord_8 : decode cX4_isWord 8 = .ok (.invokevirtual 167, 3) := by decide +kernel
theorem dX4_isWord_11 : decode cX4_isWord 11 = .ok (.iload_n 2, 1) := by decide +kernel
theorem dX4_isWord_12 : decode cX4_isWord 12 = .ok (.if_icmp .eq 5, 3) := by decide +kernel
theorem dX4_isWord_15 : decode cX4_isWord 15 = .ok (.iconst 0, 1) := by decide +kernel
theorem dX4_isWord_16 : decode cX4_isWord 16 = .ok (.ireturn, 1) := by decide +kernel
theorem dX4_isWord_17 : decode cX4_isWord 17 = .ok (.aload_n 0, 1) := by decide +kernel
theorem dX4_isWord_18 : decode cX4_isWord 18 = .ok (.getfield 22, 3) := by decide +kernel
theorem dX4_isWord_21 : decode cX4_isWord 21 = .ok (.iload_n 1, 1) := by decide +kernel
theorem dX4_isWord_22 : decode cX4_isWord 22 = .ok (.iaload, 1) := by decide +kernel
theorem dX4_isWord_23 : decode cX4_isWord 23 = .ok (.tableswitch 82 0 6 #[41, 51, 82, 67, 82, 75, 65], 41) := by decide +kernel
theorem dX4_isWord_64 : decode cX4_isWord 64 = .ok (.iload_n 2, 1) := by decide +kernel
theorem dX4_isWord_65 : decode cX4_isWord 65 = .ok (.ifCond .ne 7, 3) := by decide +kernel
theorem dX4_isWord_68 : decode cX4_isWord 68 = .ok (.iconst 1, 1) := by decide +kernel
theorem dX4_isWord_69 : decode cX4_isWord 69 = .ok (.goto 4, 3) := by decide +kernel
theorem dX4_isWord_72 : decode cX4_isWord 72 = .ok (.iconst 0, 1) := by decide +kernel
theorem dX4_isWord_73 : decode cX4_isWord 73 = .ok (.ireturn, 1) := by decide +kernel
theorem dX4_isWord_74 : decode cX4_isWord 74 = .ok (.iload_n 2, 1) := by decide +kernel
theorem dX4_isWord_75 : decode cX4_isWord 75 = .ok (.invokestatic 70, 3) := by decide +kernel
theorem dX4_isWord_78 : decode cX4_isWord 78 = .ok (.iconst 1, 1) := by decide +kernel
theorem dX4_isWord_79 : decode cX4_isWord 79 = .ok (.if_icmp .ne 7, 3) := by decide +kernel
theorem dX4_isWord_82 : decode cX4_isWord 82 = .ok (.iconst 1, 1) := by decide +kernel
theorem dX4_isWord_83 : decode cX4_isWord 83 = .ok (.goto 4, 3) := by decide +kernel
theorem dX4_isWord_86 : decode cX4_isWord 86 = .ok (.iconst 0, 1) := by decide +kernel
theorem dX4_isWord_87 : decode cX4_isWord 87 = .ok (.ireturn, 1) := by decide +kernel
theorem dX4_isWord_88 : decode cX4_isWord 88 = .ok (.iconst 1, 1) := by decide +kernel
theorem dX4_isWord_89 : decode cX4_isWord 89 = .ok (.ireturn, 1) := by decide +kernel
theorem dX4_isWord_90 : decode cX4_isWord 90 = .ok (.aload_n 0, 1) := by decide +kernel
theorem dX4_isWord_91 : decode cX4_isWord 91 = .ok (.iload_n 1, 1) := by decide +kernel
theorem dX4_isWord_92 : decode cX4_isWord 92 = .ok (.iconst 0, 1) := by decide +kernel
theorem dX4_isWord_93 : decode cX4_isWord 93 = .ok (.iload_n 2, 1) := by decide +kernel
theorem dX4_isWord_94 : decode cX4_isWord 94 = .ok (.invokevirtual 170, 3) := by decide +kernel
theorem dX4_isWord_97 : decode cX4_isWord 97 = .ok (.ireturn, 1) := by decide +kernel
theorem dX4_isWord_98 : decode cX4_isWord 98 = .ok (.aload_n 0, 1) := by decide +kernel
theorem dX4_isWord_99 : decode cX4_isWord 99 = .ok (.iload_n 1, 1) := by decide +kernel
theorem dX4_isWord_100 : decode cX4_isWord 100 = .ok (.iload_n 2, 1) := by decide +kernel
theorem dX4_isWord_101 : decode cX4_isWord 101 = .ok (.invokevirtual 174, 3) := by decide +kernel
theorem dX4_isWord_104 : decode cX4_isWord 104 = .ok (.ireturn, 1) := by decide +kernel
theorem dX4_isWord_105 : decode cX4_isWord 105 = .ok (.aload_n 0, 1) := by decide +kernel
theorem dX4_isWord_106 : decode cX4_isWord 106 = .ok (.iload_n 1, 1) := by decide +kernel
theorem dX4_isWord_107 : decode cX4_isWord 107 = .ok (.iload_n 2, 1) := by decide +kernel
theorem dX4_isWord_108 : decode cX4_isWord 108 = .ok (.invokevirtual 177, 3) := by decide +kernel
theorem dX4_isWord_111 : decode cX4_isWord 111 = .ok (.ireturn, 1) := by decide +kernel
theorem dX4_areWords_0 : decode cX4_areWords 0 = .ok (.aload_n 0, 1) := by decide +kernel
theorem dX4_areWords_1 : decode cX4_areWords 1 = .ok (.iload_n 1, 1) := by decide +kernel
theorem dX4_areWords_2 : decode cX4_areWords 2 = .ok (.invokevirtual 158, 3) := by decide +kernel
theorem dX4_areWords_5 : decode cX4_areWords 5 = .ok (.istore_n 3, 1) := by decide +kernel
theorem dX4_areWords_6 : decode cX4_areWords 6 = .ok (.aload_n 0, 1) := by decide +kernel
theorem dX4_areWords_7 : decode cX4_areWords 7 = .ok (.getfield 22, 3) := by decide +kernel
theorem dX4_areWords_10 : decode cX4_areWords 10 = .ok (.iload_n 1, 1) := by decide +kernel
theorem dX4_areWords_11 : decode cX4_areWords 11 = .ok (.iaload, 1) := by decide +kernel
theorem dX4_areWords_12 : decode cX4_areWords 12 = .ok (.iconst 2, 1) := by decide +kernel
theorem dX4_areWords_13 : decode cX4_areWords 13 = .ok (.if_icmp .ne 7, 3) := by decide +kernel
theorem dX4_areWords_16 : decode cX4_areWords 16 = .ok (.iconst 1, 1) := by decide +kernel
theorem dX4_areWords_17 : decode cX4_areWords 17 = .ok (.goto 4, 3) := by decide +kernel
theorem dX4_areWords_20 : decode cX4_areWords 20 = .ok (.iconst 0, 1) := by decide +kernel
theorem dX4_areWords_21 : decode cX4_areWords 21 = .ok (.istore 4, 2) := by decide +kernel
theorem dX4_areWords_23 : decode cX4_areWords 23 = .ok (.iload 4, 2) := by decide +kernel
theorem dX4_areWords_25 : decode cX4_areWords 25 = .ok (.ifCond .ne 7, 3) := by decide +kernel
theorem dX4_areWords_28 : decode cX4_areWords 28 = .ok (.iconst 1, 1) := by decide +kernel
theorem dX4_areWords_29 : decode cX4_areWords 29 = .ok (.goto 4, 3) := by decide +kernel
theorem dX4_areWords_32 : decode cX4_areWords 32 = .ok (.iconst 0, 1) := by decide +kernel
theorem dX4_areWords_33 : decode cX4_areWords 33 = .ok (.istore 5, 2) := by decide +kernel
theorem dX4_areWords_35 : decode cX4_areWords 35 = .ok (.iconst 0, 1) := by decide +kernel
theorem dX4_areWords_36 : decode cX4_areWords 36 = .ok (.istore 6, 2) := by decide +kernel
theorem dX4_areWords_38 : decode cX4_areWords 38 = .ok (.iload 6, 2) := by decide +kernel
theorem dX4_areWords_40 : decode cX4_areWords 40 = .ok (.iload_n 3, 1) := by decide +kernel
theorem dX4_areWords_41 : decode cX4_areWords 41 = .ok (.if_icmp .ge 54, 3) := by decide +kernel
theorem dX4_areWords_44 : decode cX4_areWords 44 = .ok (.iload 5, 2) := by decide +kernel
theorem dX4_areWords_46 : decode cX4_areWords 46 = .ok (.iload 4, 2) := by decide +kernel
theorem dX4_areWords_48 : decode cX4_areWords 48 = .ok (.if_icmp .eq 47, 3) := by decide +kernel
theorem dX4_areWords_51 : decode cX4_areWords 51 = .ok (.aload_n 0, 1) := by decide +kernel
theorem dX4_areWords_52 : decode cX4_areWords 52 = .ok (.iload_n 1, 1) := by decide +kernel
theorem dX4_areWords_53 : decode cX4_areWords 53 = .ok (.iload 6, 2) := by decide +kernel
theorem dX4_areWords_55 : decode cX4_areWords 55 = .ok (.invokevirtual 161, 3) := by decide +kernel
theorem dX4_areWords_58 : decode cX4_areWords 58 = .ok (.istore 7, 2) := by decide +kernel
theorem dX4_areWords_60 : decode cX4_areWords 60 = .ok (.aload_n 0, 1) := by decide +kernel
theorem dX4_areWords_61 : decode cX4_areWords 61 = .ok (.iload 7, 2) := by decide +kernel
theorem dX4_areWords_63 : decode cX4_areWords 63 = .ok (.iload 4, 2) := by decide +kernel
theorem dX4_areWords_65 : decode cX4_areWords 65 = .ok (.ifCond .eq 7, 3) := by decide +kernel
theorem dX4_areWords_68 : decode cX4_areWords 68 = .ok (.iload_n 2, 1) := by decide +kernel
theorem dX4_areWords_69 : decode cX4_areWords 69 = .ok (.goto 15, 3) := by decide +kernel
theorem dX4_areWords_72 : decode cX4_areWords 72 = .ok (.aload_n 0, 1) := by decide +kernel
theorem dX4_areWords_73 : decode cX4_areWords 73 = .ok (.iload_n 2, 1) := by decide +kernel
theorem dX4_areWords_74 : decode cX4_areWords 74 = .ok (.aload_n 0, 1) := by decide +kernel
theorem dX4_areWords_75 : decode cX4_areWords 75 = .ok (.getfield 28, 3) := by decide +kernel
theorem dX4_areWords_78 : decode cX4_areWords 78 = .ok (.iload 7, 2) := by decide +kernel
theorem dX4_areWords_80 : decode cX4_areWords 80 = .ok (.iaload, 1) := by decide +kernel
theorem dX4_areWords_81 : decode cX4_areWords 81 = .ok (.invokevirtual 167, 3) := by decide +kernel
theorem dX4_areWords_84 : decode cX4_areWords 84 = .ok (.invokevirtual 180, 3) := by decide +kernel
theorem dX4_areWords_87 : decode cX4_areWords 87 = .ok (.istore 5, 2) := by decide +kernel
theorem dX4_areWords_89 : decode cX4_areWords 89 = .ok (.iinc 6 1, 3) := by decide +kernel
theorem dX4_areWords_92 : decode cX4_areWords 92 = .ok (.goto (-54), 3) := by decide +kernel
theorem dX4_areWords_95 : decode cX4_areWords 95 = .ok (.iload 5, 2) := by decide +kernel
theorem dX4_areWords_97 : decode cX4_areWords 97 = .ok (.ireturn, 1) := by decide +kernel
theorem dX4_isOrder_0 : decode cX4_isOrder 0 = .ok (.aload_n 0, 1) := by decide +kernel
theorem dX4_isOrder_1 : decode cX4_isOrder 1 = .ok (.iload_n 1, 1) := by decide +kernel
theorem dX4_isOrder_2 : decode cX4_isOrder 2 = .ok (.iload_n 2, 1) := by decide +kernel
theorem dX4_isOrder_3 : decode cX4_isOrder 3 = .ok (.invokevirtual 161, 3) := by decide +kernel
theorem dX4_isOrder_6 : decode cX4_isOrder 6 = .ok (.istore 4, 2) := by decide +kernel
theorem dX4_isOrder_8 : decode cX4_isOrder 8 = .ok (.iload_n 2, 1) := by decide +kernel
theorem dX4_isOrder_9 : decode cX4_isOrder 9 = .ok (.aload_n 0, 1) := by decide +kernel
theorem dX4_isOrder_10 : decode cX4_isOrder 10 = .ok (.iload_n 1, 1) := by decide +kernel
theorem dX4_isOrder_11 : decode cX4_isOrder 11 = .ok (.invokevirtual 158, 3) := by decide +kernel
theorem dX4_isOrder_14 : decode cX4_isOrder 14 = .ok (.iconst 1, 1) := by decide +kernel
theorem dX4_isOrder_15 : decode cX4_isOrder 15 = .ok (.isub, 1) := by decide +kernel
theorem dX4_isOrder_16 : decode cX4_isOrder 16 = .ok (.if_icmp .ne 11, 3) := by decide +kernel
theorem dX4_isOrder_19 : decode cX4_isOrder 19 = .ok (.aload_n 0, 1) := by decide +kernel
theorem dX4_isOrder_20 : decode cX4_isOrder 20 = .ok (.iload 4, 2) := by decide +kernel
theorem dX4_isOrder_22 : decode cX4_isOrder 22 = .ok (.iload_n 3, 1) := by decide +kernel
theorem dX4_isOrder_23 : decode cX4_isOrder 23 = .ok (.invokevirtual 180, 3) := by decide +kernel
theorem dX4_isOrder_26 : decode cX4_isOrder 26 = .ok (.ireturn, 1) := by decide +kernel
theorem dX4_isOrder_27 : decode cX4_isOrder 27 = .ok (.iconst 0, 1) := by decide +kernel
theorem dX4_isOrder_28 : decode cX4_isOrder 28 = .ok (.istore 5, 2) := by decide +kernel
theorem dX4_isOrder_30 : decode cX4_isOrder 30 = .ok (.iconst 0, 1) := by decide +kernel
theorem dX4_isOrder_31 : decode cX4_isOrder 31 = .ok (.istore 6, 2) := by decide +kernel
theorem dX4_isOrder_33 : decode cX4_isOrder 33 = .ok (.iload 6, 2) := by decide +kernel
theorem dX4_isOrder_35 : decode cX4_isOrder 35 = .ok (.bipush 12, 2) := by decide +kernel
theorem dX4_isOrder_37 : decode cX4_isOrder 37 = .ok (.if_icmp .gt 66, 3) := by decide +kernel
theorem dX4_isOrder_40 : decode cX4_isOrder 40 = .ok (.iload 5, 2) := by decide +kernel
theorem dX4_isOrder_42 : decode cX4_isOrder 42 = .ok (.ifCond .ne 61, 3) := by decide +kernel
theorem dX4_isOrder_45 : decode cX4_isOrder 45 = .ok (.iload_n 3, 1) := by decide +kernel
theorem dX4_isOrder_46 : decode cX4_isOrder 46 = .ok (.iload 6, 2) := by decide +kernel
theorem dX4_isOrder_48 : decode cX4_isOrder 48 = .ok (.invokestatic 183, 3) := by decide +kernel
theorem dX4_isOrder_51 : decode cX4_isOrder 51 = .ok (.ifCond .eq 43, 3) := by decide +kernel
theorem dX4_isOrder_54 : decode cX4_isOrder 54 = .ok (.aload_n 0, 1) := by decide +kernel
theorem dX4_isOrder_55 : decode cX4_isOrder 55 = .ok (.iload 4, 2) := by decide +kernel
theorem dX4_isOrder_57 : decode cX4_isOrder 57 = .ok (.iload_n 3, 1) := by decide +kernel
theorem dX4_isOrder_58 : decode cX4_isOrder 58 = .ok (.iload 6, 2) := by decide +kernel
theorem dX4_isOrder_60 : decode cX4_isOrder 60 = .ok (.invokestatic 186, 3) := by decide +kernel
theorem dX4_isOrder_63 : decode cX4_isOrder 63 = .ok (.invokevirtual 180, 3) := by decide +kernel
theorem dX4_isOrder_66 : decode cX4_isOrder 66 = .ok (.ifCond .eq 28, 3) := by decide +kernel
theorem dX4_isOrder_69 : decode cX4_isOrder 69 = .ok (.aload_n 0, 1) := by decide +kernel
theorem dX4_isOrder_70 : decode cX4_isOrder 70 = .ok (.iload_n 1, 1) := by decide +kernel
theorem dX4_isOrder_71 : decode cX4_isOrder 71 = .ok (.iload_n 2, 1) := by decide +kernel
theorem dX4_isOrder_72 : decode cX4_isOrder 72 = .ok (.iconst 1, 1) := by decide +kernel
theorem dX4_isOrder_73 : decode cX4_isOrder 73 = .ok (.iadd, 1) := by decide +kernel
theorem dX4_isOrder_74 : decode cX4_isOrder 74 = .ok (.iload_n 3, 1) := by decide +kernel
theorem dX4_isOrder_75 : decode cX4_isOrder 75 = .ok (.iload_n 3, 1) := by decide +kernel
theorem dX4_isOrder_76 : decode cX4_isOrder 76 = .ok (.iload 6, 2) := by decide +kernel
theorem dX4_isOrder_78 : decode cX4_isOrder 78 = .ok (.invokestatic 186, 3) := by decide +kernel
theorem dX4_isOrder_81 : decode cX4_isOrder 81 = .ok (.iconst (-1), 1) := by decide +kernel
theorem dX4_isOrder_82 : decode cX4_isOrder 82 = .ok (.ixor, 1) := by decide +kernel
theorem dX4_isOrder_83 : decode cX4_isOrder 83 = .ok (.iand, 1) := by decide +kernel
theorem dX4_isOrder_84 : decode cX4_isOrder 84 = .ok (.invokevirtual 170, 3) := by decide +kernel
theorem dX4_isOrder_87 : decode cX4_isOrder 87 = .ok (.ifCond .eq 7, 3) := by decide +kernel
theorem dX4_isOrder_90 : decode cX4_isOrder 90 = .ok (.iconst 1, 1) := by decide +kernel
theorem dX4_isOrder_91 : decode cX4_isOrder 91 = .ok (.goto 4, 3) := by decide +kernel
theorem dX4_isOrder_94 : decode cX4_isOrder 94 = .ok (.iconst 0, 1) := by decide +kernel
theorem dX4_isOrder_95 : decode cX4_isOrder 95 = .ok (.istore 5, 2) := by decide +kernel
theorem dX4_isOrder_97 : decode cX4_isOrder 97 = .ok (.iinc 6 1, 3) := by decide +kernel
theorem dX4_isOrder_100 : decode cX4_isOrder 100 = .ok (.goto (-67), 3) := by decide +kernel
theorem dX4_isOrder_103 : decode cX4_isOrder 103 = .ok (.iload 5, 2) := by decide +kernel
theorem dX4_isOrder_105 : decode cX4_isOrder 105 = .ok (.ireturn, 1) := by decide +kernel
theorem dX4_isAgain_0 : decode cX4_isAgain 0 = .ok (.aload_n 0, 1) := by decide +kernel
theorem dX4_isAgain_1 : decode cX4_isAgain 1 = .ok (.iload_n 1, 1) := by decide +kernel
theorem dX4_isAgain_2 : decode cX4_isAgain 2 = .ok (.iconst 0, 1) := by decide +kernel
theorem dX4_isAgain_3 : decode cX4_isAgain 3 = .ok (.invokevirtual 161, 3) := by decide +kernel
theorem dX4_isAgain_6 : decode cX4_isAgain 6 = .ok (.istore_n 3, 1) := by decide +kernel
theorem dX4_isAgain_7 : decode cX4_isAgain 7 = .ok (.aload_n 0, 1) := by decide +kernel
theorem dX4_isAgain_8 : decode cX4_isAgain 8 = .ok (.iload_n 3, 1) := by decide +kernel
theorem dX4_isAgain_9 : decode cX4_isAgain 9 = .ok (.iload_n 2, 1) := by decide +kernel
theorem dX4_isAgain_10 : decode cX4_isAgain 10 = .ok (.invokevirtual 180, 3) := by decide +kernel
theorem dX4_isAgain_13 : decode cX4_isAgain 13 = .ok (.istore 4, 2) := by decide +kernel
theorem dX4_isAgain_15 : decode cX4_isAgain 15 = .ok (.iconst 0, 1) := by decide +kernel
theorem dX4_isAgain_16 : decode cX4_isAgain 16 = .ok (.istore 5, 2) := by decide +kernel
theorem dX4_isAgain_18 : decode cX4_isAgain 18 = .ok (.iload 5, 2) := by decide +kernel
theorem dX4_isAgain_20 : decode cX4_isAgain 20 = .ok (.bipush 12, 2) := by decide +kernel
theorem dX4_isAgain_22 : decode cX4_isAgain 22 = .ok (.if_icmp .gt 56, 3) := by decide +kernel
theorem dX4_isAgain_25 : decode cX4_isAgain 25 = .ok (.iload 4, 2) := by decide +kernel
theorem dX4_isAgain_27 : decode cX4_isAgain 27 = .ok (.ifCond .ne 51, 3) := by decide +kernel
theorem dX4_isAgain_30 : decode cX4_isAgain 30 = .ok (.iload_n 2, 1) := by decide +kernel
theorem dX4_isAgain_31 : decode cX4_isAgain 31 = .ok (.iload 5, 2) := by decide +kernel
theorem dX4_isAgain_33 : decode cX4_isAgain 33 = .ok (.invokestatic 186, 3) := by decide +kernel
theorem dX4_isAgain_36 : decode cX4_isAgain 36 = .ok (.istore 6, 2) := by decide +kernel
theorem dX4_isAgain_38 : decode cX4_isAgain 38 = .ok (.iload_n 2, 1) := by decide +kernel
theorem dX4_isAgain_39 : decode cX4_isAgain 39 = .ok (.iload 5, 2) := by decide +kernel
theorem dX4_isAgain_41 : decode cX4_isAgain 41 = .ok (.invokestatic 183, 3) := by decide +kernel
theorem dX4_isAgain_44 : decode cX4_isAgain 44 = .ok (.ifCond .eq 28, 3) := by decide +kernel
theorem dX4_isAgain_47 : decode cX4_isAgain 47 = .ok (.aload_n 0, 1) := by decide +kernel
theorem dX4_isAgain_48 : decode cX4_isAgain 48 = .ok (.iload_n 3, 1) := by decide +kernel
theorem dX4_isAgain_49 : decode cX4_isAgain 49 = .ok (.iload 6, 2) := by decide +kernel
theorem dX4_isAgain_51 : decode cX4_isAgain 51 = .ok (.invokevirtual 180, 3) := by decide +kernel
theorem dX4_isAgain_54 : decode cX4_isAgain 54 = .ok (.ifCond .eq 18, 3) := by decide +kernel
theorem dX4_isAgain_57 : decode cX4_isAgain 57 = .ok (.aload_n 0, 1) := by decide +kernel
theorem dX4_isAgain_58 : decode cX4_isAgain 58 = .ok (.iload_n 1, 1) := by decide +kernel
theorem dX4_isAgain_59 : decode cX4_isAgain 59 = .ok (.iload 6, 2) := by decide +kernel
theorem dX4_isAgain_61 : decode cX4_isAgain 61 = .ok (.iload_n 2, 1) := by decide +kernel
theorem dX4_isAgain_62 : decode cX4_isAgain 62 = .ok (.iload 6, 2) := by decide +kernel
theorem dX4_isAgain_64 : decode cX4_isAgain 64 = .ok (.iconst (-1), 1) := by decide +kernel
theorem dX4_isAgain_65 : decode cX4_isAgain 65 = .ok (.ixor, 1) := by decide +kernel
theorem dX4_isAgain_66 : decode cX4_isAgain 66 = .ok (.iand, 1) := by decide +kernel
theorem dX4_isAgain_67 : decode cX4_isAgain 67 = .ok (.invokevirtual 189, 3) := by decide +kernel
theorem dX4_isAgain_70 : decode cX4_isAgain 70 = .ok (.istore 4, 2) := by decide +kernel
theorem dX4_isAgain_72 : decode cX4_isAgain 72 = .ok (.iinc 5 1, 3) := by decide +kernel
theorem dX4_isAgain_75 : decode cX4_isAgain 75 = .ok (.goto (-57), 3) := by decide +kernel
theorem dX4_isAgain_78 : decode cX4_isAgain 78 = .ok (.iload 4, 2) := by decide +kernel
theorem dX4_isAgain_80 : decode cX4_isAgain 80 = .ok (.ireturn, 1) := by decide +kernel
theorem dX4_goesOn_0 : decode cX4_goesOn 0 = .ok (.aload_n 0, 1) := by decide +kernel
theorem dX4_goesOn_1 : decode cX4_goesOn 1 = .ok (.iload_n 1, 1) := by decide +kernel
theorem dX4_goesOn_2 : decode cX4_goesOn 2 = .ok (.invokevirtual 158, 3) := by decide +kernel
theorem dX4_goesOn_5 : decode cX4_goesOn 5 = .ok (.istore 4, 2) := by decide +kernel
theorem dX4_goesOn_7 : decode cX4_goesOn 7 = .ok (.iconst 0, 1) := by decide +kernel
theorem dX4_goesOn_8 : decode cX4_goesOn 8 = .ok (.istore 5, 2) := by decide +kernel
theorem dX4_goesOn_10 : decode cX4_goesOn 10 = .ok (.iconst 1, 1) := by decide +kernel
theorem dX4_goesOn_11 : decode cX4_goesOn 11 = .ok (.istore 6, 2) := by decide +kernel
theorem dX4_goesOn_13 : decode cX4_goesOn 13 = .ok (.iload 6, 2) := by decide +kernel
theorem dX4_goesOn_15 : decode cX4_goesOn 15 = .ok (.iload 4, 2) := by decide +kernel
theorem dX4_goesOn_17 : decode cX4_goesOn 17 = .ok (.if_icmp .ge 92, 3) := by decide +kernel
theorem dX4_goesOn_20 : decode cX4_goesOn 20 = .ok (.iload 5, 2) := by decide +kernel
theorem dX4_goesOn_22 : decode cX4_goesOn 22 = .ok (.ifCond .ne 87, 3) := by decide +kernel
theorem dX4_goesOn_25 : decode cX4_goesOn 25 = .ok (.aload_n 0, 1) := by decide +kernel
theorem dX4_goesOn_26 : decode cX4_goesOn 26 = .ok (.iload_n 1, 1) := by decide +kernel
theorem dX4_goesOn_27 : decode cX4_goesOn 27 = .ok (.iload 6, 2) := by decide +kernel
theorem dX4_goesOn_29 : decode cX4_goesOn 29 = .ok (.invokevirtual 161, 3) := by decide +kernel
theorem dX4_goesOn_32 : decode cX4_goesOn 32 = .ok (.istore 7, 2) := by decide +kernel
theorem dX4_goesOn_34 : decode cX4_goesOn 34 = .ok (.iconst 0, 1) := by decide +kernel
theorem dX4_goesOn_35 : decode cX4_goesOn 35 = .ok (.istore 8, 2) := by decide +kernel
theorem dX4_goesOn_37 : decode cX4_goesOn 37 = .ok (.iload 8, 2) := by decide +kernel
theorem dX4_goesOn_39 : decode cX4_goesOn 39 = .ok (.bipush 12, 2) := by decide +kernel
theorem dX4_goesOn_41 : decode cX4_goesOn 41 = .ok (.if_icmp .gt 62, 3) := by decide +kernel
theorem dX4_goesOn_44 : decode cX4_goesOn 44 = .ok (.iload 5, 2) := by decide +kernel
theorem dX4_goesOn_46 : decode cX4_goesOn 46 = .ok (.ifCond .ne 57, 3) := by decide +kernel
theorem dX4_goesOn_49 : decode cX4_goesOn 49 = .ok (.iload_n 3, 1) := by decide +kernel
theorem dX4_goesOn_50 : decode cX4_goesOn 50 = .ok (.iload 8, 2) := by decide +kernel
theorem dX4_goesOn_52 : decode cX4_goesOn 52 = .ok (.invokestatic 186, 3) := by decide +kernel
theorem dX4_goesOn_55 : decode cX4_goesOn 55 = .ok (.istore 9, 2) := by decide +kernel
theorem dX4_goesOn_57 : decode cX4_goesOn 57 = .ok (.iload_n 3, 1) := by decide +kernel
theorem dX4_goesOn_58 : decode cX4_goesOn 58 = .ok (.iload 8, 2) := by decide +kernel
theorem dX4_goesOn_60 : decode cX4_goesOn 60 = .ok (.invokestatic 183, 3) := by decide +kernel
theorem dX4_goesOn_63 : decode cX4_goesOn 63 = .ok (.ifCond .eq 34, 3) := by decide +kernel
theorem dX4_goesOn_66 : decode cX4_goesOn 66 = .ok (.iload_n 2, 1) := by decide +kernel
theorem dX4_goesOn_67 : decode cX4_goesOn 67 = .ok (.iload 9, 2) := by decide +kernel
theorem dX4_goesOn_69 : decode cX4_goesOn 69 = .ok (.ior, 1) := by decide +kernel
theorem dX4_goesOn_70 : decode cX4_goesOn 70 = .ok (.ifCond .eq 27, 3) := by decide +kernel
theorem dX4_goesOn_73 : decode cX4_goesOn 73 = .ok (.aload_n 0, 1) := by decide +kernel
theorem dX4_goesOn_74 : decode cX4_goesOn 74 = .ok (.iload 7, 2) := by decide +kernel
theorem dX4_goesOn_76 : decode cX4_goesOn 76 = .ok (.iload 9, 2) := by decide +kernel
theorem dX4_goesOn_78 : decode cX4_goesOn 78 = .ok (.invokevirtual 180, 3) := by decide +kernel
theorem dX4_goesOn_81 : decode cX4_goesOn 81 = .ok (.ifCond .eq 16, 3) := by decide +kernel
theorem dX4_goesOn_84 : decode cX4_goesOn 84 = .ok (.aload_n 0, 1) := by decide +kernel
theorem dX4_goesOn_85 : decode cX4_goesOn 85 = .ok (.iload_n 1, 1) := by decide +kernel
theorem dX4_goesOn_86 : decode cX4_goesOn 86 = .ok (.iload_n 3, 1) := by decide +kernel
theorem dX4_goesOn_87 : decode cX4_goesOn 87 = .ok (.iload 9, 2) := by decide +kernel
theorem dX4_goesOn_89 : decode cX4_goesOn 89 = .ok (.iconst (-1), 1) := by decide +kernel
theorem dX4_goesOn_90 : decode cX4_goesOn 90 = .ok (.ixor, 1) := by decide +kernel
theorem dX4_goesOn_91 : decode cX4_goesOn 91 = .ok (.iand, 1) := by decide +kernel
theorem dX4_goesOn_92 : decode cX4_goesOn 92 = .ok (.invokevirtual 174, 3) := by decide +kernel
theorem dX4_goesOn_95 : decode cX4_goesOn 95 = .ok (.istore 5, 2) := by decide +kernel
theorem dX4_goesOn_97 : decode cX4_goesOn 97 = .ok (.iinc 8 1, 3) := by decide +kernel
theorem dX4_goesOn_100 : decode cX4_goesOn 100 = .ok (.goto (-63), 3) := by decide +kernel
theorem dX4_goesOn_103 : decode cX4_goesOn 103 = .ok (.iinc 6 1, 3) := by decide +kernel
theorem dX4_goesOn_106 : decode cX4_goesOn 106 = .ok (.goto (-93), 3) := by decide +kernel
theorem dX4_goesOn_109 : decode cX4_goesOn 109 = .ok (.iload 5, 2) := by decide +kernel
theorem dX4_goesOn_111 : decode cX4_goesOn 111 = .ok (.ireturn, 1) := by decide +kernel
theorem dX4_isTraceWord_0 : decode cX4_isTraceWord 0 = .ok (.iconst 0, 1) := by decide +kernel
theorem dX4_isTraceWord_1 : decode cX4_isTraceWord 1 = .ok (.istore_n 2, 1) := by decide +kernel
theorem dX4_isTraceWord_2 : decode cX4_isTraceWord 2 = .ok (.iload_n 2, 1) := by decide +kernel
theorem dX4_isTraceWord_3 : decode cX4_isTraceWord 3 = .ok (.aload_n 0, 1) := by decide +kernel
theorem dX4_isTraceWord_4 : decode cX4_isTraceWord 4 = .ok (.getfield 16, 3) := by decide +kernel
theorem dX4_isTraceWord_7 : decode cX4_isTraceWord 7 = .ok (.iload_n 1, 1) := by decide +kernel
theorem dX4_isTraceWord_8 : decode cX4_isTraceWord 8 = .ok (.iaload, 1) := by decide +kernel
theorem dX4_isTraceWord_9 : decode cX4_isTraceWord 9 = .ok (.if_icmp .ge 26, 3) := by decide +kernel
theorem dX4_isTraceWord_12 : decode cX4_isTraceWord 12 = .ok (.aload_n 0, 1) := by decide +kernel
theorem dX4_isTraceWord_13 : decode cX4_isTraceWord 13 = .ok (.getfield 31, 3) := by decide +kernel
theorem dX4_isTraceWord_16 : decode cX4_isTraceWord 16 = .ok (.iload_n 2, 1) := by decide +kernel
theorem dX4_isTraceWord_17 : decode cX4_isTraceWord 17 = .ok (.aload_n 0, 1) := by decide +kernel
theorem dX4_isTraceWord_18 : decode cX4_isTraceWord 18 = .ok (.getfield 19, 3) := by decide +kernel
theorem dX4_isTraceWord_21 : decode cX4_isTraceWord 21 = .ok (.bipush 12, 2) := by decide +kernel
theorem dX4_isTraceWord_23 : decode cX4_isTraceWord 23 = .ok (.iload_n 1, 1) := by decide +kernel
theorem dX4_isTraceWord_24 : decode cX4_isTraceWord 24 = .ok (.imul, 1) := by decide +kernel
theorem dX4_isTraceWord_25 : decode cX4_isTraceWord 25 = .ok (.iload_n 2, 1) := by decide +kernel
theorem dX4_isTraceWord_26 : decode cX4_isTraceWord 26 = .ok (.iadd, 1) := by decide +kernel
theorem dX4_isTraceWord_27 : decode cX4_isTraceWord 27 = .ok (.iaload, 1) := by decide +kernel
theorem dX4_isTraceWord_28 : decode cX4_isTraceWord 28 = .ok (.iastore, 1) := by decide +kernel
theorem dX4_isTraceWord_29 : decode cX4_isTraceWord 29 = .ok (.iinc 2 1, 3) := by decide +kernel
theorem dX4_isTraceWord_32 : decode cX4_isTraceWord 32 = .ok (.goto (-30), 3) := by decide +kernel
theorem dX4_isTraceWord_35 : decode cX4_isTraceWord 35 = .ok (.aload_n 0, 1) := by decide +kernel
theorem dX4_isTraceWord_36 : decode cX4_isTraceWord 36 = .ok (.iconst 0, 1) := by decide +kernel
theorem dX4_isTraceWord_37 : decode cX4_isTraceWord 37 = .ok (.iconst 1, 1) := by decide +kernel
theorem dX4_isTraceWord_38 : decode cX4_isTraceWord 38 = .ok (.aload_n 0, 1) := by decide +kernel
theorem dX4_isTraceWord_39 : decode cX4_isTraceWord 39 = .ok (.getfield 16, 3) := by decide +kernel
theorem dX4_isTraceWord_42 : decode cX4_isTraceWord 42 = .ok (.iload_n 1, 1) := by decide +kernel
theorem dX4_isTraceWord_43 : decode cX4_isTraceWord 43 = .ok (.iaload, 1) := by decide +kernel
theorem dX4_isTraceWord_44 : decode cX4_isTraceWord 44 = .ok (.ishl, 1) := by decide +kernel
theorem dX4_isTraceWord_45 : decode cX4_isTraceWord 45 = .ok (.iconst 1, 1) := by decide +kernel
theorem dX4_isTraceWord_46 : decode cX4_isTraceWord 46 = .ok (.isub, 1) := by decide +kernel
theorem dX4_isTraceWord_47 : decode cX4_isTraceWord 47 = .ok (.invokevirtual 180, 3) := by decide +kernel
theorem dX4_isTraceWord_50 : decode cX4_isTraceWord 50 = .ok (.ireturn, 1) := by decide +kernel
theorem dX4_accepts_0 : decode cX4_accepts 0 = .ok (.aload_n 0, 1) := by decide +kernel
theorem dX4_accepts_1 : decode cX4_accepts 1 = .ok (.iload_n 1, 1) := by decide +kernel
theorem dX4_accepts_2 : decode cX4_accepts 2 = .ok (.aload_n 0, 1) := by decide +kernel
theorem dX4_accepts_3 : decode cX4_accepts 3 = .ok (.getfield 38, 3) := by decide +kernel
theorem dX4_accepts_6 : decode cX4_accepts 6 = .ok (.invokevirtual 155, 3) := by decide +kernel
theorem dX4_accepts_9 : decode cX4_accepts 9 = .ok (.ifCond .eq 15, 3) := by decide +kernel
theorem dX4_accepts_12 : decode cX4_accepts 12 = .ok (.aload_n 0, 1) := by decide +kernel
theorem dX4_accepts_13 : decode cX4_accepts 13 = .ok (.iload_n 1, 1) := by decide +kernel
theorem dX4_accepts_14 : decode cX4_accepts 14 = .ok (.invokevirtual 192, 3) := by decide +kernel
theorem dX4_accepts_17 : decode cX4_accepts 17 = .ok (.ifCond .eq 7, 3) := by decide +kernel
theorem dX4_accepts_20 : decode cX4_accepts 20 = .ok (.iconst 1, 1) := by decide +kernel
theorem dX4_accepts_21 : decode cX4_accepts 21 = .ok (.goto 4, 3) := by decide +kernel
theorem dX4_accepts_24 : decode cX4_accepts 24 = .ok (.iconst 0, 1) := by decide +kernel
theorem dX4_accepts_25 : decode cX4_accepts 25 = .ok (.ireturn, 1) := by decide +kernel
theorem dX4_acceptsBuffer_0 : decode cX4_acceptsBuffer 0 = .ok (.aload_n 0, 1) := by decide +kernel
theorem dX4_acceptsBuffer_1 : decode cX4_acceptsBuffer 1 = .ok (.iconst 0, 1) := by decide +kernel
theorem dX4_acceptsBuffer_2 : decode cX4_acceptsBuffer 2 = .ok (.iconst 1, 1) := by decide +kernel
theorem dX4_acceptsBuffer_3 : decode cX4_acceptsBuffer 3 = .ok (.invokevirtual 155, 3) := by decide +kernel
theorem dX4_acceptsBuffer_6 : decode cX4_acceptsBuffer 6 = .ok (.ifCond .ne 5, 3) := by decide +kernel
theorem dX4_acceptsBuffer_9 : decode cX4_acceptsBuffer 9 = .ok (.iconst 0, 1) := by decide +kernel
theorem dX4_acceptsBuffer_10 : decode cX4_acceptsBuffer 10 = .ok (.ireturn, 1) := by decide +kernel
theorem dX4_acceptsBuffer_11 : decode cX4_acceptsBuffer 11 = .ok (.iconst 0, 1) := by decide +kernel
theorem dX4_acceptsBuffer_12 : decode cX4_acceptsBuffer 12 = .ok (.istore_n 1, 1) := by decide +kernel
theorem dX4_acceptsBuffer_13 : decode cX4_acceptsBuffer 13 = .ok (.iload_n 1, 1) := by decide +kernel
theorem dX4_acceptsBuffer_14 : decode cX4_acceptsBuffer 14 = .ok (.aload_n 0, 1) := by decide +kernel
theorem dX4_acceptsBuffer_15 : decode cX4_acceptsBuffer 15 = .ok (.getfield 49, 3) := by decide +kernel
theorem dX4_acceptsBuffer_18 : decode cX4_acceptsBuffer 18 = .ok (.if_icmp .ge 21, 3) := by decide +kernel
theorem dX4_acceptsBuffer_21 : decode cX4_acceptsBuffer 21 = .ok (.aload_n 0, 1) := by decide +kernel
theorem dX4_acceptsBuffer_22 : decode cX4_acceptsBuffer 22 = .ok (.getfield 31, 3) := by decide +kernel
theorem dX4_acceptsBuffer_25 : decode cX4_acceptsBuffer 25 = .ok (.iload_n 1, 1) := by decide +kernel
theorem dX4_acceptsBuffer_26 : decode cX4_acceptsBuffer 26 = .ok (.aload_n 0, 1) := by decide +kernel
theorem dX4_acceptsBuffer_27 : decode cX4_acceptsBuffer 27 = .ok (.getfield 9, 3) := by decide +kernel
theorem dX4_acceptsBuffer_30 : decode cX4_acceptsBuffer 30 = .ok (.iload_n 1, 1) := by decide +kernel
theorem dX4_acceptsBuffer_31 : decode cX4_acceptsBuffer 31 = .ok (.iaload, 1) := by decide +kernel
theorem dX4_acceptsBuffer_32 : decode cX4_acceptsBuffer 32 = .ok (.iastore, 1) := by decide +kernel
theorem dX4_acceptsBuffer_33 : decode cX4_acceptsBuffer 33 = .ok (.iinc 1 1, 3) := by decide +kernel
theorem dX4_acceptsBuffer_36 : decode cX4_acceptsBuffer 36 = .ok (.goto (-23), 3) := by decide +kernel
theorem dX4_acceptsBuffer_39 : decode cX4_acceptsBuffer 39 = .ok (.aload_n 0, 1) := by decide +kernel
theorem dX4_acceptsBuffer_40 : decode cX4_acceptsBuffer 40 = .ok (.iconst 0, 1) := by decide +kernel
theorem dX4_acceptsBuffer_41 : decode cX4_acceptsBuffer 41 = .ok (.iconst 1, 1) := by decide +kernel
theorem dX4_acceptsBuffer_42 : decode cX4_acceptsBuffer 42 = .ok (.aload_n 0, 1) := by decide +kernel
theorem dX4_acceptsBuffer_43 : decode cX4_acceptsBuffer 43 = .ok (.getfield 49, 3) := by decide +kernel
theorem dX4_acceptsBuffer_46 : decode cX4_acceptsBuffer 46 = .ok (.ishl, 1) := by decide +kernel
theorem dX4_acceptsBuffer_47 : decode cX4_acceptsBuffer 47 = .ok (.iconst 1, 1) := by decide +kernel
theorem dX4_acceptsBuffer_48 : decode cX4_acceptsBuffer 48 = .ok (.isub, 1) := by decide +kernel
theorem dX4_acceptsBuffer_49 : decode cX4_acceptsBuffer 49 = .ok (.invokevirtual 180, 3) := by decide +kernel
theorem dX4_acceptsBuffer_52 : decode cX4_acceptsBuffer 52 = .ok (.ireturn, 1) := by decide +kernel
theorem dX4_fitness_0 : decode cX4_fitness 0 = .ok (.aload_n 0, 1) := by decide +kernel
theorem dX4_fitness_1 : decode cX4_fitness 1 = .ok (.iconst 0, 1) := by decide +kernel
theorem dX4_fitness_2 : decode cX4_fitness 2 = .ok (.iconst 1, 1) := by decide +kernel
theorem dX4_fitness_3 : decode cX4_fitness 3 = .ok (.invokevirtual 155, 3) := by decide +kernel
theorem dX4_fitness_6 : decode cX4_fitness 6 = .ok (.ifCond .ne 5, 3) := by decide +kernel
theorem dX4_fitness_9 : decode cX4_fitness 9 = .ok (.dconst 0, 1) := by decide +kernel
theorem dX4_fitness_10 : decode cX4_fitness 10 = .ok (.dreturn, 1) := by decide +kernel
theorem dX4_fitness_11 : decode cX4_fitness 11 = .ok (.iconst 0, 1) := by decide +kernel
theorem dX4_fitness_12 : decode cX4_fitness 12 = .ok (.istore_n 1, 1) := by decide +kernel
theorem dX4_fitness_13 : decode cX4_fitness 13 = .ok (.iconst 0, 1) := by decide +kernel
theorem dX4_fitness_14 : decode cX4_fitness 14 = .ok (.istore_n 2, 1) := by decide +kernel
theorem dX4_fitness_15 : decode cX4_fitness 15 = .ok (.iload_n 2, 1) := by decide +kernel
theorem dX4_fitness_16 : decode cX4_fitness 16 = .ok (.aload_n 0, 1) := by decide +kernel
theorem dX4_fitness_17 : decode cX4_fitness 17 = .ok (.getfield 38, 3) := by decide +kernel
theorem dX4_fitness_20 : decode cX4_fitness 20 = .ok (.if_icmp .ge 25, 3) := by decide +kernel
theorem dX4_fitness_23 : decode cX4_fitness 23 = .ok (.iload_n 1, 1) := by decide +kernel
theorem dX4_fitness_24 : decode cX4_fitness 24 = .ok (.aload_n 0, 1) := by decide +kernel
theorem dX4_fitness_25 : decode cX4_fitness 25 = .ok (.iload_n 2, 1) := by decide +kernel
theorem dX4_fitness_26 : decode cX4_fitness 26 = .ok (.invokevirtual 192, 3) := by decide +kernel
theorem dX4_fitness_29 : decode cX4_fitness 29 = .ok (.ifCond .eq 7, 3) := by decide +kernel
theorem dX4_fitness_32 : decode cX4_fitness 32 = .ok (.iconst 1, 1) := by decide +kernel
theorem dX4_fitness_33 : decode cX4_fitness 33 = .ok (.goto 4, 3) := by decide +kernel
theorem dX4_fitness_36 : decode cX4_fitness 36 = .ok (.iconst 0, 1) := by decide +kernel
theorem dX4_fitness_37 : decode cX4_fitness 37 = .ok (.iadd, 1) := by decide +kernel
theorem dX4_fitness_38 : decode cX4_fitness 38 = .ok (.istore_n 1, 1) := by decide +kernel
theorem dX4_fitness_39 : decode cX4_fitness 39 = .ok (.iinc 2 1, 3) := by decide +kernel
theorem dX4_fitness_42 : decode cX4_fitness 42 = .ok (.goto (-27), 3) := by decide +kernel
theorem dX4_fitness_45 : decode cX4_fitness 45 = .ok (.aload_n 0, 1) := by decide +kernel
theorem dX4_fitness_46 : decode cX4_fitness 46 = .ok (.getfield 38, 3) := by decide +kernel
theorem dX4_fitness_49 : decode cX4_fitness 49 = .ok (.ifCond .ne 7, 3) := by decide +kernel
theorem dX4_fitness_52 : decode cX4_fitness 52 = .ok (.dconst 1, 1) := by decide +kernel
theorem dX4_fitness_53 : decode cX4_fitness 53 = .ok (.goto 11, 3) := by decide +kernel
theorem dX4_fitness_56 : decode cX4_fitness 56 = .ok (.iload_n 1, 1) := by decide +kernel
theorem dX4_fitness_57 : decode cX4_fitness 57 = .ok (.i2d, 1) := by decide +kernel
theorem dX4_fitness_58 : decode cX4_fitness 58 = .ok (.aload_n 0, 1) := by decide +kernel
theorem dX4_fitness_59 : decode cX4_fitness 59 = .ok (.getfield 38, 3) := by decide +kernel
theorem dX4_fitness_62 : decode cX4_fitness 62 = .ok (.i2d, 1) := by decide +kernel
theorem dX4_fitness_63 : decode cX4_fitness 63 = .ok (.ddiv, 1) := by decide +kernel
theorem dX4_fitness_64 : decode cX4_fitness 64 = .ok (.dreturn, 1) := by decide +kernel
theorem dX4_words_0 : decode cX4_words 0 = .ok (.aload_n 0, 1) := by decide +kernel
theorem dX4_words_1 : decode cX4_words 1 = .ok (.iconst 0, 1) := by decide +kernel
theorem dX4_words_2 : decode cX4_words 2 = .ok (.iconst 1, 1) := by decide +kernel
theorem dX4_words_3 : decode cX4_words 3 = .ok (.invokevirtual 155, 3) := by decide +kernel
theorem dX4_words_6 : decode cX4_words 6 = .ok (.ifCond .ne 5, 3) := by decide +kernel
theorem dX4_words_9 : decode cX4_words 9 = .ok (.iconst 0, 1) := by decide +kernel
theorem dX4_words_10 : decode cX4_words 10 = .ok (.ireturn, 1) := by decide +kernel
theorem dX4_words_11 : decode cX4_words 11 = .ok (.iload_n 1, 1) := by decide +kernel
theorem dX4_words_12 : decode cX4_words 12 = .ok (.ifCond .lt 8, 3) := by decide +kernel
theorem dX4_words_15 : decode cX4_words 15 = .ok (.iload_n 1, 1) := by decide +kernel
theorem dX4_words_16 : decode cX4_words 16 = .ok (.iconst 3, 1) := by decide +kernel
theorem dX4_words_17 : decode cX4_words 17 = .ok (.if_icmp .le 9, 3) := by decide +kernel
theorem dX4_words_20 : decode cX4_words 20 = .ok (.aload_n 0, 1) := by decide +kernel
theorem dX4_words_21 : decode cX4_words 21 = .ok (.iconst 2, 1) := by decide +kernel
theorem dX4_words_22 : decode cX4_words 22 = .ok (.invokevirtual 45, 3) := by decide +kernel
theorem dX4_words_25 : decode cX4_words 25 = .ok (.ireturn, 1) := by decide +kernel
theorem dX4_words_26 : decode cX4_words 26 = .ok (.iconst 0, 1) := by decide +kernel
theorem dX4_words_27 : decode cX4_words 27 = .ok (.istore_n 2, 1) := by decide +kernel
theorem dX4_words_28 : decode cX4_words 28 = .ok (.iconst 0, 1) := by decide +kernel
theorem dX4_words_29 : decode cX4_words 29 = .ok (.istore_n 3, 1) := by decide +kernel
theorem dX4_words_30 : decode cX4_words 30 = .ok (.iload_n 3, 1) := by decide +kernel
theorem dX4_words_31 : decode cX4_words 31 = .ok (.iconst 1, 1) := by decide +kernel
theorem dX4_words_32 : decode cX4_words 32 = .ok (.iconst 3, 1) := by decide +kernel
theorem dX4_words_33 : decode cX4_words 33 = .ok (.iload_n 1, 1) := by decide +kernel
theorem dX4_words_34 : decode cX4_words 34 = .ok (.imul, 1) := by decide +kernel
theorem dX4_words_35 : decode cX4_words 35 = .ok (.ishl, 1) := by decide +kernel
theorem dX4_words_36 : decode cX4_words 36 = .ok (.if_icmp .ge 61, 3) := by decide +kernel
theorem dX4_words_39 : decode cX4_words 39 = .ok (.iconst 0, 1) := by decide +kernel
theorem dX4_words_40 : decode cX4_words 40 = .ok (.istore 4, 2) := by decide +kernel
theorem dX4_words_42 : decode cX4_words 42 = .ok (.iload 4, 2) := by decide +kernel
theorem dX4_words_44 : decode cX4_words 44 = .ok (.iload_n 1, 1) := by decide +kernel
theorem dX4_words_45 : decode cX4_words 45 = .ok (.if_icmp .ge 25, 3) := by decide +kernel
theorem dX4_words_48 : decode cX4_words 48 = .ok (.aload_n 0, 1) := by decide +kernel
theorem dX4_words_49 : decode cX4_words 49 = .ok (.getfield 31, 3) := by decide +kernel
theorem dX4_words_52 : decode cX4_words 52 = .ok (.iload 4, 2) := by decide +kernel
theorem dX4_words_54 : decode cX4_words 54 = .ok (.iload_n 3, 1) := by decide +kernel
theorem dX4_words_55 : decode cX4_words 55 = .ok (.iconst 3, 1) := by decide +kernel
theorem dX4_words_56 : decode cX4_words 56 = .ok (.iload 4, 2) := by decide +kernel
theorem dX4_words_58 : decode cX4_words 58 = .ok (.imul, 1) := by decide +kernel
theorem dX4_words_59 : decode cX4_words 59 = .ok (.ishr, 1) := by decide +kernel
theorem dX4_words_60 : decode cX4_words 60 = .ok (.bipush 7, 2) := by decide +kernel
theorem dX4_words_62 : decode cX4_words 62 = .ok (.iand, 1) := by decide +kernel
theorem dX4_words_63 : decode cX4_words 63 = .ok (.iastore, 1) := by decide +kernel
theorem dX4_words_64 : decode cX4_words 64 = .ok (.iinc 4 1, 3) := by decide +kernel
theorem dX4_words_67 : decode cX4_words 67 = .ok (.goto (-25), 3) := by decide +kernel
theorem dX4_words_70 : decode cX4_words 70 = .ok (.iload_n 2, 1) := by decide +kernel
theorem dX4_words_71 : decode cX4_words 71 = .ok (.aload_n 0, 1) := by decide +kernel
theorem dX4_words_72 : decode cX4_words 72 = .ok (.iconst 0, 1) := by decide +kernel
theorem dX4_words_73 : decode cX4_words 73 = .ok (.iconst 1, 1) := by decide +kernel
theorem dX4_words_74 : decode cX4_words 74 = .ok (.iload_n 1, 1) := by decide +kernel
theorem dX4_words_75 : decode cX4_words 75 = .ok (.ishl, 1) := by decide +kernel
theorem dX4_words_76 : decode cX4_words 76 = .ok (.iconst 1, 1) := by decide +kernel
theorem dX4_words_77 : decode cX4_words 77 = .ok (.isub, 1) := by decide +kernel
theorem dX4_words_78 : decode cX4_words 78 = .ok (.invokevirtual 180, 3) := by decide +kernel
theorem dX4_words_81 : decode cX4_words 81 = .ok (.ifCond .eq 7, 3) := by decide +kernel
theorem dX4_words_84 : decode cX4_words 84 = .ok (.iconst 1, 1) := by decide +kernel
theorem dX4_words_85 : decode cX4_words 85 = .ok (.goto 4, 3) := by decide +kernel
theorem dX4_words_88 : decode cX4_words 88 = .ok (.iconst 0, 1) := by decide +kernel
theorem dX4_words_89 : decode cX4_words 89 = .ok (.iadd, 1) := by decide +kernel
theorem dX4_words_90 : decode cX4_words 90 = .ok (.istore_n 2, 1) := by decide +kernel
theorem dX4_words_91 : decode cX4_words 91 = .ok (.iinc 3 1, 3) := by decide +kernel
theorem dX4_words_94 : decode cX4_words 94 = .ok (.goto (-64), 3) := by decide +kernel
theorem dX4_words_97 : decode cX4_words 97 = .ok (.iload_n 2, 1) := by decide +kernel
theorem dX4_words_98 : decode cX4_words 98 = .ok (.ireturn, 1) := by decide +kernel
theorem dX4_digest_0 : decode cX4_digest 0 = .ok (.aload_n 0, 1) := by decide +kernel
theorem dX4_digest_1 : decode cX4_digest 1 = .ok (.iconst 0, 1) := by decide +kernel
theorem dX4_digest_2 : decode cX4_digest 2 = .ok (.putfield 34, 3) := by decide +kernel
theorem dX4_digest_5 : decode cX4_digest 5 = .ok (.ldc2_w 195, 3) := by decide +kernel
theorem dX4_digest_8 : decode cX4_digest 8 = .ok (.aload_n 0, 1) := by decide +kernel
theorem dX4_digest_9 : decode cX4_digest 9 = .ok (.getfield 49, 3) := by decide +kernel
theorem dX4_digest_12 : decode cX4_digest 12 = .ok (.i2l, 1) := by decide +kernel
theorem dX4_digest_13 : decode cX4_digest 13 = .ok (.ladd, 1) := by decide +kernel
theorem dX4_digest_14 : decode cX4_digest 14 = .ok (.lstore_n 1, 1) := by decide +kernel
theorem dX4_digest_15 : decode cX4_digest 15 = .ok (.iconst 0, 1) := by decide +kernel
theorem dX4_digest_16 : decode cX4_digest 16 = .ok (.istore_n 3, 1) := by decide +kernel
theorem dX4_digest_17 : decode cX4_digest 17 = .ok (.iload_n 3, 1) := by decide +kernel
theorem dX4_digest_18 : decode cX4_digest 18 = .ok (.aload_n 0, 1) := by decide +kernel
theorem dX4_digest_19 : decode cX4_digest 19 = .ok (.getfield 49, 3) := by decide +kernel
theorem dX4_digest_22 : decode cX4_digest 22 = .ok (.if_icmp .ge 23, 3) := by decide +kernel
theorem dX4_digest_25 : decode cX4_digest 25 = .ok (.lload_n 1, 1) := by decide +kernel
theorem dX4_digest_26 : decode cX4_digest 26 = .ok (.ldc2_w 197, 3) := by decide +kernel
theorem dX4_digest_29 : decode cX4_digest 29 = .ok (.lmul, 1) := by decide +kernel
theorem dX4_digest_30 : decode cX4_digest 30 = .ok (.aload_n 0, 1) := by decide +kernel
theorem dX4_digest_31 : decode cX4_digest 31 = .ok (.getfield 9, 3) := by decide +kernel
theorem dX4_digest_34 : decode cX4_digest 34 = .ok (.iload_n 3, 1) := by decide +kernel
theorem dX4_digest_35 : decode cX4_digest 35 = .ok (.iaload, 1) := by decide +kernel
theorem dX4_digest_36 : decode cX4_digest 36 = .ok (.i2l, 1) := by decide +kernel
theorem dX4_digest_37 : decode cX4_digest 37 = .ok (.ladd, 1) := by decide +kernel
theorem dX4_digest_38 : decode cX4_digest 38 = .ok (.lstore_n 1, 1) := by decide +kernel
theorem dX4_digest_39 : decode cX4_digest 39 = .ok (.iinc 3 1, 3) := by decide +kernel
theorem dX4_digest_42 : decode cX4_digest 42 = .ok (.goto (-25), 3) := by decide +kernel
theorem dX4_digest_45 : decode cX4_digest 45 = .ok (.lload_n 1, 1) := by decide +kernel
theorem dX4_digest_46 : decode cX4_digest 46 = .ok (.ldc2_w 197, 3) := by decide +kernel
theorem dX4_digest_49 : decode cX4_digest 49 = .ok (.lmul, 1) := by decide +kernel
theorem dX4_digest_50 : decode cX4_digest 50 = .ok (.aload_n 0, 1) := by decide +kernel
theorem dX4_digest_51 : decode cX4_digest 51 = .ok (.getfield 38, 3) := by decide +kernel
theorem dX4_digest_54 : decode cX4_digest 54 = .ok (.i2l, 1) := by decide +kernel
theorem dX4_digest_55 : decode cX4_digest 55 = .ok (.ladd, 1) := by decide +kernel
theorem dX4_digest_56 : decode cX4_digest 56 = .ok (.lstore_n 1, 1) := by decide +kernel
theorem dX4_digest_57 : decode cX4_digest 57 = .ok (.iconst 0, 1) := by decide +kernel
theorem dX4_digest_58 : decode cX4_digest 58 = .ok (.istore_n 3, 1) := by decide +kernel
theorem dX4_digest_59 : decode cX4_digest 59 = .ok (.iload_n 3, 1) := by decide +kernel
theorem dX4_digest_60 : decode cX4_digest 60 = .ok (.aload_n 0, 1) := by decide +kernel
theorem dX4_digest_61 : decode cX4_digest 61 = .ok (.getfield 38, 3) := by decide +kernel
theorem dX4_digest_64 : decode cX4_digest 64 = .ok (.if_icmp .ge 75, 3) := by decide +kernel
theorem dX4_digest_67 : decode cX4_digest 67 = .ok (.lload_n 1, 1) := by decide +kernel
theorem dX4_digest_68 : decode cX4_digest 68 = .ok (.ldc2_w 197, 3) := by decide +kernel
theorem dX4_digest_71 : decode cX4_digest 71 = .ok (.lmul, 1) := by decide +kernel
theorem dX4_digest_72 : decode cX4_digest 72 = .ok (.aload_n 0, 1) := by decide +kernel
theorem dX4_digest_73 : decode cX4_digest 73 = .ok (.getfield 13, 3) := by decide +kernel
theorem dX4_digest_76 : decode cX4_digest 76 = .ok (.iload_n 3, 1) := by decide +kernel
theorem dX4_digest_77 : decode cX4_digest 77 = .ok (.iaload, 1) := by decide +kernel
theorem dX4_digest_78 : decode cX4_digest 78 = .ok (.i2l, 1) := by decide +kernel
theorem dX4_digest_79 : decode cX4_digest 79 = .ok (.ladd, 1) := by decide +kernel
theorem dX4_digest_80 : decode cX4_digest 80 = .ok (.ldc2_w 197, 3) := by decide +kernel
theorem dX4_digest_83 : decode cX4_digest 83 = .ok (.lmul, 1) := by decide +kernel
theorem dX4_digest_84 : decode cX4_digest 84 = .ok (.aload_n 0, 1) := by decide +kernel
theorem dX4_digest_85 : decode cX4_digest 85 = .ok (.getfield 16, 3) := by decide +kernel
theorem dX4_digest_88 : decode cX4_digest 88 = .ok (.iload_n 3, 1) := by decide +kernel
theorem dX4_digest_89 : decode cX4_digest 89 = .ok (.iaload, 1) := by decide +kernel
theorem dX4_digest_90 : decode cX4_digest 90 = .ok (.i2l, 1) := by decide +kernel
theorem dX4_digest_91 : decode cX4_digest 91 = .ok (.ladd, 1) := by decide +kernel
theorem dX4_digest_92 : decode cX4_digest 92 = .ok (.lstore_n 1, 1) := by decide +kernel
theorem dX4_digest_93 : decode cX4_digest 93 = .ok (.iconst 0, 1) := by decide +kernel
theorem dX4_digest_94 : decode cX4_digest 94 = .ok (.istore 4, 2) := by decide +kernel
theorem dX4_digest_96 : decode cX4_digest 96 = .ok (.iload 4, 2) := by decide +kernel
theorem dX4_digest_98 : decode cX4_digest 98 = .ok (.aload_n 0, 1) := by decide +kernel
theorem dX4_digest_99 : decode cX4_digest 99 = .ok (.getfield 16, 3) := by decide +kernel
theorem dX4_digest_102 : decode cX4_digest 102 = .ok (.iload_n 3, 1) := by decide +kernel
theorem dX4_digest_103 : decode cX4_digest 103 = .ok (.iaload, 1) := by decide +kernel
theorem dX4_digest_104 : decode cX4_digest 104 = .ok (.if_icmp .ge 29, 3) := by decide +kernel
theorem dX4_digest_107 : decode cX4_digest 107 = .ok (.lload_n 1, 1) := by decide +kernel
theorem dX4_digest_108 : decode cX4_digest 108 = .ok (.ldc2_w 197, 3) := by decide +kernel
theorem dX4_digest_111 : decode cX4_digest 111 = .ok (.lmul, 1) := by decide +kernel
theorem dX4_digest_112 : decode cX4_digest 112 = .ok (.aload_n 0, 1) := by decide +kernel
theorem dX4_digest_113 : decode cX4_digest 113 = .ok (.getfield 19, 3) := by decide +kernel
theorem dX4_digest_116 : decode cX4_digest 116 = .ok (.bipush 12, 2) := by decide +kernel
theorem dX4_digest_118 : decode cX4_digest 118 = .ok (.iload_n 3, 1) := by decide +kernel
theorem dX4_digest_119 : decode cX4_digest 119 = .ok (.imul, 1) := by decide +kernel
theorem dX4_digest_120 : decode cX4_digest 120 = .ok (.iload 4, 2) := by decide +kernel
theorem dX4_digest_122 : decode cX4_digest 122 = .ok (.iadd, 1) := by decide +kernel
theorem dX4_digest_123 : decode cX4_digest 123 = .ok (.iaload, 1) := by decide +kernel
theorem dX4_digest_124 : decode cX4_digest 124 = .ok (.i2l, 1) := by decide +kernel
theorem dX4_digest_125 : decode cX4_digest 125 = .ok (.ladd, 1) := by decide +kernel
theorem dX4_digest_126 : decode cX4_digest 126 = .ok (.lstore_n 1, 1) := by decide +kernel
theorem dX4_digest_127 : decode cX4_digest 127 = .ok (.iinc 4 1, 3) := by decide +kernel
theorem dX4_digest_130 : decode cX4_digest 130 = .ok (.goto (-34), 3) := by decide +kernel
theorem dX4_digest_133 : decode cX4_digest 133 = .ok (.iinc 3 1, 3) := by decide +kernel
theorem dX4_digest_136 : decode cX4_digest 136 = .ok (.goto (-77), 3) := by decide +kernel
theorem dX4_digest_139 : decode cX4_digest 139 = .ok (.aload_n 0, 1) := by decide +kernel
theorem dX4_digest_140 : decode cX4_digest 140 = .ok (.getfield 55, 3) := by decide +kernel
theorem dX4_digest_143 : decode cX4_digest 143 = .ok (.ifCond .ne 5, 3) := by decide +kernel
theorem dX4_digest_146 : decode cX4_digest 146 = .ok (.lload_n 1, 1) := by decide +kernel
theorem dX4_digest_147 : decode cX4_digest 147 = .ok (.lreturn, 1) := by decide +kernel
theorem dX4_digest_148 : decode cX4_digest 148 = .ok (.lload_n 1, 1) := by decide +kernel
theorem dX4_digest_149 : decode cX4_digest 149 = .ok (.ldc2_w 197, 3) := by decide +kernel
theorem dX4_digest_152 : decode cX4_digest 152 = .ok (.lmul, 1) := by decide +kernel
theorem dX4_digest_153 : decode cX4_digest 153 = .ok (.aload_n 0, 1) := by decide +kernel
theorem dX4_digest_154 : decode cX4_digest 154 = .ok (.getfield 94, 3) := by decide +kernel
theorem dX4_digest_157 : decode cX4_digest 157 = .ok (.i2l, 1) := by decide +kernel
theorem dX4_digest_158 : decode cX4_digest 158 = .ok (.ladd, 1) := by decide +kernel
theorem dX4_digest_159 : decode cX4_digest 159 = .ok (.lstore_n 1, 1) := by decide +kernel
theorem dX4_digest_160 : decode cX4_digest 160 = .ok (.iconst 0, 1) := by decide +kernel
theorem dX4_digest_161 : decode cX4_digest 161 = .ok (.istore_n 3, 1) := by decide +kernel
theorem dX4_digest_162 : decode cX4_digest 162 = .ok (.iload_n 3, 1) := by decide +kernel
theorem dX4_digest_163 : decode cX4_digest 163 = .ok (.aload_n 0, 1) := by decide +kernel
theorem dX4_digest_164 : decode cX4_digest 164 = .ok (.getfield 94, 3) := by decide +kernel
theorem dX4_digest_167 : decode cX4_digest 167 = .ok (.if_icmp .ge 46, 3) := by decide +kernel
theorem dX4_digest_170 : decode cX4_digest 170 = .ok (.lload_n 1, 1) := by decide +kernel
theorem dX4_digest_171 : decode cX4_digest 171 = .ok (.ldc2_w 197, 3) := by decide +kernel
theorem dX4_digest_174 : decode cX4_digest 174 = .ok (.lmul, 1) := by decide +kernel
theorem dX4_digest_175 : decode cX4_digest 175 = .ok (.aload_n 0, 1) := by decide +kernel
theorem dX4_digest_176 : decode cX4_digest 176 = .ok (.getfield 22, 3) := by decide +kernel
theorem dX4_digest_179 : decode cX4_digest 179 = .ok (.iload_n 3, 1) := by decide +kernel
theorem dX4_digest_180 : decode cX4_digest 180 = .ok (.iaload, 1) := by decide +kernel
theorem dX4_digest_181 : decode cX4_digest 181 = .ok (.i2l, 1) := by decide +kernel
theorem dX4_digest_182 : decode cX4_digest 182 = .ok (.ladd, 1) := by decide +kernel
theorem dX4_digest_183 : decode cX4_digest 183 = .ok (.ldc2_w 197, 3) := by decide +kernel
theorem dX4_digest_186 : decode cX4_digest 186 = .ok (.lmul, 1) := by decide +kernel
theorem dX4_digest_187 : decode cX4_digest 187 = .ok (.aload_n 0, 1) := by decide +kernel
theorem dX4_digest_188 : decode cX4_digest 188 = .ok (.getfield 28, 3) := by decide +kernel
theorem dX4_digest_191 : decode cX4_digest 191 = .ok (.iload_n 3, 1) := by decide +kernel
theorem dX4_digest_192 : decode cX4_digest 192 = .ok (.iaload, 1) := by decide +kernel
theorem dX4_digest_193 : decode cX4_digest 193 = .ok (.i2l, 1) := by decide +kernel
theorem dX4_digest_194 : decode cX4_digest 194 = .ok (.ladd, 1) := by decide +kernel
theorem dX4_digest_195 : decode cX4_digest 195 = .ok (.ldc2_w 197, 3) := by decide +kernel
theorem dX4_digest_198 : decode cX4_digest 198 = .ok (.lmul, 1) := by decide +kernel
theorem dX4_digest_199 : decode cX4_digest 199 = .ok (.aload_n 0, 1) := by decide +kernel
theorem dX4_digest_200 : decode cX4_digest 200 = .ok (.iload_n 3, 1) := by decide +kernel
theorem dX4_digest_201 : decode cX4_digest 201 = .ok (.invokevirtual 158, 3) := by decide +kernel
theorem dX4_digest_204 : decode cX4_digest 204 = .ok (.i2l, 1) := by decide +kernel
theorem dX4_digest_205 : decode cX4_digest 205 = .ok (.ladd, 1) := by decide +kernel
theorem dX4_digest_206 : decode cX4_digest 206 = .ok (.lstore_n 1, 1) := by decide +kernel
theorem dX4_digest_207 : decode cX4_digest 207 = .ok (.iinc 3 1, 3) := by decide +kernel
theorem dX4_digest_210 : decode cX4_digest 210 = .ok (.goto (-48), 3) := by decide +kernel
theorem dX4_digest_213 : decode cX4_digest 213 = .ok (.lload_n 1, 1) := by decide +kernel
theorem dX4_digest_214 : decode cX4_digest 214 = .ok (.lreturn, 1) := by decide +kernel

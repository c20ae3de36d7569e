theorem d_OM_init_0 : decode b_OM_init 0 = .ok (.aload_n 0, 1) := by decide +kernel
theorem d_OM_init_1 : decode b_OM_init 1 = .ok (.invokespecial 3, 3) := by decide +kernel
theorem d_OM_init_4 : decode b_OM_init 4 = .ok (.aload_n 0, 1) := by decide +kernel
theorem d_OM_init_5 : decode b_OM_init 5 = .ok (.new 9, 3) := by decide +kernel
theorem d_OM_init_8 : decode b_OM_init 8 = .ok (.dup, 1) := by decide +kernel
theorem d_OM_init_9 : decode b_OM_init 9 = .ok (.invokespecial 11, 3) := by decide +kernel
theorem d_OM_init_12 : decode b_OM_init 12 = .ok (.putfield 12, 3) := by decide +kernel
theorem d_OM_init_15 : decode b_OM_init 15 = .ok (.new 16, 3) := by decide +kernel
theorem d_OM_init_18 : decode b_OM_init 18 = .ok (.dup, 1) := by decide +kernel
theorem d_OM_init_19 : decode b_OM_init 19 = .ok (.aload_n 0, 1) := by decide +kernel
theorem d_OM_init_20 : decode b_OM_init 20 = .ok (.getfield 12, 3) := by decide +kernel
theorem d_OM_init_23 : decode b_OM_init 23 = .ok (.invokespecial 18, 3) := by decide +kernel
theorem d_OM_init_26 : decode b_OM_init 26 = .ok (.astore_n 1, 1) := by decide +kernel
theorem d_OM_init_27 : decode b_OM_init 27 = .ok (.new 21, 3) := by decide +kernel
theorem d_OM_init_30 : decode b_OM_init 30 = .ok (.dup, 1) := by decide +kernel
theorem d_OM_init_31 : decode b_OM_init 31 = .ok (.invokespecial 23, 3) := by decide +kernel
theorem d_OM_init_34 : decode b_OM_init 34 = .ok (.astore_n 2, 1) := by decide +kernel
theorem d_OM_init_35 : decode b_OM_init 35 = .ok (.aload_n 0, 1) := by decide +kernel
theorem d_OM_init_36 : decode b_OM_init 36 = .ok (.new 24, 3) := by decide +kernel
theorem d_OM_init_39 : decode b_OM_init 39 = .ok (.dup, 1) := by decide +kernel
theorem d_OM_init_40 : decode b_OM_init 40 = .ok (.aload_n 0, 1) := by decide +kernel
theorem d_OM_init_41 : decode b_OM_init 41 = .ok (.getfield 12, 3) := by decide +kernel
theorem d_OM_init_44 : decode b_OM_init 44 = .ok (.aload_n 1, 1) := by decide +kernel
theorem d_OM_init_45 : decode b_OM_init 45 = .ok (.aload_n 2, 1) := by decide +kernel
theorem d_OM_init_46 : decode b_OM_init 46 = .ok (.invokespecial 26, 3) := by decide +kernel
theorem d_OM_init_49 : decode b_OM_init 49 = .ok (.putfield 29, 3) := by decide +kernel
theorem d_OM_init_52 : decode b_OM_init 52 = .ok (.aload_n 0, 1) := by decide +kernel
theorem d_OM_init_53 : decode b_OM_init 53 = .ok (.new 33, 3) := by decide +kernel
theorem d_OM_init_56 : decode b_OM_init 56 = .ok (.dup, 1) := by decide +kernel
theorem d_OM_init_57 : decode b_OM_init 57 = .ok (.aload_n 0, 1) := by decide +kernel
theorem d_OM_init_58 : decode b_OM_init 58 = .ok (.getfield 12, 3) := by decide +kernel
theorem d_OM_init_61 : decode b_OM_init 61 = .ok (.aload_n 1, 1) := by decide +kernel
theorem d_OM_init_62 : decode b_OM_init 62 = .ok (.aload_n 2, 1) := by decide +kernel
theorem d_OM_init_63 : decode b_OM_init 63 = .ok (.invokespecial 35, 3) := by decide +kernel
theorem d_OM_init_66 : decode b_OM_init 66 = .ok (.putfield 36, 3) := by decide +kernel
theorem d_OM_init_69 : decode b_OM_init 69 = .ok (.aload_n 0, 1) := by decide +kernel
theorem d_OM_init_70 : decode b_OM_init 70 = .ok (.new 40, 3) := by decide +kernel
theorem d_OM_init_73 : decode b_OM_init 73 = .ok (.dup, 1) := by decide +kernel
theorem d_OM_init_74 : decode b_OM_init 74 = .ok (.aload_n 0, 1) := by decide +kernel
theorem d_OM_init_75 : decode b_OM_init 75 = .ok (.getfield 12, 3) := by decide +kernel
theorem d_OM_init_78 : decode b_OM_init 78 = .ok (.aload_n 1, 1) := by decide +kernel
theorem d_OM_init_79 : decode b_OM_init 79 = .ok (.invokespecial 42, 3) := by decide +kernel
theorem d_OM_init_82 : decode b_OM_init 82 = .ok (.putfield 45, 3) := by decide +kernel
theorem d_OM_init_85 : decode b_OM_init 85 = .ok (.aload_n 0, 1) := by decide +kernel
theorem d_OM_init_86 : decode b_OM_init 86 = .ok (.iconst 4, 1) := by decide +kernel
theorem d_OM_init_87 : decode b_OM_init 87 = .ok (.anewarray 49, 3) := by decide +kernel
theorem d_OM_init_90 : decode b_OM_init 90 = .ok (.putfield 51, 3) := by decide +kernel
theorem d_OM_init_93 : decode b_OM_init 93 = .ok (.aload_n 0, 1) := by decide +kernel
theorem d_OM_init_94 : decode b_OM_init 94 = .ok (.iconst 4, 1) := by decide +kernel
theorem d_OM_init_95 : decode b_OM_init 95 = .ok (.anewarray 49, 3) := by decide +kernel
theorem d_OM_init_98 : decode b_OM_init 98 = .ok (.putfield 55, 3) := by decide +kernel
theorem d_OM_init_101 : decode b_OM_init 101 = .ok (.iconst 0, 1) := by decide +kernel
theorem d_OM_init_102 : decode b_OM_init 102 = .ok (.istore_n 3, 1) := by decide +kernel
theorem d_OM_init_103 : decode b_OM_init 103 = .ok (.iload_n 3, 1) := by decide +kernel
theorem d_OM_init_104 : decode b_OM_init 104 = .ok (.iconst 4, 1) := by decide +kernel
theorem d_OM_init_105 : decode b_OM_init 105 = .ok (.if_icmp .ge 65, 3) := by decide +kernel
theorem d_OM_init_108 : decode b_OM_init 108 = .ok (.iload_n 3, 1) := by decide +kernel
theorem d_OM_init_109 : decode b_OM_init 109 = .ok (.iconst 1, 1) := by decide +kernel
theorem d_OM_init_110 : decode b_OM_init 110 = .ok (.if_icmp .eq 8, 3) := by decide +kernel
theorem d_OM_init_113 : decode b_OM_init 113 = .ok (.iload_n 3, 1) := by decide +kernel
theorem d_OM_init_114 : decode b_OM_init 114 = .ok (.iconst 2, 1) := by decide +kernel
theorem d_OM_init_115 : decode b_OM_init 115 = .ok (.if_icmp .ne 7, 3) := by decide +kernel
theorem d_OM_init_118 : decode b_OM_init 118 = .ok (.iconst 1, 1) := by decide +kernel
theorem d_OM_init_119 : decode b_OM_init 119 = .ok (.goto 4, 3) := by decide +kernel
theorem d_OM_init_122 : decode b_OM_init 122 = .ok (.iconst 0, 1) := by decide +kernel
theorem d_OM_init_123 : decode b_OM_init 123 = .ok (.istore 4, 2) := by decide +kernel
theorem d_OM_init_125 : decode b_OM_init 125 = .ok (.aload_n 0, 1) := by decide +kernel
theorem d_OM_init_126 : decode b_OM_init 126 = .ok (.getfield 51, 3) := by decide +kernel
theorem d_OM_init_129 : decode b_OM_init 129 = .ok (.iload_n 3, 1) := by decide +kernel
theorem d_OM_init_130 : decode b_OM_init 130 = .ok (.new 49, 3) := by decide +kernel
theorem d_OM_init_133 : decode b_OM_init 133 = .ok (.dup, 1) := by decide +kernel
theorem d_OM_init_134 : decode b_OM_init 134 = .ok (.iload 4, 2) := by decide +kernel
theorem d_OM_init_136 : decode b_OM_init 136 = .ok (.ifCond .eq 8, 3) := by decide +kernel
theorem d_OM_init_139 : decode b_OM_init 139 = .ok (.bipush 14, 2) := by decide +kernel
theorem d_OM_init_141 : decode b_OM_init 141 = .ok (.goto 5, 3) := by decide +kernel
theorem d_OM_init_144 : decode b_OM_init 144 = .ok (.bipush 7, 2) := by decide +kernel
theorem d_OM_init_146 : decode b_OM_init 146 = .ok (.invokespecial 58, 3) := by decide +kernel
theorem d_OM_init_149 : decode b_OM_init 149 = .ok (.aastore, 1) := by decide +kernel
theorem d_OM_init_150 : decode b_OM_init 150 = .ok (.aload_n 0, 1) := by decide +kernel
theorem d_OM_init_151 : decode b_OM_init 151 = .ok (.getfield 55, 3) := by decide +kernel
theorem d_OM_init_154 : decode b_OM_init 154 = .ok (.iload_n 3, 1) := by decide +kernel
theorem d_OM_init_155 : decode b_OM_init 155 = .ok (.new 49, 3) := by decide +kernel
theorem d_OM_init_158 : decode b_OM_init 158 = .ok (.dup, 1) := by decide +kernel
theorem d_OM_init_159 : decode b_OM_init 159 = .ok (.iconst 0, 1) := by decide +kernel
theorem d_OM_init_160 : decode b_OM_init 160 = .ok (.invokespecial 58, 3) := by decide +kernel
theorem d_OM_init_163 : decode b_OM_init 163 = .ok (.aastore, 1) := by decide +kernel
theorem d_OM_init_164 : decode b_OM_init 164 = .ok (.iinc 3 1, 3) := by decide +kernel
theorem d_OM_init_167 : decode b_OM_init 167 = .ok (.goto (-64), 3) := by decide +kernel
theorem d_OM_init_170 : decode b_OM_init 170 = .ok (.return_, 1) := by decide +kernel
theorem d_OM_thread_0 : decode b_OM_thread 0 = .ok (.aload_n 0, 1) := by decide +kernel
theorem d_OM_thread_1 : decode b_OM_thread 1 = .ok (.getfield 12, 3) := by decide +kernel
theorem d_OM_thread_4 : decode b_OM_thread 4 = .ok (.invokevirtual 61, 3) := by decide +kernel
theorem d_OM_thread_7 : decode b_OM_thread 7 = .ok (.istore_n 1, 1) := by decide +kernel
theorem d_OM_thread_8 : decode b_OM_thread 8 = .ok (.iload_n 1, 1) := by decide +kernel
theorem d_OM_thread_9 : decode b_OM_thread 9 = .ok (.iconst (-1), 1) := by decide +kernel
theorem d_OM_thread_10 : decode b_OM_thread 10 = .ok (.if_icmp .eq 7, 3) := by decide +kernel
theorem d_OM_thread_13 : decode b_OM_thread 13 = .ok (.aload_n 0, 1) := by decide +kernel
theorem d_OM_thread_14 : decode b_OM_thread 14 = .ok (.invokevirtual 65, 3) := by decide +kernel
theorem d_OM_thread_17 : decode b_OM_thread 17 = .ok (.iload_n 1, 1) := by decide +kernel
theorem d_OM_thread_18 : decode b_OM_thread 18 = .ok (.ireturn, 1) := by decide +kernel
theorem d_OM_action_0 : decode b_OM_action 0 = .ok (.iload_n 2, 1) := by decide +kernel
theorem d_OM_action_1 : decode b_OM_action 1 = .ok (.iload_n 3, 1) := by decide +kernel
theorem d_OM_action_2 : decode b_OM_action 2 = .ok (.iload 4, 2) := by decide +kernel
theorem d_OM_action_4 : decode b_OM_action 4 = .ok (.iload 5, 2) := by decide +kernel
theorem d_OM_action_6 : decode b_OM_action 6 = .ok (.invokestatic 68, 3) := by decide +kernel
theorem d_OM_action_9 : decode b_OM_action 9 = .ok (.ifCond .ne 5, 3) := by decide +kernel
theorem d_OM_action_12 : decode b_OM_action 12 = .ok (.iconst (-1), 1) := by decide +kernel
theorem d_OM_action_13 : decode b_OM_action 13 = .ok (.ireturn, 1) := by decide +kernel
theorem d_OM_action_14 : decode b_OM_action 14 = .ok (.aload_n 0, 1) := by decide +kernel
theorem d_OM_action_15 : decode b_OM_action 15 = .ok (.getfield 12, 3) := by decide +kernel
theorem d_OM_action_18 : decode b_OM_action 18 = .ok (.iload_n 1, 1) := by decide +kernel
theorem d_OM_action_19 : decode b_OM_action 19 = .ok (.iload_n 2, 1) := by decide +kernel
theorem d_OM_action_20 : decode b_OM_action 20 = .ok (.iload_n 3, 1) := by decide +kernel
theorem d_OM_action_21 : decode b_OM_action 21 = .ok (.iload 4, 2) := by decide +kernel
theorem d_OM_action_23 : decode b_OM_action 23 = .ok (.iload 5, 2) := by decide +kernel
theorem d_OM_action_25 : decode b_OM_action 25 = .ok (.invokevirtual 72, 3) := by decide +kernel
theorem d_OM_action_28 : decode b_OM_action 28 = .ok (.istore 6, 2) := by decide +kernel
theorem d_OM_action_30 : decode b_OM_action 30 = .ok (.iload 6, 2) := by decide +kernel
theorem d_OM_action_32 : decode b_OM_action 32 = .ok (.iconst (-1), 1) := by decide +kernel
theorem d_OM_action_33 : decode b_OM_action 33 = .ok (.if_icmp .eq 7, 3) := by decide +kernel
theorem d_OM_action_36 : decode b_OM_action 36 = .ok (.aload_n 0, 1) := by decide +kernel
theorem d_OM_action_37 : decode b_OM_action 37 = .ok (.invokevirtual 65, 3) := by decide +kernel
theorem d_OM_action_40 : decode b_OM_action 40 = .ok (.iload 6, 2) := by decide +kernel
theorem d_OM_action_42 : decode b_OM_action 42 = .ok (.ireturn, 1) := by decide +kernel
theorem d_OM_clear_0 : decode b_OM_clear 0 = .ok (.aload_n 0, 1) := by decide +kernel
theorem d_OM_clear_1 : decode b_OM_clear 1 = .ok (.getfield 12, 3) := by decide +kernel
theorem d_OM_clear_4 : decode b_OM_clear 4 = .ok (.getfield 76, 3) := by decide +kernel
theorem d_OM_clear_7 : decode b_OM_clear 7 = .ok (.istore_n 1, 1) := by decide +kernel
theorem d_OM_clear_8 : decode b_OM_clear 8 = .ok (.aload_n 0, 1) := by decide +kernel
theorem d_OM_clear_9 : decode b_OM_clear 9 = .ok (.getfield 12, 3) := by decide +kernel
theorem d_OM_clear_12 : decode b_OM_clear 12 = .ok (.invokevirtual 80, 3) := by decide +kernel
theorem d_OM_clear_15 : decode b_OM_clear 15 = .ok (.aload_n 0, 1) := by decide +kernel
theorem d_OM_clear_16 : decode b_OM_clear 16 = .ok (.invokevirtual 65, 3) := by decide +kernel
theorem d_OM_clear_19 : decode b_OM_clear 19 = .ok (.iload_n 1, 1) := by decide +kernel
theorem d_OM_clear_20 : decode b_OM_clear 20 = .ok (.ireturn, 1) := by decide +kernel
theorem d_OM_runs_0 : decode b_OM_runs 0 = .ok (.iload_n 1, 1) := by decide +kernel
theorem d_OM_runs_1 : decode b_OM_runs 1 = .ok (.invokestatic 83, 3) := by decide +kernel
theorem d_OM_runs_4 : decode b_OM_runs 4 = .ok (.ifCond .eq 14, 3) := by decide +kernel
theorem d_OM_runs_7 : decode b_OM_runs 7 = .ok (.aload_n 0, 1) := by decide +kernel
theorem d_OM_runs_8 : decode b_OM_runs 8 = .ok (.iload_n 1, 1) := by decide +kernel
theorem d_OM_runs_9 : decode b_OM_runs 9 = .ok (.invokevirtual 87, 3) := by decide +kernel
theorem d_OM_runs_12 : decode b_OM_runs 12 = .ok (.getfield 91, 3) := by decide +kernel
theorem d_OM_runs_15 : decode b_OM_runs 15 = .ok (.goto 4, 3) := by decide +kernel
theorem d_OM_runs_18 : decode b_OM_runs 18 = .ok (.iconst (-1), 1) := by decide +kernel
theorem d_OM_runs_19 : decode b_OM_runs 19 = .ok (.ireturn, 1) := by decide +kernel
theorem d_OM_outcome_0 : decode b_OM_outcome 0 = .ok (.iload_n 1, 1) := by decide +kernel
theorem d_OM_outcome_1 : decode b_OM_outcome 1 = .ok (.invokestatic 83, 3) := by decide +kernel
theorem d_OM_outcome_4 : decode b_OM_outcome 4 = .ok (.ifCond .eq 16, 3) := by decide +kernel
theorem d_OM_outcome_7 : decode b_OM_outcome 7 = .ok (.aload_n 0, 1) := by decide +kernel
theorem d_OM_outcome_8 : decode b_OM_outcome 8 = .ok (.iload_n 1, 1) := by decide +kernel
theorem d_OM_outcome_9 : decode b_OM_outcome 9 = .ok (.invokevirtual 87, 3) := by decide +kernel
theorem d_OM_outcome_12 : decode b_OM_outcome 12 = .ok (.iload_n 2, 1) := by decide +kernel
theorem d_OM_outcome_13 : decode b_OM_outcome 13 = .ok (.iload_n 3, 1) := by decide +kernel
theorem d_OM_outcome_14 : decode b_OM_outcome 14 = .ok (.invokevirtual 94, 3) := by decide +kernel
theorem d_OM_outcome_17 : decode b_OM_outcome 17 = .ok (.goto 6, 3) := by decide +kernel
theorem d_OM_outcome_20 : decode b_OM_outcome 20 = .ok (.sipush (-1000), 3) := by decide +kernel
theorem d_OM_outcome_23 : decode b_OM_outcome 23 = .ok (.ireturn, 1) := by decide +kernel
theorem d_OM_witness_0 : decode b_OM_witness 0 = .ok (.iload_n 1, 1) := by decide +kernel
theorem d_OM_witness_1 : decode b_OM_witness 1 = .ok (.invokestatic 83, 3) := by decide +kernel
theorem d_OM_witness_4 : decode b_OM_witness 4 = .ok (.ifCond .eq 16, 3) := by decide +kernel
theorem d_OM_witness_7 : decode b_OM_witness 7 = .ok (.aload_n 0, 1) := by decide +kernel
theorem d_OM_witness_8 : decode b_OM_witness 8 = .ok (.iload_n 1, 1) := by decide +kernel
theorem d_OM_witness_9 : decode b_OM_witness 9 = .ok (.invokevirtual 87, 3) := by decide +kernel
theorem d_OM_witness_12 : decode b_OM_witness 12 = .ok (.iload_n 2, 1) := by decide +kernel
theorem d_OM_witness_13 : decode b_OM_witness 13 = .ok (.iload_n 3, 1) := by decide +kernel
theorem d_OM_witness_14 : decode b_OM_witness 14 = .ok (.invokevirtual 98, 3) := by decide +kernel
theorem d_OM_witness_17 : decode b_OM_witness 17 = .ok (.goto 4, 3) := by decide +kernel
theorem d_OM_witness_20 : decode b_OM_witness 20 = .ok (.iconst (-1), 1) := by decide +kernel
theorem d_OM_witness_21 : decode b_OM_witness 21 = .ok (.ireturn, 1) := by decide +kernel
theorem d_OM_orders_0 : decode b_OM_orders 0 = .ok (.iload_n 1, 1) := by decide +kernel
theorem d_OM_orders_1 : decode b_OM_orders 1 = .ok (.invokestatic 83, 3) := by decide +kernel
theorem d_OM_orders_4 : decode b_OM_orders 4 = .ok (.ifCond .eq 14, 3) := by decide +kernel
theorem d_OM_orders_7 : decode b_OM_orders 7 = .ok (.aload_n 0, 1) := by decide +kernel
theorem d_OM_orders_8 : decode b_OM_orders 8 = .ok (.iload_n 1, 1) := by decide +kernel
theorem d_OM_orders_9 : decode b_OM_orders 9 = .ok (.invokevirtual 101, 3) := by decide +kernel
theorem d_OM_orders_12 : decode b_OM_orders 12 = .ok (.getfield 91, 3) := by decide +kernel
theorem d_OM_orders_15 : decode b_OM_orders 15 = .ok (.goto 4, 3) := by decide +kernel
theorem d_OM_orders_18 : decode b_OM_orders 18 = .ok (.iconst (-1), 1) := by decide +kernel
theorem d_OM_orders_19 : decode b_OM_orders 19 = .ok (.ireturn, 1) := by decide +kernel
theorem d_OM_ordered_0 : decode b_OM_ordered 0 = .ok (.iload_n 1, 1) := by decide +kernel
theorem d_OM_ordered_1 : decode b_OM_ordered 1 = .ok (.invokestatic 83, 3) := by decide +kernel
theorem d_OM_ordered_4 : decode b_OM_ordered 4 = .ok (.ifCond .eq 16, 3) := by decide +kernel
theorem d_OM_ordered_7 : decode b_OM_ordered 7 = .ok (.aload_n 0, 1) := by decide +kernel
theorem d_OM_ordered_8 : decode b_OM_ordered 8 = .ok (.iload_n 1, 1) := by decide +kernel
theorem d_OM_ordered_9 : decode b_OM_ordered 9 = .ok (.invokevirtual 101, 3) := by decide +kernel
theorem d_OM_ordered_12 : decode b_OM_ordered 12 = .ok (.iload_n 2, 1) := by decide +kernel
theorem d_OM_ordered_13 : decode b_OM_ordered 13 = .ok (.iload_n 3, 1) := by decide +kernel
theorem d_OM_ordered_14 : decode b_OM_ordered 14 = .ok (.invokevirtual 94, 3) := by decide +kernel
theorem d_OM_ordered_17 : decode b_OM_ordered 17 = .ok (.goto 6, 3) := by decide +kernel
theorem d_OM_ordered_20 : decode b_OM_ordered 20 = .ok (.sipush (-1000), 3) := by decide +kernel
theorem d_OM_ordered_23 : decode b_OM_ordered 23 = .ok (.ireturn, 1) := by decide +kernel
theorem d_OM_graphs_0 : decode b_OM_graphs 0 = .ok (.iload_n 1, 1) := by decide +kernel
theorem d_OM_graphs_1 : decode b_OM_graphs 1 = .ok (.invokestatic 83, 3) := by decide +kernel
theorem d_OM_graphs_4 : decode b_OM_graphs 4 = .ok (.ifCond .eq 14, 3) := by decide +kernel
theorem d_OM_graphs_7 : decode b_OM_graphs 7 = .ok (.aload_n 0, 1) := by decide +kernel
theorem d_OM_graphs_8 : decode b_OM_graphs 8 = .ok (.iload_n 1, 1) := by decide +kernel
theorem d_OM_graphs_9 : decode b_OM_graphs 9 = .ok (.invokevirtual 101, 3) := by decide +kernel
theorem d_OM_graphs_12 : decode b_OM_graphs 12 = .ok (.getfield 104, 3) := by decide +kernel
theorem d_OM_graphs_15 : decode b_OM_graphs 15 = .ok (.goto 4, 3) := by decide +kernel
theorem d_OM_graphs_18 : decode b_OM_graphs 18 = .ok (.iconst (-1), 1) := by decide +kernel
theorem d_OM_graphs_19 : decode b_OM_graphs 19 = .ok (.ireturn, 1) := by decide +kernel
theorem d_OM_races_0 : decode b_OM_races 0 = .ok (.aload_n 0, 1) := by decide +kernel
theorem d_OM_races_1 : decode b_OM_races 1 = .ok (.iconst 0, 1) := by decide +kernel
theorem d_OM_races_2 : decode b_OM_races 2 = .ok (.invokevirtual 87, 3) := by decide +kernel
theorem d_OM_races_5 : decode b_OM_races 5 = .ok (.pop, 1) := by decide +kernel
theorem d_OM_races_6 : decode b_OM_races 6 = .ok (.iconst 0, 1) := by decide +kernel
theorem d_OM_races_7 : decode b_OM_races 7 = .ok (.istore_n 1, 1) := by decide +kernel
theorem d_OM_races_8 : decode b_OM_races 8 = .ok (.iconst 0, 1) := by decide +kernel
theorem d_OM_races_9 : decode b_OM_races 9 = .ok (.istore_n 2, 1) := by decide +kernel
theorem d_OM_races_10 : decode b_OM_races 10 = .ok (.iload_n 2, 1) := by decide +kernel
theorem d_OM_races_11 : decode b_OM_races 11 = .ok (.aload_n 0, 1) := by decide +kernel
theorem d_OM_races_12 : decode b_OM_races 12 = .ok (.getfield 12, 3) := by decide +kernel
theorem d_OM_races_15 : decode b_OM_races 15 = .ok (.getfield 111, 3) := by decide +kernel
theorem d_OM_races_18 : decode b_OM_races 18 = .ok (.if_icmp .ge 24, 3) := by decide +kernel
theorem d_OM_races_21 : decode b_OM_races 21 = .ok (.iload_n 1, 1) := by decide +kernel
theorem d_OM_races_22 : decode b_OM_races 22 = .ok (.aload_n 0, 1) := by decide +kernel
theorem d_OM_races_23 : decode b_OM_races 23 = .ok (.getfield 29, 3) := by decide +kernel
theorem d_OM_races_26 : decode b_OM_races 26 = .ok (.getfield 114, 3) := by decide +kernel
theorem d_OM_races_29 : decode b_OM_races 29 = .ok (.iload_n 2, 1) := by decide +kernel
theorem d_OM_races_30 : decode b_OM_races 30 = .ok (.iaload, 1) := by decide +kernel
theorem d_OM_races_31 : decode b_OM_races 31 = .ok (.invokestatic 118, 3) := by decide +kernel
theorem d_OM_races_34 : decode b_OM_races 34 = .ok (.iadd, 1) := by decide +kernel
theorem d_OM_races_35 : decode b_OM_races 35 = .ok (.istore_n 1, 1) := by decide +kernel
theorem d_OM_races_36 : decode b_OM_races 36 = .ok (.iinc 2 1, 3) := by decide +kernel
theorem d_OM_races_39 : decode b_OM_races 39 = .ok (.goto (-29), 3) := by decide +kernel
theorem d_OM_races_42 : decode b_OM_races 42 = .ok (.iload_n 1, 1) := by decide +kernel
theorem d_OM_races_43 : decode b_OM_races 43 = .ok (.iconst 1, 1) := by decide +kernel
theorem d_OM_races_44 : decode b_OM_races 44 = .ok (.ishr, 1) := by decide +kernel
theorem d_OM_races_45 : decode b_OM_races 45 = .ok (.ireturn, 1) := by decide +kernel
theorem d_OM_race_0 : decode b_OM_race 0 = .ok (.aload_n 0, 1) := by decide +kernel
theorem d_OM_race_1 : decode b_OM_race 1 = .ok (.getfield 12, 3) := by decide +kernel
theorem d_OM_race_4 : decode b_OM_race 4 = .ok (.iload_n 1, 1) := by decide +kernel
theorem d_OM_race_5 : decode b_OM_race 5 = .ok (.iload_n 2, 1) := by decide +kernel
theorem d_OM_race_6 : decode b_OM_race 6 = .ok (.invokevirtual 124, 3) := by decide +kernel
theorem d_OM_race_9 : decode b_OM_race 9 = .ok (.istore 5, 2) := by decide +kernel
theorem d_OM_race_11 : decode b_OM_race 11 = .ok (.aload_n 0, 1) := by decide +kernel
theorem d_OM_race_12 : decode b_OM_race 12 = .ok (.getfield 12, 3) := by decide +kernel
theorem d_OM_race_15 : decode b_OM_race 15 = .ok (.iload_n 3, 1) := by decide +kernel
theorem d_OM_race_16 : decode b_OM_race 16 = .ok (.iload 4, 2) := by decide +kernel
theorem d_OM_race_18 : decode b_OM_race 18 = .ok (.invokevirtual 124, 3) := by decide +kernel
theorem d_OM_race_21 : decode b_OM_race 21 = .ok (.istore 6, 2) := by decide +kernel
theorem d_OM_race_23 : decode b_OM_race 23 = .ok (.iload 5, 2) := by decide +kernel
theorem d_OM_race_25 : decode b_OM_race 25 = .ok (.iconst (-1), 1) := by decide +kernel
theorem d_OM_race_26 : decode b_OM_race 26 = .ok (.if_icmp .eq 14, 3) := by decide +kernel
theorem d_OM_race_29 : decode b_OM_race 29 = .ok (.iload 6, 2) := by decide +kernel
theorem d_OM_race_31 : decode b_OM_race 31 = .ok (.iconst (-1), 1) := by decide +kernel
theorem d_OM_race_32 : decode b_OM_race 32 = .ok (.if_icmp .eq 8, 3) := by decide +kernel
theorem d_OM_race_35 : decode b_OM_race 35 = .ok (.iload_n 1, 1) := by decide +kernel
theorem d_OM_race_36 : decode b_OM_race 36 = .ok (.iload_n 3, 1) := by decide +kernel
theorem d_OM_race_37 : decode b_OM_race 37 = .ok (.if_icmp .ne 5, 3) := by decide +kernel
theorem d_OM_race_40 : decode b_OM_race 40 = .ok (.iconst (-1), 1) := by decide +kernel
theorem d_OM_race_41 : decode b_OM_race 41 = .ok (.ireturn, 1) := by decide +kernel
theorem d_OM_race_42 : decode b_OM_race 42 = .ok (.aload_n 0, 1) := by decide +kernel
theorem d_OM_race_43 : decode b_OM_race 43 = .ok (.iconst 0, 1) := by decide +kernel
theorem d_OM_race_44 : decode b_OM_race 44 = .ok (.invokevirtual 87, 3) := by decide +kernel
theorem d_OM_race_47 : decode b_OM_race 47 = .ok (.pop, 1) := by decide +kernel
theorem d_OM_race_48 : decode b_OM_race 48 = .ok (.aload_n 0, 1) := by decide +kernel
theorem d_OM_race_49 : decode b_OM_race 49 = .ok (.getfield 29, 3) := by decide +kernel
theorem d_OM_race_52 : decode b_OM_race 52 = .ok (.getfield 114, 3) := by decide +kernel
theorem d_OM_race_55 : decode b_OM_race 55 = .ok (.iload 5, 2) := by decide +kernel
theorem d_OM_race_57 : decode b_OM_race 57 = .ok (.iaload, 1) := by decide +kernel
theorem d_OM_race_58 : decode b_OM_race 58 = .ok (.iload 6, 2) := by decide +kernel
theorem d_OM_race_60 : decode b_OM_race 60 = .ok (.invokestatic 127, 3) := by decide +kernel
theorem d_OM_race_63 : decode b_OM_race 63 = .ok (.ifCond .eq 7, 3) := by decide +kernel
theorem d_OM_race_66 : decode b_OM_race 66 = .ok (.iconst 1, 1) := by decide +kernel
theorem d_OM_race_67 : decode b_OM_race 67 = .ok (.goto 4, 3) := by decide +kernel
theorem d_OM_race_70 : decode b_OM_race 70 = .ok (.iconst 0, 1) := by decide +kernel
theorem d_OM_race_71 : decode b_OM_race 71 = .ok (.ireturn, 1) := by decide +kernel
theorem d_OM_isModel_0 : decode b_OM_isModel 0 = .ok (.iload_n 0, 1) := by decide +kernel
theorem d_OM_isModel_1 : decode b_OM_isModel 1 = .ok (.ifCond .lt 12, 3) := by decide +kernel
theorem d_OM_isModel_4 : decode b_OM_isModel 4 = .ok (.iload_n 0, 1) := by decide +kernel
theorem d_OM_isModel_5 : decode b_OM_isModel 5 = .ok (.iconst 4, 1) := by decide +kernel
theorem d_OM_isModel_6 : decode b_OM_isModel 6 = .ok (.if_icmp .ge 7, 3) := by decide +kernel
theorem d_OM_isModel_9 : decode b_OM_isModel 9 = .ok (.iconst 1, 1) := by decide +kernel
theorem d_OM_isModel_10 : decode b_OM_isModel 10 = .ok (.goto 4, 3) := by decide +kernel
theorem d_OM_isModel_13 : decode b_OM_isModel 13 = .ok (.iconst 0, 1) := by decide +kernel
theorem d_OM_isModel_14 : decode b_OM_isModel 14 = .ok (.ireturn, 1) := by decide +kernel
theorem d_OM_isAction_0 : decode b_OM_isAction 0 = .ok (.iload_n 1, 1) := by decide +kernel
theorem d_OM_isAction_1 : decode b_OM_isAction 1 = .ok (.ifCond .lt 12, 3) := by decide +kernel
theorem d_OM_isAction_4 : decode b_OM_isAction 4 = .ok (.iload_n 1, 1) := by decide +kernel
theorem d_OM_isAction_5 : decode b_OM_isAction 5 = .ok (.iconst 3, 1) := by decide +kernel
theorem d_OM_isAction_6 : decode b_OM_isAction 6 = .ok (.if_icmp .ge 7, 3) := by decide +kernel
theorem d_OM_isAction_9 : decode b_OM_isAction 9 = .ok (.iconst 1, 1) := by decide +kernel
theorem d_OM_isAction_10 : decode b_OM_isAction 10 = .ok (.goto 4, 3) := by decide +kernel
theorem d_OM_isAction_13 : decode b_OM_isAction 13 = .ok (.iconst 0, 1) := by decide +kernel
theorem d_OM_isAction_14 : decode b_OM_isAction 14 = .ok (.istore 4, 2) := by decide +kernel
theorem d_OM_isAction_16 : decode b_OM_isAction 16 = .ok (.iload_n 2, 1) := by decide +kernel
theorem d_OM_isAction_17 : decode b_OM_isAction 17 = .ok (.ifCond .lt 12, 3) := by decide +kernel
theorem d_OM_isAction_20 : decode b_OM_isAction 20 = .ok (.iload_n 2, 1) := by decide +kernel
theorem d_OM_isAction_21 : decode b_OM_isAction 21 = .ok (.iconst 2, 1) := by decide +kernel
theorem d_OM_isAction_22 : decode b_OM_isAction 22 = .ok (.if_icmp .ge 7, 3) := by decide +kernel
theorem d_OM_isAction_25 : decode b_OM_isAction 25 = .ok (.iconst 1, 1) := by decide +kernel
theorem d_OM_isAction_26 : decode b_OM_isAction 26 = .ok (.goto 4, 3) := by decide +kernel
theorem d_OM_isAction_29 : decode b_OM_isAction 29 = .ok (.iconst 0, 1) := by decide +kernel
theorem d_OM_isAction_30 : decode b_OM_isAction 30 = .ok (.istore 5, 2) := by decide +kernel
theorem d_OM_isAction_32 : decode b_OM_isAction 32 = .ok (.iload_n 3, 1) := by decide +kernel
theorem d_OM_isAction_33 : decode b_OM_isAction 33 = .ok (.bipush (-9), 2) := by decide +kernel
theorem d_OM_isAction_35 : decode b_OM_isAction 35 = .ok (.if_icmp .lt 13, 3) := by decide +kernel
theorem d_OM_isAction_38 : decode b_OM_isAction 38 = .ok (.iload_n 3, 1) := by decide +kernel
theorem d_OM_isAction_39 : decode b_OM_isAction 39 = .ok (.bipush 9, 2) := by decide +kernel
theorem d_OM_isAction_41 : decode b_OM_isAction 41 = .ok (.if_icmp .gt 7, 3) := by decide +kernel
theorem d_OM_isAction_44 : decode b_OM_isAction 44 = .ok (.iconst 1, 1) := by decide +kernel
theorem d_OM_isAction_45 : decode b_OM_isAction 45 = .ok (.goto 4, 3) := by decide +kernel
theorem d_OM_isAction_48 : decode b_OM_isAction 48 = .ok (.iconst 0, 1) := by decide +kernel
theorem d_OM_isAction_49 : decode b_OM_isAction 49 = .ok (.istore 6, 2) := by decide +kernel
theorem d_OM_isAction_51 : decode b_OM_isAction 51 = .ok (.iload_n 0, 1) := by decide +kernel
theorem d_OM_isAction_52 : decode b_OM_isAction 52 = .ok (.tableswitch 145 0 5 #[40, 60, 80, 80, 101, 119], 40) := by decide +kernel
theorem d_OM_isAction_92 : decode b_OM_isAction 92 = .ok (.iload 4, 2) := by decide +kernel
theorem d_OM_isAction_94 : decode b_OM_isAction 94 = .ok (.ifCond .eq 16, 3) := by decide +kernel
theorem d_OM_isAction_97 : decode b_OM_isAction 97 = .ok (.iload 5, 2) := by decide +kernel
theorem d_OM_isAction_99 : decode b_OM_isAction 99 = .ok (.ifCond .eq 11, 3) := by decide +kernel
theorem d_OM_isAction_102 : decode b_OM_isAction 102 = .ok (.iload_n 3, 1) := by decide +kernel
theorem d_OM_isAction_103 : decode b_OM_isAction 103 = .ok (.ifCond .ne 7, 3) := by decide +kernel
theorem d_OM_isAction_106 : decode b_OM_isAction 106 = .ok (.iconst 1, 1) := by decide +kernel
theorem d_OM_isAction_107 : decode b_OM_isAction 107 = .ok (.goto 4, 3) := by decide +kernel
theorem d_OM_isAction_110 : decode b_OM_isAction 110 = .ok (.iconst 0, 1) := by decide +kernel
theorem d_OM_isAction_111 : decode b_OM_isAction 111 = .ok (.ireturn, 1) := by decide +kernel
theorem d_OM_isAction_112 : decode b_OM_isAction 112 = .ok (.iload 4, 2) := by decide +kernel
theorem d_OM_isAction_114 : decode b_OM_isAction 114 = .ok (.ifCond .eq 16, 3) := by decide +kernel
theorem d_OM_isAction_117 : decode b_OM_isAction 117 = .ok (.iload_n 2, 1) := by decide +kernel
theorem d_OM_isAction_118 : decode b_OM_isAction 118 = .ok (.ifCond .ne 12, 3) := by decide +kernel
theorem d_OM_isAction_121 : decode b_OM_isAction 121 = .ok (.iload 6, 2) := by decide +kernel
theorem d_OM_isAction_123 : decode b_OM_isAction 123 = .ok (.ifCond .eq 7, 3) := by decide +kernel
theorem d_OM_isAction_126 : decode b_OM_isAction 126 = .ok (.iconst 1, 1) := by decide +kernel
theorem d_OM_isAction_127 : decode b_OM_isAction 127 = .ok (.goto 4, 3) := by decide +kernel
theorem d_OM_isAction_130 : decode b_OM_isAction 130 = .ok (.iconst 0, 1) := by decide +kernel
theorem d_OM_isAction_131 : decode b_OM_isAction 131 = .ok (.ireturn, 1) := by decide +kernel
theorem d_OM_isAction_132 : decode b_OM_isAction 132 = .ok (.iload 4, 2) := by decide +kernel
theorem d_OM_isAction_134 : decode b_OM_isAction 134 = .ok (.ifCond .eq 17, 3) := by decide +kernel
theorem d_OM_isAction_137 : decode b_OM_isAction 137 = .ok (.iload 5, 2) := by decide +kernel
theorem d_OM_isAction_139 : decode b_OM_isAction 139 = .ok (.ifCond .eq 12, 3) := by decide +kernel
theorem d_OM_isAction_142 : decode b_OM_isAction 142 = .ok (.iload 6, 2) := by decide +kernel
theorem d_OM_isAction_144 : decode b_OM_isAction 144 = .ok (.ifCond .eq 7, 3) := by decide +kernel
theorem d_OM_isAction_147 : decode b_OM_isAction 147 = .ok (.iconst 1, 1) := by decide +kernel
theorem d_OM_isAction_148 : decode b_OM_isAction 148 = .ok (.goto 4, 3) := by decide +kernel
theorem d_OM_isAction_151 : decode b_OM_isAction 151 = .ok (.iconst 0, 1) := by decide +kernel
theorem d_OM_isAction_152 : decode b_OM_isAction 152 = .ok (.ireturn, 1) := by decide +kernel
theorem d_OM_isAction_153 : decode b_OM_isAction 153 = .ok (.iload_n 1, 1) := by decide +kernel
theorem d_OM_isAction_154 : decode b_OM_isAction 154 = .ok (.ifCond .ne 15, 3) := by decide +kernel
theorem d_OM_isAction_157 : decode b_OM_isAction 157 = .ok (.iload_n 2, 1) := by decide +kernel
theorem d_OM_isAction_158 : decode b_OM_isAction 158 = .ok (.ifCond .ne 11, 3) := by decide +kernel
theorem d_OM_isAction_161 : decode b_OM_isAction 161 = .ok (.iload_n 3, 1) := by decide +kernel
theorem d_OM_isAction_162 : decode b_OM_isAction 162 = .ok (.ifCond .ne 7, 3) := by decide +kernel
theorem d_OM_isAction_165 : decode b_OM_isAction 165 = .ok (.iconst 1, 1) := by decide +kernel
theorem d_OM_isAction_166 : decode b_OM_isAction 166 = .ok (.goto 4, 3) := by decide +kernel
theorem d_OM_isAction_169 : decode b_OM_isAction 169 = .ok (.iconst 0, 1) := by decide +kernel
theorem d_OM_isAction_170 : decode b_OM_isAction 170 = .ok (.ireturn, 1) := by decide +kernel
theorem d_OM_isAction_171 : decode b_OM_isAction 171 = .ok (.iload_n 1, 1) := by decide +kernel
theorem d_OM_isAction_172 : decode b_OM_isAction 172 = .ok (.iconst 1, 1) := by decide +kernel
theorem d_OM_isAction_173 : decode b_OM_isAction 173 = .ok (.if_icmp .lt 22, 3) := by decide +kernel
theorem d_OM_isAction_176 : decode b_OM_isAction 176 = .ok (.iload_n 1, 1) := by decide +kernel
theorem d_OM_isAction_177 : decode b_OM_isAction 177 = .ok (.iconst 3, 1) := by decide +kernel
theorem d_OM_isAction_178 : decode b_OM_isAction 178 = .ok (.if_icmp .gt 17, 3) := by decide +kernel
theorem d_OM_isAction_181 : decode b_OM_isAction 181 = .ok (.iload 5, 2) := by decide +kernel
theorem d_OM_isAction_183 : decode b_OM_isAction 183 = .ok (.ifCond .eq 12, 3) := by decide +kernel
theorem d_OM_isAction_186 : decode b_OM_isAction 186 = .ok (.iload 6, 2) := by decide +kernel
theorem d_OM_isAction_188 : decode b_OM_isAction 188 = .ok (.ifCond .eq 7, 3) := by decide +kernel
theorem d_OM_isAction_191 : decode b_OM_isAction 191 = .ok (.iconst 1, 1) := by decide +kernel
theorem d_OM_isAction_192 : decode b_OM_isAction 192 = .ok (.goto 4, 3) := by decide +kernel
theorem d_OM_isAction_195 : decode b_OM_isAction 195 = .ok (.iconst 0, 1) := by decide +kernel
theorem d_OM_isAction_196 : decode b_OM_isAction 196 = .ok (.ireturn, 1) := by decide +kernel
theorem d_OM_isAction_197 : decode b_OM_isAction 197 = .ok (.iconst 0, 1) := by decide +kernel
theorem d_OM_isAction_198 : decode b_OM_isAction 198 = .ok (.ireturn, 1) := by decide +kernel
theorem d_OM_forget_0 : decode b_OM_forget 0 = .ok (.iconst 0, 1) := by decide +kernel
theorem d_OM_forget_1 : decode b_OM_forget 1 = .ok (.istore_n 1, 1) := by decide +kernel
theorem d_OM_forget_2 : decode b_OM_forget 2 = .ok (.iload_n 1, 1) := by decide +kernel
theorem d_OM_forget_3 : decode b_OM_forget 3 = .ok (.iconst 4, 1) := by decide +kernel
theorem d_OM_forget_4 : decode b_OM_forget 4 = .ok (.if_icmp .ge 29, 3) := by decide +kernel
theorem d_OM_forget_7 : decode b_OM_forget 7 = .ok (.aload_n 0, 1) := by decide +kernel
theorem d_OM_forget_8 : decode b_OM_forget 8 = .ok (.getfield 51, 3) := by decide +kernel
theorem d_OM_forget_11 : decode b_OM_forget 11 = .ok (.iload_n 1, 1) := by decide +kernel
theorem d_OM_forget_12 : decode b_OM_forget 12 = .ok (.aaload, 1) := by decide +kernel
theorem d_OM_forget_13 : decode b_OM_forget 13 = .ok (.iconst 0, 1) := by decide +kernel
theorem d_OM_forget_14 : decode b_OM_forget 14 = .ok (.putfield 131, 3) := by decide +kernel
theorem d_OM_forget_17 : decode b_OM_forget 17 = .ok (.aload_n 0, 1) := by decide +kernel
theorem d_OM_forget_18 : decode b_OM_forget 18 = .ok (.getfield 55, 3) := by decide +kernel
theorem d_OM_forget_21 : decode b_OM_forget 21 = .ok (.iload_n 1, 1) := by decide +kernel
theorem d_OM_forget_22 : decode b_OM_forget 22 = .ok (.aaload, 1) := by decide +kernel
theorem d_OM_forget_23 : decode b_OM_forget 23 = .ok (.iconst 0, 1) := by decide +kernel
theorem d_OM_forget_24 : decode b_OM_forget 24 = .ok (.putfield 131, 3) := by decide +kernel
theorem d_OM_forget_27 : decode b_OM_forget 27 = .ok (.iinc 1 1, 3) := by decide +kernel
theorem d_OM_forget_30 : decode b_OM_forget 30 = .ok (.goto (-28), 3) := by decide +kernel
theorem d_OM_forget_33 : decode b_OM_forget 33 = .ok (.return_, 1) := by decide +kernel
theorem d_OM_foundByRuns_0 : decode b_OM_foundByRuns 0 = .ok (.aload_n 0, 1) := by decide +kernel
theorem d_OM_foundByRuns_1 : decode b_OM_foundByRuns 1 = .ok (.getfield 51, 3) := by decide +kernel
theorem d_OM_foundByRuns_4 : decode b_OM_foundByRuns 4 = .ok (.iload_n 1, 1) := by decide +kernel
theorem d_OM_foundByRuns_5 : decode b_OM_foundByRuns 5 = .ok (.aaload, 1) := by decide +kernel
theorem d_OM_foundByRuns_6 : decode b_OM_foundByRuns 6 = .ok (.astore_n 2, 1) := by decide +kernel
theorem d_OM_foundByRuns_7 : decode b_OM_foundByRuns 7 = .ok (.aload_n 2, 1) := by decide +kernel
theorem d_OM_foundByRuns_8 : decode b_OM_foundByRuns 8 = .ok (.getfield 131, 3) := by decide +kernel
theorem d_OM_foundByRuns_11 : decode b_OM_foundByRuns 11 = .ok (.ifCond .ne 33, 3) := by decide +kernel
theorem d_OM_foundByRuns_14 : decode b_OM_foundByRuns 14 = .ok (.iload_n 1, 1) := by decide +kernel
theorem d_OM_foundByRuns_15 : decode b_OM_foundByRuns 15 = .ok (.iconst 3, 1) := by decide +kernel
theorem d_OM_foundByRuns_16 : decode b_OM_foundByRuns 16 = .ok (.if_icmp .ne 14, 3) := by decide +kernel
theorem d_OM_foundByRuns_19 : decode b_OM_foundByRuns 19 = .ok (.aload_n 0, 1) := by decide +kernel
theorem d_OM_foundByRuns_20 : decode b_OM_foundByRuns 20 = .ok (.getfield 36, 3) := by decide +kernel
theorem d_OM_foundByRuns_23 : decode b_OM_foundByRuns 23 = .ok (.aload_n 2, 1) := by decide +kernel
theorem d_OM_foundByRuns_24 : decode b_OM_foundByRuns 24 = .ok (.invokevirtual 135, 3) := by decide +kernel
theorem d_OM_foundByRuns_27 : decode b_OM_foundByRuns 27 = .ok (.goto 12, 3) := by decide +kernel
theorem d_OM_foundByRuns_30 : decode b_OM_foundByRuns 30 = .ok (.aload_n 0, 1) := by decide +kernel
theorem d_OM_foundByRuns_31 : decode b_OM_foundByRuns 31 = .ok (.getfield 29, 3) := by decide +kernel
theorem d_OM_foundByRuns_34 : decode b_OM_foundByRuns 34 = .ok (.iload_n 1, 1) := by decide +kernel
theorem d_OM_foundByRuns_35 : decode b_OM_foundByRuns 35 = .ok (.aload_n 2, 1) := by decide +kernel
theorem d_OM_foundByRuns_36 : decode b_OM_foundByRuns 36 = .ok (.invokevirtual 139, 3) := by decide +kernel
theorem d_OM_foundByRuns_39 : decode b_OM_foundByRuns 39 = .ok (.aload_n 2, 1) := by decide +kernel
theorem d_OM_foundByRuns_40 : decode b_OM_foundByRuns 40 = .ok (.iconst 1, 1) := by decide +kernel
theorem d_OM_foundByRuns_41 : decode b_OM_foundByRuns 41 = .ok (.putfield 131, 3) := by decide +kernel
theorem d_OM_foundByRuns_44 : decode b_OM_foundByRuns 44 = .ok (.aload_n 2, 1) := by decide +kernel
theorem d_OM_foundByRuns_45 : decode b_OM_foundByRuns 45 = .ok (.areturn, 1) := by decide +kernel
theorem d_OM_foundByGraphs_0 : decode b_OM_foundByGraphs 0 = .ok (.aload_n 0, 1) := by decide +kernel
theorem d_OM_foundByGraphs_1 : decode b_OM_foundByGraphs 1 = .ok (.getfield 55, 3) := by decide +kernel
theorem d_OM_foundByGraphs_4 : decode b_OM_foundByGraphs 4 = .ok (.iload_n 1, 1) := by decide +kernel
theorem d_OM_foundByGraphs_5 : decode b_OM_foundByGraphs 5 = .ok (.aaload, 1) := by decide +kernel
theorem d_OM_foundByGraphs_6 : decode b_OM_foundByGraphs 6 = .ok (.astore_n 2, 1) := by decide +kernel
theorem d_OM_foundByGraphs_7 : decode b_OM_foundByGraphs 7 = .ok (.aload_n 2, 1) := by decide +kernel
theorem d_OM_foundByGraphs_8 : decode b_OM_foundByGraphs 8 = .ok (.getfield 131, 3) := by decide +kernel
theorem d_OM_foundByGraphs_11 : decode b_OM_foundByGraphs 11 = .ok (.ifCond .ne 17, 3) := by decide +kernel
theorem d_OM_foundByGraphs_14 : decode b_OM_foundByGraphs 14 = .ok (.aload_n 0, 1) := by decide +kernel
theorem d_OM_foundByGraphs_15 : decode b_OM_foundByGraphs 15 = .ok (.getfield 45, 3) := by decide +kernel
theorem d_OM_foundByGraphs_18 : decode b_OM_foundByGraphs 18 = .ok (.iload_n 1, 1) := by decide +kernel
theorem d_OM_foundByGraphs_19 : decode b_OM_foundByGraphs 19 = .ok (.aload_n 2, 1) := by decide +kernel
theorem d_OM_foundByGraphs_20 : decode b_OM_foundByGraphs 20 = .ok (.invokevirtual 142, 3) := by decide +kernel
theorem d_OM_foundByGraphs_23 : decode b_OM_foundByGraphs 23 = .ok (.aload_n 2, 1) := by decide +kernel
theorem d_OM_foundByGraphs_24 : decode b_OM_foundByGraphs 24 = .ok (.iconst 1, 1) := by decide +kernel
theorem d_OM_foundByGraphs_25 : decode b_OM_foundByGraphs 25 = .ok (.putfield 131, 3) := by decide +kernel
theorem d_OM_foundByGraphs_28 : decode b_OM_foundByGraphs 28 = .ok (.aload_n 2, 1) := by decide +kernel
theorem d_OM_foundByGraphs_29 : decode b_OM_foundByGraphs 29 = .ok (.areturn, 1) := by decide +kernel
theorem d_Ref_init_0 : decode b_Ref_init 0 = .ok (.aload_n 0, 1) := by decide +kernel
theorem d_Ref_init_1 : decode b_Ref_init 1 = .ok (.invokespecial 1, 3) := by decide +kernel
theorem d_Ref_init_4 : decode b_Ref_init 4 = .ok (.aload_n 0, 1) := by decide +kernel
theorem d_Ref_init_5 : decode b_Ref_init 5 = .ok (.iconst 4, 1) := by decide +kernel
theorem d_Ref_init_6 : decode b_Ref_init 6 = .ok (.newarray .int, 2) := by decide +kernel
theorem d_Ref_init_8 : decode b_Ref_init 8 = .ok (.putfield 7, 3) := by decide +kernel
theorem d_Ref_init_11 : decode b_Ref_init 11 = .ok (.aload_n 0, 1) := by decide +kernel
theorem d_Ref_init_12 : decode b_Ref_init 12 = .ok (.bipush 28, 2) := by decide +kernel
theorem d_Ref_init_14 : decode b_Ref_init 14 = .ok (.newarray .int, 2) := by decide +kernel
theorem d_Ref_init_16 : decode b_Ref_init 16 = .ok (.putfield 13, 3) := by decide +kernel
theorem d_Ref_init_19 : decode b_Ref_init 19 = .ok (.aload_n 0, 1) := by decide +kernel
theorem d_Ref_init_20 : decode b_Ref_init 20 = .ok (.bipush 28, 2) := by decide +kernel
theorem d_Ref_init_22 : decode b_Ref_init 22 = .ok (.newarray .int, 2) := by decide +kernel
theorem d_Ref_init_24 : decode b_Ref_init 24 = .ok (.putfield 16, 3) := by decide +kernel
theorem d_Ref_init_27 : decode b_Ref_init 27 = .ok (.aload_n 0, 1) := by decide +kernel
theorem d_Ref_init_28 : decode b_Ref_init 28 = .ok (.bipush 28, 2) := by decide +kernel
theorem d_Ref_init_30 : decode b_Ref_init 30 = .ok (.newarray .int, 2) := by decide +kernel
theorem d_Ref_init_32 : decode b_Ref_init 32 = .ok (.putfield 19, 3) := by decide +kernel
theorem d_Ref_init_35 : decode b_Ref_init 35 = .ok (.aload_n 0, 1) := by decide +kernel
theorem d_Ref_init_36 : decode b_Ref_init 36 = .ok (.bipush 28, 2) := by decide +kernel
theorem d_Ref_init_38 : decode b_Ref_init 38 = .ok (.newarray .int, 2) := by decide +kernel
theorem d_Ref_init_40 : decode b_Ref_init 40 = .ok (.putfield 22, 3) := by decide +kernel
theorem d_Ref_init_43 : decode b_Ref_init 43 = .ok (.aload_n 0, 1) := by decide +kernel
theorem d_Ref_init_44 : decode b_Ref_init 44 = .ok (.bipush 8, 2) := by decide +kernel
theorem d_Ref_init_46 : decode b_Ref_init 46 = .ok (.newarray .boolean, 2) := by decide +kernel
theorem d_Ref_init_48 : decode b_Ref_init 48 = .ok (.putfield 25, 3) := by decide +kernel
theorem d_Ref_init_51 : decode b_Ref_init 51 = .ok (.aload_n 0, 1) := by decide +kernel
theorem d_Ref_init_52 : decode b_Ref_init 52 = .ok (.bipush 8, 2) := by decide +kernel
theorem d_Ref_init_54 : decode b_Ref_init 54 = .ok (.newarray .int, 2) := by decide +kernel
theorem d_Ref_init_56 : decode b_Ref_init 56 = .ok (.putfield 29, 3) := by decide +kernel
theorem d_Ref_init_59 : decode b_Ref_init 59 = .ok (.aload_n 0, 1) := by decide +kernel
theorem d_Ref_init_60 : decode b_Ref_init 60 = .ok (.ldc 32, 2) := by decide +kernel
theorem d_Ref_init_62 : decode b_Ref_init 62 = .ok (.newarray .short, 2) := by decide +kernel
theorem d_Ref_init_64 : decode b_Ref_init 64 = .ok (.putfield 33, 3) := by decide +kernel
theorem d_Ref_init_67 : decode b_Ref_init 67 = .ok (.aload_n 0, 1) := by decide +kernel
theorem d_Ref_init_68 : decode b_Ref_init 68 = .ok (.ldc 37, 2) := by decide +kernel
theorem d_Ref_init_70 : decode b_Ref_init 70 = .ok (.newarray .short, 2) := by decide +kernel
theorem d_Ref_init_72 : decode b_Ref_init 72 = .ok (.putfield 38, 3) := by decide +kernel
theorem d_Ref_init_75 : decode b_Ref_init 75 = .ok (.aload_n 0, 1) := by decide +kernel
theorem d_Ref_init_76 : decode b_Ref_init 76 = .ok (.sipush 16000, 3) := by decide +kernel
theorem d_Ref_init_79 : decode b_Ref_init 79 = .ok (.newarray .int, 2) := by decide +kernel
theorem d_Ref_init_81 : decode b_Ref_init 81 = .ok (.putfield 41, 3) := by decide +kernel
theorem d_Ref_init_84 : decode b_Ref_init 84 = .ok (.aload_n 0, 1) := by decide +kernel
theorem d_Ref_init_85 : decode b_Ref_init 85 = .ok (.sipush 32000, 3) := by decide +kernel
theorem d_Ref_init_88 : decode b_Ref_init 88 = .ok (.newarray .int, 2) := by decide +kernel
theorem d_Ref_init_90 : decode b_Ref_init 90 = .ok (.putfield 44, 3) := by decide +kernel
theorem d_Ref_init_93 : decode b_Ref_init 93 = .ok (.aload_n 0, 1) := by decide +kernel
theorem d_Ref_init_94 : decode b_Ref_init 94 = .ok (.iconst 4, 1) := by decide +kernel
theorem d_Ref_init_95 : decode b_Ref_init 95 = .ok (.newarray .int, 2) := by decide +kernel
theorem d_Ref_init_97 : decode b_Ref_init 97 = .ok (.putfield 47, 3) := by decide +kernel
theorem d_Ref_init_100 : decode b_Ref_init 100 = .ok (.aload_n 0, 1) := by decide +kernel
theorem d_Ref_init_101 : decode b_Ref_init 101 = .ok (.sipush 784, 3) := by decide +kernel
theorem d_Ref_init_104 : decode b_Ref_init 104 = .ok (.newarray .boolean, 2) := by decide +kernel
theorem d_Ref_init_106 : decode b_Ref_init 106 = .ok (.putfield 50, 3) := by decide +kernel
theorem d_Ref_init_109 : decode b_Ref_init 109 = .ok (.aload_n 0, 1) := by decide +kernel
theorem d_Ref_init_110 : decode b_Ref_init 110 = .ok (.sipush 155, 3) := by decide +kernel
theorem d_Ref_init_113 : decode b_Ref_init 113 = .ok (.newarray .int, 2) := by decide +kernel
theorem d_Ref_init_115 : decode b_Ref_init 115 = .ok (.putfield 53, 3) := by decide +kernel
theorem d_Ref_init_118 : decode b_Ref_init 118 = .ok (.aload_n 0, 1) := by decide +kernel
theorem d_Ref_init_119 : decode b_Ref_init 119 = .ok (.sipush 2635, 3) := by decide +kernel
theorem d_Ref_init_122 : decode b_Ref_init 122 = .ok (.newarray .int, 2) := by decide +kernel
theorem d_Ref_init_124 : decode b_Ref_init 124 = .ok (.putfield 56, 3) := by decide +kernel
theorem d_Ref_init_127 : decode b_Ref_init 127 = .ok (.aload_n 0, 1) := by decide +kernel
theorem d_Ref_init_128 : decode b_Ref_init 128 = .ok (.bipush 17, 2) := by decide +kernel
theorem d_Ref_init_130 : decode b_Ref_init 130 = .ok (.newarray .int, 2) := by decide +kernel
theorem d_Ref_init_132 : decode b_Ref_init 132 = .ok (.putfield 59, 3) := by decide +kernel
theorem d_Ref_init_135 : decode b_Ref_init 135 = .ok (.aload_n 0, 1) := by decide +kernel
theorem d_Ref_init_136 : decode b_Ref_init 136 = .ok (.ldc 62, 2) := by decide +kernel
theorem d_Ref_init_138 : decode b_Ref_init 138 = .ok (.newarray .long, 2) := by decide +kernel
theorem d_Ref_init_140 : decode b_Ref_init 140 = .ok (.putfield 63, 3) := by decide +kernel
theorem d_Ref_init_143 : decode b_Ref_init 143 = .ok (.aload_n 0, 1) := by decide +kernel
theorem d_Ref_init_144 : decode b_Ref_init 144 = .ok (.ldc 67, 2) := by decide +kernel
theorem d_Ref_init_146 : decode b_Ref_init 146 = .ok (.newarray .int, 2) := by decide +kernel
theorem d_Ref_init_148 : decode b_Ref_init 148 = .ok (.putfield 68, 3) := by decide +kernel
theorem d_Ref_init_151 : decode b_Ref_init 151 = .ok (.aload_n 0, 1) := by decide +kernel
theorem d_Ref_init_152 : decode b_Ref_init 152 = .ok (.ldc 71, 2) := by decide +kernel
theorem d_Ref_init_154 : decode b_Ref_init 154 = .ok (.newarray .int, 2) := by decide +kernel
theorem d_Ref_init_156 : decode b_Ref_init 156 = .ok (.putfield 72, 3) := by decide +kernel
theorem d_Ref_init_159 : decode b_Ref_init 159 = .ok (.aload_n 0, 1) := by decide +kernel
theorem d_Ref_init_160 : decode b_Ref_init 160 = .ok (.iconst 5, 1) := by decide +kernel
theorem d_Ref_init_161 : decode b_Ref_init 161 = .ok (.newarray .long, 2) := by decide +kernel
theorem d_Ref_init_163 : decode b_Ref_init 163 = .ok (.putfield 75, 3) := by decide +kernel
theorem d_Ref_init_166 : decode b_Ref_init 166 = .ok (.aload_n 0, 1) := by decide +kernel
theorem d_Ref_init_167 : decode b_Ref_init 167 = .ok (.bipush 11, 2) := by decide +kernel
theorem d_Ref_init_169 : decode b_Ref_init 169 = .ok (.newarray .int, 2) := by decide +kernel
theorem d_Ref_init_171 : decode b_Ref_init 171 = .ok (.putfield 78, 3) := by decide +kernel
theorem d_Ref_init_174 : decode b_Ref_init 174 = .ok (.aload_n 0, 1) := by decide +kernel
theorem d_Ref_init_175 : decode b_Ref_init 175 = .ok (.bipush 28, 2) := by decide +kernel
theorem d_Ref_init_177 : decode b_Ref_init 177 = .ok (.newarray .int, 2) := by decide +kernel
theorem d_Ref_init_179 : decode b_Ref_init 179 = .ok (.putfield 81, 3) := by decide +kernel
theorem d_Ref_init_182 : decode b_Ref_init 182 = .ok (.aload_n 0, 1) := by decide +kernel
theorem d_Ref_init_183 : decode b_Ref_init 183 = .ok (.bipush 28, 2) := by decide +kernel
theorem d_Ref_init_185 : decode b_Ref_init 185 = .ok (.newarray .boolean, 2) := by decide +kernel
theorem d_Ref_init_187 : decode b_Ref_init 187 = .ok (.putfield 84, 3) := by decide +kernel
theorem d_Ref_init_190 : decode b_Ref_init 190 = .ok (.aload_n 0, 1) := by decide +kernel
theorem d_Ref_init_191 : decode b_Ref_init 191 = .ok (.bipush 28, 2) := by decide +kernel
theorem d_Ref_init_193 : decode b_Ref_init 193 = .ok (.newarray .boolean, 2) := by decide +kernel
theorem d_Ref_init_195 : decode b_Ref_init 195 = .ok (.putfield 87, 3) := by decide +kernel
theorem d_Ref_init_198 : decode b_Ref_init 198 = .ok (.aload_n 0, 1) := by decide +kernel
theorem d_Ref_init_199 : decode b_Ref_init 199 = .ok (.bipush 28, 2) := by decide +kernel
theorem d_Ref_init_201 : decode b_Ref_init 201 = .ok (.newarray .int, 2) := by decide +kernel
theorem d_Ref_init_203 : decode b_Ref_init 203 = .ok (.putfield 90, 3) := by decide +kernel
theorem d_Ref_init_206 : decode b_Ref_init 206 = .ok (.aload_n 0, 1) := by decide +kernel
theorem d_Ref_init_207 : decode b_Ref_init 207 = .ok (.iconst 4, 1) := by decide +kernel
theorem d_Ref_init_208 : decode b_Ref_init 208 = .ok (.newarray .int, 2) := by decide +kernel
theorem d_Ref_init_210 : decode b_Ref_init 210 = .ok (.putfield 93, 3) := by decide +kernel
theorem d_Ref_init_213 : decode b_Ref_init 213 = .ok (.aload_n 0, 1) := by decide +kernel
theorem d_Ref_init_214 : decode b_Ref_init 214 = .ok (.bipush 8, 2) := by decide +kernel
theorem d_Ref_init_216 : decode b_Ref_init 216 = .ok (.newarray .int, 2) := by decide +kernel
theorem d_Ref_init_218 : decode b_Ref_init 218 = .ok (.putfield 96, 3) := by decide +kernel
theorem d_Ref_init_221 : decode b_Ref_init 221 = .ok (.aload_n 0, 1) := by decide +kernel
theorem d_Ref_init_222 : decode b_Ref_init 222 = .ok (.bipush 7, 2) := by decide +kernel
theorem d_Ref_init_224 : decode b_Ref_init 224 = .ok (.newarray .int, 2) := by decide +kernel
theorem d_Ref_init_226 : decode b_Ref_init 226 = .ok (.putfield 99, 3) := by decide +kernel
theorem d_Ref_init_229 : decode b_Ref_init 229 = .ok (.aload_n 0, 1) := by decide +kernel
theorem d_Ref_init_230 : decode b_Ref_init 230 = .ok (.bipush 28, 2) := by decide +kernel
theorem d_Ref_init_232 : decode b_Ref_init 232 = .ok (.newarray .int, 2) := by decide +kernel
theorem d_Ref_init_234 : decode b_Ref_init 234 = .ok (.putfield 102, 3) := by decide +kernel
theorem d_Ref_init_237 : decode b_Ref_init 237 = .ok (.aload_n 0, 1) := by decide +kernel
theorem d_Ref_init_238 : decode b_Ref_init 238 = .ok (.iconst 4, 1) := by decide +kernel
theorem d_Ref_init_239 : decode b_Ref_init 239 = .ok (.newarray .int, 2) := by decide +kernel
theorem d_Ref_init_241 : decode b_Ref_init 241 = .ok (.putfield 105, 3) := by decide +kernel
theorem d_Ref_init_244 : decode b_Ref_init 244 = .ok (.aload_n 0, 1) := by decide +kernel
theorem d_Ref_init_245 : decode b_Ref_init 245 = .ok (.bipush 28, 2) := by decide +kernel
theorem d_Ref_init_247 : decode b_Ref_init 247 = .ok (.newarray .int, 2) := by decide +kernel
theorem d_Ref_init_249 : decode b_Ref_init 249 = .ok (.putfield 108, 3) := by decide +kernel
theorem d_Ref_init_252 : decode b_Ref_init 252 = .ok (.aload_n 0, 1) := by decide +kernel
theorem d_Ref_init_253 : decode b_Ref_init 253 = .ok (.bipush 7, 2) := by decide +kernel
theorem d_Ref_init_255 : decode b_Ref_init 255 = .ok (.newarray .int, 2) := by decide +kernel
theorem d_Ref_init_257 : decode b_Ref_init 257 = .ok (.putfield 111, 3) := by decide +kernel
theorem d_Ref_init_260 : decode b_Ref_init 260 = .ok (.aload_n 0, 1) := by decide +kernel
theorem d_Ref_init_261 : decode b_Ref_init 261 = .ok (.bipush 7, 2) := by decide +kernel
theorem d_Ref_init_263 : decode b_Ref_init 263 = .ok (.newarray .int, 2) := by decide +kernel
theorem d_Ref_init_265 : decode b_Ref_init 265 = .ok (.putfield 114, 3) := by decide +kernel
theorem d_Ref_init_268 : decode b_Ref_init 268 = .ok (.aload_n 0, 1) := by decide +kernel
theorem d_Ref_init_269 : decode b_Ref_init 269 = .ok (.bipush 7, 2) := by decide +kernel
theorem d_Ref_init_271 : decode b_Ref_init 271 = .ok (.newarray .int, 2) := by decide +kernel
theorem d_Ref_init_273 : decode b_Ref_init 273 = .ok (.putfield 117, 3) := by decide +kernel
theorem d_Ref_init_276 : decode b_Ref_init 276 = .ok (.aload_n 0, 1) := by decide +kernel
theorem d_Ref_init_277 : decode b_Ref_init 277 = .ok (.bipush 7, 2) := by decide +kernel
theorem d_Ref_init_279 : decode b_Ref_init 279 = .ok (.newarray .int, 2) := by decide +kernel
theorem d_Ref_init_281 : decode b_Ref_init 281 = .ok (.putfield 120, 3) := by decide +kernel
theorem d_Ref_init_284 : decode b_Ref_init 284 = .ok (.aload_n 0, 1) := by decide +kernel
theorem d_Ref_init_285 : decode b_Ref_init 285 = .ok (.bipush 7, 2) := by decide +kernel
theorem d_Ref_init_287 : decode b_Ref_init 287 = .ok (.newarray .int, 2) := by decide +kernel
theorem d_Ref_init_289 : decode b_Ref_init 289 = .ok (.putfield 123, 3) := by decide +kernel
theorem d_Ref_init_292 : decode b_Ref_init 292 = .ok (.aload_n 0, 1) := by decide +kernel
theorem d_Ref_init_293 : decode b_Ref_init 293 = .ok (.bipush 7, 2) := by decide +kernel
theorem d_Ref_init_295 : decode b_Ref_init 295 = .ok (.newarray .int, 2) := by decide +kernel
theorem d_Ref_init_297 : decode b_Ref_init 297 = .ok (.putfield 126, 3) := by decide +kernel
theorem d_Ref_init_300 : decode b_Ref_init 300 = .ok (.return_, 1) := by decide +kernel
theorem d_BufferWalk_init_0 : decode b_BufferWalk_init 0 = .ok (.aload_n 0, 1) := by decide +kernel
theorem d_BufferWalk_init_1 : decode b_BufferWalk_init 1 = .ok (.invokespecial 3, 3) := by decide +kernel
theorem d_BufferWalk_init_4 : decode b_BufferWalk_init 4 = .ok (.aload_n 0, 1) := by decide +kernel
theorem d_BufferWalk_init_5 : decode b_BufferWalk_init 5 = .ok (.bipush 14, 2) := by decide +kernel
theorem d_BufferWalk_init_7 : decode b_BufferWalk_init 7 = .ok (.newarray .int, 2) := by decide +kernel
theorem d_BufferWalk_init_9 : decode b_BufferWalk_init 9 = .ok (.putfield 9, 3) := by decide +kernel
theorem d_BufferWalk_init_12 : decode b_BufferWalk_init 12 = .ok (.aload_n 0, 1) := by decide +kernel
theorem d_BufferWalk_init_13 : decode b_BufferWalk_init 13 = .ok (.bipush 7, 2) := by decide +kernel
theorem d_BufferWalk_init_15 : decode b_BufferWalk_init 15 = .ok (.newarray .int, 2) := by decide +kernel
theorem d_BufferWalk_init_17 : decode b_BufferWalk_init 17 = .ok (.putfield 15, 3) := by decide +kernel
theorem d_BufferWalk_init_20 : decode b_BufferWalk_init 20 = .ok (.aload_n 0, 1) := by decide +kernel
theorem d_BufferWalk_init_21 : decode b_BufferWalk_init 21 = .ok (.aload_n 1, 1) := by decide +kernel
theorem d_BufferWalk_init_22 : decode b_BufferWalk_init 22 = .ok (.putfield 18, 3) := by decide +kernel
theorem d_BufferWalk_init_25 : decode b_BufferWalk_init 25 = .ok (.aload_n 0, 1) := by decide +kernel
theorem d_BufferWalk_init_26 : decode b_BufferWalk_init 26 = .ok (.aload_n 2, 1) := by decide +kernel
theorem d_BufferWalk_init_27 : decode b_BufferWalk_init 27 = .ok (.putfield 22, 3) := by decide +kernel
theorem d_BufferWalk_init_30 : decode b_BufferWalk_init 30 = .ok (.aload_n 0, 1) := by decide +kernel
theorem d_BufferWalk_init_31 : decode b_BufferWalk_init 31 = .ok (.aload_n 3, 1) := by decide +kernel
theorem d_BufferWalk_init_32 : decode b_BufferWalk_init 32 = .ok (.putfield 26, 3) := by decide +kernel
theorem d_BufferWalk_init_35 : decode b_BufferWalk_init 35 = .ok (.return_, 1) := by decide +kernel
theorem d_BufferWalk_walk_0 : decode b_BufferWalk_walk 0 = .ok (.aload_n 0, 1) := by decide +kernel
theorem d_BufferWalk_walk_1 : decode b_BufferWalk_walk 1 = .ok (.iload_n 1, 1) := by decide +kernel
theorem d_BufferWalk_walk_2 : decode b_BufferWalk_walk 2 = .ok (.putfield 30, 3) := by decide +kernel
theorem d_BufferWalk_walk_5 : decode b_BufferWalk_walk 5 = .ok (.aload_n 0, 1) := by decide +kernel
theorem d_BufferWalk_walk_6 : decode b_BufferWalk_walk 6 = .ok (.aload_n 2, 1) := by decide +kernel
theorem d_BufferWalk_walk_7 : decode b_BufferWalk_walk 7 = .ok (.putfield 34, 3) := by decide +kernel
theorem d_BufferWalk_walk_10 : decode b_BufferWalk_walk 10 = .ok (.aload_n 0, 1) := by decide +kernel
theorem d_BufferWalk_walk_11 : decode b_BufferWalk_walk 11 = .ok (.getfield 34, 3) := by decide +kernel
theorem d_BufferWalk_walk_14 : decode b_BufferWalk_walk 14 = .ok (.invokevirtual 38, 3) := by decide +kernel
theorem d_BufferWalk_walk_17 : decode b_BufferWalk_walk 17 = .ok (.aload_n 0, 1) := by decide +kernel
theorem d_BufferWalk_walk_18 : decode b_BufferWalk_walk 18 = .ok (.getfield 26, 3) := by decide +kernel
theorem d_BufferWalk_walk_21 : decode b_BufferWalk_walk 21 = .ok (.invokevirtual 43, 3) := by decide +kernel
theorem d_BufferWalk_walk_24 : decode b_BufferWalk_walk 24 = .ok (.aload_n 0, 1) := by decide +kernel
theorem d_BufferWalk_walk_25 : decode b_BufferWalk_walk 25 = .ok (.getfield 22, 3) := by decide +kernel
theorem d_BufferWalk_walk_28 : decode b_BufferWalk_walk 28 = .ok (.invokevirtual 48, 3) := by decide +kernel
theorem d_BufferWalk_walk_31 : decode b_BufferWalk_walk 31 = .ok (.aload_n 0, 1) := by decide +kernel
theorem d_BufferWalk_walk_32 : decode b_BufferWalk_walk 32 = .ok (.iconst 0, 1) := by decide +kernel
theorem d_BufferWalk_walk_33 : decode b_BufferWalk_walk 33 = .ok (.putfield 51, 3) := by decide +kernel
theorem d_BufferWalk_walk_36 : decode b_BufferWalk_walk 36 = .ok (.aload_n 0, 1) := by decide +kernel
theorem d_BufferWalk_walk_37 : decode b_BufferWalk_walk 37 = .ok (.iconst 0, 1) := by decide +kernel
theorem d_BufferWalk_walk_38 : decode b_BufferWalk_walk 38 = .ok (.putfield 54, 3) := by decide +kernel
theorem d_BufferWalk_walk_41 : decode b_BufferWalk_walk 41 = .ok (.aload_n 0, 1) := by decide +kernel
theorem d_BufferWalk_walk_42 : decode b_BufferWalk_walk 42 = .ok (.getfield 30, 3) := by decide +kernel
theorem d_BufferWalk_walk_45 : decode b_BufferWalk_walk 45 = .ok (.ifCond .ne 11, 3) := by decide +kernel
theorem d_BufferWalk_walk_48 : decode b_BufferWalk_walk 48 = .ok (.aload_n 0, 1) := by decide +kernel
theorem d_BufferWalk_walk_49 : decode b_BufferWalk_walk 49 = .ok (.getfield 15, 3) := by decide +kernel
theorem d_BufferWalk_walk_52 : decode b_BufferWalk_walk 52 = .ok (.iconst 0, 1) := by decide +kernel
theorem d_BufferWalk_walk_53 : decode b_BufferWalk_walk 53 = .ok (.invokestatic 57, 3) := by decide +kernel
theorem d_BufferWalk_walk_56 : decode b_BufferWalk_walk 56 = .ok (.aload_n 0, 1) := by decide +kernel
theorem d_BufferWalk_walk_57 : decode b_BufferWalk_walk 57 = .ok (.iconst 0, 1) := by decide +kernel
theorem d_BufferWalk_walk_58 : decode b_BufferWalk_walk 58 = .ok (.invokevirtual 63, 3) := by decide +kernel
theorem d_BufferWalk_walk_61 : decode b_BufferWalk_walk 61 = .ok (.return_, 1) := by decide +kernel
theorem d_BufferWalk_spread_0 : decode b_BufferWalk_spread 0 = .ok (.aload_n 0, 1) := by decide +kernel
theorem d_BufferWalk_spread_1 : decode b_BufferWalk_spread 1 = .ok (.getfield 22, 3) := by decide +kernel
theorem d_BufferWalk_spread_4 : decode b_BufferWalk_spread 4 = .ok (.invokevirtual 67, 3) := by decide +kernel
theorem d_BufferWalk_spread_7 : decode b_BufferWalk_spread 7 = .ok (.bipush 9, 2) := by decide +kernel
theorem d_BufferWalk_spread_9 : decode b_BufferWalk_spread 9 = .ok (.lshl, 1) := by decide +kernel
theorem d_BufferWalk_spread_10 : decode b_BufferWalk_spread 10 = .ok (.aload_n 0, 1) := by decide +kernel
theorem d_BufferWalk_spread_11 : decode b_BufferWalk_spread 11 = .ok (.getfield 51, 3) := by decide +kernel
theorem d_BufferWalk_spread_14 : decode b_BufferWalk_spread 14 = .ok (.i2l, 1) := by decide +kernel
theorem d_BufferWalk_spread_15 : decode b_BufferWalk_spread 15 = .ok (.lor, 1) := by decide +kernel
theorem d_BufferWalk_spread_16 : decode b_BufferWalk_spread 16 = .ok (.lstore_n 2, 1) := by decide +kernel
theorem d_BufferWalk_spread_17 : decode b_BufferWalk_spread 17 = .ok (.aload_n 0, 1) := by decide +kernel
theorem d_BufferWalk_spread_18 : decode b_BufferWalk_spread 18 = .ok (.getfield 26, 3) := by decide +kernel
theorem d_BufferWalk_spread_21 : decode b_BufferWalk_spread 21 = .ok (.lload_n 2, 1) := by decide +kernel
theorem d_BufferWalk_spread_22 : decode b_BufferWalk_spread 22 = .ok (.bipush 7, 2) := by decide +kernel
theorem d_BufferWalk_spread_24 : decode b_BufferWalk_spread 24 = .ok (.lshl, 1) := by decide +kernel
theorem d_BufferWalk_spread_25 : decode b_BufferWalk_spread 25 = .ok (.aload_n 0, 1) := by decide +kernel
theorem d_BufferWalk_spread_26 : decode b_BufferWalk_spread 26 = .ok (.getfield 54, 3) := by decide +kernel
theorem d_BufferWalk_spread_29 : decode b_BufferWalk_spread 29 = .ok (.i2l, 1) := by decide +kernel
theorem d_BufferWalk_spread_30 : decode b_BufferWalk_spread 30 = .ok (.lor, 1) := by decide +kernel
theorem d_BufferWalk_spread_31 : decode b_BufferWalk_spread 31 = .ok (.invokevirtual 71, 3) := by decide +kernel
theorem d_BufferWalk_spread_34 : decode b_BufferWalk_spread 34 = .ok (.ifCond .ne 4, 3) := by decide +kernel
theorem d_BufferWalk_spread_37 : decode b_BufferWalk_spread 37 = .ok (.return_, 1) := by decide +kernel
theorem d_BufferWalk_spread_38 : decode b_BufferWalk_spread 38 = .ok (.aload_n 0, 1) := by decide +kernel
theorem d_BufferWalk_spread_39 : decode b_BufferWalk_spread 39 = .ok (.getfield 30, 3) := by decide +kernel
theorem d_BufferWalk_spread_42 : decode b_BufferWalk_spread 42 = .ok (.ifCond .ne 7, 3) := by decide +kernel
theorem d_BufferWalk_spread_45 : decode b_BufferWalk_spread 45 = .ok (.aload_n 0, 1) := by decide +kernel
theorem d_BufferWalk_spread_46 : decode b_BufferWalk_spread 46 = .ok (.invokevirtual 75, 3) := by decide +kernel
theorem d_BufferWalk_spread_49 : decode b_BufferWalk_spread 49 = .ok (.iconst 1, 1) := by decide +kernel
theorem d_BufferWalk_spread_50 : decode b_BufferWalk_spread 50 = .ok (.istore 4, 2) := by decide +kernel
theorem d_BufferWalk_spread_52 : decode b_BufferWalk_spread 52 = .ok (.iconst 0, 1) := by decide +kernel
theorem d_BufferWalk_spread_53 : decode b_BufferWalk_spread 53 = .ok (.istore 5, 2) := by decide +kernel
theorem d_BufferWalk_spread_55 : decode b_BufferWalk_spread 55 = .ok (.iload 5, 2) := by decide +kernel
theorem d_BufferWalk_spread_57 : decode b_BufferWalk_spread 57 = .ok (.aload_n 0, 1) := by decide +kernel
theorem d_BufferWalk_spread_58 : decode b_BufferWalk_spread 58 = .ok (.getfield 18, 3) := by decide +kernel
theorem d_BufferWalk_spread_61 : decode b_BufferWalk_spread 61 = .ok (.getfield 78, 3) := by decide +kernel
theorem d_BufferWalk_spread_64 : decode b_BufferWalk_spread 64 = .ok (.if_icmp .ge 35, 3) := by decide +kernel
theorem d_BufferWalk_spread_67 : decode b_BufferWalk_spread 67 = .ok (.aload_n 0, 1) := by decide +kernel
theorem d_BufferWalk_spread_68 : decode b_BufferWalk_spread 68 = .ok (.iload 5, 2) := by decide +kernel
theorem d_BufferWalk_spread_70 : decode b_BufferWalk_spread 70 = .ok (.iload_n 1, 1) := by decide +kernel
theorem d_BufferWalk_spread_71 : decode b_BufferWalk_spread 71 = .ok (.invokevirtual 83, 3) := by decide +kernel
theorem d_BufferWalk_spread_74 : decode b_BufferWalk_spread 74 = .ok (.ifCond .eq 6, 3) := by decide +kernel
theorem d_BufferWalk_spread_77 : decode b_BufferWalk_spread 77 = .ok (.iconst 0, 1) := by decide +kernel
theorem d_BufferWalk_spread_78 : decode b_BufferWalk_spread 78 = .ok (.istore 4, 2) := by decide +kernel
theorem d_BufferWalk_spread_80 : decode b_BufferWalk_spread 80 = .ok (.aload_n 0, 1) := by decide +kernel
theorem d_BufferWalk_spread_81 : decode b_BufferWalk_spread 81 = .ok (.iload 5, 2) := by decide +kernel
theorem d_BufferWalk_spread_83 : decode b_BufferWalk_spread 83 = .ok (.iload_n 1, 1) := by decide +kernel
theorem d_BufferWalk_spread_84 : decode b_BufferWalk_spread 84 = .ok (.invokevirtual 87, 3) := by decide +kernel
theorem d_BufferWalk_spread_87 : decode b_BufferWalk_spread 87 = .ok (.ifCond .eq 6, 3) := by decide +kernel
theorem d_BufferWalk_spread_90 : decode b_BufferWalk_spread 90 = .ok (.iconst 0, 1) := by decide +kernel
theorem d_BufferWalk_spread_91 : decode b_BufferWalk_spread 91 = .ok (.istore 4, 2) := by decide +kernel
theorem d_BufferWalk_spread_93 : decode b_BufferWalk_spread 93 = .ok (.iinc 5 1, 3) := by decide +kernel
theorem d_BufferWalk_spread_96 : decode b_BufferWalk_spread 96 = .ok (.goto (-41), 3) := by decide +kernel
theorem d_BufferWalk_spread_99 : decode b_BufferWalk_spread 99 = .ok (.iload 4, 2) := by decide +kernel
theorem d_BufferWalk_spread_101 : decode b_BufferWalk_spread 101 = .ok (.ifCond .eq 48, 3) := by decide +kernel
theorem d_BufferWalk_spread_104 : decode b_BufferWalk_spread 104 = .ok (.aload_n 0, 1) := by decide +kernel
theorem d_BufferWalk_spread_105 : decode b_BufferWalk_spread 105 = .ok (.getfield 22, 3) := by decide +kernel
theorem d_BufferWalk_spread_108 : decode b_BufferWalk_spread 108 = .ok (.aload_n 0, 1) := by decide +kernel
theorem d_BufferWalk_spread_109 : decode b_BufferWalk_spread 109 = .ok (.iconst 0, 1) := by decide +kernel
theorem d_BufferWalk_spread_110 : decode b_BufferWalk_spread 110 = .ok (.invokevirtual 90, 3) := by decide +kernel
theorem d_BufferWalk_spread_113 : decode b_BufferWalk_spread 113 = .ok (.aload_n 0, 1) := by decide +kernel
theorem d_BufferWalk_spread_114 : decode b_BufferWalk_spread 114 = .ok (.iconst 1, 1) := by decide +kernel
theorem d_BufferWalk_spread_115 : decode b_BufferWalk_spread 115 = .ok (.invokevirtual 90, 3) := by decide +kernel
theorem d_BufferWalk_spread_118 : decode b_BufferWalk_spread 118 = .ok (.aload_n 0, 1) := by decide +kernel
theorem d_BufferWalk_spread_119 : decode b_BufferWalk_spread 119 = .ok (.iconst 2, 1) := by decide +kernel
theorem d_BufferWalk_spread_120 : decode b_BufferWalk_spread 120 = .ok (.invokevirtual 90, 3) := by decide +kernel
theorem d_BufferWalk_spread_123 : decode b_BufferWalk_spread 123 = .ok (.invokevirtual 94, 3) := by decide +kernel
theorem d_BufferWalk_spread_126 : decode b_BufferWalk_spread 126 = .ok (.istore 5, 2) := by decide +kernel
theorem d_BufferWalk_spread_128 : decode b_BufferWalk_spread 128 = .ok (.aload_n 0, 1) := by decide +kernel
theorem d_BufferWalk_spread_129 : decode b_BufferWalk_spread 129 = .ok (.getfield 34, 3) := by decide +kernel
theorem d_BufferWalk_spread_132 : decode b_BufferWalk_spread 132 = .ok (.aload_n 0, 1) := by decide +kernel
theorem d_BufferWalk_spread_133 : decode b_BufferWalk_spread 133 = .ok (.getfield 22, 3) := by decide +kernel
theorem d_BufferWalk_spread_136 : decode b_BufferWalk_spread 136 = .ok (.invokevirtual 98, 3) := by decide +kernel
theorem d_BufferWalk_spread_139 : decode b_BufferWalk_spread 139 = .ok (.iload 5, 2) := by decide +kernel
theorem d_BufferWalk_spread_141 : decode b_BufferWalk_spread 141 = .ok (.aload_n 0, 1) := by decide +kernel
theorem d_BufferWalk_spread_142 : decode b_BufferWalk_spread 142 = .ok (.getfield 9, 3) := by decide +kernel
theorem d_BufferWalk_spread_145 : decode b_BufferWalk_spread 145 = .ok (.iload_n 1, 1) := by decide +kernel
theorem d_BufferWalk_spread_146 : decode b_BufferWalk_spread 146 = .ok (.invokevirtual 101, 3) := by decide +kernel
theorem d_BufferWalk_spread_149 : decode b_BufferWalk_spread 149 = .ok (.return_, 1) := by decide +kernel
theorem d_BufferWalk_sourceIn_0 : decode b_BufferWalk_sourceIn 0 = .ok (.aload_n 0, 1) := by decide +kernel
theorem d_BufferWalk_sourceIn_1 : decode b_BufferWalk_sourceIn 1 = .ok (.getfield 51, 3) := by decide +kernel
theorem d_BufferWalk_sourceIn_4 : decode b_BufferWalk_sourceIn 4 = .ok (.iconst 3, 1) := by decide +kernel
theorem d_BufferWalk_sourceIn_5 : decode b_BufferWalk_sourceIn 5 = .ok (.iload_n 1, 1) := by decide +kernel
theorem d_BufferWalk_sourceIn_6 : decode b_BufferWalk_sourceIn 6 = .ok (.imul, 1) := by decide +kernel
theorem d_BufferWalk_sourceIn_7 : decode b_BufferWalk_sourceIn 7 = .ok (.ishr, 1) := by decide +kernel
theorem d_BufferWalk_sourceIn_8 : decode b_BufferWalk_sourceIn 8 = .ok (.bipush 7, 2) := by decide +kernel
theorem d_BufferWalk_sourceIn_10 : decode b_BufferWalk_sourceIn 10 = .ok (.iand, 1) := by decide +kernel
theorem d_BufferWalk_sourceIn_11 : decode b_BufferWalk_sourceIn 11 = .ok (.ireturn, 1) := by decide +kernel
theorem d_BufferWalk_noteRaces_0 : decode b_BufferWalk_noteRaces 0 = .ok (.iconst 0, 1) := by decide +kernel
theorem d_BufferWalk_noteRaces_1 : decode b_BufferWalk_noteRaces 1 = .ok (.istore_n 1, 1) := by decide +kernel
theorem d_BufferWalk_noteRaces_2 : decode b_BufferWalk_noteRaces 2 = .ok (.iconst 0, 1) := by decide +kernel
theorem d_BufferWalk_noteRaces_3 : decode b_BufferWalk_noteRaces 3 = .ok (.istore_n 2, 1) := by decide +kernel
theorem d_BufferWalk_noteRaces_4 : decode b_BufferWalk_noteRaces 4 = .ok (.iload_n 2, 1) := by decide +kernel
theorem d_BufferWalk_noteRaces_5 : decode b_BufferWalk_noteRaces 5 = .ok (.aload_n 0, 1) := by decide +kernel
theorem d_BufferWalk_noteRaces_6 : decode b_BufferWalk_noteRaces 6 = .ok (.getfield 18, 3) := by decide +kernel
theorem d_BufferWalk_noteRaces_9 : decode b_BufferWalk_noteRaces 9 = .ok (.getfield 78, 3) := by decide +kernel
theorem d_BufferWalk_noteRaces_12 : decode b_BufferWalk_noteRaces 12 = .ok (.if_icmp .ge 33, 3) := by decide +kernel
theorem d_BufferWalk_noteRaces_15 : decode b_BufferWalk_noteRaces 15 = .ok (.aload_n 0, 1) := by decide +kernel
theorem d_BufferWalk_noteRaces_16 : decode b_BufferWalk_noteRaces 16 = .ok (.getfield 22, 3) := by decide +kernel
theorem d_BufferWalk_noteRaces_19 : decode b_BufferWalk_noteRaces 19 = .ok (.iload_n 2, 1) := by decide +kernel
theorem d_BufferWalk_noteRaces_20 : decode b_BufferWalk_noteRaces 20 = .ok (.invokevirtual 105, 3) := by decide +kernel
theorem d_BufferWalk_noteRaces_23 : decode b_BufferWalk_noteRaces 23 = .ok (.istore_n 3, 1) := by decide +kernel
theorem d_BufferWalk_noteRaces_24 : decode b_BufferWalk_noteRaces 24 = .ok (.iload_n 1, 1) := by decide +kernel
theorem d_BufferWalk_noteRaces_25 : decode b_BufferWalk_noteRaces 25 = .ok (.iload_n 3, 1) := by decide +kernel
theorem d_BufferWalk_noteRaces_26 : decode b_BufferWalk_noteRaces 26 = .ok (.iconst (-1), 1) := by decide +kernel
theorem d_BufferWalk_noteRaces_27 : decode b_BufferWalk_noteRaces 27 = .ok (.if_icmp .ne 7, 3) := by decide +kernel
theorem d_BufferWalk_noteRaces_30 : decode b_BufferWalk_noteRaces 30 = .ok (.iconst 0, 1) := by decide +kernel
theorem d_BufferWalk_noteRaces_31 : decode b_BufferWalk_noteRaces 31 = .ok (.goto 6, 3) := by decide +kernel
theorem d_BufferWalk_noteRaces_34 : decode b_BufferWalk_noteRaces 34 = .ok (.iconst 1, 1) := by decide +kernel
theorem d_BufferWalk_noteRaces_35 : decode b_BufferWalk_noteRaces 35 = .ok (.iload_n 3, 1) := by decide +kernel
theorem d_BufferWalk_noteRaces_36 : decode b_BufferWalk_noteRaces 36 = .ok (.ishl, 1) := by decide +kernel
theorem d_BufferWalk_noteRaces_37 : decode b_BufferWalk_noteRaces 37 = .ok (.ior, 1) := by decide +kernel
theorem d_BufferWalk_noteRaces_38 : decode b_BufferWalk_noteRaces 38 = .ok (.istore_n 1, 1) := by decide +kernel
theorem d_BufferWalk_noteRaces_39 : decode b_BufferWalk_noteRaces 39 = .ok (.iinc 2 1, 3) := by decide +kernel
theorem d_BufferWalk_noteRaces_42 : decode b_BufferWalk_noteRaces 42 = .ok (.goto (-38), 3) := by decide +kernel
theorem d_BufferWalk_noteRaces_45 : decode b_BufferWalk_noteRaces 45 = .ok (.iconst 0, 1) := by decide +kernel
theorem d_BufferWalk_noteRaces_46 : decode b_BufferWalk_noteRaces 46 = .ok (.istore_n 2, 1) := by decide +kernel
theorem d_BufferWalk_noteRaces_47 : decode b_BufferWalk_noteRaces 47 = .ok (.iload_n 2, 1) := by decide +kernel
theorem d_BufferWalk_noteRaces_48 : decode b_BufferWalk_noteRaces 48 = .ok (.aload_n 0, 1) := by decide +kernel
theorem d_BufferWalk_noteRaces_49 : decode b_BufferWalk_noteRaces 49 = .ok (.getfield 18, 3) := by decide +kernel
theorem d_BufferWalk_noteRaces_52 : decode b_BufferWalk_noteRaces 52 = .ok (.getfield 161, 3) := by decide +kernel
theorem d_BufferWalk_noteRaces_55 : decode b_BufferWalk_noteRaces 55 = .ok (.if_icmp .ge 36, 3) := by decide +kernel
theorem d_BufferWalk_noteRaces_58 : decode b_BufferWalk_noteRaces 58 = .ok (.iload_n 1, 1) := by decide +kernel
theorem d_BufferWalk_noteRaces_59 : decode b_BufferWalk_noteRaces 59 = .ok (.iload_n 2, 1) := by decide +kernel
theorem d_BufferWalk_noteRaces_60 : decode b_BufferWalk_noteRaces 60 = .ok (.invokestatic 146, 3) := by decide +kernel
theorem d_BufferWalk_noteRaces_63 : decode b_BufferWalk_noteRaces 63 = .ok (.ifCond .eq 22, 3) := by decide +kernel
theorem d_BufferWalk_noteRaces_66 : decode b_BufferWalk_noteRaces 66 = .ok (.aload_n 0, 1) := by decide +kernel
theorem d_BufferWalk_noteRaces_67 : decode b_BufferWalk_noteRaces 67 = .ok (.getfield 15, 3) := by decide +kernel
theorem d_BufferWalk_noteRaces_70 : decode b_BufferWalk_noteRaces 70 = .ok (.iload_n 2, 1) := by decide +kernel
theorem d_BufferWalk_noteRaces_71 : decode b_BufferWalk_noteRaces 71 = .ok (.dup2, 1) := by decide +kernel
theorem d_BufferWalk_noteRaces_72 : decode b_BufferWalk_noteRaces 72 = .ok (.iaload, 1) := by decide +kernel
theorem d_BufferWalk_noteRaces_73 : decode b_BufferWalk_noteRaces 73 = .ok (.iload_n 1, 1) := by decide +kernel
theorem d_BufferWalk_noteRaces_74 : decode b_BufferWalk_noteRaces 74 = .ok (.aload_n 0, 1) := by decide +kernel
theorem d_BufferWalk_noteRaces_75 : decode b_BufferWalk_noteRaces 75 = .ok (.getfield 18, 3) := by decide +kernel
theorem d_BufferWalk_noteRaces_78 : decode b_BufferWalk_noteRaces 78 = .ok (.iload_n 2, 1) := by decide +kernel
theorem d_BufferWalk_noteRaces_79 : decode b_BufferWalk_noteRaces 79 = .ok (.invokevirtual 164, 3) := by decide +kernel
theorem d_BufferWalk_noteRaces_82 : decode b_BufferWalk_noteRaces 82 = .ok (.iand, 1) := by decide +kernel
theorem d_BufferWalk_noteRaces_83 : decode b_BufferWalk_noteRaces 83 = .ok (.ior, 1) := by decide +kernel
theorem d_BufferWalk_noteRaces_84 : decode b_BufferWalk_noteRaces 84 = .ok (.iastore, 1) := by decide +kernel
theorem d_BufferWalk_noteRaces_85 : decode b_BufferWalk_noteRaces 85 = .ok (.iinc 2 1, 3) := by decide +kernel
theorem d_BufferWalk_noteRaces_88 : decode b_BufferWalk_noteRaces 88 = .ok (.goto (-41), 3) := by decide +kernel
theorem d_BufferWalk_noteRaces_91 : decode b_BufferWalk_noteRaces 91 = .ok (.return_, 1) := by decide +kernel
theorem d_GraphSearch_init_0 : decode b_GraphSearch_init 0 = .ok (.aload_n 0, 1) := by decide +kernel
theorem d_GraphSearch_init_1 : decode b_GraphSearch_init 1 = .ok (.invokespecial 3, 3) := by decide +kernel
theorem d_GraphSearch_init_4 : decode b_GraphSearch_init 4 = .ok (.aload_n 0, 1) := by decide +kernel
theorem d_GraphSearch_init_5 : decode b_GraphSearch_init 5 = .ok (.bipush 7, 2) := by decide +kernel
theorem d_GraphSearch_init_7 : decode b_GraphSearch_init 7 = .ok (.newarray .int, 2) := by decide +kernel
theorem d_GraphSearch_init_9 : decode b_GraphSearch_init 9 = .ok (.putfield 9, 3) := by decide +kernel
theorem d_GraphSearch_init_12 : decode b_GraphSearch_init 12 = .ok (.aload_n 0, 1) := by decide +kernel
theorem d_GraphSearch_init_13 : decode b_GraphSearch_init 13 = .ok (.iconst 4, 1) := by decide +kernel
theorem d_GraphSearch_init_14 : decode b_GraphSearch_init 14 = .ok (.newarray .int, 2) := by decide +kernel
theorem d_GraphSearch_init_16 : decode b_GraphSearch_init 16 = .ok (.putfield 15, 3) := by decide +kernel
theorem d_GraphSearch_init_19 : decode b_GraphSearch_init 19 = .ok (.aload_n 0, 1) := by decide +kernel
theorem d_GraphSearch_init_20 : decode b_GraphSearch_init 20 = .ok (.iconst 3, 1) := by decide +kernel
theorem d_GraphSearch_init_21 : decode b_GraphSearch_init 21 = .ok (.newarray .int, 2) := by decide +kernel
theorem d_GraphSearch_init_23 : decode b_GraphSearch_init 23 = .ok (.putfield 18, 3) := by decide +kernel
theorem d_GraphSearch_init_26 : decode b_GraphSearch_init 26 = .ok (.aload_n 0, 1) := by decide +kernel
theorem d_GraphSearch_init_27 : decode b_GraphSearch_init 27 = .ok (.bipush 7, 2) := by decide +kernel
theorem d_GraphSearch_init_29 : decode b_GraphSearch_init 29 = .ok (.newarray .int, 2) := by decide +kernel
theorem d_GraphSearch_init_31 : decode b_GraphSearch_init 31 = .ok (.putfield 21, 3) := by decide +kernel
theorem d_GraphSearch_init_34 : decode b_GraphSearch_init 34 = .ok (.aload_n 0, 1) := by decide +kernel
theorem d_GraphSearch_init_35 : decode b_GraphSearch_init 35 = .ok (.bipush 7, 2) := by decide +kernel
theorem d_GraphSearch_init_37 : decode b_GraphSearch_init 37 = .ok (.newarray .int, 2) := by decide +kernel
theorem d_GraphSearch_init_39 : decode b_GraphSearch_init 39 = .ok (.putfield 24, 3) := by decide +kernel
theorem d_GraphSearch_init_42 : decode b_GraphSearch_init 42 = .ok (.aload_n 0, 1) := by decide +kernel
theorem d_GraphSearch_init_43 : decode b_GraphSearch_init 43 = .ok (.bipush 7, 2) := by decide +kernel
theorem d_GraphSearch_init_45 : decode b_GraphSearch_init 45 = .ok (.newarray .int, 2) := by decide +kernel
theorem d_GraphSearch_init_47 : decode b_GraphSearch_init 47 = .ok (.putfield 27, 3) := by decide +kernel
theorem d_GraphSearch_init_50 : decode b_GraphSearch_init 50 = .ok (.aload_n 0, 1) := by decide +kernel
theorem d_GraphSearch_init_51 : decode b_GraphSearch_init 51 = .ok (.bipush 8, 2) := by decide +kernel
theorem d_GraphSearch_init_53 : decode b_GraphSearch_init 53 = .ok (.newarray .int, 2) := by decide +kernel
theorem d_GraphSearch_init_55 : decode b_GraphSearch_init 55 = .ok (.putfield 30, 3) := by decide +kernel
theorem d_GraphSearch_init_58 : decode b_GraphSearch_init 58 = .ok (.aload_n 0, 1) := by decide +kernel
theorem d_GraphSearch_init_59 : decode b_GraphSearch_init 59 = .ok (.iconst 4, 1) := by decide +kernel
theorem d_GraphSearch_init_60 : decode b_GraphSearch_init 60 = .ok (.newarray .int, 2) := by decide +kernel
theorem d_GraphSearch_init_62 : decode b_GraphSearch_init 62 = .ok (.putfield 33, 3) := by decide +kernel
theorem d_GraphSearch_init_65 : decode b_GraphSearch_init 65 = .ok (.aload_n 0, 1) := by decide +kernel
theorem d_GraphSearch_init_66 : decode b_GraphSearch_init 66 = .ok (.iconst 4, 1) := by decide +kernel
theorem d_GraphSearch_init_67 : decode b_GraphSearch_init 67 = .ok (.newarray .int, 2) := by decide +kernel
theorem d_GraphSearch_init_69 : decode b_GraphSearch_init 69 = .ok (.putfield 36, 3) := by decide +kernel
theorem d_GraphSearch_init_72 : decode b_GraphSearch_init 72 = .ok (.aload_n 0, 1) := by decide +kernel
theorem d_GraphSearch_init_73 : decode b_GraphSearch_init 73 = .ok (.bipush 7, 2) := by decide +kernel
theorem d_GraphSearch_init_75 : decode b_GraphSearch_init 75 = .ok (.newarray .int, 2) := by decide +kernel
theorem d_GraphSearch_init_77 : decode b_GraphSearch_init 77 = .ok (.putfield 39, 3) := by decide +kernel
theorem d_GraphSearch_init_80 : decode b_GraphSearch_init 80 = .ok (.aload_n 0, 1) := by decide +kernel
theorem d_GraphSearch_init_81 : decode b_GraphSearch_init 81 = .ok (.bipush 7, 2) := by decide +kernel
theorem d_GraphSearch_init_83 : decode b_GraphSearch_init 83 = .ok (.newarray .int, 2) := by decide +kernel
theorem d_GraphSearch_init_85 : decode b_GraphSearch_init 85 = .ok (.putfield 42, 3) := by decide +kernel
theorem d_GraphSearch_init_88 : decode b_GraphSearch_init 88 = .ok (.aload_n 0, 1) := by decide +kernel
theorem d_GraphSearch_init_89 : decode b_GraphSearch_init 89 = .ok (.bipush 7, 2) := by decide +kernel
theorem d_GraphSearch_init_91 : decode b_GraphSearch_init 91 = .ok (.newarray .int, 2) := by decide +kernel
theorem d_GraphSearch_init_93 : decode b_GraphSearch_init 93 = .ok (.putfield 45, 3) := by decide +kernel
theorem d_GraphSearch_init_96 : decode b_GraphSearch_init 96 = .ok (.aload_n 0, 1) := by decide +kernel
theorem d_GraphSearch_init_97 : decode b_GraphSearch_init 97 = .ok (.aload_n 1, 1) := by decide +kernel
theorem d_GraphSearch_init_98 : decode b_GraphSearch_init 98 = .ok (.putfield 48, 3) := by decide +kernel
theorem d_GraphSearch_init_101 : decode b_GraphSearch_init 101 = .ok (.aload_n 0, 1) := by decide +kernel
theorem d_GraphSearch_init_102 : decode b_GraphSearch_init 102 = .ok (.aload_n 2, 1) := by decide +kernel
theorem d_GraphSearch_init_103 : decode b_GraphSearch_init 103 = .ok (.putfield 52, 3) := by decide +kernel
theorem d_GraphSearch_init_106 : decode b_GraphSearch_init 106 = .ok (.return_, 1) := by decide +kernel
theorem d_GraphSearch_search_0 : decode b_GraphSearch_search 0 = .ok (.aload_n 0, 1) := by decide +kernel
theorem d_GraphSearch_search_1 : decode b_GraphSearch_search 1 = .ok (.iload_n 1, 1) := by decide +kernel
theorem d_GraphSearch_search_2 : decode b_GraphSearch_search 2 = .ok (.putfield 56, 3) := by decide +kernel
theorem d_GraphSearch_search_5 : decode b_GraphSearch_search 5 = .ok (.aload_n 0, 1) := by decide +kernel
theorem d_GraphSearch_search_6 : decode b_GraphSearch_search 6 = .ok (.aload_n 2, 1) := by decide +kernel
theorem d_GraphSearch_search_7 : decode b_GraphSearch_search 7 = .ok (.putfield 60, 3) := by decide +kernel
theorem d_GraphSearch_search_10 : decode b_GraphSearch_search 10 = .ok (.aload_n 0, 1) := by decide +kernel
theorem d_GraphSearch_search_11 : decode b_GraphSearch_search 11 = .ok (.getfield 60, 3) := by decide +kernel
theorem d_GraphSearch_search_14 : decode b_GraphSearch_search 14 = .ok (.invokevirtual 64, 3) := by decide +kernel
theorem d_GraphSearch_search_17 : decode b_GraphSearch_search 17 = .ok (.aload_n 0, 1) := by decide +kernel
theorem d_GraphSearch_search_18 : decode b_GraphSearch_search 18 = .ok (.getfield 52, 3) := by decide +kernel
theorem d_GraphSearch_search_21 : decode b_GraphSearch_search 21 = .ok (.invokevirtual 69, 3) := by decide +kernel
theorem d_GraphSearch_search_24 : decode b_GraphSearch_search 24 = .ok (.aload_n 0, 1) := by decide +kernel
theorem d_GraphSearch_search_25 : decode b_GraphSearch_search 25 = .ok (.getfield 9, 3) := by decide +kernel
theorem d_GraphSearch_search_28 : decode b_GraphSearch_search 28 = .ok (.iconst (-1), 1) := by decide +kernel
theorem d_GraphSearch_search_29 : decode b_GraphSearch_search 29 = .ok (.invokestatic 72, 3) := by decide +kernel
theorem d_GraphSearch_search_32 : decode b_GraphSearch_search 32 = .ok (.aload_n 0, 1) := by decide +kernel
theorem d_GraphSearch_search_33 : decode b_GraphSearch_search 33 = .ok (.getfield 15, 3) := by decide +kernel
theorem d_GraphSearch_search_36 : decode b_GraphSearch_search 36 = .ok (.iconst (-1), 1) := by decide +kernel
theorem d_GraphSearch_search_37 : decode b_GraphSearch_search 37 = .ok (.invokestatic 72, 3) := by decide +kernel
theorem d_GraphSearch_search_40 : decode b_GraphSearch_search 40 = .ok (.aload_n 0, 1) := by decide +kernel
theorem d_GraphSearch_search_41 : decode b_GraphSearch_search 41 = .ok (.getfield 18, 3) := by decide +kernel
theorem d_GraphSearch_search_44 : decode b_GraphSearch_search 44 = .ok (.iconst 0, 1) := by decide +kernel
theorem d_GraphSearch_search_45 : decode b_GraphSearch_search 45 = .ok (.invokestatic 72, 3) := by decide +kernel
theorem d_GraphSearch_search_48 : decode b_GraphSearch_search 48 = .ok (.iconst 0, 1) := by decide +kernel
theorem d_GraphSearch_search_49 : decode b_GraphSearch_search 49 = .ok (.istore_n 3, 1) := by decide +kernel
theorem d_GraphSearch_search_50 : decode b_GraphSearch_search 50 = .ok (.iload_n 3, 1) := by decide +kernel
theorem d_GraphSearch_search_51 : decode b_GraphSearch_search 51 = .ok (.aload_n 0, 1) := by decide +kernel
theorem d_GraphSearch_search_52 : decode b_GraphSearch_search 52 = .ok (.getfield 48, 3) := by decide +kernel
theorem d_GraphSearch_search_55 : decode b_GraphSearch_search 55 = .ok (.getfield 78, 3) := by decide +kernel
theorem d_GraphSearch_search_58 : decode b_GraphSearch_search 58 = .ok (.if_icmp .ge 14, 3) := by decide +kernel
theorem d_GraphSearch_search_61 : decode b_GraphSearch_search 61 = .ok (.aload_n 0, 1) := by decide +kernel
theorem d_GraphSearch_search_62 : decode b_GraphSearch_search 62 = .ok (.iload_n 3, 1) := by decide +kernel
theorem d_GraphSearch_search_63 : decode b_GraphSearch_search 63 = .ok (.invokevirtual 83, 3) := by decide +kernel
theorem d_GraphSearch_search_66 : decode b_GraphSearch_search 66 = .ok (.iinc 3 1, 3) := by decide +kernel
theorem d_GraphSearch_search_69 : decode b_GraphSearch_search 69 = .ok (.goto (-19), 3) := by decide +kernel
theorem d_GraphSearch_search_72 : decode b_GraphSearch_search 72 = .ok (.aload_n 0, 1) := by decide +kernel
theorem d_GraphSearch_search_73 : decode b_GraphSearch_search 73 = .ok (.iconst 0, 1) := by decide +kernel
theorem d_GraphSearch_search_74 : decode b_GraphSearch_search 74 = .ok (.invokevirtual 87, 3) := by decide +kernel
theorem d_GraphSearch_search_77 : decode b_GraphSearch_search 77 = .ok (.return_, 1) := by decide +kernel
theorem d_GraphSearch_choose_0 : decode b_GraphSearch_choose 0 = .ok (.iload_n 1, 1) := by decide +kernel
theorem d_GraphSearch_choose_1 : decode b_GraphSearch_choose 1 = .ok (.bipush 14, 2) := by decide +kernel
theorem d_GraphSearch_choose_3 : decode b_GraphSearch_choose 3 = .ok (.if_icmp .le 4, 3) := by decide +kernel
theorem d_GraphSearch_choose_6 : decode b_GraphSearch_choose 6 = .ok (.return_, 1) := by decide +kernel
theorem d_GraphSearch_choose_7 : decode b_GraphSearch_choose 7 = .ok (.aload_n 0, 1) := by decide +kernel
theorem d_GraphSearch_choose_8 : decode b_GraphSearch_choose 8 = .ok (.invokevirtual 107, 3) := by decide +kernel
theorem d_GraphSearch_choose_11 : decode b_GraphSearch_choose 11 = .ok (.istore_n 2, 1) := by decide +kernel
theorem d_GraphSearch_choose_12 : decode b_GraphSearch_choose 12 = .ok (.iload_n 2, 1) := by decide +kernel
theorem d_GraphSearch_choose_13 : decode b_GraphSearch_choose 13 = .ok (.iconst (-1), 1) := by decide +kernel
theorem d_GraphSearch_choose_14 : decode b_GraphSearch_choose 14 = .ok (.if_icmp .ne 33, 3) := by decide +kernel
theorem d_GraphSearch_choose_17 : decode b_GraphSearch_choose 17 = .ok (.aload_n 0, 1) := by decide +kernel
theorem d_GraphSearch_choose_18 : decode b_GraphSearch_choose 18 = .ok (.invokevirtual 110, 3) := by decide +kernel
theorem d_GraphSearch_choose_21 : decode b_GraphSearch_choose 21 = .ok (.ifCond .eq 25, 3) := by decide +kernel
theorem d_GraphSearch_choose_24 : decode b_GraphSearch_choose 24 = .ok (.aload_n 0, 1) := by decide +kernel
theorem d_GraphSearch_choose_25 : decode b_GraphSearch_choose 25 = .ok (.invokevirtual 114, 3) := by decide +kernel
theorem d_GraphSearch_choose_28 : decode b_GraphSearch_choose 28 = .ok (.aload_n 0, 1) := by decide +kernel
theorem d_GraphSearch_choose_29 : decode b_GraphSearch_choose 29 = .ok (.aload_n 0, 1) := by decide +kernel
theorem d_GraphSearch_choose_30 : decode b_GraphSearch_choose 30 = .ok (.getfield 56, 3) := by decide +kernel
theorem d_GraphSearch_choose_33 : decode b_GraphSearch_choose 33 = .ok (.iconst 3, 1) := by decide +kernel
theorem d_GraphSearch_choose_34 : decode b_GraphSearch_choose 34 = .ok (.if_icmp .ne 7, 3) := by decide +kernel
theorem d_GraphSearch_choose_37 : decode b_GraphSearch_choose 37 = .ok (.iconst 3, 1) := by decide +kernel
theorem d_GraphSearch_choose_38 : decode b_GraphSearch_choose 38 = .ok (.goto 4, 3) := by decide +kernel
theorem d_GraphSearch_choose_41 : decode b_GraphSearch_choose 41 = .ok (.iconst 2, 1) := by decide +kernel
theorem d_GraphSearch_choose_42 : decode b_GraphSearch_choose 42 = .ok (.iconst 0, 1) := by decide +kernel
theorem d_GraphSearch_choose_43 : decode b_GraphSearch_choose 43 = .ok (.invokevirtual 117, 3) := by decide +kernel
theorem d_GraphSearch_choose_46 : decode b_GraphSearch_choose 46 = .ok (.return_, 1) := by decide +kernel
theorem d_GraphSearch_choose_47 : decode b_GraphSearch_choose 47 = .ok (.aload_n 0, 1) := by decide +kernel
theorem d_GraphSearch_choose_48 : decode b_GraphSearch_choose 48 = .ok (.getfield 52, 3) := by decide +kernel
theorem d_GraphSearch_choose_51 : decode b_GraphSearch_choose 51 = .ok (.iload_n 2, 1) := by decide +kernel
theorem d_GraphSearch_choose_52 : decode b_GraphSearch_choose 52 = .ok (.invokevirtual 121, 3) := by decide +kernel
theorem d_GraphSearch_choose_55 : decode b_GraphSearch_choose 55 = .ok (.istore_n 3, 1) := by decide +kernel
theorem d_GraphSearch_choose_56 : decode b_GraphSearch_choose 56 = .ok (.aload_n 0, 1) := by decide +kernel
theorem d_GraphSearch_choose_57 : decode b_GraphSearch_choose 57 = .ok (.getfield 15, 3) := by decide +kernel
theorem d_GraphSearch_choose_60 : decode b_GraphSearch_choose 60 = .ok (.iload_n 2, 1) := by decide +kernel
theorem d_GraphSearch_choose_61 : decode b_GraphSearch_choose 61 = .ok (.iaload, 1) := by decide +kernel
theorem d_GraphSearch_choose_62 : decode b_GraphSearch_choose 62 = .ok (.istore 4, 2) := by decide +kernel
theorem d_GraphSearch_choose_64 : decode b_GraphSearch_choose 64 = .ok (.aload_n 0, 1) := by decide +kernel
theorem d_GraphSearch_choose_65 : decode b_GraphSearch_choose 65 = .ok (.getfield 48, 3) := by decide +kernel
theorem d_GraphSearch_choose_68 : decode b_GraphSearch_choose 68 = .ok (.iload_n 3, 1) := by decide +kernel
theorem d_GraphSearch_choose_69 : decode b_GraphSearch_choose 69 = .ok (.invokevirtual 124, 3) := by decide +kernel
theorem d_GraphSearch_choose_72 : decode b_GraphSearch_choose 72 = .ok (.ifCond .ne 13, 3) := by decide +kernel
theorem d_GraphSearch_choose_75 : decode b_GraphSearch_choose 75 = .ok (.aload_n 0, 1) := by decide +kernel
theorem d_GraphSearch_choose_76 : decode b_GraphSearch_choose 76 = .ok (.iload_n 3, 1) := by decide +kernel
theorem d_GraphSearch_choose_77 : decode b_GraphSearch_choose 77 = .ok (.iconst 0, 1) := by decide +kernel
theorem d_GraphSearch_choose_78 : decode b_GraphSearch_choose 78 = .ok (.iload_n 1, 1) := by decide +kernel
theorem d_GraphSearch_choose_79 : decode b_GraphSearch_choose 79 = .ok (.invokevirtual 128, 3) := by decide +kernel
theorem d_GraphSearch_choose_82 : decode b_GraphSearch_choose 82 = .ok (.goto 41, 3) := by decide +kernel
theorem d_GraphSearch_choose_85 : decode b_GraphSearch_choose 85 = .ok (.iload 4, 2) := by decide +kernel
theorem d_GraphSearch_choose_87 : decode b_GraphSearch_choose 87 = .ok (.iconst (-1), 1) := by decide +kernel
theorem d_GraphSearch_choose_88 : decode b_GraphSearch_choose 88 = .ok (.if_icmp .ne 12, 3) := by decide +kernel
theorem d_GraphSearch_choose_91 : decode b_GraphSearch_choose 91 = .ok (.aload_n 0, 1) := by decide +kernel
theorem d_GraphSearch_choose_92 : decode b_GraphSearch_choose 92 = .ok (.iload_n 3, 1) := by decide +kernel
theorem d_GraphSearch_choose_93 : decode b_GraphSearch_choose 93 = .ok (.iload_n 1, 1) := by decide +kernel
theorem d_GraphSearch_choose_94 : decode b_GraphSearch_choose 94 = .ok (.invokevirtual 132, 3) := by decide +kernel
theorem d_GraphSearch_choose_97 : decode b_GraphSearch_choose 97 = .ok (.goto 26, 3) := by decide +kernel
theorem d_GraphSearch_choose_100 : decode b_GraphSearch_choose 100 = .ok (.aload_n 0, 1) := by decide +kernel
theorem d_GraphSearch_choose_101 : decode b_GraphSearch_choose 101 = .ok (.getfield 15, 3) := by decide +kernel
theorem d_GraphSearch_choose_104 : decode b_GraphSearch_choose 104 = .ok (.iload_n 2, 1) := by decide +kernel
theorem d_GraphSearch_choose_105 : decode b_GraphSearch_choose 105 = .ok (.iconst (-1), 1) := by decide +kernel
theorem d_GraphSearch_choose_106 : decode b_GraphSearch_choose 106 = .ok (.iastore, 1) := by decide +kernel
theorem d_GraphSearch_choose_107 : decode b_GraphSearch_choose 107 = .ok (.aload_n 0, 1) := by decide +kernel
theorem d_GraphSearch_choose_108 : decode b_GraphSearch_choose 108 = .ok (.iload_n 3, 1) := by decide +kernel
theorem d_GraphSearch_choose_109 : decode b_GraphSearch_choose 109 = .ok (.iload 4, 2) := by decide +kernel
theorem d_GraphSearch_choose_111 : decode b_GraphSearch_choose 111 = .ok (.iload_n 1, 1) := by decide +kernel
theorem d_GraphSearch_choose_112 : decode b_GraphSearch_choose 112 = .ok (.invokevirtual 128, 3) := by decide +kernel
theorem d_GraphSearch_choose_115 : decode b_GraphSearch_choose 115 = .ok (.aload_n 0, 1) := by decide +kernel
theorem d_GraphSearch_choose_116 : decode b_GraphSearch_choose 116 = .ok (.getfield 15, 3) := by decide +kernel
theorem d_GraphSearch_choose_119 : decode b_GraphSearch_choose 119 = .ok (.iload_n 2, 1) := by decide +kernel
theorem d_GraphSearch_choose_120 : decode b_GraphSearch_choose 120 = .ok (.iload 4, 2) := by decide +kernel
theorem d_GraphSearch_choose_122 : decode b_GraphSearch_choose 122 = .ok (.iastore, 1) := by decide +kernel
theorem d_GraphSearch_choose_123 : decode b_GraphSearch_choose 123 = .ok (.return_, 1) := by decide +kernel
theorem d_GraphSearch_freeThread_0 : decode b_GraphSearch_freeThread 0 = .ok (.iconst 0, 1) := by decide +kernel
theorem d_GraphSearch_freeThread_1 : decode b_GraphSearch_freeThread 1 = .ok (.istore_n 1, 1) := by decide +kernel
theorem d_GraphSearch_freeThread_2 : decode b_GraphSearch_freeThread 2 = .ok (.iload_n 1, 1) := by decide +kernel
theorem d_GraphSearch_freeThread_3 : decode b_GraphSearch_freeThread 3 = .ok (.aload_n 0, 1) := by decide +kernel
theorem d_GraphSearch_freeThread_4 : decode b_GraphSearch_freeThread 4 = .ok (.getfield 48, 3) := by decide +kernel
theorem d_GraphSearch_freeThread_7 : decode b_GraphSearch_freeThread 7 = .ok (.getfield 135, 3) := by decide +kernel
theorem d_GraphSearch_freeThread_10 : decode b_GraphSearch_freeThread 10 = .ok (.if_icmp .ge 31, 3) := by decide +kernel
theorem d_GraphSearch_freeThread_13 : decode b_GraphSearch_freeThread 13 = .ok (.aload_n 0, 1) := by decide +kernel
theorem d_GraphSearch_freeThread_14 : decode b_GraphSearch_freeThread 14 = .ok (.getfield 52, 3) := by decide +kernel
theorem d_GraphSearch_freeThread_17 : decode b_GraphSearch_freeThread 17 = .ok (.iload_n 1, 1) := by decide +kernel
theorem d_GraphSearch_freeThread_18 : decode b_GraphSearch_freeThread 18 = .ok (.invokevirtual 121, 3) := by decide +kernel
theorem d_GraphSearch_freeThread_21 : decode b_GraphSearch_freeThread 21 = .ok (.iconst (-1), 1) := by decide +kernel
theorem d_GraphSearch_freeThread_22 : decode b_GraphSearch_freeThread 22 = .ok (.if_icmp .eq 13, 3) := by decide +kernel
theorem d_GraphSearch_freeThread_25 : decode b_GraphSearch_freeThread 25 = .ok (.aload_n 0, 1) := by decide +kernel
theorem d_GraphSearch_freeThread_26 : decode b_GraphSearch_freeThread 26 = .ok (.iload_n 1, 1) := by decide +kernel
theorem d_GraphSearch_freeThread_27 : decode b_GraphSearch_freeThread 27 = .ok (.invokevirtual 138, 3) := by decide +kernel
theorem d_GraphSearch_freeThread_30 : decode b_GraphSearch_freeThread 30 = .ok (.ifCond .ne 5, 3) := by decide +kernel
theorem d_GraphSearch_freeThread_33 : decode b_GraphSearch_freeThread 33 = .ok (.iload_n 1, 1) := by decide +kernel
theorem d_GraphSearch_freeThread_34 : decode b_GraphSearch_freeThread 34 = .ok (.ireturn, 1) := by decide +kernel
theorem d_GraphSearch_freeThread_35 : decode b_GraphSearch_freeThread 35 = .ok (.iinc 1 1, 3) := by decide +kernel
theorem d_GraphSearch_freeThread_38 : decode b_GraphSearch_freeThread 38 = .ok (.goto (-36), 3) := by decide +kernel
theorem d_GraphSearch_freeThread_41 : decode b_GraphSearch_freeThread 41 = .ok (.iconst (-1), 1) := by decide +kernel
theorem d_GraphSearch_freeThread_42 : decode b_GraphSearch_freeThread 42 = .ok (.ireturn, 1) := by decide +kernel
theorem d_GraphSearch_allEnded_0 : decode b_GraphSearch_allEnded 0 = .ok (.iconst 0, 1) := by decide +kernel
theorem d_GraphSearch_allEnded_1 : decode b_GraphSearch_allEnded 1 = .ok (.istore_n 1, 1) := by decide +kernel
theorem d_GraphSearch_allEnded_2 : decode b_GraphSearch_allEnded 2 = .ok (.iload_n 1, 1) := by decide +kernel
theorem d_GraphSearch_allEnded_3 : decode b_GraphSearch_allEnded 3 = .ok (.aload_n 0, 1) := by decide +kernel
theorem d_GraphSearch_allEnded_4 : decode b_GraphSearch_allEnded 4 = .ok (.getfield 48, 3) := by decide +kernel
theorem d_GraphSearch_allEnded_7 : decode b_GraphSearch_allEnded 7 = .ok (.getfield 135, 3) := by decide +kernel
theorem d_GraphSearch_allEnded_10 : decode b_GraphSearch_allEnded 10 = .ok (.if_icmp .ge 23, 3) := by decide +kernel
theorem d_GraphSearch_allEnded_13 : decode b_GraphSearch_allEnded 13 = .ok (.aload_n 0, 1) := by decide +kernel
theorem d_GraphSearch_allEnded_14 : decode b_GraphSearch_allEnded 14 = .ok (.getfield 52, 3) := by decide +kernel
theorem d_GraphSearch_allEnded_17 : decode b_GraphSearch_allEnded 17 = .ok (.iload_n 1, 1) := by decide +kernel
theorem d_GraphSearch_allEnded_18 : decode b_GraphSearch_allEnded 18 = .ok (.invokevirtual 121, 3) := by decide +kernel
theorem d_GraphSearch_allEnded_21 : decode b_GraphSearch_allEnded 21 = .ok (.iconst (-1), 1) := by decide +kernel
theorem d_GraphSearch_allEnded_22 : decode b_GraphSearch_allEnded 22 = .ok (.if_icmp .eq 5, 3) := by decide +kernel
theorem d_GraphSearch_allEnded_25 : decode b_GraphSearch_allEnded 25 = .ok (.iconst 0, 1) := by decide +kernel
theorem d_GraphSearch_allEnded_26 : decode b_GraphSearch_allEnded 26 = .ok (.ireturn, 1) := by decide +kernel
theorem d_GraphSearch_allEnded_27 : decode b_GraphSearch_allEnded 27 = .ok (.iinc 1 1, 3) := by decide +kernel
theorem d_GraphSearch_allEnded_30 : decode b_GraphSearch_allEnded 30 = .ok (.goto (-28), 3) := by decide +kernel
theorem d_GraphSearch_allEnded_33 : decode b_GraphSearch_allEnded 33 = .ok (.iconst 1, 1) := by decide +kernel
theorem d_GraphSearch_allEnded_34 : decode b_GraphSearch_allEnded 34 = .ok (.ireturn, 1) := by decide +kernel
theorem d_GraphSearch_noteReaders_0 : decode b_GraphSearch_noteReaders 0 = .ok (.aload_n 0, 1) := by decide +kernel
theorem d_GraphSearch_noteReaders_1 : decode b_GraphSearch_noteReaders 1 = .ok (.aload_n 0, 1) := by decide +kernel
theorem d_GraphSearch_noteReaders_2 : decode b_GraphSearch_noteReaders 2 = .ok (.getfield 52, 3) := by decide +kernel
theorem d_GraphSearch_noteReaders_5 : decode b_GraphSearch_noteReaders 5 = .ok (.getfield 172, 3) := by decide +kernel
theorem d_GraphSearch_noteReaders_8 : decode b_GraphSearch_noteReaders 8 = .ok (.aload_n 0, 1) := by decide +kernel
theorem d_GraphSearch_noteReaders_9 : decode b_GraphSearch_noteReaders 9 = .ok (.getfield 48, 3) := by decide +kernel
theorem d_GraphSearch_noteReaders_12 : decode b_GraphSearch_noteReaders 12 = .ok (.getfield 181, 3) := by decide +kernel
theorem d_GraphSearch_noteReaders_15 : decode b_GraphSearch_noteReaders 15 = .ok (.iconst 5, 1) := by decide +kernel
theorem d_GraphSearch_noteReaders_16 : decode b_GraphSearch_noteReaders 16 = .ok (.iaload, 1) := by decide +kernel
theorem d_GraphSearch_noteReaders_17 : decode b_GraphSearch_noteReaders 17 = .ok (.iconst (-1), 1) := by decide +kernel
theorem d_GraphSearch_noteReaders_18 : decode b_GraphSearch_noteReaders 18 = .ok (.ixor, 1) := by decide +kernel
theorem d_GraphSearch_noteReaders_19 : decode b_GraphSearch_noteReaders 19 = .ok (.iand, 1) := by decide +kernel
theorem d_GraphSearch_noteReaders_20 : decode b_GraphSearch_noteReaders 20 = .ok (.putfield 190, 3) := by decide +kernel
theorem d_GraphSearch_noteReaders_23 : decode b_GraphSearch_noteReaders 23 = .ok (.aload_n 0, 1) := by decide +kernel
theorem d_GraphSearch_noteReaders_24 : decode b_GraphSearch_noteReaders 24 = .ok (.getfield 30, 3) := by decide +kernel
theorem d_GraphSearch_noteReaders_27 : decode b_GraphSearch_noteReaders 27 = .ok (.iconst 0, 1) := by decide +kernel
theorem d_GraphSearch_noteReaders_28 : decode b_GraphSearch_noteReaders 28 = .ok (.invokestatic 72, 3) := by decide +kernel
theorem d_GraphSearch_noteReaders_31 : decode b_GraphSearch_noteReaders 31 = .ok (.aload_n 0, 1) := by decide +kernel
theorem d_GraphSearch_noteReaders_32 : decode b_GraphSearch_noteReaders 32 = .ok (.getfield 33, 3) := by decide +kernel
theorem d_GraphSearch_noteReaders_35 : decode b_GraphSearch_noteReaders 35 = .ok (.iconst 0, 1) := by decide +kernel
theorem d_GraphSearch_noteReaders_36 : decode b_GraphSearch_noteReaders 36 = .ok (.invokestatic 72, 3) := by decide +kernel
theorem d_GraphSearch_noteReaders_39 : decode b_GraphSearch_noteReaders 39 = .ok (.aload_n 0, 1) := by decide +kernel
theorem d_GraphSearch_noteReaders_40 : decode b_GraphSearch_noteReaders 40 = .ok (.getfield 39, 3) := by decide +kernel
theorem d_GraphSearch_noteReaders_43 : decode b_GraphSearch_noteReaders 43 = .ok (.iconst 0, 1) := by decide +kernel
theorem d_GraphSearch_noteReaders_44 : decode b_GraphSearch_noteReaders 44 = .ok (.invokestatic 72, 3) := by decide +kernel
theorem d_GraphSearch_noteReaders_47 : decode b_GraphSearch_noteReaders 47 = .ok (.iconst 0, 1) := by decide +kernel
theorem d_GraphSearch_noteReaders_48 : decode b_GraphSearch_noteReaders 48 = .ok (.istore_n 1, 1) := by decide +kernel
theorem d_GraphSearch_noteReaders_49 : decode b_GraphSearch_noteReaders 49 = .ok (.iload_n 1, 1) := by decide +kernel
theorem d_GraphSearch_noteReaders_50 : decode b_GraphSearch_noteReaders 50 = .ok (.aload_n 0, 1) := by decide +kernel
theorem d_GraphSearch_noteReaders_51 : decode b_GraphSearch_noteReaders 51 = .ok (.getfield 48, 3) := by decide +kernel
theorem d_GraphSearch_noteReaders_54 : decode b_GraphSearch_noteReaders 54 = .ok (.getfield 78, 3) := by decide +kernel
theorem d_GraphSearch_noteReaders_57 : decode b_GraphSearch_noteReaders 57 = .ok (.if_icmp .ge 36, 3) := by decide +kernel
theorem d_GraphSearch_noteReaders_60 : decode b_GraphSearch_noteReaders 60 = .ok (.aload_n 0, 1) := by decide +kernel
theorem d_GraphSearch_noteReaders_61 : decode b_GraphSearch_noteReaders 61 = .ok (.getfield 190, 3) := by decide +kernel
theorem d_GraphSearch_noteReaders_64 : decode b_GraphSearch_noteReaders 64 = .ok (.iload_n 1, 1) := by decide +kernel
theorem d_GraphSearch_noteReaders_65 : decode b_GraphSearch_noteReaders 65 = .ok (.invokestatic 166, 3) := by decide +kernel
theorem d_GraphSearch_noteReaders_68 : decode b_GraphSearch_noteReaders 68 = .ok (.ifCond .eq 19, 3) := by decide +kernel
theorem d_GraphSearch_noteReaders_71 : decode b_GraphSearch_noteReaders 71 = .ok (.aload_n 0, 1) := by decide +kernel
theorem d_GraphSearch_noteReaders_72 : decode b_GraphSearch_noteReaders 72 = .ok (.getfield 48, 3) := by decide +kernel
theorem d_GraphSearch_noteReaders_75 : decode b_GraphSearch_noteReaders 75 = .ok (.iload_n 1, 1) := by decide +kernel
theorem d_GraphSearch_noteReaders_76 : decode b_GraphSearch_noteReaders 76 = .ok (.invokevirtual 124, 3) := by decide +kernel
theorem d_GraphSearch_noteReaders_79 : decode b_GraphSearch_noteReaders 79 = .ok (.ifCond .eq 8, 3) := by decide +kernel
theorem d_GraphSearch_noteReaders_82 : decode b_GraphSearch_noteReaders 82 = .ok (.aload_n 0, 1) := by decide +kernel
theorem d_GraphSearch_noteReaders_83 : decode b_GraphSearch_noteReaders 83 = .ok (.iload_n 1, 1) := by decide +kernel
theorem d_GraphSearch_noteReaders_84 : decode b_GraphSearch_noteReaders 84 = .ok (.invokevirtual 193, 3) := by decide +kernel
theorem d_GraphSearch_noteReaders_87 : decode b_GraphSearch_noteReaders 87 = .ok (.iinc 1 1, 3) := by decide +kernel
theorem d_GraphSearch_noteReaders_90 : decode b_GraphSearch_noteReaders 90 = .ok (.goto (-41), 3) := by decide +kernel
theorem d_GraphSearch_noteReaders_93 : decode b_GraphSearch_noteReaders 93 = .ok (.return_, 1) := by decide +kernel
theorem d_GraphSearch_startRow_0 : decode b_GraphSearch_startRow 0 = .ok (.aload_n 0, 1) := by decide +kernel
theorem d_GraphSearch_startRow_1 : decode b_GraphSearch_startRow 1 = .ok (.getfield 56, 3) := by decide +kernel
theorem d_GraphSearch_startRow_4 : decode b_GraphSearch_startRow 4 = .ok (.iconst 3, 1) := by decide +kernel
theorem d_GraphSearch_startRow_5 : decode b_GraphSearch_startRow 5 = .ok (.if_icmp .ne 12, 3) := by decide +kernel
theorem d_GraphSearch_startRow_8 : decode b_GraphSearch_startRow 8 = .ok (.iload_n 1, 1) := by decide +kernel
theorem d_GraphSearch_startRow_9 : decode b_GraphSearch_startRow 9 = .ok (.iconst 2, 1) := by decide +kernel
theorem d_GraphSearch_startRow_10 : decode b_GraphSearch_startRow 10 = .ok (.if_icmp .ne 7, 3) := by decide +kernel
theorem d_GraphSearch_startRow_13 : decode b_GraphSearch_startRow 13 = .ok (.aload_n 0, 1) := by decide +kernel
theorem d_GraphSearch_startRow_14 : decode b_GraphSearch_startRow 14 = .ok (.invokevirtual 196, 3) := by decide +kernel
theorem d_GraphSearch_startRow_17 : decode b_GraphSearch_startRow 17 = .ok (.iload_n 1, 1) := by decide +kernel
theorem d_GraphSearch_startRow_18 : decode b_GraphSearch_startRow 18 = .ok (.ifCond .lt 33, 3) := by decide +kernel
theorem d_GraphSearch_startRow_21 : decode b_GraphSearch_startRow 21 = .ok (.aload_n 0, 1) := by decide +kernel
theorem d_GraphSearch_startRow_22 : decode b_GraphSearch_startRow 22 = .ok (.iload_n 1, 1) := by decide +kernel
theorem d_GraphSearch_startRow_23 : decode b_GraphSearch_startRow 23 = .ok (.iconst 0, 1) := by decide +kernel
theorem d_GraphSearch_startRow_24 : decode b_GraphSearch_startRow 24 = .ok (.aload_n 0, 1) := by decide +kernel
theorem d_GraphSearch_startRow_25 : decode b_GraphSearch_startRow 25 = .ok (.getfield 48, 3) := by decide +kernel
theorem d_GraphSearch_startRow_28 : decode b_GraphSearch_startRow 28 = .ok (.iload_n 1, 1) := by decide +kernel
theorem d_GraphSearch_startRow_29 : decode b_GraphSearch_startRow 29 = .ok (.invokevirtual 163, 3) := by decide +kernel
theorem d_GraphSearch_startRow_32 : decode b_GraphSearch_startRow 32 = .ok (.aload_n 0, 1) := by decide +kernel
theorem d_GraphSearch_startRow_33 : decode b_GraphSearch_startRow 33 = .ok (.getfield 190, 3) := by decide +kernel
theorem d_GraphSearch_startRow_36 : decode b_GraphSearch_startRow 36 = .ok (.iand, 1) := by decide +kernel
theorem d_GraphSearch_startRow_37 : decode b_GraphSearch_startRow 37 = .ok (.iconst 0, 1) := by decide +kernel
theorem d_GraphSearch_startRow_38 : decode b_GraphSearch_startRow 38 = .ok (.aload_n 0, 1) := by decide +kernel
theorem d_GraphSearch_startRow_39 : decode b_GraphSearch_startRow 39 = .ok (.getfield 33, 3) := by decide +kernel
theorem d_GraphSearch_startRow_42 : decode b_GraphSearch_startRow 42 = .ok (.iload_n 1, 1) := by decide +kernel
theorem d_GraphSearch_startRow_43 : decode b_GraphSearch_startRow 43 = .ok (.iaload, 1) := by decide +kernel
theorem d_GraphSearch_startRow_44 : decode b_GraphSearch_startRow 44 = .ok (.iload_n 2, 1) := by decide +kernel
theorem d_GraphSearch_startRow_45 : decode b_GraphSearch_startRow 45 = .ok (.invokevirtual 199, 3) := by decide +kernel
theorem d_GraphSearch_startRow_48 : decode b_GraphSearch_startRow 48 = .ok (.goto 51, 3) := by decide +kernel
theorem d_GraphSearch_startRow_51 : decode b_GraphSearch_startRow 51 = .ok (.aload_n 0, 1) := by decide +kernel
theorem d_GraphSearch_startRow_52 : decode b_GraphSearch_startRow 52 = .ok (.invokevirtual 203, 3) := by decide +kernel
theorem d_GraphSearch_startRow_55 : decode b_GraphSearch_startRow 55 = .ok (.ifCond .eq 44, 3) := by decide +kernel
theorem d_GraphSearch_startRow_58 : decode b_GraphSearch_startRow 58 = .ok (.aload_n 0, 1) := by decide +kernel
theorem d_GraphSearch_startRow_59 : decode b_GraphSearch_startRow 59 = .ok (.getfield 52, 3) := by decide +kernel
theorem d_GraphSearch_startRow_62 : decode b_GraphSearch_startRow 62 = .ok (.aload_n 0, 1) := by decide +kernel
theorem d_GraphSearch_startRow_63 : decode b_GraphSearch_startRow 63 = .ok (.getfield 36, 3) := by decide +kernel
theorem d_GraphSearch_startRow_66 : decode b_GraphSearch_startRow 66 = .ok (.iconst 0, 1) := by decide +kernel
theorem d_GraphSearch_startRow_67 : decode b_GraphSearch_startRow 67 = .ok (.iaload, 1) := by decide +kernel
theorem d_GraphSearch_startRow_68 : decode b_GraphSearch_startRow 68 = .ok (.aload_n 0, 1) := by decide +kernel
theorem d_GraphSearch_startRow_69 : decode b_GraphSearch_startRow 69 = .ok (.getfield 36, 3) := by decide +kernel
theorem d_GraphSearch_startRow_72 : decode b_GraphSearch_startRow 72 = .ok (.iconst 1, 1) := by decide +kernel
theorem d_GraphSearch_startRow_73 : decode b_GraphSearch_startRow 73 = .ok (.iaload, 1) := by decide +kernel
theorem d_GraphSearch_startRow_74 : decode b_GraphSearch_startRow 74 = .ok (.aload_n 0, 1) := by decide +kernel
theorem d_GraphSearch_startRow_75 : decode b_GraphSearch_startRow 75 = .ok (.getfield 36, 3) := by decide +kernel
theorem d_GraphSearch_startRow_78 : decode b_GraphSearch_startRow 78 = .ok (.iconst 2, 1) := by decide +kernel
theorem d_GraphSearch_startRow_79 : decode b_GraphSearch_startRow 79 = .ok (.iaload, 1) := by decide +kernel
theorem d_GraphSearch_startRow_80 : decode b_GraphSearch_startRow 80 = .ok (.invokevirtual 206, 3) := by decide +kernel
theorem d_GraphSearch_startRow_83 : decode b_GraphSearch_startRow 83 = .ok (.istore_n 3, 1) := by decide +kernel
theorem d_GraphSearch_startRow_84 : decode b_GraphSearch_startRow 84 = .ok (.aload_n 0, 1) := by decide +kernel
theorem d_GraphSearch_startRow_85 : decode b_GraphSearch_startRow 85 = .ok (.getfield 60, 3) := by decide +kernel
theorem d_GraphSearch_startRow_88 : decode b_GraphSearch_startRow 88 = .ok (.aload_n 0, 1) := by decide +kernel
theorem d_GraphSearch_startRow_89 : decode b_GraphSearch_startRow 89 = .ok (.getfield 52, 3) := by decide +kernel
theorem d_GraphSearch_startRow_92 : decode b_GraphSearch_startRow 92 = .ok (.invokevirtual 210, 3) := by decide +kernel
theorem d_GraphSearch_startRow_95 : decode b_GraphSearch_startRow 95 = .ok (.iload_n 3, 1) := by decide +kernel
theorem d_GraphSearch_startRow_96 : decode b_GraphSearch_startRow 96 = .ok (.invokevirtual 214, 3) := by decide +kernel
theorem d_GraphSearch_startRow_99 : decode b_GraphSearch_startRow 99 = .ok (.return_, 1) := by decide +kernel
theorem d_GraphSearch_lay_0 : decode b_GraphSearch_lay 0 = .ok (.iload 6, 2) := by decide +kernel
theorem d_GraphSearch_lay_2 : decode b_GraphSearch_lay 2 = .ok (.bipush 11, 2) := by decide +kernel
theorem d_GraphSearch_lay_4 : decode b_GraphSearch_lay 4 = .ok (.if_icmp .le 4, 3) := by decide +kernel
theorem d_GraphSearch_lay_7 : decode b_GraphSearch_lay 7 = .ok (.return_, 1) := by decide +kernel
theorem d_GraphSearch_lay_8 : decode b_GraphSearch_lay 8 = .ok (.iload_n 3, 1) := by decide +kernel
theorem d_GraphSearch_lay_9 : decode b_GraphSearch_lay 9 = .ok (.ifCond .ne 22, 3) := by decide +kernel
theorem d_GraphSearch_lay_12 : decode b_GraphSearch_lay 12 = .ok (.aload_n 0, 1) := by decide +kernel
theorem d_GraphSearch_lay_13 : decode b_GraphSearch_lay 13 = .ok (.getfield 36, 3) := by decide +kernel
theorem d_GraphSearch_lay_16 : decode b_GraphSearch_lay 16 = .ok (.iload_n 1, 1) := by decide +kernel
theorem d_GraphSearch_lay_17 : decode b_GraphSearch_lay 17 = .ok (.iload_n 2, 1) := by decide +kernel
theorem d_GraphSearch_lay_18 : decode b_GraphSearch_lay 18 = .ok (.iastore, 1) := by decide +kernel
theorem d_GraphSearch_lay_19 : decode b_GraphSearch_lay 19 = .ok (.aload_n 0, 1) := by decide +kernel
theorem d_GraphSearch_lay_20 : decode b_GraphSearch_lay 20 = .ok (.iload_n 1, 1) := by decide +kernel
theorem d_GraphSearch_lay_21 : decode b_GraphSearch_lay 21 = .ok (.iconst 1, 1) := by decide +kernel
theorem d_GraphSearch_lay_22 : decode b_GraphSearch_lay 22 = .ok (.isub, 1) := by decide +kernel
theorem d_GraphSearch_lay_23 : decode b_GraphSearch_lay 23 = .ok (.iload 6, 2) := by decide +kernel
theorem d_GraphSearch_lay_25 : decode b_GraphSearch_lay 25 = .ok (.iconst 1, 1) := by decide +kernel
theorem d_GraphSearch_lay_26 : decode b_GraphSearch_lay 26 = .ok (.iadd, 1) := by decide +kernel
theorem d_GraphSearch_lay_27 : decode b_GraphSearch_lay 27 = .ok (.invokevirtual 117, 3) := by decide +kernel
theorem d_GraphSearch_lay_30 : decode b_GraphSearch_lay 30 = .ok (.return_, 1) := by decide +kernel
theorem d_GraphSearch_lay_31 : decode b_GraphSearch_lay 31 = .ok (.iload_n 1, 1) := by decide +kernel
theorem d_GraphSearch_lay_32 : decode b_GraphSearch_lay 32 = .ok (.iconst 3, 1) := by decide +kernel
theorem d_GraphSearch_lay_33 : decode b_GraphSearch_lay 33 = .ok (.if_icmp .ne 7, 3) := by decide +kernel
theorem d_GraphSearch_lay_36 : decode b_GraphSearch_lay 36 = .ok (.iconst 0, 1) := by decide +kernel
theorem d_GraphSearch_lay_37 : decode b_GraphSearch_lay 37 = .ok (.goto 14, 3) := by decide +kernel
theorem d_GraphSearch_lay_40 : decode b_GraphSearch_lay 40 = .ok (.iload_n 3, 1) := by decide +kernel
theorem d_GraphSearch_lay_41 : decode b_GraphSearch_lay 41 = .ok (.aload_n 0, 1) := by decide +kernel
theorem d_GraphSearch_lay_42 : decode b_GraphSearch_lay 42 = .ok (.getfield 48, 3) := by decide +kernel
theorem d_GraphSearch_lay_45 : decode b_GraphSearch_lay 45 = .ok (.getfield 181, 3) := by decide +kernel
theorem d_GraphSearch_lay_48 : decode b_GraphSearch_lay 48 = .ok (.iconst 3, 1) := by decide +kernel
theorem d_GraphSearch_lay_49 : decode b_GraphSearch_lay 49 = .ok (.iaload, 1) := by decide +kernel
theorem d_GraphSearch_lay_50 : decode b_GraphSearch_lay 50 = .ok (.iand, 1) := by decide +kernel
theorem d_GraphSearch_lay_51 : decode b_GraphSearch_lay 51 = .ok (.istore 7, 2) := by decide +kernel
theorem d_GraphSearch_lay_53 : decode b_GraphSearch_lay 53 = .ok (.iload 7, 2) := by decide +kernel
theorem d_GraphSearch_lay_55 : decode b_GraphSearch_lay 55 = .ok (.iload_n 2, 1) := by decide +kernel
theorem d_GraphSearch_lay_56 : decode b_GraphSearch_lay 56 = .ok (.ifCond .ne 12, 3) := by decide +kernel
theorem d_GraphSearch_lay_59 : decode b_GraphSearch_lay 59 = .ok (.aload_n 0, 1) := by decide +kernel
theorem d_GraphSearch_lay_60 : decode b_GraphSearch_lay 60 = .ok (.getfield 33, 3) := by decide +kernel
theorem d_GraphSearch_lay_63 : decode b_GraphSearch_lay 63 = .ok (.iload_n 1, 1) := by decide +kernel
theorem d_GraphSearch_lay_64 : decode b_GraphSearch_lay 64 = .ok (.iaload, 1) := by decide +kernel
theorem d_GraphSearch_lay_65 : decode b_GraphSearch_lay 65 = .ok (.goto 9, 3) := by decide +kernel
theorem d_GraphSearch_lay_68 : decode b_GraphSearch_lay 68 = .ok (.aload_n 0, 1) := by decide +kernel
theorem d_GraphSearch_lay_69 : decode b_GraphSearch_lay 69 = .ok (.getfield 30, 3) := by decide +kernel
theorem d_GraphSearch_lay_72 : decode b_GraphSearch_lay 72 = .ok (.iload_n 2, 1) := by decide +kernel
theorem d_GraphSearch_lay_73 : decode b_GraphSearch_lay 73 = .ok (.iaload, 1) := by decide +kernel
theorem d_GraphSearch_lay_74 : decode b_GraphSearch_lay 74 = .ok (.iand, 1) := by decide +kernel
theorem d_GraphSearch_lay_75 : decode b_GraphSearch_lay 75 = .ok (.istore 8, 2) := by decide +kernel
theorem d_GraphSearch_lay_77 : decode b_GraphSearch_lay 77 = .ok (.iload 8, 2) := by decide +kernel
theorem d_GraphSearch_lay_79 : decode b_GraphSearch_lay 79 = .ok (.ifCond .eq 8, 3) := by decide +kernel
theorem d_GraphSearch_lay_82 : decode b_GraphSearch_lay 82 = .ok (.iload 8, 2) := by decide +kernel
theorem d_GraphSearch_lay_84 : decode b_GraphSearch_lay 84 = .ok (.goto 9, 3) := by decide +kernel
theorem d_GraphSearch_lay_87 : decode b_GraphSearch_lay 87 = .ok (.iload_n 3, 1) := by decide +kernel
theorem d_GraphSearch_lay_88 : decode b_GraphSearch_lay 88 = .ok (.iload 7, 2) := by decide +kernel
theorem d_GraphSearch_lay_90 : decode b_GraphSearch_lay 90 = .ok (.iconst (-1), 1) := by decide +kernel
theorem d_GraphSearch_lay_91 : decode b_GraphSearch_lay 91 = .ok (.ixor, 1) := by decide +kernel
theorem d_GraphSearch_lay_92 : decode b_GraphSearch_lay 92 = .ok (.iand, 1) := by decide +kernel
theorem d_GraphSearch_lay_93 : decode b_GraphSearch_lay 93 = .ok (.istore 9, 2) := by decide +kernel
theorem d_GraphSearch_lay_95 : decode b_GraphSearch_lay 95 = .ok (.iconst 0, 1) := by decide +kernel
theorem d_GraphSearch_lay_96 : decode b_GraphSearch_lay 96 = .ok (.istore 10, 2) := by decide +kernel
theorem d_GraphSearch_lay_98 : decode b_GraphSearch_lay 98 = .ok (.iload 10, 2) := by decide +kernel
theorem d_GraphSearch_lay_100 : decode b_GraphSearch_lay 100 = .ok (.aload_n 0, 1) := by decide +kernel
theorem d_GraphSearch_lay_101 : decode b_GraphSearch_lay 101 = .ok (.getfield 48, 3) := by decide +kernel
theorem d_GraphSearch_lay_104 : decode b_GraphSearch_lay 104 = .ok (.getfield 78, 3) := by decide +kernel
theorem d_GraphSearch_lay_107 : decode b_GraphSearch_lay 107 = .ok (.if_icmp .ge 105, 3) := by decide +kernel
theorem d_GraphSearch_lay_110 : decode b_GraphSearch_lay 110 = .ok (.iload 9, 2) := by decide +kernel
theorem d_GraphSearch_lay_112 : decode b_GraphSearch_lay 112 = .ok (.iload 10, 2) := by decide +kernel
theorem d_GraphSearch_lay_114 : decode b_GraphSearch_lay 114 = .ok (.invokestatic 166, 3) := by decide +kernel
theorem d_GraphSearch_lay_117 : decode b_GraphSearch_lay 117 = .ok (.ifCond .eq 89, 3) := by decide +kernel
theorem d_GraphSearch_lay_120 : decode b_GraphSearch_lay 120 = .ok (.aload_n 0, 1) := by decide +kernel
theorem d_GraphSearch_lay_121 : decode b_GraphSearch_lay 121 = .ok (.getfield 21, 3) := by decide +kernel
theorem d_GraphSearch_lay_124 : decode b_GraphSearch_lay 124 = .ok (.iload 10, 2) := by decide +kernel
theorem d_GraphSearch_lay_126 : decode b_GraphSearch_lay 126 = .ok (.iaload, 1) := by decide +kernel
theorem d_GraphSearch_lay_127 : decode b_GraphSearch_lay 127 = .ok (.iload_n 3, 1) := by decide +kernel
theorem d_GraphSearch_lay_128 : decode b_GraphSearch_lay 128 = .ok (.iand, 1) := by decide +kernel
theorem d_GraphSearch_lay_129 : decode b_GraphSearch_lay 129 = .ok (.ifCond .ne 77, 3) := by decide +kernel
theorem d_GraphSearch_lay_132 : decode b_GraphSearch_lay 132 = .ok (.iload 5, 2) := by decide +kernel
theorem d_GraphSearch_lay_134 : decode b_GraphSearch_lay 134 = .ok (.aload_n 0, 1) := by decide +kernel
theorem d_GraphSearch_lay_135 : decode b_GraphSearch_lay 135 = .ok (.getfield 48, 3) := by decide +kernel
theorem d_GraphSearch_lay_138 : decode b_GraphSearch_lay 138 = .ok (.iload 10, 2) := by decide +kernel
theorem d_GraphSearch_lay_140 : decode b_GraphSearch_lay 140 = .ok (.invokevirtual 178, 3) := by decide +kernel
theorem d_GraphSearch_lay_143 : decode b_GraphSearch_lay 143 = .ok (.iand, 1) := by decide +kernel
theorem d_GraphSearch_lay_144 : decode b_GraphSearch_lay 144 = .ok (.ifCond .ne 62, 3) := by decide +kernel
theorem d_GraphSearch_lay_147 : decode b_GraphSearch_lay 147 = .ok (.iconst 1, 1) := by decide +kernel
theorem d_GraphSearch_lay_148 : decode b_GraphSearch_lay 148 = .ok (.iload 10, 2) := by decide +kernel
theorem d_GraphSearch_lay_150 : decode b_GraphSearch_lay 150 = .ok (.ishl, 1) := by decide +kernel
theorem d_GraphSearch_lay_151 : decode b_GraphSearch_lay 151 = .ok (.istore 11, 2) := by decide +kernel
theorem d_GraphSearch_lay_153 : decode b_GraphSearch_lay 153 = .ok (.aload_n 0, 1) := by decide +kernel
theorem d_GraphSearch_lay_154 : decode b_GraphSearch_lay 154 = .ok (.getfield 39, 3) := by decide +kernel
theorem d_GraphSearch_lay_157 : decode b_GraphSearch_lay 157 = .ok (.iload 10, 2) := by decide +kernel
theorem d_GraphSearch_lay_159 : decode b_GraphSearch_lay 159 = .ok (.iload 4, 2) := by decide +kernel
theorem d_GraphSearch_lay_161 : decode b_GraphSearch_lay 161 = .ok (.iload 5, 2) := by decide +kernel
theorem d_GraphSearch_lay_163 : decode b_GraphSearch_lay 163 = .ok (.iload 11, 2) := by decide +kernel
theorem d_GraphSearch_lay_165 : decode b_GraphSearch_lay 165 = .ok (.iconst (-1), 1) := by decide +kernel
theorem d_GraphSearch_lay_166 : decode b_GraphSearch_lay 166 = .ok (.ixor, 1) := by decide +kernel
theorem d_GraphSearch_lay_167 : decode b_GraphSearch_lay 167 = .ok (.iand, 1) := by decide +kernel
theorem d_GraphSearch_lay_168 : decode b_GraphSearch_lay 168 = .ok (.ior, 1) := by decide +kernel
theorem d_GraphSearch_lay_169 : decode b_GraphSearch_lay 169 = .ok (.iastore, 1) := by decide +kernel
theorem d_GraphSearch_lay_170 : decode b_GraphSearch_lay 170 = .ok (.aload_n 0, 1) := by decide +kernel
theorem d_GraphSearch_lay_171 : decode b_GraphSearch_lay 171 = .ok (.iload_n 1, 1) := by decide +kernel
theorem d_GraphSearch_lay_172 : decode b_GraphSearch_lay 172 = .ok (.iload 10, 2) := by decide +kernel
theorem d_GraphSearch_lay_174 : decode b_GraphSearch_lay 174 = .ok (.iconst 1, 1) := by decide +kernel
theorem d_GraphSearch_lay_175 : decode b_GraphSearch_lay 175 = .ok (.iadd, 1) := by decide +kernel
theorem d_GraphSearch_lay_176 : decode b_GraphSearch_lay 176 = .ok (.iload_n 3, 1) := by decide +kernel
theorem d_GraphSearch_lay_177 : decode b_GraphSearch_lay 177 = .ok (.iload 11, 2) := by decide +kernel
theorem d_GraphSearch_lay_179 : decode b_GraphSearch_lay 179 = .ok (.iconst (-1), 1) := by decide +kernel
theorem d_GraphSearch_lay_180 : decode b_GraphSearch_lay 180 = .ok (.ixor, 1) := by decide +kernel
theorem d_GraphSearch_lay_181 : decode b_GraphSearch_lay 181 = .ok (.iand, 1) := by decide +kernel
theorem d_GraphSearch_lay_182 : decode b_GraphSearch_lay 182 = .ok (.iload 4, 2) := by decide +kernel
theorem d_GraphSearch_lay_184 : decode b_GraphSearch_lay 184 = .ok (.iload 11, 2) := by decide +kernel
theorem d_GraphSearch_lay_186 : decode b_GraphSearch_lay 186 = .ok (.ior, 1) := by decide +kernel
theorem d_GraphSearch_lay_187 : decode b_GraphSearch_lay 187 = .ok (.iload 5, 2) := by decide +kernel
theorem d_GraphSearch_lay_189 : decode b_GraphSearch_lay 189 = .ok (.aload_n 0, 1) := by decide +kernel
theorem d_GraphSearch_lay_190 : decode b_GraphSearch_lay 190 = .ok (.getfield 30, 3) := by decide +kernel
theorem d_GraphSearch_lay_193 : decode b_GraphSearch_lay 193 = .ok (.iload 10, 2) := by decide +kernel
theorem d_GraphSearch_lay_195 : decode b_GraphSearch_lay 195 = .ok (.iconst 1, 1) := by decide +kernel
theorem d_GraphSearch_lay_196 : decode b_GraphSearch_lay 196 = .ok (.iadd, 1) := by decide +kernel
theorem d_GraphSearch_lay_197 : decode b_GraphSearch_lay 197 = .ok (.iaload, 1) := by decide +kernel
theorem d_GraphSearch_lay_198 : decode b_GraphSearch_lay 198 = .ok (.ior, 1) := by decide +kernel
theorem d_GraphSearch_lay_199 : decode b_GraphSearch_lay 199 = .ok (.iload 6, 2) := by decide +kernel
theorem d_GraphSearch_lay_201 : decode b_GraphSearch_lay 201 = .ok (.iconst 1, 1) := by decide +kernel
theorem d_GraphSearch_lay_202 : decode b_GraphSearch_lay 202 = .ok (.iadd, 1) := by decide +kernel
theorem d_GraphSearch_lay_203 : decode b_GraphSearch_lay 203 = .ok (.invokevirtual 199, 3) := by decide +kernel
theorem d_GraphSearch_lay_206 : decode b_GraphSearch_lay 206 = .ok (.iinc 10 1, 3) := by decide +kernel
theorem d_GraphSearch_lay_209 : decode b_GraphSearch_lay 209 = .ok (.goto (-111), 3) := by decide +kernel
theorem d_GraphSearch_lay_212 : decode b_GraphSearch_lay 212 = .ok (.return_, 1) := by decide +kernel
theorem d_GraphSearch_stands_0 : decode b_GraphSearch_stands 0 = .ok (.aload_n 0, 1) := by decide +kernel
theorem d_GraphSearch_stands_1 : decode b_GraphSearch_stands 1 = .ok (.getfield 56, 3) := by decide +kernel
theorem d_GraphSearch_stands_4 : decode b_GraphSearch_stands 4 = .ok (.lookupswitch 50 #[(0, 28), (3, 45)], 28) := by decide +kernel
theorem d_GraphSearch_stands_32 : decode b_GraphSearch_stands 32 = .ok (.aload_n 0, 1) := by decide +kernel
theorem d_GraphSearch_stands_33 : decode b_GraphSearch_stands 33 = .ok (.aload_n 0, 1) := by decide +kernel
theorem d_GraphSearch_stands_34 : decode b_GraphSearch_stands 34 = .ok (.getfield 21, 3) := by decide +kernel
theorem d_GraphSearch_stands_37 : decode b_GraphSearch_stands 37 = .ok (.aload_n 0, 1) := by decide +kernel
theorem d_GraphSearch_stands_38 : decode b_GraphSearch_stands 38 = .ok (.getfield 39, 3) := by decide +kernel
theorem d_GraphSearch_stands_41 : decode b_GraphSearch_stands 41 = .ok (.aload_n 0, 1) := by decide +kernel
theorem d_GraphSearch_stands_42 : decode b_GraphSearch_stands 42 = .ok (.getfield 190, 3) := by decide +kernel
theorem d_GraphSearch_stands_45 : decode b_GraphSearch_stands 45 = .ok (.invokevirtual 218, 3) := by decide +kernel
theorem d_GraphSearch_stands_48 : decode b_GraphSearch_stands 48 = .ok (.ireturn, 1) := by decide +kernel
theorem d_GraphSearch_stands_49 : decode b_GraphSearch_stands 49 = .ok (.aload_n 0, 1) := by decide +kernel
theorem d_GraphSearch_stands_50 : decode b_GraphSearch_stands 50 = .ok (.invokevirtual 222, 3) := by decide +kernel
theorem d_GraphSearch_stands_53 : decode b_GraphSearch_stands 53 = .ok (.ireturn, 1) := by decide +kernel
theorem d_GraphSearch_stands_54 : decode b_GraphSearch_stands 54 = .ok (.aload_n 0, 1) := by decide +kernel
theorem d_GraphSearch_stands_55 : decode b_GraphSearch_stands 55 = .ok (.invokevirtual 225, 3) := by decide +kernel
theorem d_GraphSearch_stands_58 : decode b_GraphSearch_stands 58 = .ok (.aload_n 0, 1) := by decide +kernel
theorem d_GraphSearch_stands_59 : decode b_GraphSearch_stands 59 = .ok (.aload_n 0, 1) := by decide +kernel
theorem d_GraphSearch_stands_60 : decode b_GraphSearch_stands 60 = .ok (.getfield 24, 3) := by decide +kernel
theorem d_GraphSearch_stands_63 : decode b_GraphSearch_stands 63 = .ok (.aload_n 0, 1) := by decide +kernel
theorem d_GraphSearch_stands_64 : decode b_GraphSearch_stands 64 = .ok (.getfield 39, 3) := by decide +kernel
theorem d_GraphSearch_stands_67 : decode b_GraphSearch_stands 67 = .ok (.aload_n 0, 1) := by decide +kernel
theorem d_GraphSearch_stands_68 : decode b_GraphSearch_stands 68 = .ok (.getfield 190, 3) := by decide +kernel
theorem d_GraphSearch_stands_71 : decode b_GraphSearch_stands 71 = .ok (.aload_n 0, 1) := by decide +kernel
theorem d_GraphSearch_stands_72 : decode b_GraphSearch_stands 72 = .ok (.getfield 48, 3) := by decide +kernel
theorem d_GraphSearch_stands_75 : decode b_GraphSearch_stands 75 = .ok (.getfield 181, 3) := by decide +kernel
theorem d_GraphSearch_stands_78 : decode b_GraphSearch_stands 78 = .ok (.iconst 4, 1) := by decide +kernel
theorem d_GraphSearch_stands_79 : decode b_GraphSearch_stands 79 = .ok (.iaload, 1) := by decide +kernel
theorem d_GraphSearch_stands_80 : decode b_GraphSearch_stands 80 = .ok (.iconst (-1), 1) := by decide +kernel
theorem d_GraphSearch_stands_81 : decode b_GraphSearch_stands 81 = .ok (.ixor, 1) := by decide +kernel
theorem d_GraphSearch_stands_82 : decode b_GraphSearch_stands 82 = .ok (.iand, 1) := by decide +kernel
theorem d_GraphSearch_stands_83 : decode b_GraphSearch_stands 83 = .ok (.invokevirtual 218, 3) := by decide +kernel
theorem d_GraphSearch_stands_86 : decode b_GraphSearch_stands 86 = .ok (.ifCond .eq 26, 3) := by decide +kernel
theorem d_GraphSearch_stands_89 : decode b_GraphSearch_stands 89 = .ok (.aload_n 0, 1) := by decide +kernel
theorem d_GraphSearch_stands_90 : decode b_GraphSearch_stands 90 = .ok (.aload_n 0, 1) := by decide +kernel
theorem d_GraphSearch_stands_91 : decode b_GraphSearch_stands 91 = .ok (.getfield 27, 3) := by decide +kernel
theorem d_GraphSearch_stands_94 : decode b_GraphSearch_stands 94 = .ok (.aload_n 0, 1) := by decide +kernel
theorem d_GraphSearch_stands_95 : decode b_GraphSearch_stands 95 = .ok (.getfield 42, 3) := by decide +kernel
theorem d_GraphSearch_stands_98 : decode b_GraphSearch_stands 98 = .ok (.aload_n 0, 1) := by decide +kernel
theorem d_GraphSearch_stands_99 : decode b_GraphSearch_stands 99 = .ok (.getfield 190, 3) := by decide +kernel
theorem d_GraphSearch_stands_102 : decode b_GraphSearch_stands 102 = .ok (.invokevirtual 218, 3) := by decide +kernel
theorem d_GraphSearch_stands_105 : decode b_GraphSearch_stands 105 = .ok (.ifCond .eq 7, 3) := by decide +kernel
theorem d_GraphSearch_stands_108 : decode b_GraphSearch_stands 108 = .ok (.iconst 1, 1) := by decide +kernel
theorem d_GraphSearch_stands_109 : decode b_GraphSearch_stands 109 = .ok (.goto 4, 3) := by decide +kernel
theorem d_GraphSearch_stands_112 : decode b_GraphSearch_stands 112 = .ok (.iconst 0, 1) := by decide +kernel
theorem d_GraphSearch_stands_113 : decode b_GraphSearch_stands 113 = .ok (.ireturn, 1) := by decide +kernel
theorem d_GraphSearch_tellOuter_0 : decode b_GraphSearch_tellOuter 0 = .ok (.iconst 0, 1) := by decide +kernel
theorem d_GraphSearch_tellOuter_1 : decode b_GraphSearch_tellOuter 1 = .ok (.istore_n 1, 1) := by decide +kernel
theorem d_GraphSearch_tellOuter_2 : decode b_GraphSearch_tellOuter 2 = .ok (.iload_n 1, 1) := by decide +kernel
theorem d_GraphSearch_tellOuter_3 : decode b_GraphSearch_tellOuter 3 = .ok (.aload_n 0, 1) := by decide +kernel
theorem d_GraphSearch_tellOuter_4 : decode b_GraphSearch_tellOuter 4 = .ok (.getfield 48, 3) := by decide +kernel
theorem d_GraphSearch_tellOuter_7 : decode b_GraphSearch_tellOuter 7 = .ok (.getfield 78, 3) := by decide +kernel
theorem d_GraphSearch_tellOuter_10 : decode b_GraphSearch_tellOuter 10 = .ok (.if_icmp .ge 72, 3) := by decide +kernel
theorem d_GraphSearch_tellOuter_13 : decode b_GraphSearch_tellOuter 13 = .ok (.aload_n 0, 1) := by decide +kernel
theorem d_GraphSearch_tellOuter_14 : decode b_GraphSearch_tellOuter 14 = .ok (.getfield 48, 3) := by decide +kernel
theorem d_GraphSearch_tellOuter_17 : decode b_GraphSearch_tellOuter 17 = .ok (.getfield 90, 3) := by decide +kernel
theorem d_GraphSearch_tellOuter_20 : decode b_GraphSearch_tellOuter 20 = .ok (.iload_n 1, 1) := by decide +kernel
theorem d_GraphSearch_tellOuter_21 : decode b_GraphSearch_tellOuter 21 = .ok (.iaload, 1) := by decide +kernel
theorem d_GraphSearch_tellOuter_22 : decode b_GraphSearch_tellOuter 22 = .ok (.ifCond .ne 7, 3) := by decide +kernel
theorem d_GraphSearch_tellOuter_25 : decode b_GraphSearch_tellOuter 25 = .ok (.iconst 1, 1) := by decide +kernel
theorem d_GraphSearch_tellOuter_26 : decode b_GraphSearch_tellOuter 26 = .ok (.goto 4, 3) := by decide +kernel
theorem d_GraphSearch_tellOuter_29 : decode b_GraphSearch_tellOuter 29 = .ok (.iconst 0, 1) := by decide +kernel
theorem d_GraphSearch_tellOuter_30 : decode b_GraphSearch_tellOuter 30 = .ok (.istore_n 2, 1) := by decide +kernel
theorem d_GraphSearch_tellOuter_31 : decode b_GraphSearch_tellOuter 31 = .ok (.aload_n 0, 1) := by decide +kernel
theorem d_GraphSearch_tellOuter_32 : decode b_GraphSearch_tellOuter 32 = .ok (.getfield 42, 3) := by decide +kernel
theorem d_GraphSearch_tellOuter_35 : decode b_GraphSearch_tellOuter 35 = .ok (.iload_n 1, 1) := by decide +kernel
theorem d_GraphSearch_tellOuter_36 : decode b_GraphSearch_tellOuter 36 = .ok (.iload_n 2, 1) := by decide +kernel
theorem d_GraphSearch_tellOuter_37 : decode b_GraphSearch_tellOuter 37 = .ok (.ifCond .eq 32, 3) := by decide +kernel
theorem d_GraphSearch_tellOuter_40 : decode b_GraphSearch_tellOuter 40 = .ok (.aload_n 0, 1) := by decide +kernel
theorem d_GraphSearch_tellOuter_41 : decode b_GraphSearch_tellOuter 41 = .ok (.getfield 39, 3) := by decide +kernel
theorem d_GraphSearch_tellOuter_44 : decode b_GraphSearch_tellOuter 44 = .ok (.iload_n 1, 1) := by decide +kernel
theorem d_GraphSearch_tellOuter_45 : decode b_GraphSearch_tellOuter 45 = .ok (.iaload, 1) := by decide +kernel
theorem d_GraphSearch_tellOuter_46 : decode b_GraphSearch_tellOuter 46 = .ok (.aload_n 0, 1) := by decide +kernel
theorem d_GraphSearch_tellOuter_47 : decode b_GraphSearch_tellOuter 47 = .ok (.getfield 48, 3) := by decide +kernel
theorem d_GraphSearch_tellOuter_50 : decode b_GraphSearch_tellOuter 50 = .ok (.getfield 228, 3) := by decide +kernel
theorem d_GraphSearch_tellOuter_53 : decode b_GraphSearch_tellOuter 53 = .ok (.aload_n 0, 1) := by decide +kernel
theorem d_GraphSearch_tellOuter_54 : decode b_GraphSearch_tellOuter 54 = .ok (.getfield 48, 3) := by decide +kernel
theorem d_GraphSearch_tellOuter_57 : decode b_GraphSearch_tellOuter 57 = .ok (.getfield 153, 3) := by decide +kernel
theorem d_GraphSearch_tellOuter_60 : decode b_GraphSearch_tellOuter 60 = .ok (.iload_n 1, 1) := by decide +kernel
theorem d_GraphSearch_tellOuter_61 : decode b_GraphSearch_tellOuter 61 = .ok (.iaload, 1) := by decide +kernel
theorem d_GraphSearch_tellOuter_62 : decode b_GraphSearch_tellOuter 62 = .ok (.iaload, 1) := by decide +kernel
theorem d_GraphSearch_tellOuter_63 : decode b_GraphSearch_tellOuter 63 = .ok (.iconst (-1), 1) := by decide +kernel
theorem d_GraphSearch_tellOuter_64 : decode b_GraphSearch_tellOuter 64 = .ok (.ixor, 1) := by decide +kernel
theorem d_GraphSearch_tellOuter_65 : decode b_GraphSearch_tellOuter 65 = .ok (.iand, 1) := by decide +kernel
theorem d_GraphSearch_tellOuter_66 : decode b_GraphSearch_tellOuter 66 = .ok (.goto 9, 3) := by decide +kernel
theorem d_GraphSearch_tellOuter_69 : decode b_GraphSearch_tellOuter 69 = .ok (.aload_n 0, 1) := by decide +kernel
theorem d_GraphSearch_tellOuter_70 : decode b_GraphSearch_tellOuter 70 = .ok (.getfield 39, 3) := by decide +kernel
theorem d_GraphSearch_tellOuter_73 : decode b_GraphSearch_tellOuter 73 = .ok (.iload_n 1, 1) := by decide +kernel
theorem d_GraphSearch_tellOuter_74 : decode b_GraphSearch_tellOuter 74 = .ok (.iaload, 1) := by decide +kernel
theorem d_GraphSearch_tellOuter_75 : decode b_GraphSearch_tellOuter 75 = .ok (.iastore, 1) := by decide +kernel
theorem d_GraphSearch_tellOuter_76 : decode b_GraphSearch_tellOuter 76 = .ok (.iinc 1 1, 3) := by decide +kernel
theorem d_GraphSearch_tellOuter_79 : decode b_GraphSearch_tellOuter 79 = .ok (.goto (-77), 3) := by decide +kernel
theorem d_GraphSearch_tellOuter_82 : decode b_GraphSearch_tellOuter 82 = .ok (.return_, 1) := by decide +kernel
theorem d_GraphSearch_hasNoRing_0 : decode b_GraphSearch_hasNoRing 0 = .ok (.iload_n 3, 1) := by decide +kernel
theorem d_GraphSearch_hasNoRing_1 : decode b_GraphSearch_hasNoRing 1 = .ok (.istore 4, 2) := by decide +kernel
theorem d_GraphSearch_hasNoRing_3 : decode b_GraphSearch_hasNoRing 3 = .ok (.iconst 0, 1) := by decide +kernel
theorem d_GraphSearch_hasNoRing_4 : decode b_GraphSearch_hasNoRing 4 = .ok (.istore 5, 2) := by decide +kernel
theorem d_GraphSearch_hasNoRing_6 : decode b_GraphSearch_hasNoRing 6 = .ok (.iload 5, 2) := by decide +kernel
theorem d_GraphSearch_hasNoRing_8 : decode b_GraphSearch_hasNoRing 8 = .ok (.bipush 7, 2) := by decide +kernel
theorem d_GraphSearch_hasNoRing_10 : decode b_GraphSearch_hasNoRing 10 = .ok (.if_icmp .ge 61, 3) := by decide +kernel
theorem d_GraphSearch_hasNoRing_13 : decode b_GraphSearch_hasNoRing 13 = .ok (.iload 4, 2) := by decide +kernel
theorem d_GraphSearch_hasNoRing_15 : decode b_GraphSearch_hasNoRing 15 = .ok (.ifCond .eq 56, 3) := by decide +kernel
theorem d_GraphSearch_hasNoRing_18 : decode b_GraphSearch_hasNoRing 18 = .ok (.iconst 0, 1) := by decide +kernel
theorem d_GraphSearch_hasNoRing_19 : decode b_GraphSearch_hasNoRing 19 = .ok (.istore 6, 2) := by decide +kernel
theorem d_GraphSearch_hasNoRing_21 : decode b_GraphSearch_hasNoRing 21 = .ok (.iload 6, 2) := by decide +kernel
theorem d_GraphSearch_hasNoRing_23 : decode b_GraphSearch_hasNoRing 23 = .ok (.aload_n 0, 1) := by decide +kernel
theorem d_GraphSearch_hasNoRing_24 : decode b_GraphSearch_hasNoRing 24 = .ok (.getfield 48, 3) := by decide +kernel
theorem d_GraphSearch_hasNoRing_27 : decode b_GraphSearch_hasNoRing 27 = .ok (.getfield 78, 3) := by decide +kernel
theorem d_GraphSearch_hasNoRing_30 : decode b_GraphSearch_hasNoRing 30 = .ok (.if_icmp .ge 35, 3) := by decide +kernel
theorem d_GraphSearch_hasNoRing_33 : decode b_GraphSearch_hasNoRing 33 = .ok (.aload_n 1, 1) := by decide +kernel
theorem d_GraphSearch_hasNoRing_34 : decode b_GraphSearch_hasNoRing 34 = .ok (.iload 6, 2) := by decide +kernel
theorem d_GraphSearch_hasNoRing_36 : decode b_GraphSearch_hasNoRing 36 = .ok (.iaload, 1) := by decide +kernel
theorem d_GraphSearch_hasNoRing_37 : decode b_GraphSearch_hasNoRing 37 = .ok (.aload_n 2, 1) := by decide +kernel
theorem d_GraphSearch_hasNoRing_38 : decode b_GraphSearch_hasNoRing 38 = .ok (.iload 6, 2) := by decide +kernel
theorem d_GraphSearch_hasNoRing_40 : decode b_GraphSearch_hasNoRing 40 = .ok (.iaload, 1) := by decide +kernel
theorem d_GraphSearch_hasNoRing_41 : decode b_GraphSearch_hasNoRing 41 = .ok (.ior, 1) := by decide +kernel
theorem d_GraphSearch_hasNoRing_42 : decode b_GraphSearch_hasNoRing 42 = .ok (.iload 4, 2) := by decide +kernel
theorem d_GraphSearch_hasNoRing_44 : decode b_GraphSearch_hasNoRing 44 = .ok (.iand, 1) := by decide +kernel
theorem d_GraphSearch_hasNoRing_45 : decode b_GraphSearch_hasNoRing 45 = .ok (.ifCond .ne 14, 3) := by decide +kernel
theorem d_GraphSearch_hasNoRing_48 : decode b_GraphSearch_hasNoRing 48 = .ok (.iload 4, 2) := by decide +kernel
theorem d_GraphSearch_hasNoRing_50 : decode b_GraphSearch_hasNoRing 50 = .ok (.iconst 1, 1) := by decide +kernel
theorem d_GraphSearch_hasNoRing_51 : decode b_GraphSearch_hasNoRing 51 = .ok (.iload 6, 2) := by decide +kernel
theorem d_GraphSearch_hasNoRing_53 : decode b_GraphSearch_hasNoRing 53 = .ok (.ishl, 1) := by decide +kernel
theorem d_GraphSearch_hasNoRing_54 : decode b_GraphSearch_hasNoRing 54 = .ok (.iconst (-1), 1) := by decide +kernel
theorem d_GraphSearch_hasNoRing_55 : decode b_GraphSearch_hasNoRing 55 = .ok (.ixor, 1) := by decide +kernel
theorem d_GraphSearch_hasNoRing_56 : decode b_GraphSearch_hasNoRing 56 = .ok (.iand, 1) := by decide +kernel
theorem d_GraphSearch_hasNoRing_57 : decode b_GraphSearch_hasNoRing 57 = .ok (.istore 4, 2) := by decide +kernel
theorem d_GraphSearch_hasNoRing_59 : decode b_GraphSearch_hasNoRing 59 = .ok (.iinc 6 1, 3) := by decide +kernel
theorem d_GraphSearch_hasNoRing_62 : decode b_GraphSearch_hasNoRing 62 = .ok (.goto (-41), 3) := by decide +kernel
theorem d_GraphSearch_hasNoRing_65 : decode b_GraphSearch_hasNoRing 65 = .ok (.iinc 5 1, 3) := by decide +kernel
theorem d_GraphSearch_hasNoRing_68 : decode b_GraphSearch_hasNoRing 68 = .ok (.goto (-62), 3) := by decide +kernel
theorem d_GraphSearch_hasNoRing_71 : decode b_GraphSearch_hasNoRing 71 = .ok (.iload 4, 2) := by decide +kernel
theorem d_GraphSearch_hasNoRing_73 : decode b_GraphSearch_hasNoRing 73 = .ok (.ifCond .ne 7, 3) := by decide +kernel
theorem d_GraphSearch_hasNoRing_76 : decode b_GraphSearch_hasNoRing 76 = .ok (.iconst 1, 1) := by decide +kernel
theorem d_GraphSearch_hasNoRing_77 : decode b_GraphSearch_hasNoRing 77 = .ok (.goto 4, 3) := by decide +kernel
theorem d_GraphSearch_hasNoRing_80 : decode b_GraphSearch_hasNoRing 80 = .ok (.iconst 0, 1) := by decide +kernel
theorem d_GraphSearch_hasNoRing_81 : decode b_GraphSearch_hasNoRing 81 = .ok (.ireturn, 1) := by decide +kernel
theorem d_GraphSearch_closeHappens_0 : decode b_GraphSearch_closeHappens 0 = .ok (.iconst 0, 1) := by decide +kernel
theorem d_GraphSearch_closeHappens_1 : decode b_GraphSearch_closeHappens 1 = .ok (.istore_n 1, 1) := by decide +kernel
theorem d_GraphSearch_closeHappens_2 : decode b_GraphSearch_closeHappens 2 = .ok (.iload_n 1, 1) := by decide +kernel
theorem d_GraphSearch_closeHappens_3 : decode b_GraphSearch_closeHappens 3 = .ok (.aload_n 0, 1) := by decide +kernel
theorem d_GraphSearch_closeHappens_4 : decode b_GraphSearch_closeHappens 4 = .ok (.getfield 48, 3) := by decide +kernel
theorem d_GraphSearch_closeHappens_7 : decode b_GraphSearch_closeHappens 7 = .ok (.getfield 78, 3) := by decide +kernel
theorem d_GraphSearch_closeHappens_10 : decode b_GraphSearch_closeHappens 10 = .ok (.if_icmp .ge 88, 3) := by decide +kernel
theorem d_GraphSearch_closeHappens_13 : decode b_GraphSearch_closeHappens 13 = .ok (.aload_n 0, 1) := by decide +kernel
theorem d_GraphSearch_closeHappens_14 : decode b_GraphSearch_closeHappens 14 = .ok (.getfield 45, 3) := by decide +kernel
theorem d_GraphSearch_closeHappens_17 : decode b_GraphSearch_closeHappens 17 = .ok (.iload_n 1, 1) := by decide +kernel
theorem d_GraphSearch_closeHappens_18 : decode b_GraphSearch_closeHappens 18 = .ok (.aload_n 0, 1) := by decide +kernel
theorem d_GraphSearch_closeHappens_19 : decode b_GraphSearch_closeHappens 19 = .ok (.getfield 48, 3) := by decide +kernel
theorem d_GraphSearch_closeHappens_22 : decode b_GraphSearch_closeHappens 22 = .ok (.iload_n 1, 1) := by decide +kernel
theorem d_GraphSearch_closeHappens_23 : decode b_GraphSearch_closeHappens 23 = .ok (.invokevirtual 178, 3) := by decide +kernel
theorem d_GraphSearch_closeHappens_26 : decode b_GraphSearch_closeHappens 26 = .ok (.aload_n 0, 1) := by decide +kernel
theorem d_GraphSearch_closeHappens_27 : decode b_GraphSearch_closeHappens 27 = .ok (.getfield 190, 3) := by decide +kernel
theorem d_GraphSearch_closeHappens_30 : decode b_GraphSearch_closeHappens 30 = .ok (.iand, 1) := by decide +kernel
theorem d_GraphSearch_closeHappens_31 : decode b_GraphSearch_closeHappens 31 = .ok (.aload_n 0, 1) := by decide +kernel
theorem d_GraphSearch_closeHappens_32 : decode b_GraphSearch_closeHappens 32 = .ok (.getfield 30, 3) := by decide +kernel
theorem d_GraphSearch_closeHappens_35 : decode b_GraphSearch_closeHappens 35 = .ok (.iload_n 1, 1) := by decide +kernel
theorem d_GraphSearch_closeHappens_36 : decode b_GraphSearch_closeHappens 36 = .ok (.iconst 1, 1) := by decide +kernel
theorem d_GraphSearch_closeHappens_37 : decode b_GraphSearch_closeHappens 37 = .ok (.iadd, 1) := by decide +kernel
theorem d_GraphSearch_closeHappens_38 : decode b_GraphSearch_closeHappens 38 = .ok (.iaload, 1) := by decide +kernel
theorem d_GraphSearch_closeHappens_39 : decode b_GraphSearch_closeHappens 39 = .ok (.ior, 1) := by decide +kernel
theorem d_GraphSearch_closeHappens_40 : decode b_GraphSearch_closeHappens 40 = .ok (.iastore, 1) := by decide +kernel
theorem d_GraphSearch_closeHappens_41 : decode b_GraphSearch_closeHappens 41 = .ok (.aload_n 0, 1) := by decide +kernel
theorem d_GraphSearch_closeHappens_42 : decode b_GraphSearch_closeHappens 42 = .ok (.getfield 48, 3) := by decide +kernel
theorem d_GraphSearch_closeHappens_45 : decode b_GraphSearch_closeHappens 45 = .ok (.getfield 90, 3) := by decide +kernel
theorem d_GraphSearch_closeHappens_48 : decode b_GraphSearch_closeHappens 48 = .ok (.iload_n 1, 1) := by decide +kernel
theorem d_GraphSearch_closeHappens_49 : decode b_GraphSearch_closeHappens 49 = .ok (.iaload, 1) := by decide +kernel
theorem d_GraphSearch_closeHappens_50 : decode b_GraphSearch_closeHappens 50 = .ok (.iconst 4, 1) := by decide +kernel
theorem d_GraphSearch_closeHappens_51 : decode b_GraphSearch_closeHappens 51 = .ok (.if_icmp .ne 41, 3) := by decide +kernel
theorem d_GraphSearch_closeHappens_54 : decode b_GraphSearch_closeHappens 54 = .ok (.aload_n 0, 1) := by decide +kernel
theorem d_GraphSearch_closeHappens_55 : decode b_GraphSearch_closeHappens 55 = .ok (.getfield 39, 3) := by decide +kernel
theorem d_GraphSearch_closeHappens_58 : decode b_GraphSearch_closeHappens 58 = .ok (.iload_n 1, 1) := by decide +kernel
theorem d_GraphSearch_closeHappens_59 : decode b_GraphSearch_closeHappens 59 = .ok (.iaload, 1) := by decide +kernel
theorem d_GraphSearch_closeHappens_60 : decode b_GraphSearch_closeHappens 60 = .ok (.iconst 1, 1) := by decide +kernel
theorem d_GraphSearch_closeHappens_61 : decode b_GraphSearch_closeHappens 61 = .ok (.iload_n 1, 1) := by decide +kernel
theorem d_GraphSearch_closeHappens_62 : decode b_GraphSearch_closeHappens 62 = .ok (.ishl, 1) := by decide +kernel
theorem d_GraphSearch_closeHappens_63 : decode b_GraphSearch_closeHappens 63 = .ok (.ior, 1) := by decide +kernel
theorem d_GraphSearch_closeHappens_64 : decode b_GraphSearch_closeHappens 64 = .ok (.istore_n 2, 1) := by decide +kernel
theorem d_GraphSearch_closeHappens_65 : decode b_GraphSearch_closeHappens 65 = .ok (.aload_n 0, 1) := by decide +kernel
theorem d_GraphSearch_closeHappens_66 : decode b_GraphSearch_closeHappens 66 = .ok (.getfield 45, 3) := by decide +kernel
theorem d_GraphSearch_closeHappens_69 : decode b_GraphSearch_closeHappens 69 = .ok (.iload_n 1, 1) := by decide +kernel
theorem d_GraphSearch_closeHappens_70 : decode b_GraphSearch_closeHappens 70 = .ok (.dup2, 1) := by decide +kernel
theorem d_GraphSearch_closeHappens_71 : decode b_GraphSearch_closeHappens 71 = .ok (.iaload, 1) := by decide +kernel
theorem d_GraphSearch_closeHappens_72 : decode b_GraphSearch_closeHappens 72 = .ok (.aload_n 0, 1) := by decide +kernel
theorem d_GraphSearch_closeHappens_73 : decode b_GraphSearch_closeHappens 73 = .ok (.getfield 190, 3) := by decide +kernel
theorem d_GraphSearch_closeHappens_76 : decode b_GraphSearch_closeHappens 76 = .ok (.aload_n 0, 1) := by decide +kernel
theorem d_GraphSearch_closeHappens_77 : decode b_GraphSearch_closeHappens 77 = .ok (.getfield 48, 3) := by decide +kernel
theorem d_GraphSearch_closeHappens_80 : decode b_GraphSearch_closeHappens 80 = .ok (.getfield 181, 3) := by decide +kernel
theorem d_GraphSearch_closeHappens_83 : decode b_GraphSearch_closeHappens 83 = .ok (.iconst 4, 1) := by decide +kernel
theorem d_GraphSearch_closeHappens_84 : decode b_GraphSearch_closeHappens 84 = .ok (.iaload, 1) := by decide +kernel
theorem d_GraphSearch_closeHappens_85 : decode b_GraphSearch_closeHappens 85 = .ok (.iand, 1) := by decide +kernel
theorem d_GraphSearch_closeHappens_86 : decode b_GraphSearch_closeHappens 86 = .ok (.iload_n 2, 1) := by decide +kernel
theorem d_GraphSearch_closeHappens_87 : decode b_GraphSearch_closeHappens 87 = .ok (.iconst (-1), 1) := by decide +kernel
theorem d_GraphSearch_closeHappens_88 : decode b_GraphSearch_closeHappens 88 = .ok (.ixor, 1) := by decide +kernel
theorem d_GraphSearch_closeHappens_89 : decode b_GraphSearch_closeHappens 89 = .ok (.iand, 1) := by decide +kernel
theorem d_GraphSearch_closeHappens_90 : decode b_GraphSearch_closeHappens 90 = .ok (.ior, 1) := by decide +kernel
theorem d_GraphSearch_closeHappens_91 : decode b_GraphSearch_closeHappens 91 = .ok (.iastore, 1) := by decide +kernel
theorem d_GraphSearch_closeHappens_92 : decode b_GraphSearch_closeHappens 92 = .ok (.iinc 1 1, 3) := by decide +kernel
theorem d_GraphSearch_closeHappens_95 : decode b_GraphSearch_closeHappens 95 = .ok (.goto (-93), 3) := by decide +kernel
theorem d_GraphSearch_closeHappens_98 : decode b_GraphSearch_closeHappens 98 = .ok (.iconst 0, 1) := by decide +kernel
theorem d_GraphSearch_closeHappens_99 : decode b_GraphSearch_closeHappens 99 = .ok (.istore_n 1, 1) := by decide +kernel
theorem d_GraphSearch_closeHappens_100 : decode b_GraphSearch_closeHappens 100 = .ok (.iload_n 1, 1) := by decide +kernel
theorem d_GraphSearch_closeHappens_101 : decode b_GraphSearch_closeHappens 101 = .ok (.aload_n 0, 1) := by decide +kernel
theorem d_GraphSearch_closeHappens_102 : decode b_GraphSearch_closeHappens 102 = .ok (.getfield 48, 3) := by decide +kernel
theorem d_GraphSearch_closeHappens_105 : decode b_GraphSearch_closeHappens 105 = .ok (.getfield 78, 3) := by decide +kernel
theorem d_GraphSearch_closeHappens_108 : decode b_GraphSearch_closeHappens 108 = .ok (.if_icmp .ge 56, 3) := by decide +kernel
theorem d_GraphSearch_closeHappens_111 : decode b_GraphSearch_closeHappens 111 = .ok (.iconst 0, 1) := by decide +kernel
theorem d_GraphSearch_closeHappens_112 : decode b_GraphSearch_closeHappens 112 = .ok (.istore_n 2, 1) := by decide +kernel
theorem d_GraphSearch_closeHappens_113 : decode b_GraphSearch_closeHappens 113 = .ok (.iload_n 2, 1) := by decide +kernel
theorem d_GraphSearch_closeHappens_114 : decode b_GraphSearch_closeHappens 114 = .ok (.aload_n 0, 1) := by decide +kernel
theorem d_GraphSearch_closeHappens_115 : decode b_GraphSearch_closeHappens 115 = .ok (.getfield 48, 3) := by decide +kernel
theorem d_GraphSearch_closeHappens_118 : decode b_GraphSearch_closeHappens 118 = .ok (.getfield 78, 3) := by decide +kernel
theorem d_GraphSearch_closeHappens_121 : decode b_GraphSearch_closeHappens 121 = .ok (.if_icmp .ge 37, 3) := by decide +kernel
theorem d_GraphSearch_closeHappens_124 : decode b_GraphSearch_closeHappens 124 = .ok (.aload_n 0, 1) := by decide +kernel
theorem d_GraphSearch_closeHappens_125 : decode b_GraphSearch_closeHappens 125 = .ok (.getfield 45, 3) := by decide +kernel
theorem d_GraphSearch_closeHappens_128 : decode b_GraphSearch_closeHappens 128 = .ok (.iload_n 2, 1) := by decide +kernel
theorem d_GraphSearch_closeHappens_129 : decode b_GraphSearch_closeHappens 129 = .ok (.iaload, 1) := by decide +kernel
theorem d_GraphSearch_closeHappens_130 : decode b_GraphSearch_closeHappens 130 = .ok (.iload_n 1, 1) := by decide +kernel
theorem d_GraphSearch_closeHappens_131 : decode b_GraphSearch_closeHappens 131 = .ok (.invokestatic 166, 3) := by decide +kernel
theorem d_GraphSearch_closeHappens_134 : decode b_GraphSearch_closeHappens 134 = .ok (.ifCond .eq 18, 3) := by decide +kernel
theorem d_GraphSearch_closeHappens_137 : decode b_GraphSearch_closeHappens 137 = .ok (.aload_n 0, 1) := by decide +kernel
theorem d_GraphSearch_closeHappens_138 : decode b_GraphSearch_closeHappens 138 = .ok (.getfield 45, 3) := by decide +kernel
theorem d_GraphSearch_closeHappens_141 : decode b_GraphSearch_closeHappens 141 = .ok (.iload_n 2, 1) := by decide +kernel
theorem d_GraphSearch_closeHappens_142 : decode b_GraphSearch_closeHappens 142 = .ok (.dup2, 1) := by decide +kernel
theorem d_GraphSearch_closeHappens_143 : decode b_GraphSearch_closeHappens 143 = .ok (.iaload, 1) := by decide +kernel
theorem d_GraphSearch_closeHappens_144 : decode b_GraphSearch_closeHappens 144 = .ok (.aload_n 0, 1) := by decide +kernel
theorem d_GraphSearch_closeHappens_145 : decode b_GraphSearch_closeHappens 145 = .ok (.getfield 45, 3) := by decide +kernel
theorem d_GraphSearch_closeHappens_148 : decode b_GraphSearch_closeHappens 148 = .ok (.iload_n 1, 1) := by decide +kernel
theorem d_GraphSearch_closeHappens_149 : decode b_GraphSearch_closeHappens 149 = .ok (.iaload, 1) := by decide +kernel
theorem d_GraphSearch_closeHappens_150 : decode b_GraphSearch_closeHappens 150 = .ok (.ior, 1) := by decide +kernel
theorem d_GraphSearch_closeHappens_151 : decode b_GraphSearch_closeHappens 151 = .ok (.iastore, 1) := by decide +kernel
theorem d_GraphSearch_closeHappens_152 : decode b_GraphSearch_closeHappens 152 = .ok (.iinc 2 1, 3) := by decide +kernel
theorem d_GraphSearch_closeHappens_155 : decode b_GraphSearch_closeHappens 155 = .ok (.goto (-42), 3) := by decide +kernel
theorem d_GraphSearch_closeHappens_158 : decode b_GraphSearch_closeHappens 158 = .ok (.iinc 1 1, 3) := by decide +kernel
theorem d_GraphSearch_closeHappens_161 : decode b_GraphSearch_closeHappens 161 = .ok (.goto (-61), 3) := by decide +kernel
theorem d_GraphSearch_closeHappens_164 : decode b_GraphSearch_closeHappens 164 = .ok (.return_, 1) := by decide +kernel
theorem d_GraphSearch_isKnownInOrder_0 : decode b_GraphSearch_isKnownInOrder 0 = .ok (.iconst 0, 1) := by decide +kernel
theorem d_GraphSearch_isKnownInOrder_1 : decode b_GraphSearch_isKnownInOrder 1 = .ok (.istore_n 1, 1) := by decide +kernel
theorem d_GraphSearch_isKnownInOrder_2 : decode b_GraphSearch_isKnownInOrder 2 = .ok (.iload_n 1, 1) := by decide +kernel
theorem d_GraphSearch_isKnownInOrder_3 : decode b_GraphSearch_isKnownInOrder 3 = .ok (.aload_n 0, 1) := by decide +kernel
theorem d_GraphSearch_isKnownInOrder_4 : decode b_GraphSearch_isKnownInOrder 4 = .ok (.getfield 48, 3) := by decide +kernel
theorem d_GraphSearch_isKnownInOrder_7 : decode b_GraphSearch_isKnownInOrder 7 = .ok (.getfield 78, 3) := by decide +kernel
theorem d_GraphSearch_isKnownInOrder_10 : decode b_GraphSearch_isKnownInOrder 10 = .ok (.if_icmp .ge 38, 3) := by decide +kernel
theorem d_GraphSearch_isKnownInOrder_13 : decode b_GraphSearch_isKnownInOrder 13 = .ok (.aload_n 0, 1) := by decide +kernel
theorem d_GraphSearch_isKnownInOrder_14 : decode b_GraphSearch_isKnownInOrder 14 = .ok (.getfield 190, 3) := by decide +kernel
theorem d_GraphSearch_isKnownInOrder_17 : decode b_GraphSearch_isKnownInOrder 17 = .ok (.iload_n 1, 1) := by decide +kernel
theorem d_GraphSearch_isKnownInOrder_18 : decode b_GraphSearch_isKnownInOrder 18 = .ok (.invokestatic 166, 3) := by decide +kernel
theorem d_GraphSearch_isKnownInOrder_21 : decode b_GraphSearch_isKnownInOrder 21 = .ok (.ifCond .eq 21, 3) := by decide +kernel
theorem d_GraphSearch_isKnownInOrder_24 : decode b_GraphSearch_isKnownInOrder 24 = .ok (.aload_n 0, 1) := by decide +kernel
theorem d_GraphSearch_isKnownInOrder_25 : decode b_GraphSearch_isKnownInOrder 25 = .ok (.getfield 39, 3) := by decide +kernel
theorem d_GraphSearch_isKnownInOrder_28 : decode b_GraphSearch_isKnownInOrder 28 = .ok (.iload_n 1, 1) := by decide +kernel
theorem d_GraphSearch_isKnownInOrder_29 : decode b_GraphSearch_isKnownInOrder 29 = .ok (.iaload, 1) := by decide +kernel
theorem d_GraphSearch_isKnownInOrder_30 : decode b_GraphSearch_isKnownInOrder 30 = .ok (.aload_n 0, 1) := by decide +kernel
theorem d_GraphSearch_isKnownInOrder_31 : decode b_GraphSearch_isKnownInOrder 31 = .ok (.getfield 45, 3) := by decide +kernel
theorem d_GraphSearch_isKnownInOrder_34 : decode b_GraphSearch_isKnownInOrder 34 = .ok (.iload_n 1, 1) := by decide +kernel
theorem d_GraphSearch_isKnownInOrder_35 : decode b_GraphSearch_isKnownInOrder 35 = .ok (.iaload, 1) := by decide +kernel
theorem d_GraphSearch_isKnownInOrder_36 : decode b_GraphSearch_isKnownInOrder 36 = .ok (.iand, 1) := by decide +kernel
theorem d_GraphSearch_isKnownInOrder_37 : decode b_GraphSearch_isKnownInOrder 37 = .ok (.ifCond .eq 5, 3) := by decide +kernel
theorem d_GraphSearch_isKnownInOrder_40 : decode b_GraphSearch_isKnownInOrder 40 = .ok (.iconst 0, 1) := by decide +kernel
theorem d_GraphSearch_isKnownInOrder_41 : decode b_GraphSearch_isKnownInOrder 41 = .ok (.ireturn, 1) := by decide +kernel
theorem d_GraphSearch_isKnownInOrder_42 : decode b_GraphSearch_isKnownInOrder 42 = .ok (.iinc 1 1, 3) := by decide +kernel
theorem d_GraphSearch_isKnownInOrder_45 : decode b_GraphSearch_isKnownInOrder 45 = .ok (.goto (-43), 3) := by decide +kernel
theorem d_GraphSearch_isKnownInOrder_48 : decode b_GraphSearch_isKnownInOrder 48 = .ok (.iconst 1, 1) := by decide +kernel
theorem d_GraphSearch_isKnownInOrder_49 : decode b_GraphSearch_isKnownInOrder 49 = .ok (.ireturn, 1) := by decide +kernel
theorem d_KnowledgeWalk_init_0 : decode b_KnowledgeWalk_init 0 = .ok (.aload_n 0, 1) := by decide +kernel
theorem d_KnowledgeWalk_init_1 : decode b_KnowledgeWalk_init 1 = .ok (.invokespecial 3, 3) := by decide +kernel
theorem d_KnowledgeWalk_init_4 : decode b_KnowledgeWalk_init 4 = .ok (.aload_n 0, 1) := by decide +kernel
theorem d_KnowledgeWalk_init_5 : decode b_KnowledgeWalk_init 5 = .ok (.bipush 14, 2) := by decide +kernel
theorem d_KnowledgeWalk_init_7 : decode b_KnowledgeWalk_init 7 = .ok (.newarray .int, 2) := by decide +kernel
theorem d_KnowledgeWalk_init_9 : decode b_KnowledgeWalk_init 9 = .ok (.putfield 9, 3) := by decide +kernel
theorem d_KnowledgeWalk_init_12 : decode b_KnowledgeWalk_init 12 = .ok (.aload_n 0, 1) := by decide +kernel
theorem d_KnowledgeWalk_init_13 : decode b_KnowledgeWalk_init 13 = .ok (.iconst 4, 1) := by decide +kernel
theorem d_KnowledgeWalk_init_14 : decode b_KnowledgeWalk_init 14 = .ok (.newarray .int, 2) := by decide +kernel
theorem d_KnowledgeWalk_init_16 : decode b_KnowledgeWalk_init 16 = .ok (.putfield 15, 3) := by decide +kernel
theorem d_KnowledgeWalk_init_19 : decode b_KnowledgeWalk_init 19 = .ok (.aload_n 0, 1) := by decide +kernel
theorem d_KnowledgeWalk_init_20 : decode b_KnowledgeWalk_init 20 = .ok (.iconst 4, 1) := by decide +kernel
theorem d_KnowledgeWalk_init_21 : decode b_KnowledgeWalk_init 21 = .ok (.newarray .int, 2) := by decide +kernel
theorem d_KnowledgeWalk_init_23 : decode b_KnowledgeWalk_init 23 = .ok (.putfield 18, 3) := by decide +kernel
theorem d_KnowledgeWalk_init_26 : decode b_KnowledgeWalk_init 26 = .ok (.aload_n 0, 1) := by decide +kernel
theorem d_KnowledgeWalk_init_27 : decode b_KnowledgeWalk_init 27 = .ok (.iconst 4, 1) := by decide +kernel
theorem d_KnowledgeWalk_init_28 : decode b_KnowledgeWalk_init 28 = .ok (.newarray .int, 2) := by decide +kernel
theorem d_KnowledgeWalk_init_30 : decode b_KnowledgeWalk_init 30 = .ok (.putfield 21, 3) := by decide +kernel
theorem d_KnowledgeWalk_init_33 : decode b_KnowledgeWalk_init 33 = .ok (.aload_n 0, 1) := by decide +kernel
theorem d_KnowledgeWalk_init_34 : decode b_KnowledgeWalk_init 34 = .ok (.bipush 8, 2) := by decide +kernel
theorem d_KnowledgeWalk_init_36 : decode b_KnowledgeWalk_init 36 = .ok (.newarray .int, 2) := by decide +kernel
theorem d_KnowledgeWalk_init_38 : decode b_KnowledgeWalk_init 38 = .ok (.putfield 24, 3) := by decide +kernel
theorem d_KnowledgeWalk_init_41 : decode b_KnowledgeWalk_init 41 = .ok (.aload_n 0, 1) := by decide +kernel
theorem d_KnowledgeWalk_init_42 : decode b_KnowledgeWalk_init 42 = .ok (.aload_n 1, 1) := by decide +kernel
theorem d_KnowledgeWalk_init_43 : decode b_KnowledgeWalk_init 43 = .ok (.putfield 27, 3) := by decide +kernel
theorem d_KnowledgeWalk_init_46 : decode b_KnowledgeWalk_init 46 = .ok (.aload_n 0, 1) := by decide +kernel
theorem d_KnowledgeWalk_init_47 : decode b_KnowledgeWalk_init 47 = .ok (.aload_n 2, 1) := by decide +kernel
theorem d_KnowledgeWalk_init_48 : decode b_KnowledgeWalk_init 48 = .ok (.putfield 31, 3) := by decide +kernel
theorem d_KnowledgeWalk_init_51 : decode b_KnowledgeWalk_init 51 = .ok (.aload_n 0, 1) := by decide +kernel
theorem d_KnowledgeWalk_init_52 : decode b_KnowledgeWalk_init 52 = .ok (.aload_n 3, 1) := by decide +kernel
theorem d_KnowledgeWalk_init_53 : decode b_KnowledgeWalk_init 53 = .ok (.putfield 35, 3) := by decide +kernel
theorem d_KnowledgeWalk_init_56 : decode b_KnowledgeWalk_init 56 = .ok (.return_, 1) := by decide +kernel
theorem d_KnowledgeWalk_walk_0 : decode b_KnowledgeWalk_walk 0 = .ok (.aload_n 0, 1) := by decide +kernel
theorem d_KnowledgeWalk_walk_1 : decode b_KnowledgeWalk_walk 1 = .ok (.aload_n 1, 1) := by decide +kernel
theorem d_KnowledgeWalk_walk_2 : decode b_KnowledgeWalk_walk 2 = .ok (.putfield 39, 3) := by decide +kernel
theorem d_KnowledgeWalk_walk_5 : decode b_KnowledgeWalk_walk 5 = .ok (.aload_n 0, 1) := by decide +kernel
theorem d_KnowledgeWalk_walk_6 : decode b_KnowledgeWalk_walk 6 = .ok (.getfield 39, 3) := by decide +kernel
theorem d_KnowledgeWalk_walk_9 : decode b_KnowledgeWalk_walk 9 = .ok (.invokevirtual 43, 3) := by decide +kernel
theorem d_KnowledgeWalk_walk_12 : decode b_KnowledgeWalk_walk 12 = .ok (.aload_n 0, 1) := by decide +kernel
theorem d_KnowledgeWalk_walk_13 : decode b_KnowledgeWalk_walk 13 = .ok (.getfield 35, 3) := by decide +kernel
theorem d_KnowledgeWalk_walk_16 : decode b_KnowledgeWalk_walk 16 = .ok (.invokevirtual 48, 3) := by decide +kernel
theorem d_KnowledgeWalk_walk_19 : decode b_KnowledgeWalk_walk 19 = .ok (.aload_n 0, 1) := by decide +kernel
theorem d_KnowledgeWalk_walk_20 : decode b_KnowledgeWalk_walk 20 = .ok (.getfield 31, 3) := by decide +kernel
theorem d_KnowledgeWalk_walk_23 : decode b_KnowledgeWalk_walk 23 = .ok (.invokevirtual 53, 3) := by decide +kernel
theorem d_KnowledgeWalk_walk_26 : decode b_KnowledgeWalk_walk 26 = .ok (.aload_n 0, 1) := by decide +kernel
theorem d_KnowledgeWalk_walk_27 : decode b_KnowledgeWalk_walk 27 = .ok (.getfield 15, 3) := by decide +kernel
theorem d_KnowledgeWalk_walk_30 : decode b_KnowledgeWalk_walk 30 = .ok (.iconst 0, 1) := by decide +kernel
theorem d_KnowledgeWalk_walk_31 : decode b_KnowledgeWalk_walk 31 = .ok (.invokestatic 56, 3) := by decide +kernel
theorem d_KnowledgeWalk_walk_34 : decode b_KnowledgeWalk_walk 34 = .ok (.aload_n 0, 1) := by decide +kernel
theorem d_KnowledgeWalk_walk_35 : decode b_KnowledgeWalk_walk 35 = .ok (.getfield 18, 3) := by decide +kernel
theorem d_KnowledgeWalk_walk_38 : decode b_KnowledgeWalk_walk 38 = .ok (.iconst 0, 1) := by decide +kernel
theorem d_KnowledgeWalk_walk_39 : decode b_KnowledgeWalk_walk 39 = .ok (.invokestatic 56, 3) := by decide +kernel
theorem d_KnowledgeWalk_walk_42 : decode b_KnowledgeWalk_walk 42 = .ok (.aload_n 0, 1) := by decide +kernel
theorem d_KnowledgeWalk_walk_43 : decode b_KnowledgeWalk_walk 43 = .ok (.getfield 21, 3) := by decide +kernel
theorem d_KnowledgeWalk_walk_46 : decode b_KnowledgeWalk_walk 46 = .ok (.iconst 0, 1) := by decide +kernel
theorem d_KnowledgeWalk_walk_47 : decode b_KnowledgeWalk_walk 47 = .ok (.invokestatic 56, 3) := by decide +kernel
theorem d_KnowledgeWalk_walk_50 : decode b_KnowledgeWalk_walk 50 = .ok (.aload_n 0, 1) := by decide +kernel
theorem d_KnowledgeWalk_walk_51 : decode b_KnowledgeWalk_walk 51 = .ok (.iconst 0, 1) := by decide +kernel
theorem d_KnowledgeWalk_walk_52 : decode b_KnowledgeWalk_walk 52 = .ok (.invokevirtual 62, 3) := by decide +kernel
theorem d_KnowledgeWalk_walk_55 : decode b_KnowledgeWalk_walk 55 = .ok (.return_, 1) := by decide +kernel
theorem d_KnowledgeWalk_spread_0 : decode b_KnowledgeWalk_spread 0 = .ok (.aload_n 0, 1) := by decide +kernel
theorem d_KnowledgeWalk_spread_1 : decode b_KnowledgeWalk_spread 1 = .ok (.getfield 35, 3) := by decide +kernel
theorem d_KnowledgeWalk_spread_4 : decode b_KnowledgeWalk_spread 4 = .ok (.aload_n 0, 1) := by decide +kernel
theorem d_KnowledgeWalk_spread_5 : decode b_KnowledgeWalk_spread 5 = .ok (.getfield 31, 3) := by decide +kernel
theorem d_KnowledgeWalk_spread_8 : decode b_KnowledgeWalk_spread 8 = .ok (.invokevirtual 66, 3) := by decide +kernel
theorem d_KnowledgeWalk_spread_11 : decode b_KnowledgeWalk_spread 11 = .ok (.bipush 21, 2) := by decide +kernel
theorem d_KnowledgeWalk_spread_13 : decode b_KnowledgeWalk_spread 13 = .ok (.lshl, 1) := by decide +kernel
theorem d_KnowledgeWalk_spread_14 : decode b_KnowledgeWalk_spread 14 = .ok (.aload_n 0, 1) := by decide +kernel
theorem d_KnowledgeWalk_spread_15 : decode b_KnowledgeWalk_spread 15 = .ok (.invokevirtual 70, 3) := by decide +kernel
theorem d_KnowledgeWalk_spread_18 : decode b_KnowledgeWalk_spread 18 = .ok (.lor, 1) := by decide +kernel
theorem d_KnowledgeWalk_spread_19 : decode b_KnowledgeWalk_spread 19 = .ok (.invokevirtual 73, 3) := by decide +kernel
theorem d_KnowledgeWalk_spread_22 : decode b_KnowledgeWalk_spread 22 = .ok (.ifCond .ne 4, 3) := by decide +kernel
theorem d_KnowledgeWalk_spread_25 : decode b_KnowledgeWalk_spread 25 = .ok (.return_, 1) := by decide +kernel
theorem d_KnowledgeWalk_spread_26 : decode b_KnowledgeWalk_spread 26 = .ok (.iconst 1, 1) := by decide +kernel
theorem d_KnowledgeWalk_spread_27 : decode b_KnowledgeWalk_spread 27 = .ok (.istore_n 2, 1) := by decide +kernel
theorem d_KnowledgeWalk_spread_28 : decode b_KnowledgeWalk_spread 28 = .ok (.iconst 0, 1) := by decide +kernel
theorem d_KnowledgeWalk_spread_29 : decode b_KnowledgeWalk_spread 29 = .ok (.istore_n 3, 1) := by decide +kernel
theorem d_KnowledgeWalk_spread_30 : decode b_KnowledgeWalk_spread 30 = .ok (.iload_n 3, 1) := by decide +kernel
theorem d_KnowledgeWalk_spread_31 : decode b_KnowledgeWalk_spread 31 = .ok (.aload_n 0, 1) := by decide +kernel
theorem d_KnowledgeWalk_spread_32 : decode b_KnowledgeWalk_spread 32 = .ok (.getfield 27, 3) := by decide +kernel
theorem d_KnowledgeWalk_spread_35 : decode b_KnowledgeWalk_spread 35 = .ok (.getfield 77, 3) := by decide +kernel
theorem d_KnowledgeWalk_spread_38 : decode b_KnowledgeWalk_spread 38 = .ok (.if_icmp .ge 34, 3) := by decide +kernel
theorem d_KnowledgeWalk_spread_41 : decode b_KnowledgeWalk_spread 41 = .ok (.aload_n 0, 1) := by decide +kernel
theorem d_KnowledgeWalk_spread_42 : decode b_KnowledgeWalk_spread 42 = .ok (.getfield 31, 3) := by decide +kernel
theorem d_KnowledgeWalk_spread_45 : decode b_KnowledgeWalk_spread 45 = .ok (.iload_n 3, 1) := by decide +kernel
theorem d_KnowledgeWalk_spread_46 : decode b_KnowledgeWalk_spread 46 = .ok (.invokevirtual 83, 3) := by decide +kernel
theorem d_KnowledgeWalk_spread_49 : decode b_KnowledgeWalk_spread 49 = .ok (.istore 4, 2) := by decide +kernel
theorem d_KnowledgeWalk_spread_51 : decode b_KnowledgeWalk_spread 51 = .ok (.iload 4, 2) := by decide +kernel
theorem d_KnowledgeWalk_spread_53 : decode b_KnowledgeWalk_spread 53 = .ok (.iconst (-1), 1) := by decide +kernel
theorem d_KnowledgeWalk_spread_54 : decode b_KnowledgeWalk_spread 54 = .ok (.if_icmp .eq 12, 3) := by decide +kernel
theorem d_KnowledgeWalk_spread_57 : decode b_KnowledgeWalk_spread 57 = .ok (.iconst 0, 1) := by decide +kernel
theorem d_KnowledgeWalk_spread_58 : decode b_KnowledgeWalk_spread 58 = .ok (.istore_n 2, 1) := by decide +kernel
theorem d_KnowledgeWalk_spread_59 : decode b_KnowledgeWalk_spread 59 = .ok (.aload_n 0, 1) := by decide +kernel
theorem d_KnowledgeWalk_spread_60 : decode b_KnowledgeWalk_spread 60 = .ok (.iload 4, 2) := by decide +kernel
theorem d_KnowledgeWalk_spread_62 : decode b_KnowledgeWalk_spread 62 = .ok (.iload_n 1, 1) := by decide +kernel
theorem d_KnowledgeWalk_spread_63 : decode b_KnowledgeWalk_spread 63 = .ok (.invokevirtual 87, 3) := by decide +kernel
theorem d_KnowledgeWalk_spread_66 : decode b_KnowledgeWalk_spread 66 = .ok (.iinc 3 1, 3) := by decide +kernel
theorem d_KnowledgeWalk_spread_69 : decode b_KnowledgeWalk_spread 69 = .ok (.goto (-39), 3) := by decide +kernel
theorem d_KnowledgeWalk_spread_72 : decode b_KnowledgeWalk_spread 72 = .ok (.iload_n 2, 1) := by decide +kernel
theorem d_KnowledgeWalk_spread_73 : decode b_KnowledgeWalk_spread 73 = .ok (.ifCond .eq 46, 3) := by decide +kernel
theorem d_KnowledgeWalk_spread_76 : decode b_KnowledgeWalk_spread 76 = .ok (.aload_n 0, 1) := by decide +kernel
theorem d_KnowledgeWalk_spread_77 : decode b_KnowledgeWalk_spread 77 = .ok (.getfield 31, 3) := by decide +kernel
theorem d_KnowledgeWalk_spread_80 : decode b_KnowledgeWalk_spread 80 = .ok (.aload_n 0, 1) := by decide +kernel
theorem d_KnowledgeWalk_spread_81 : decode b_KnowledgeWalk_spread 81 = .ok (.iconst 0, 1) := by decide +kernel
theorem d_KnowledgeWalk_spread_82 : decode b_KnowledgeWalk_spread 82 = .ok (.invokevirtual 91, 3) := by decide +kernel
theorem d_KnowledgeWalk_spread_85 : decode b_KnowledgeWalk_spread 85 = .ok (.aload_n 0, 1) := by decide +kernel
theorem d_KnowledgeWalk_spread_86 : decode b_KnowledgeWalk_spread 86 = .ok (.iconst 1, 1) := by decide +kernel
theorem d_KnowledgeWalk_spread_87 : decode b_KnowledgeWalk_spread 87 = .ok (.invokevirtual 91, 3) := by decide +kernel
theorem d_KnowledgeWalk_spread_90 : decode b_KnowledgeWalk_spread 90 = .ok (.aload_n 0, 1) := by decide +kernel
theorem d_KnowledgeWalk_spread_91 : decode b_KnowledgeWalk_spread 91 = .ok (.iconst 2, 1) := by decide +kernel
theorem d_KnowledgeWalk_spread_92 : decode b_KnowledgeWalk_spread 92 = .ok (.invokevirtual 91, 3) := by decide +kernel
theorem d_KnowledgeWalk_spread_95 : decode b_KnowledgeWalk_spread 95 = .ok (.invokevirtual 94, 3) := by decide +kernel
theorem d_KnowledgeWalk_spread_98 : decode b_KnowledgeWalk_spread 98 = .ok (.istore_n 3, 1) := by decide +kernel
theorem d_KnowledgeWalk_spread_99 : decode b_KnowledgeWalk_spread 99 = .ok (.aload_n 0, 1) := by decide +kernel
theorem d_KnowledgeWalk_spread_100 : decode b_KnowledgeWalk_spread 100 = .ok (.getfield 39, 3) := by decide +kernel
theorem d_KnowledgeWalk_spread_103 : decode b_KnowledgeWalk_spread 103 = .ok (.aload_n 0, 1) := by decide +kernel
theorem d_KnowledgeWalk_spread_104 : decode b_KnowledgeWalk_spread 104 = .ok (.getfield 31, 3) := by decide +kernel
theorem d_KnowledgeWalk_spread_107 : decode b_KnowledgeWalk_spread 107 = .ok (.invokevirtual 98, 3) := by decide +kernel
theorem d_KnowledgeWalk_spread_110 : decode b_KnowledgeWalk_spread 110 = .ok (.iload_n 3, 1) := by decide +kernel
theorem d_KnowledgeWalk_spread_111 : decode b_KnowledgeWalk_spread 111 = .ok (.aload_n 0, 1) := by decide +kernel
theorem d_KnowledgeWalk_spread_112 : decode b_KnowledgeWalk_spread 112 = .ok (.getfield 9, 3) := by decide +kernel
theorem d_KnowledgeWalk_spread_115 : decode b_KnowledgeWalk_spread 115 = .ok (.iload_n 1, 1) := by decide +kernel
theorem d_KnowledgeWalk_spread_116 : decode b_KnowledgeWalk_spread 116 = .ok (.invokevirtual 101, 3) := by decide +kernel
theorem d_KnowledgeWalk_spread_119 : decode b_KnowledgeWalk_spread 119 = .ok (.return_, 1) := by decide +kernel
theorem d_KnowledgeWalk_rowsKey_0 : decode b_KnowledgeWalk_rowsKey 0 = .ok (.lconst 0, 1) := by decide +kernel
theorem d_KnowledgeWalk_rowsKey_1 : decode b_KnowledgeWalk_rowsKey 1 = .ok (.lstore_n 1, 1) := by decide +kernel
theorem d_KnowledgeWalk_rowsKey_2 : decode b_KnowledgeWalk_rowsKey 2 = .ok (.iconst 0, 1) := by decide +kernel
theorem d_KnowledgeWalk_rowsKey_3 : decode b_KnowledgeWalk_rowsKey 3 = .ok (.istore_n 3, 1) := by decide +kernel
theorem d_KnowledgeWalk_rowsKey_4 : decode b_KnowledgeWalk_rowsKey 4 = .ok (.iload_n 3, 1) := by decide +kernel
theorem d_KnowledgeWalk_rowsKey_5 : decode b_KnowledgeWalk_rowsKey 5 = .ok (.iconst 4, 1) := by decide +kernel
theorem d_KnowledgeWalk_rowsKey_6 : decode b_KnowledgeWalk_rowsKey 6 = .ok (.if_icmp .ge 28, 3) := by decide +kernel
theorem d_KnowledgeWalk_rowsKey_9 : decode b_KnowledgeWalk_rowsKey 9 = .ok (.lload_n 1, 1) := by decide +kernel
theorem d_KnowledgeWalk_rowsKey_10 : decode b_KnowledgeWalk_rowsKey 10 = .ok (.iconst 3, 1) := by decide +kernel
theorem d_KnowledgeWalk_rowsKey_11 : decode b_KnowledgeWalk_rowsKey 11 = .ok (.aload_n 0, 1) := by decide +kernel
theorem d_KnowledgeWalk_rowsKey_12 : decode b_KnowledgeWalk_rowsKey 12 = .ok (.getfield 18, 3) := by decide +kernel
theorem d_KnowledgeWalk_rowsKey_15 : decode b_KnowledgeWalk_rowsKey 15 = .ok (.iload_n 3, 1) := by decide +kernel
theorem d_KnowledgeWalk_rowsKey_16 : decode b_KnowledgeWalk_rowsKey 16 = .ok (.iaload, 1) := by decide +kernel
theorem d_KnowledgeWalk_rowsKey_17 : decode b_KnowledgeWalk_rowsKey 17 = .ok (.imul, 1) := by decide +kernel
theorem d_KnowledgeWalk_rowsKey_18 : decode b_KnowledgeWalk_rowsKey 18 = .ok (.lshl, 1) := by decide +kernel
theorem d_KnowledgeWalk_rowsKey_19 : decode b_KnowledgeWalk_rowsKey 19 = .ok (.aload_n 0, 1) := by decide +kernel
theorem d_KnowledgeWalk_rowsKey_20 : decode b_KnowledgeWalk_rowsKey 20 = .ok (.getfield 15, 3) := by decide +kernel
theorem d_KnowledgeWalk_rowsKey_23 : decode b_KnowledgeWalk_rowsKey 23 = .ok (.iload_n 3, 1) := by decide +kernel
theorem d_KnowledgeWalk_rowsKey_24 : decode b_KnowledgeWalk_rowsKey 24 = .ok (.iaload, 1) := by decide +kernel
theorem d_KnowledgeWalk_rowsKey_25 : decode b_KnowledgeWalk_rowsKey 25 = .ok (.i2l, 1) := by decide +kernel
theorem d_KnowledgeWalk_rowsKey_26 : decode b_KnowledgeWalk_rowsKey 26 = .ok (.lor, 1) := by decide +kernel
theorem d_KnowledgeWalk_rowsKey_27 : decode b_KnowledgeWalk_rowsKey 27 = .ok (.lstore_n 1, 1) := by decide +kernel
theorem d_KnowledgeWalk_rowsKey_28 : decode b_KnowledgeWalk_rowsKey 28 = .ok (.iinc 3 1, 3) := by decide +kernel
theorem d_KnowledgeWalk_rowsKey_31 : decode b_KnowledgeWalk_rowsKey 31 = .ok (.goto (-27), 3) := by decide +kernel
theorem d_KnowledgeWalk_rowsKey_34 : decode b_KnowledgeWalk_rowsKey 34 = .ok (.lload_n 1, 1) := by decide +kernel
theorem d_KnowledgeWalk_rowsKey_35 : decode b_KnowledgeWalk_rowsKey 35 = .ok (.lreturn, 1) := by decide +kernel
theorem d_KnowledgeWalk_sourceAt_0 : decode b_KnowledgeWalk_sourceAt 0 = .ok (.iload_n 2, 1) := by decide +kernel
theorem d_KnowledgeWalk_sourceAt_1 : decode b_KnowledgeWalk_sourceAt 1 = .ok (.iconst 1, 1) := by decide +kernel
theorem d_KnowledgeWalk_sourceAt_2 : decode b_KnowledgeWalk_sourceAt 2 = .ok (.if_icmp .lt 13, 3) := by decide +kernel
theorem d_KnowledgeWalk_sourceAt_5 : decode b_KnowledgeWalk_sourceAt 5 = .ok (.iload_n 2, 1) := by decide +kernel
theorem d_KnowledgeWalk_sourceAt_6 : decode b_KnowledgeWalk_sourceAt 6 = .ok (.aload_n 0, 1) := by decide +kernel
theorem d_KnowledgeWalk_sourceAt_7 : decode b_KnowledgeWalk_sourceAt 7 = .ok (.getfield 18, 3) := by decide +kernel
theorem d_KnowledgeWalk_sourceAt_10 : decode b_KnowledgeWalk_sourceAt 10 = .ok (.iload_n 1, 1) := by decide +kernel
theorem d_KnowledgeWalk_sourceAt_11 : decode b_KnowledgeWalk_sourceAt 11 = .ok (.iaload, 1) := by decide +kernel
theorem d_KnowledgeWalk_sourceAt_12 : decode b_KnowledgeWalk_sourceAt 12 = .ok (.if_icmp .le 5, 3) := by decide +kernel
theorem d_KnowledgeWalk_sourceAt_15 : decode b_KnowledgeWalk_sourceAt 15 = .ok (.iconst 0, 1) := by decide +kernel
theorem d_KnowledgeWalk_sourceAt_16 : decode b_KnowledgeWalk_sourceAt 16 = .ok (.ireturn, 1) := by decide +kernel
theorem d_KnowledgeWalk_sourceAt_17 : decode b_KnowledgeWalk_sourceAt 17 = .ok (.aload_n 0, 1) := by decide +kernel
theorem d_KnowledgeWalk_sourceAt_18 : decode b_KnowledgeWalk_sourceAt 18 = .ok (.getfield 15, 3) := by decide +kernel
theorem d_KnowledgeWalk_sourceAt_21 : decode b_KnowledgeWalk_sourceAt 21 = .ok (.iload_n 1, 1) := by decide +kernel
theorem d_KnowledgeWalk_sourceAt_22 : decode b_KnowledgeWalk_sourceAt 22 = .ok (.iaload, 1) := by decide +kernel
theorem d_KnowledgeWalk_sourceAt_23 : decode b_KnowledgeWalk_sourceAt 23 = .ok (.iconst 3, 1) := by decide +kernel
theorem d_KnowledgeWalk_sourceAt_24 : decode b_KnowledgeWalk_sourceAt 24 = .ok (.iload_n 2, 1) := by decide +kernel
theorem d_KnowledgeWalk_sourceAt_25 : decode b_KnowledgeWalk_sourceAt 25 = .ok (.iconst 1, 1) := by decide +kernel
theorem d_KnowledgeWalk_sourceAt_26 : decode b_KnowledgeWalk_sourceAt 26 = .ok (.isub, 1) := by decide +kernel
theorem d_KnowledgeWalk_sourceAt_27 : decode b_KnowledgeWalk_sourceAt 27 = .ok (.imul, 1) := by decide +kernel
theorem d_KnowledgeWalk_sourceAt_28 : decode b_KnowledgeWalk_sourceAt 28 = .ok (.ishr, 1) := by decide +kernel
theorem d_KnowledgeWalk_sourceAt_29 : decode b_KnowledgeWalk_sourceAt 29 = .ok (.bipush 7, 2) := by decide +kernel
theorem d_KnowledgeWalk_sourceAt_31 : decode b_KnowledgeWalk_sourceAt 31 = .ok (.iand, 1) := by decide +kernel
theorem d_KnowledgeWalk_sourceAt_32 : decode b_KnowledgeWalk_sourceAt 32 = .ok (.ireturn, 1) := by decide +kernel
theorem d_KnowledgeWalk_lastIn_0 : decode b_KnowledgeWalk_lastIn 0 = .ok (.aload_n 0, 1) := by decide +kernel
theorem d_KnowledgeWalk_lastIn_1 : decode b_KnowledgeWalk_lastIn 1 = .ok (.iload_n 1, 1) := by decide +kernel
theorem d_KnowledgeWalk_lastIn_2 : decode b_KnowledgeWalk_lastIn 2 = .ok (.aload_n 0, 1) := by decide +kernel
theorem d_KnowledgeWalk_lastIn_3 : decode b_KnowledgeWalk_lastIn 3 = .ok (.getfield 18, 3) := by decide +kernel
theorem d_KnowledgeWalk_lastIn_6 : decode b_KnowledgeWalk_lastIn 6 = .ok (.iload_n 1, 1) := by decide +kernel
theorem d_KnowledgeWalk_lastIn_7 : decode b_KnowledgeWalk_lastIn 7 = .ok (.iaload, 1) := by decide +kernel
theorem d_KnowledgeWalk_lastIn_8 : decode b_KnowledgeWalk_lastIn 8 = .ok (.invokevirtual 127, 3) := by decide +kernel
theorem d_KnowledgeWalk_lastIn_11 : decode b_KnowledgeWalk_lastIn 11 = .ok (.ireturn, 1) := by decide +kernel
theorem d_OutcomeSet_init_0 : decode b_OutcomeSet_init 0 = .ok (.aload_n 0, 1) := by decide +kernel
theorem d_OutcomeSet_init_1 : decode b_OutcomeSet_init 1 = .ok (.invokespecial 3, 3) := by decide +kernel
theorem d_OutcomeSet_init_4 : decode b_OutcomeSet_init 4 = .ok (.aload_n 0, 1) := by decide +kernel
theorem d_OutcomeSet_init_5 : decode b_OutcomeSet_init 5 = .ok (.iconst 0, 1) := by decide +kernel
theorem d_OutcomeSet_init_6 : decode b_OutcomeSet_init 6 = .ok (.newarray .long, 2) := by decide +kernel
theorem d_OutcomeSet_init_8 : decode b_OutcomeSet_init 8 = .ok (.putfield 9, 3) := by decide +kernel
theorem d_OutcomeSet_init_11 : decode b_OutcomeSet_init 11 = .ok (.aload_n 0, 1) := by decide +kernel
theorem d_OutcomeSet_init_12 : decode b_OutcomeSet_init 12 = .ok (.iconst 0, 1) := by decide +kernel
theorem d_OutcomeSet_init_13 : decode b_OutcomeSet_init 13 = .ok (.newarray .int, 2) := by decide +kernel
theorem d_OutcomeSet_init_15 : decode b_OutcomeSet_init 15 = .ok (.putfield 15, 3) := by decide +kernel
theorem d_OutcomeSet_init_18 : decode b_OutcomeSet_init 18 = .ok (.aload_n 0, 1) := by decide +kernel
theorem d_OutcomeSet_init_19 : decode b_OutcomeSet_init 19 = .ok (.iconst 0, 1) := by decide +kernel
theorem d_OutcomeSet_init_20 : decode b_OutcomeSet_init 20 = .ok (.newarray .int, 2) := by decide +kernel
theorem d_OutcomeSet_init_22 : decode b_OutcomeSet_init 22 = .ok (.putfield 19, 3) := by decide +kernel
theorem d_OutcomeSet_init_25 : decode b_OutcomeSet_init 25 = .ok (.aload_n 0, 1) := by decide +kernel
theorem d_OutcomeSet_init_26 : decode b_OutcomeSet_init 26 = .ok (.iconst 0, 1) := by decide +kernel
theorem d_OutcomeSet_init_27 : decode b_OutcomeSet_init 27 = .ok (.newarray .int, 2) := by decide +kernel
theorem d_OutcomeSet_init_29 : decode b_OutcomeSet_init 29 = .ok (.putfield 22, 3) := by decide +kernel
theorem d_OutcomeSet_init_32 : decode b_OutcomeSet_init 32 = .ok (.aload_n 0, 1) := by decide +kernel
theorem d_OutcomeSet_init_33 : decode b_OutcomeSet_init 33 = .ok (.iconst 0, 1) := by decide +kernel
theorem d_OutcomeSet_init_34 : decode b_OutcomeSet_init 34 = .ok (.newarray .int, 2) := by decide +kernel
theorem d_OutcomeSet_init_36 : decode b_OutcomeSet_init 36 = .ok (.putfield 25, 3) := by decide +kernel
theorem d_OutcomeSet_init_39 : decode b_OutcomeSet_init 39 = .ok (.aload_n 0, 1) := by decide +kernel
theorem d_OutcomeSet_init_40 : decode b_OutcomeSet_init 40 = .ok (.iload_n 1, 1) := by decide +kernel
theorem d_OutcomeSet_init_41 : decode b_OutcomeSet_init 41 = .ok (.putfield 28, 3) := by decide +kernel
theorem d_OutcomeSet_init_44 : decode b_OutcomeSet_init 44 = .ok (.return_, 1) := by decide +kernel
theorem d_OutcomeSet_begin_0 : decode b_OutcomeSet_begin 0 = .ok (.aload_n 0, 1) := by decide +kernel
theorem d_OutcomeSet_begin_1 : decode b_OutcomeSet_begin 1 = .ok (.iconst 0, 1) := by decide +kernel
theorem d_OutcomeSet_begin_2 : decode b_OutcomeSet_begin 2 = .ok (.putfield 32, 3) := by decide +kernel
theorem d_OutcomeSet_begin_5 : decode b_OutcomeSet_begin 5 = .ok (.aload_n 0, 1) := by decide +kernel
theorem d_OutcomeSet_begin_6 : decode b_OutcomeSet_begin 6 = .ok (.iconst 0, 1) := by decide +kernel
theorem d_OutcomeSet_begin_7 : decode b_OutcomeSet_begin 7 = .ok (.putfield 35, 3) := by decide +kernel
theorem d_OutcomeSet_begin_10 : decode b_OutcomeSet_begin 10 = .ok (.return_, 1) := by decide +kernel
theorem d_OutcomeSet_addGraph_0 : decode b_OutcomeSet_addGraph 0 = .ok (.aload_n 0, 1) := by decide +kernel
theorem d_OutcomeSet_addGraph_1 : decode b_OutcomeSet_addGraph 1 = .ok (.dup, 1) := by decide +kernel
theorem d_OutcomeSet_addGraph_2 : decode b_OutcomeSet_addGraph 2 = .ok (.getfield 35, 3) := by decide +kernel
theorem d_OutcomeSet_addGraph_5 : decode b_OutcomeSet_addGraph 5 = .ok (.iconst 1, 1) := by decide +kernel
theorem d_OutcomeSet_addGraph_6 : decode b_OutcomeSet_addGraph 6 = .ok (.iadd, 1) := by decide +kernel
theorem d_OutcomeSet_addGraph_7 : decode b_OutcomeSet_addGraph 7 = .ok (.putfield 35, 3) := by decide +kernel
theorem d_OutcomeSet_addGraph_10 : decode b_OutcomeSet_addGraph 10 = .ok (.aload_n 0, 1) := by decide +kernel
theorem d_OutcomeSet_addGraph_11 : decode b_OutcomeSet_addGraph 11 = .ok (.lload_n 1, 1) := by decide +kernel
theorem d_OutcomeSet_addGraph_12 : decode b_OutcomeSet_addGraph 12 = .ok (.iload_n 3, 1) := by decide +kernel
theorem d_OutcomeSet_addGraph_13 : decode b_OutcomeSet_addGraph 13 = .ok (.invokevirtual 38, 3) := by decide +kernel
theorem d_OutcomeSet_addGraph_16 : decode b_OutcomeSet_addGraph 16 = .ok (.pop, 1) := by decide +kernel
theorem d_OutcomeSet_addGraph_17 : decode b_OutcomeSet_addGraph 17 = .ok (.return_, 1) := by decide +kernel
theorem d_OutcomeSet_addRun_0 : decode b_OutcomeSet_addRun 0 = .ok (.aload_n 0, 1) := by decide +kernel
theorem d_OutcomeSet_addRun_1 : decode b_OutcomeSet_addRun 1 = .ok (.lload_n 1, 1) := by decide +kernel
theorem d_OutcomeSet_addRun_2 : decode b_OutcomeSet_addRun 2 = .ok (.iload_n 3, 1) := by decide +kernel
theorem d_OutcomeSet_addRun_3 : decode b_OutcomeSet_addRun 3 = .ok (.invokevirtual 38, 3) := by decide +kernel
theorem d_OutcomeSet_addRun_6 : decode b_OutcomeSet_addRun 6 = .ok (.ifCond .ne 4, 3) := by decide +kernel
theorem d_OutcomeSet_addRun_9 : decode b_OutcomeSet_addRun 9 = .ok (.return_, 1) := by decide +kernel
theorem d_OutcomeSet_addRun_10 : decode b_OutcomeSet_addRun 10 = .ok (.aload_n 0, 1) := by decide +kernel
theorem d_OutcomeSet_addRun_11 : decode b_OutcomeSet_addRun 11 = .ok (.getfield 32, 3) := by decide +kernel
theorem d_OutcomeSet_addRun_14 : decode b_OutcomeSet_addRun 14 = .ok (.iconst 1, 1) := by decide +kernel
theorem d_OutcomeSet_addRun_15 : decode b_OutcomeSet_addRun 15 = .ok (.isub, 1) := by decide +kernel
theorem d_OutcomeSet_addRun_16 : decode b_OutcomeSet_addRun 16 = .ok (.istore 6, 2) := by decide +kernel
theorem d_OutcomeSet_addRun_18 : decode b_OutcomeSet_addRun 18 = .ok (.aload_n 0, 1) := by decide +kernel
theorem d_OutcomeSet_addRun_19 : decode b_OutcomeSet_addRun 19 = .ok (.getfield 19, 3) := by decide +kernel
theorem d_OutcomeSet_addRun_22 : decode b_OutcomeSet_addRun 22 = .ok (.iload 6, 2) := by decide +kernel
theorem d_OutcomeSet_addRun_24 : decode b_OutcomeSet_addRun 24 = .ok (.iload 5, 2) := by decide +kernel
theorem d_OutcomeSet_addRun_26 : decode b_OutcomeSet_addRun 26 = .ok (.aload 4, 2) := by decide +kernel
theorem d_OutcomeSet_addRun_28 : decode b_OutcomeSet_addRun 28 = .ok (.arraylength, 1) := by decide +kernel
theorem d_OutcomeSet_addRun_29 : decode b_OutcomeSet_addRun 29 = .ok (.invokestatic 42, 3) := by decide +kernel
theorem d_OutcomeSet_addRun_32 : decode b_OutcomeSet_addRun 32 = .ok (.aload_n 0, 1) := by decide +kernel
theorem d_OutcomeSet_addRun_33 : decode b_OutcomeSet_addRun 33 = .ok (.getfield 28, 3) := by decide +kernel
theorem d_OutcomeSet_addRun_36 : decode b_OutcomeSet_addRun 36 = .ok (.invokestatic 42, 3) := by decide +kernel
theorem d_OutcomeSet_addRun_39 : decode b_OutcomeSet_addRun 39 = .ok (.iastore, 1) := by decide +kernel
theorem d_OutcomeSet_addRun_40 : decode b_OutcomeSet_addRun 40 = .ok (.iconst 0, 1) := by decide +kernel
theorem d_OutcomeSet_addRun_41 : decode b_OutcomeSet_addRun 41 = .ok (.istore 7, 2) := by decide +kernel
theorem d_OutcomeSet_addRun_43 : decode b_OutcomeSet_addRun 43 = .ok (.iload 7, 2) := by decide +kernel
theorem d_OutcomeSet_addRun_45 : decode b_OutcomeSet_addRun 45 = .ok (.aload_n 0, 1) := by decide +kernel
theorem d_OutcomeSet_addRun_46 : decode b_OutcomeSet_addRun 46 = .ok (.getfield 19, 3) := by decide +kernel
theorem d_OutcomeSet_addRun_49 : decode b_OutcomeSet_addRun 49 = .ok (.iload 6, 2) := by decide +kernel
theorem d_OutcomeSet_addRun_51 : decode b_OutcomeSet_addRun 51 = .ok (.iaload, 1) := by decide +kernel
theorem d_OutcomeSet_addRun_52 : decode b_OutcomeSet_addRun 52 = .ok (.if_icmp .ge 29, 3) := by decide +kernel
theorem d_OutcomeSet_addRun_55 : decode b_OutcomeSet_addRun 55 = .ok (.aload_n 0, 1) := by decide +kernel
theorem d_OutcomeSet_addRun_56 : decode b_OutcomeSet_addRun 56 = .ok (.getfield 22, 3) := by decide +kernel
theorem d_OutcomeSet_addRun_59 : decode b_OutcomeSet_addRun 59 = .ok (.iload 6, 2) := by decide +kernel
theorem d_OutcomeSet_addRun_61 : decode b_OutcomeSet_addRun 61 = .ok (.aload_n 0, 1) := by decide +kernel
theorem d_OutcomeSet_addRun_62 : decode b_OutcomeSet_addRun 62 = .ok (.getfield 28, 3) := by decide +kernel
theorem d_OutcomeSet_addRun_65 : decode b_OutcomeSet_addRun 65 = .ok (.imul, 1) := by decide +kernel
theorem d_OutcomeSet_addRun_66 : decode b_OutcomeSet_addRun 66 = .ok (.iload 7, 2) := by decide +kernel
theorem d_OutcomeSet_addRun_68 : decode b_OutcomeSet_addRun 68 = .ok (.iadd, 1) := by decide +kernel
theorem d_OutcomeSet_addRun_69 : decode b_OutcomeSet_addRun 69 = .ok (.aload 4, 2) := by decide +kernel
theorem d_OutcomeSet_addRun_71 : decode b_OutcomeSet_addRun 71 = .ok (.iload 7, 2) := by decide +kernel
theorem d_OutcomeSet_addRun_73 : decode b_OutcomeSet_addRun 73 = .ok (.iaload, 1) := by decide +kernel
theorem d_OutcomeSet_addRun_74 : decode b_OutcomeSet_addRun 74 = .ok (.iastore, 1) := by decide +kernel
theorem d_OutcomeSet_addRun_75 : decode b_OutcomeSet_addRun 75 = .ok (.iinc 7 1, 3) := by decide +kernel
theorem d_OutcomeSet_addRun_78 : decode b_OutcomeSet_addRun 78 = .ok (.goto (-35), 3) := by decide +kernel
theorem d_OutcomeSet_addRun_81 : decode b_OutcomeSet_addRun 81 = .ok (.return_, 1) := by decide +kernel
theorem d_OutcomeSet_add_0 : decode b_OutcomeSet_add 0 = .ok (.aload_n 0, 1) := by decide +kernel
theorem d_OutcomeSet_add_1 : decode b_OutcomeSet_add 1 = .ok (.lload_n 1, 1) := by decide +kernel
theorem d_OutcomeSet_add_2 : decode b_OutcomeSet_add 2 = .ok (.iload_n 3, 1) := by decide +kernel
theorem d_OutcomeSet_add_3 : decode b_OutcomeSet_add 3 = .ok (.invokevirtual 48, 3) := by decide +kernel
theorem d_OutcomeSet_add_6 : decode b_OutcomeSet_add 6 = .ok (.istore 4, 2) := by decide +kernel
theorem d_OutcomeSet_add_8 : decode b_OutcomeSet_add 8 = .ok (.aload_n 0, 1) := by decide +kernel
theorem d_OutcomeSet_add_9 : decode b_OutcomeSet_add 9 = .ok (.iload 4, 2) := by decide +kernel
theorem d_OutcomeSet_add_11 : decode b_OutcomeSet_add 11 = .ok (.lload_n 1, 1) := by decide +kernel
theorem d_OutcomeSet_add_12 : decode b_OutcomeSet_add 12 = .ok (.iload_n 3, 1) := by decide +kernel
theorem d_OutcomeSet_add_13 : decode b_OutcomeSet_add 13 = .ok (.invokevirtual 52, 3) := by decide +kernel
theorem d_OutcomeSet_add_16 : decode b_OutcomeSet_add 16 = .ok (.ifCond .eq 5, 3) := by decide +kernel
theorem d_OutcomeSet_add_19 : decode b_OutcomeSet_add 19 = .ok (.iconst 0, 1) := by decide +kernel
theorem d_OutcomeSet_add_20 : decode b_OutcomeSet_add 20 = .ok (.ireturn, 1) := by decide +kernel
theorem d_OutcomeSet_add_21 : decode b_OutcomeSet_add 21 = .ok (.aload_n 0, 1) := by decide +kernel
theorem d_OutcomeSet_add_22 : decode b_OutcomeSet_add 22 = .ok (.getfield 32, 3) := by decide +kernel
theorem d_OutcomeSet_add_25 : decode b_OutcomeSet_add 25 = .ok (.aload_n 0, 1) := by decide +kernel
theorem d_OutcomeSet_add_26 : decode b_OutcomeSet_add 26 = .ok (.getfield 25, 3) := by decide +kernel
theorem d_OutcomeSet_add_29 : decode b_OutcomeSet_add 29 = .ok (.arraylength, 1) := by decide +kernel
theorem d_OutcomeSet_add_30 : decode b_OutcomeSet_add 30 = .ok (.if_icmp .lt 7, 3) := by decide +kernel
theorem d_OutcomeSet_add_33 : decode b_OutcomeSet_add 33 = .ok (.aload_n 0, 1) := by decide +kernel
theorem d_OutcomeSet_add_34 : decode b_OutcomeSet_add 34 = .ok (.invokevirtual 56, 3) := by decide +kernel
theorem d_OutcomeSet_add_37 : decode b_OutcomeSet_add 37 = .ok (.aload_n 0, 1) := by decide +kernel
theorem d_OutcomeSet_add_38 : decode b_OutcomeSet_add 38 = .ok (.getfield 9, 3) := by decide +kernel
theorem d_OutcomeSet_add_41 : decode b_OutcomeSet_add 41 = .ok (.aload_n 0, 1) := by decide +kernel
theorem d_OutcomeSet_add_42 : decode b_OutcomeSet_add 42 = .ok (.getfield 32, 3) := by decide +kernel
theorem d_OutcomeSet_add_45 : decode b_OutcomeSet_add 45 = .ok (.lload_n 1, 1) := by decide +kernel
theorem d_OutcomeSet_add_46 : decode b_OutcomeSet_add 46 = .ok (.lastore, 1) := by decide +kernel
theorem d_OutcomeSet_add_47 : decode b_OutcomeSet_add 47 = .ok (.aload_n 0, 1) := by decide +kernel
theorem d_OutcomeSet_add_48 : decode b_OutcomeSet_add 48 = .ok (.getfield 15, 3) := by decide +kernel
theorem d_OutcomeSet_add_51 : decode b_OutcomeSet_add 51 = .ok (.aload_n 0, 1) := by decide +kernel
theorem d_OutcomeSet_add_52 : decode b_OutcomeSet_add 52 = .ok (.getfield 32, 3) := by decide +kernel
theorem d_OutcomeSet_add_55 : decode b_OutcomeSet_add 55 = .ok (.iload_n 3, 1) := by decide +kernel
theorem d_OutcomeSet_add_56 : decode b_OutcomeSet_add 56 = .ok (.iastore, 1) := by decide +kernel
theorem d_OutcomeSet_add_57 : decode b_OutcomeSet_add 57 = .ok (.aload_n 0, 1) := by decide +kernel
theorem d_OutcomeSet_add_58 : decode b_OutcomeSet_add 58 = .ok (.getfield 19, 3) := by decide +kernel
theorem d_OutcomeSet_add_61 : decode b_OutcomeSet_add 61 = .ok (.aload_n 0, 1) := by decide +kernel
theorem d_OutcomeSet_add_62 : decode b_OutcomeSet_add 62 = .ok (.getfield 32, 3) := by decide +kernel
theorem d_OutcomeSet_add_65 : decode b_OutcomeSet_add 65 = .ok (.iconst 0, 1) := by decide +kernel
theorem d_OutcomeSet_add_66 : decode b_OutcomeSet_add 66 = .ok (.iastore, 1) := by decide +kernel
theorem d_OutcomeSet_add_67 : decode b_OutcomeSet_add 67 = .ok (.aload_n 0, 1) := by decide +kernel
theorem d_OutcomeSet_add_68 : decode b_OutcomeSet_add 68 = .ok (.getfield 25, 3) := by decide +kernel
theorem d_OutcomeSet_add_71 : decode b_OutcomeSet_add 71 = .ok (.iload 4, 2) := by decide +kernel
theorem d_OutcomeSet_add_73 : decode b_OutcomeSet_add 73 = .ok (.aload_n 0, 1) := by decide +kernel
theorem d_OutcomeSet_add_74 : decode b_OutcomeSet_add 74 = .ok (.getfield 25, 3) := by decide +kernel
theorem d_OutcomeSet_add_77 : decode b_OutcomeSet_add 77 = .ok (.iload 4, 2) := by decide +kernel
theorem d_OutcomeSet_add_79 : decode b_OutcomeSet_add 79 = .ok (.iconst 1, 1) := by decide +kernel
theorem d_OutcomeSet_add_80 : decode b_OutcomeSet_add 80 = .ok (.iadd, 1) := by decide +kernel
theorem d_OutcomeSet_add_81 : decode b_OutcomeSet_add 81 = .ok (.aload_n 0, 1) := by decide +kernel
theorem d_OutcomeSet_add_82 : decode b_OutcomeSet_add 82 = .ok (.getfield 32, 3) := by decide +kernel
theorem d_OutcomeSet_add_85 : decode b_OutcomeSet_add 85 = .ok (.iload 4, 2) := by decide +kernel
theorem d_OutcomeSet_add_87 : decode b_OutcomeSet_add 87 = .ok (.isub, 1) := by decide +kernel
theorem d_OutcomeSet_add_88 : decode b_OutcomeSet_add 88 = .ok (.invokestatic 59, 3) := by decide +kernel
theorem d_OutcomeSet_add_91 : decode b_OutcomeSet_add 91 = .ok (.aload_n 0, 1) := by decide +kernel
theorem d_OutcomeSet_add_92 : decode b_OutcomeSet_add 92 = .ok (.getfield 25, 3) := by decide +kernel
theorem d_OutcomeSet_add_95 : decode b_OutcomeSet_add 95 = .ok (.iload 4, 2) := by decide +kernel
theorem d_OutcomeSet_add_97 : decode b_OutcomeSet_add 97 = .ok (.aload_n 0, 1) := by decide +kernel
theorem d_OutcomeSet_add_98 : decode b_OutcomeSet_add 98 = .ok (.getfield 32, 3) := by decide +kernel
theorem d_OutcomeSet_add_101 : decode b_OutcomeSet_add 101 = .ok (.iastore, 1) := by decide +kernel
theorem d_OutcomeSet_add_102 : decode b_OutcomeSet_add 102 = .ok (.aload_n 0, 1) := by decide +kernel
theorem d_OutcomeSet_add_103 : decode b_OutcomeSet_add 103 = .ok (.dup, 1) := by decide +kernel
theorem d_OutcomeSet_add_104 : decode b_OutcomeSet_add 104 = .ok (.getfield 32, 3) := by decide +kernel
theorem d_OutcomeSet_add_107 : decode b_OutcomeSet_add 107 = .ok (.iconst 1, 1) := by decide +kernel
theorem d_OutcomeSet_add_108 : decode b_OutcomeSet_add 108 = .ok (.iadd, 1) := by decide +kernel
theorem d_OutcomeSet_add_109 : decode b_OutcomeSet_add 109 = .ok (.putfield 32, 3) := by decide +kernel
theorem d_OutcomeSet_add_112 : decode b_OutcomeSet_add 112 = .ok (.iconst 1, 1) := by decide +kernel
theorem d_OutcomeSet_add_113 : decode b_OutcomeSet_add 113 = .ok (.ireturn, 1) := by decide +kernel
theorem d_OutcomeSet_grow_0 : decode b_OutcomeSet_grow 0 = .ok (.bipush 8, 2) := by decide +kernel
theorem d_OutcomeSet_grow_2 : decode b_OutcomeSet_grow 2 = .ok (.iconst 2, 1) := by decide +kernel
theorem d_OutcomeSet_grow_3 : decode b_OutcomeSet_grow 3 = .ok (.aload_n 0, 1) := by decide +kernel
theorem d_OutcomeSet_grow_4 : decode b_OutcomeSet_grow 4 = .ok (.getfield 32, 3) := by decide +kernel
theorem d_OutcomeSet_grow_7 : decode b_OutcomeSet_grow 7 = .ok (.imul, 1) := by decide +kernel
theorem d_OutcomeSet_grow_8 : decode b_OutcomeSet_grow 8 = .ok (.invokestatic 65, 3) := by decide +kernel
theorem d_OutcomeSet_grow_11 : decode b_OutcomeSet_grow 11 = .ok (.istore_n 1, 1) := by decide +kernel
theorem d_OutcomeSet_grow_12 : decode b_OutcomeSet_grow 12 = .ok (.aload_n 0, 1) := by decide +kernel
theorem d_OutcomeSet_grow_13 : decode b_OutcomeSet_grow 13 = .ok (.aload_n 0, 1) := by decide +kernel
theorem d_OutcomeSet_grow_14 : decode b_OutcomeSet_grow 14 = .ok (.getfield 9, 3) := by decide +kernel
theorem d_OutcomeSet_grow_17 : decode b_OutcomeSet_grow 17 = .ok (.iload_n 1, 1) := by decide +kernel
theorem d_OutcomeSet_grow_18 : decode b_OutcomeSet_grow 18 = .ok (.invokestatic 68, 3) := by decide +kernel
theorem d_OutcomeSet_grow_21 : decode b_OutcomeSet_grow 21 = .ok (.putfield 9, 3) := by decide +kernel
theorem d_OutcomeSet_grow_24 : decode b_OutcomeSet_grow 24 = .ok (.aload_n 0, 1) := by decide +kernel
theorem d_OutcomeSet_grow_25 : decode b_OutcomeSet_grow 25 = .ok (.aload_n 0, 1) := by decide +kernel
theorem d_OutcomeSet_grow_26 : decode b_OutcomeSet_grow 26 = .ok (.getfield 15, 3) := by decide +kernel
theorem d_OutcomeSet_grow_29 : decode b_OutcomeSet_grow 29 = .ok (.iload_n 1, 1) := by decide +kernel
theorem d_OutcomeSet_grow_30 : decode b_OutcomeSet_grow 30 = .ok (.invokestatic 74, 3) := by decide +kernel
theorem d_OutcomeSet_grow_33 : decode b_OutcomeSet_grow 33 = .ok (.putfield 15, 3) := by decide +kernel
theorem d_OutcomeSet_grow_36 : decode b_OutcomeSet_grow 36 = .ok (.aload_n 0, 1) := by decide +kernel
theorem d_OutcomeSet_grow_37 : decode b_OutcomeSet_grow 37 = .ok (.aload_n 0, 1) := by decide +kernel
theorem d_OutcomeSet_grow_38 : decode b_OutcomeSet_grow 38 = .ok (.getfield 19, 3) := by decide +kernel
theorem d_OutcomeSet_grow_41 : decode b_OutcomeSet_grow 41 = .ok (.iload_n 1, 1) := by decide +kernel
theorem d_OutcomeSet_grow_42 : decode b_OutcomeSet_grow 42 = .ok (.invokestatic 74, 3) := by decide +kernel
theorem d_OutcomeSet_grow_45 : decode b_OutcomeSet_grow 45 = .ok (.putfield 19, 3) := by decide +kernel
theorem d_OutcomeSet_grow_48 : decode b_OutcomeSet_grow 48 = .ok (.aload_n 0, 1) := by decide +kernel
theorem d_OutcomeSet_grow_49 : decode b_OutcomeSet_grow 49 = .ok (.aload_n 0, 1) := by decide +kernel
theorem d_OutcomeSet_grow_50 : decode b_OutcomeSet_grow 50 = .ok (.getfield 25, 3) := by decide +kernel
theorem d_OutcomeSet_grow_53 : decode b_OutcomeSet_grow 53 = .ok (.iload_n 1, 1) := by decide +kernel
theorem d_OutcomeSet_grow_54 : decode b_OutcomeSet_grow 54 = .ok (.invokestatic 74, 3) := by decide +kernel
theorem d_OutcomeSet_grow_57 : decode b_OutcomeSet_grow 57 = .ok (.putfield 25, 3) := by decide +kernel
theorem d_OutcomeSet_grow_60 : decode b_OutcomeSet_grow 60 = .ok (.aload_n 0, 1) := by decide +kernel
theorem d_OutcomeSet_grow_61 : decode b_OutcomeSet_grow 61 = .ok (.aload_n 0, 1) := by decide +kernel
theorem d_OutcomeSet_grow_62 : decode b_OutcomeSet_grow 62 = .ok (.getfield 22, 3) := by decide +kernel
theorem d_OutcomeSet_grow_65 : decode b_OutcomeSet_grow 65 = .ok (.iload_n 1, 1) := by decide +kernel
theorem d_OutcomeSet_grow_66 : decode b_OutcomeSet_grow 66 = .ok (.aload_n 0, 1) := by decide +kernel
theorem d_OutcomeSet_grow_67 : decode b_OutcomeSet_grow 67 = .ok (.getfield 28, 3) := by decide +kernel
theorem d_OutcomeSet_grow_70 : decode b_OutcomeSet_grow 70 = .ok (.imul, 1) := by decide +kernel
theorem d_OutcomeSet_grow_71 : decode b_OutcomeSet_grow 71 = .ok (.invokestatic 74, 3) := by decide +kernel
theorem d_OutcomeSet_grow_74 : decode b_OutcomeSet_grow 74 = .ok (.putfield 22, 3) := by decide +kernel
theorem d_OutcomeSet_grow_77 : decode b_OutcomeSet_grow 77 = .ok (.return_, 1) := by decide +kernel
theorem d_OutcomeSet_firstNotLess_0 : decode b_OutcomeSet_firstNotLess 0 = .ok (.iconst 0, 1) := by decide +kernel
theorem d_OutcomeSet_firstNotLess_1 : decode b_OutcomeSet_firstNotLess 1 = .ok (.istore 4, 2) := by decide +kernel
theorem d_OutcomeSet_firstNotLess_3 : decode b_OutcomeSet_firstNotLess 3 = .ok (.aload_n 0, 1) := by decide +kernel
theorem d_OutcomeSet_firstNotLess_4 : decode b_OutcomeSet_firstNotLess 4 = .ok (.getfield 32, 3) := by decide +kernel
theorem d_OutcomeSet_firstNotLess_7 : decode b_OutcomeSet_firstNotLess 7 = .ok (.istore 5, 2) := by decide +kernel
theorem d_OutcomeSet_firstNotLess_9 : decode b_OutcomeSet_firstNotLess 9 = .ok (.iconst 0, 1) := by decide +kernel
theorem d_OutcomeSet_firstNotLess_10 : decode b_OutcomeSet_firstNotLess 10 = .ok (.istore 6, 2) := by decide +kernel
theorem d_OutcomeSet_firstNotLess_12 : decode b_OutcomeSet_firstNotLess 12 = .ok (.iload 6, 2) := by decide +kernel
theorem d_OutcomeSet_firstNotLess_14 : decode b_OutcomeSet_firstNotLess 14 = .ok (.bipush 32, 2) := by decide +kernel
theorem d_OutcomeSet_firstNotLess_16 : decode b_OutcomeSet_firstNotLess 16 = .ok (.if_icmp .ge 94, 3) := by decide +kernel
theorem d_OutcomeSet_firstNotLess_19 : decode b_OutcomeSet_firstNotLess 19 = .ok (.iload 4, 2) := by decide +kernel
theorem d_OutcomeSet_firstNotLess_21 : decode b_OutcomeSet_firstNotLess 21 = .ok (.iload 5, 2) := by decide +kernel
theorem d_OutcomeSet_firstNotLess_23 : decode b_OutcomeSet_firstNotLess 23 = .ok (.if_icmp .ge 87, 3) := by decide +kernel
theorem d_OutcomeSet_firstNotLess_26 : decode b_OutcomeSet_firstNotLess 26 = .ok (.iload 4, 2) := by decide +kernel
theorem d_OutcomeSet_firstNotLess_28 : decode b_OutcomeSet_firstNotLess 28 = .ok (.iload 5, 2) := by decide +kernel
theorem d_OutcomeSet_firstNotLess_30 : decode b_OutcomeSet_firstNotLess 30 = .ok (.iadd, 1) := by decide +kernel
theorem d_OutcomeSet_firstNotLess_31 : decode b_OutcomeSet_firstNotLess 31 = .ok (.iconst 1, 1) := by decide +kernel
theorem d_OutcomeSet_firstNotLess_32 : decode b_OutcomeSet_firstNotLess 32 = .ok (.ishr, 1) := by decide +kernel
theorem d_OutcomeSet_firstNotLess_33 : decode b_OutcomeSet_firstNotLess 33 = .ok (.istore 7, 2) := by decide +kernel
theorem d_OutcomeSet_firstNotLess_35 : decode b_OutcomeSet_firstNotLess 35 = .ok (.aload_n 0, 1) := by decide +kernel
theorem d_OutcomeSet_firstNotLess_36 : decode b_OutcomeSet_firstNotLess 36 = .ok (.getfield 25, 3) := by decide +kernel
theorem d_OutcomeSet_firstNotLess_39 : decode b_OutcomeSet_firstNotLess 39 = .ok (.iload 7, 2) := by decide +kernel
theorem d_OutcomeSet_firstNotLess_41 : decode b_OutcomeSet_firstNotLess 41 = .ok (.iaload, 1) := by decide +kernel
theorem d_OutcomeSet_firstNotLess_42 : decode b_OutcomeSet_firstNotLess 42 = .ok (.istore 8, 2) := by decide +kernel
theorem d_OutcomeSet_firstNotLess_44 : decode b_OutcomeSet_firstNotLess 44 = .ok (.aload_n 0, 1) := by decide +kernel
theorem d_OutcomeSet_firstNotLess_45 : decode b_OutcomeSet_firstNotLess 45 = .ok (.getfield 9, 3) := by decide +kernel
theorem d_OutcomeSet_firstNotLess_48 : decode b_OutcomeSet_firstNotLess 48 = .ok (.iload 8, 2) := by decide +kernel
theorem d_OutcomeSet_firstNotLess_50 : decode b_OutcomeSet_firstNotLess 50 = .ok (.laload, 1) := by decide +kernel
theorem d_OutcomeSet_firstNotLess_51 : decode b_OutcomeSet_firstNotLess 51 = .ok (.lload_n 1, 1) := by decide +kernel
theorem d_OutcomeSet_firstNotLess_52 : decode b_OutcomeSet_firstNotLess 52 = .ok (.lcmp, 1) := by decide +kernel
theorem d_OutcomeSet_firstNotLess_53 : decode b_OutcomeSet_firstNotLess 53 = .ok (.ifCond .lt 26, 3) := by decide +kernel
theorem d_OutcomeSet_firstNotLess_56 : decode b_OutcomeSet_firstNotLess 56 = .ok (.aload_n 0, 1) := by decide +kernel
theorem d_OutcomeSet_firstNotLess_57 : decode b_OutcomeSet_firstNotLess 57 = .ok (.getfield 9, 3) := by decide +kernel
theorem d_OutcomeSet_firstNotLess_60 : decode b_OutcomeSet_firstNotLess 60 = .ok (.iload 8, 2) := by decide +kernel
theorem d_OutcomeSet_firstNotLess_62 : decode b_OutcomeSet_firstNotLess 62 = .ok (.laload, 1) := by decide +kernel
theorem d_OutcomeSet_firstNotLess_63 : decode b_OutcomeSet_firstNotLess 63 = .ok (.lload_n 1, 1) := by decide +kernel
theorem d_OutcomeSet_firstNotLess_64 : decode b_OutcomeSet_firstNotLess 64 = .ok (.lcmp, 1) := by decide +kernel
theorem d_OutcomeSet_firstNotLess_65 : decode b_OutcomeSet_firstNotLess 65 = .ok (.ifCond .ne 18, 3) := by decide +kernel
theorem d_OutcomeSet_firstNotLess_68 : decode b_OutcomeSet_firstNotLess 68 = .ok (.aload_n 0, 1) := by decide +kernel
theorem d_OutcomeSet_firstNotLess_69 : decode b_OutcomeSet_firstNotLess 69 = .ok (.getfield 15, 3) := by decide +kernel
theorem d_OutcomeSet_firstNotLess_72 : decode b_OutcomeSet_firstNotLess 72 = .ok (.iload 8, 2) := by decide +kernel
theorem d_OutcomeSet_firstNotLess_74 : decode b_OutcomeSet_firstNotLess 74 = .ok (.iaload, 1) := by decide +kernel
theorem d_OutcomeSet_firstNotLess_75 : decode b_OutcomeSet_firstNotLess 75 = .ok (.iload_n 3, 1) := by decide +kernel
theorem d_OutcomeSet_firstNotLess_76 : decode b_OutcomeSet_firstNotLess 76 = .ok (.if_icmp .ge 7, 3) := by decide +kernel
theorem d_OutcomeSet_firstNotLess_79 : decode b_OutcomeSet_firstNotLess 79 = .ok (.iconst 1, 1) := by decide +kernel
theorem d_OutcomeSet_firstNotLess_80 : decode b_OutcomeSet_firstNotLess 80 = .ok (.goto 4, 3) := by decide +kernel
theorem d_OutcomeSet_firstNotLess_83 : decode b_OutcomeSet_firstNotLess 83 = .ok (.iconst 0, 1) := by decide +kernel
theorem d_OutcomeSet_firstNotLess_84 : decode b_OutcomeSet_firstNotLess 84 = .ok (.istore 9, 2) := by decide +kernel
theorem d_OutcomeSet_firstNotLess_86 : decode b_OutcomeSet_firstNotLess 86 = .ok (.iload 9, 2) := by decide +kernel
theorem d_OutcomeSet_firstNotLess_88 : decode b_OutcomeSet_firstNotLess 88 = .ok (.ifCond .eq 12, 3) := by decide +kernel
theorem d_OutcomeSet_firstNotLess_91 : decode b_OutcomeSet_firstNotLess 91 = .ok (.iload 7, 2) := by decide +kernel
theorem d_OutcomeSet_firstNotLess_93 : decode b_OutcomeSet_firstNotLess 93 = .ok (.iconst 1, 1) := by decide +kernel
theorem d_OutcomeSet_firstNotLess_94 : decode b_OutcomeSet_firstNotLess 94 = .ok (.iadd, 1) := by decide +kernel
theorem d_OutcomeSet_firstNotLess_95 : decode b_OutcomeSet_firstNotLess 95 = .ok (.istore 4, 2) := by decide +kernel
theorem d_OutcomeSet_firstNotLess_97 : decode b_OutcomeSet_firstNotLess 97 = .ok (.goto 7, 3) := by decide +kernel
theorem d_OutcomeSet_firstNotLess_100 : decode b_OutcomeSet_firstNotLess 100 = .ok (.iload 7, 2) := by decide +kernel
theorem d_OutcomeSet_firstNotLess_102 : decode b_OutcomeSet_firstNotLess 102 = .ok (.istore 5, 2) := by decide +kernel
theorem d_OutcomeSet_firstNotLess_104 : decode b_OutcomeSet_firstNotLess 104 = .ok (.iinc 6 1, 3) := by decide +kernel
theorem d_OutcomeSet_firstNotLess_107 : decode b_OutcomeSet_firstNotLess 107 = .ok (.goto (-95), 3) := by decide +kernel
theorem d_OutcomeSet_firstNotLess_110 : decode b_OutcomeSet_firstNotLess 110 = .ok (.iload 4, 2) := by decide +kernel
theorem d_OutcomeSet_firstNotLess_112 : decode b_OutcomeSet_firstNotLess 112 = .ok (.ireturn, 1) := by decide +kernel
theorem d_OutcomeSet_isAt_0 : decode b_OutcomeSet_isAt 0 = .ok (.iload_n 1, 1) := by decide +kernel
theorem d_OutcomeSet_isAt_1 : decode b_OutcomeSet_isAt 1 = .ok (.aload_n 0, 1) := by decide +kernel
theorem d_OutcomeSet_isAt_2 : decode b_OutcomeSet_isAt 2 = .ok (.getfield 32, 3) := by decide +kernel
theorem d_OutcomeSet_isAt_5 : decode b_OutcomeSet_isAt 5 = .ok (.if_icmp .lt 5, 3) := by decide +kernel
theorem d_OutcomeSet_isAt_8 : decode b_OutcomeSet_isAt 8 = .ok (.iconst 0, 1) := by decide +kernel
theorem d_OutcomeSet_isAt_9 : decode b_OutcomeSet_isAt 9 = .ok (.ireturn, 1) := by decide +kernel
theorem d_OutcomeSet_isAt_10 : decode b_OutcomeSet_isAt 10 = .ok (.aload_n 0, 1) := by decide +kernel
theorem d_OutcomeSet_isAt_11 : decode b_OutcomeSet_isAt 11 = .ok (.getfield 25, 3) := by decide +kernel
theorem d_OutcomeSet_isAt_14 : decode b_OutcomeSet_isAt 14 = .ok (.iload_n 1, 1) := by decide +kernel
theorem d_OutcomeSet_isAt_15 : decode b_OutcomeSet_isAt 15 = .ok (.iaload, 1) := by decide +kernel
theorem d_OutcomeSet_isAt_16 : decode b_OutcomeSet_isAt 16 = .ok (.istore 5, 2) := by decide +kernel
theorem d_OutcomeSet_isAt_18 : decode b_OutcomeSet_isAt 18 = .ok (.aload_n 0, 1) := by decide +kernel
theorem d_OutcomeSet_isAt_19 : decode b_OutcomeSet_isAt 19 = .ok (.getfield 9, 3) := by decide +kernel
theorem d_OutcomeSet_isAt_22 : decode b_OutcomeSet_isAt 22 = .ok (.iload 5, 2) := by decide +kernel
theorem d_OutcomeSet_isAt_24 : decode b_OutcomeSet_isAt 24 = .ok (.laload, 1) := by decide +kernel
theorem d_OutcomeSet_isAt_25 : decode b_OutcomeSet_isAt 25 = .ok (.lload_n 2, 1) := by decide +kernel
theorem d_OutcomeSet_isAt_26 : decode b_OutcomeSet_isAt 26 = .ok (.lcmp, 1) := by decide +kernel
theorem d_OutcomeSet_isAt_27 : decode b_OutcomeSet_isAt 27 = .ok (.ifCond .ne 19, 3) := by decide +kernel
theorem d_OutcomeSet_isAt_30 : decode b_OutcomeSet_isAt 30 = .ok (.aload_n 0, 1) := by decide +kernel
theorem d_OutcomeSet_isAt_31 : decode b_OutcomeSet_isAt 31 = .ok (.getfield 15, 3) := by decide +kernel
theorem d_OutcomeSet_isAt_34 : decode b_OutcomeSet_isAt 34 = .ok (.iload 5, 2) := by decide +kernel
theorem d_OutcomeSet_isAt_36 : decode b_OutcomeSet_isAt 36 = .ok (.iaload, 1) := by decide +kernel
theorem d_OutcomeSet_isAt_37 : decode b_OutcomeSet_isAt 37 = .ok (.iload 4, 2) := by decide +kernel
theorem d_OutcomeSet_isAt_39 : decode b_OutcomeSet_isAt 39 = .ok (.if_icmp .ne 7, 3) := by decide +kernel
theorem d_OutcomeSet_isAt_42 : decode b_OutcomeSet_isAt 42 = .ok (.iconst 1, 1) := by decide +kernel
theorem d_OutcomeSet_isAt_43 : decode b_OutcomeSet_isAt 43 = .ok (.goto 4, 3) := by decide +kernel
theorem d_OutcomeSet_isAt_46 : decode b_OutcomeSet_isAt 46 = .ok (.iconst 0, 1) := by decide +kernel
theorem d_OutcomeSet_isAt_47 : decode b_OutcomeSet_isAt 47 = .ok (.ireturn, 1) := by decide +kernel
theorem d_OutcomeSet_valueOf_0 : decode b_OutcomeSet_valueOf 0 = .ok (.iload_n 1, 1) := by decide +kernel
theorem d_OutcomeSet_valueOf_1 : decode b_OutcomeSet_valueOf 1 = .ok (.ifCond .lt 21, 3) := by decide +kernel
theorem d_OutcomeSet_valueOf_4 : decode b_OutcomeSet_valueOf 4 = .ok (.iload_n 1, 1) := by decide +kernel
theorem d_OutcomeSet_valueOf_5 : decode b_OutcomeSet_valueOf 5 = .ok (.aload_n 0, 1) := by decide +kernel
theorem d_OutcomeSet_valueOf_6 : decode b_OutcomeSet_valueOf 6 = .ok (.getfield 32, 3) := by decide +kernel
theorem d_OutcomeSet_valueOf_9 : decode b_OutcomeSet_valueOf 9 = .ok (.if_icmp .ge 13, 3) := by decide +kernel
theorem d_OutcomeSet_valueOf_12 : decode b_OutcomeSet_valueOf 12 = .ok (.iload_n 2, 1) := by decide +kernel
theorem d_OutcomeSet_valueOf_13 : decode b_OutcomeSet_valueOf 13 = .ok (.ifCond .lt 9, 3) := by decide +kernel
theorem d_OutcomeSet_valueOf_16 : decode b_OutcomeSet_valueOf 16 = .ok (.iload_n 2, 1) := by decide +kernel
theorem d_OutcomeSet_valueOf_17 : decode b_OutcomeSet_valueOf 17 = .ok (.bipush 11, 2) := by decide +kernel
theorem d_OutcomeSet_valueOf_19 : decode b_OutcomeSet_valueOf 19 = .ok (.if_icmp .lt 7, 3) := by decide +kernel
theorem d_OutcomeSet_valueOf_22 : decode b_OutcomeSet_valueOf 22 = .ok (.sipush (-1000), 3) := by decide +kernel
theorem d_OutcomeSet_valueOf_25 : decode b_OutcomeSet_valueOf 25 = .ok (.ireturn, 1) := by decide +kernel
theorem d_OutcomeSet_valueOf_26 : decode b_OutcomeSet_valueOf 26 = .ok (.aload_n 0, 1) := by decide +kernel
theorem d_OutcomeSet_valueOf_27 : decode b_OutcomeSet_valueOf 27 = .ok (.getfield 25, 3) := by decide +kernel
theorem d_OutcomeSet_valueOf_30 : decode b_OutcomeSet_valueOf 30 = .ok (.iload_n 1, 1) := by decide +kernel
theorem d_OutcomeSet_valueOf_31 : decode b_OutcomeSet_valueOf 31 = .ok (.iaload, 1) := by decide +kernel
theorem d_OutcomeSet_valueOf_32 : decode b_OutcomeSet_valueOf 32 = .ok (.istore_n 3, 1) := by decide +kernel
theorem d_OutcomeSet_valueOf_33 : decode b_OutcomeSet_valueOf 33 = .ok (.iload_n 2, 1) := by decide +kernel
theorem d_OutcomeSet_valueOf_34 : decode b_OutcomeSet_valueOf 34 = .ok (.bipush 8, 2) := by decide +kernel
theorem d_OutcomeSet_valueOf_36 : decode b_OutcomeSet_valueOf 36 = .ok (.if_icmp .ge 12, 3) := by decide +kernel
theorem d_OutcomeSet_valueOf_39 : decode b_OutcomeSet_valueOf 39 = .ok (.aload_n 0, 1) := by decide +kernel
theorem d_OutcomeSet_valueOf_40 : decode b_OutcomeSet_valueOf 40 = .ok (.getfield 9, 3) := by decide +kernel
theorem d_OutcomeSet_valueOf_43 : decode b_OutcomeSet_valueOf 43 = .ok (.iload_n 3, 1) := by decide +kernel
theorem d_OutcomeSet_valueOf_44 : decode b_OutcomeSet_valueOf 44 = .ok (.laload, 1) := by decide +kernel
theorem d_OutcomeSet_valueOf_45 : decode b_OutcomeSet_valueOf 45 = .ok (.goto 10, 3) := by decide +kernel
theorem d_OutcomeSet_valueOf_48 : decode b_OutcomeSet_valueOf 48 = .ok (.aload_n 0, 1) := by decide +kernel
theorem d_OutcomeSet_valueOf_49 : decode b_OutcomeSet_valueOf 49 = .ok (.getfield 15, 3) := by decide +kernel
theorem d_OutcomeSet_valueOf_52 : decode b_OutcomeSet_valueOf 52 = .ok (.iload_n 3, 1) := by decide +kernel
theorem d_OutcomeSet_valueOf_53 : decode b_OutcomeSet_valueOf 53 = .ok (.iaload, 1) := by decide +kernel
theorem d_OutcomeSet_valueOf_54 : decode b_OutcomeSet_valueOf 54 = .ok (.i2l, 1) := by decide +kernel
theorem d_OutcomeSet_valueOf_55 : decode b_OutcomeSet_valueOf 55 = .ok (.lstore 4, 2) := by decide +kernel
theorem d_OutcomeSet_valueOf_57 : decode b_OutcomeSet_valueOf 57 = .ok (.iload_n 2, 1) := by decide +kernel
theorem d_OutcomeSet_valueOf_58 : decode b_OutcomeSet_valueOf 58 = .ok (.bipush 8, 2) := by decide +kernel
theorem d_OutcomeSet_valueOf_60 : decode b_OutcomeSet_valueOf 60 = .ok (.if_icmp .ge 8, 3) := by decide +kernel
theorem d_OutcomeSet_valueOf_63 : decode b_OutcomeSet_valueOf 63 = .ok (.bipush 8, 2) := by decide +kernel
theorem d_OutcomeSet_valueOf_65 : decode b_OutcomeSet_valueOf 65 = .ok (.goto 5, 3) := by decide +kernel
theorem d_OutcomeSet_valueOf_68 : decode b_OutcomeSet_valueOf 68 = .ok (.bipush 11, 2) := by decide +kernel
theorem d_OutcomeSet_valueOf_70 : decode b_OutcomeSet_valueOf 70 = .ok (.iconst 1, 1) := by decide +kernel
theorem d_OutcomeSet_valueOf_71 : decode b_OutcomeSet_valueOf 71 = .ok (.isub, 1) := by decide +kernel
theorem d_OutcomeSet_valueOf_72 : decode b_OutcomeSet_valueOf 72 = .ok (.iload_n 2, 1) := by decide +kernel
theorem d_OutcomeSet_valueOf_73 : decode b_OutcomeSet_valueOf 73 = .ok (.isub, 1) := by decide +kernel
theorem d_OutcomeSet_valueOf_74 : decode b_OutcomeSet_valueOf 74 = .ok (.istore 6, 2) := by decide +kernel
theorem d_OutcomeSet_valueOf_76 : decode b_OutcomeSet_valueOf 76 = .ok (.lload 4, 2) := by decide +kernel
theorem d_OutcomeSet_valueOf_78 : decode b_OutcomeSet_valueOf 78 = .ok (.bipush 7, 2) := by decide +kernel
theorem d_OutcomeSet_valueOf_80 : decode b_OutcomeSet_valueOf 80 = .ok (.iload 6, 2) := by decide +kernel
theorem d_OutcomeSet_valueOf_82 : decode b_OutcomeSet_valueOf 82 = .ok (.imul, 1) := by decide +kernel
theorem d_OutcomeSet_valueOf_83 : decode b_OutcomeSet_valueOf 83 = .ok (.lshr, 1) := by decide +kernel
theorem d_OutcomeSet_valueOf_84 : decode b_OutcomeSet_valueOf 84 = .ok (.ldc2_w 77, 3) := by decide +kernel
theorem d_OutcomeSet_valueOf_87 : decode b_OutcomeSet_valueOf 87 = .ok (.land, 1) := by decide +kernel
theorem d_OutcomeSet_valueOf_88 : decode b_OutcomeSet_valueOf 88 = .ok (.l2i, 1) := by decide +kernel
theorem d_OutcomeSet_valueOf_89 : decode b_OutcomeSet_valueOf 89 = .ok (.bipush 64, 2) := by decide +kernel
theorem d_OutcomeSet_valueOf_91 : decode b_OutcomeSet_valueOf 91 = .ok (.isub, 1) := by decide +kernel
theorem d_OutcomeSet_valueOf_92 : decode b_OutcomeSet_valueOf 92 = .ok (.ireturn, 1) := by decide +kernel
theorem d_OutcomeSet_stepOf_0 : decode b_OutcomeSet_stepOf 0 = .ok (.iload_n 1, 1) := by decide +kernel
theorem d_OutcomeSet_stepOf_1 : decode b_OutcomeSet_stepOf 1 = .ok (.ifCond .lt 11, 3) := by decide +kernel
theorem d_OutcomeSet_stepOf_4 : decode b_OutcomeSet_stepOf 4 = .ok (.iload_n 1, 1) := by decide +kernel
theorem d_OutcomeSet_stepOf_5 : decode b_OutcomeSet_stepOf 5 = .ok (.aload_n 0, 1) := by decide +kernel
theorem d_OutcomeSet_stepOf_6 : decode b_OutcomeSet_stepOf 6 = .ok (.getfield 32, 3) := by decide +kernel
theorem d_OutcomeSet_stepOf_9 : decode b_OutcomeSet_stepOf 9 = .ok (.if_icmp .lt 5, 3) := by decide +kernel
theorem d_OutcomeSet_stepOf_12 : decode b_OutcomeSet_stepOf 12 = .ok (.iconst (-1), 1) := by decide +kernel
theorem d_OutcomeSet_stepOf_13 : decode b_OutcomeSet_stepOf 13 = .ok (.ireturn, 1) := by decide +kernel
theorem d_OutcomeSet_stepOf_14 : decode b_OutcomeSet_stepOf 14 = .ok (.aload_n 0, 1) := by decide +kernel
theorem d_OutcomeSet_stepOf_15 : decode b_OutcomeSet_stepOf 15 = .ok (.getfield 25, 3) := by decide +kernel
theorem d_OutcomeSet_stepOf_18 : decode b_OutcomeSet_stepOf 18 = .ok (.iload_n 1, 1) := by decide +kernel
theorem d_OutcomeSet_stepOf_19 : decode b_OutcomeSet_stepOf 19 = .ok (.iaload, 1) := by decide +kernel
theorem d_OutcomeSet_stepOf_20 : decode b_OutcomeSet_stepOf 20 = .ok (.istore_n 3, 1) := by decide +kernel
theorem d_OutcomeSet_stepOf_21 : decode b_OutcomeSet_stepOf 21 = .ok (.iload_n 2, 1) := by decide +kernel
theorem d_OutcomeSet_stepOf_22 : decode b_OutcomeSet_stepOf 22 = .ok (.ifCond .lt 13, 3) := by decide +kernel
theorem d_OutcomeSet_stepOf_25 : decode b_OutcomeSet_stepOf 25 = .ok (.iload_n 2, 1) := by decide +kernel
theorem d_OutcomeSet_stepOf_26 : decode b_OutcomeSet_stepOf 26 = .ok (.aload_n 0, 1) := by decide +kernel
theorem d_OutcomeSet_stepOf_27 : decode b_OutcomeSet_stepOf 27 = .ok (.getfield 19, 3) := by decide +kernel
theorem d_OutcomeSet_stepOf_30 : decode b_OutcomeSet_stepOf 30 = .ok (.iload_n 3, 1) := by decide +kernel
theorem d_OutcomeSet_stepOf_31 : decode b_OutcomeSet_stepOf 31 = .ok (.iaload, 1) := by decide +kernel
theorem d_OutcomeSet_stepOf_32 : decode b_OutcomeSet_stepOf 32 = .ok (.if_icmp .lt 5, 3) := by decide +kernel
theorem d_OutcomeSet_stepOf_35 : decode b_OutcomeSet_stepOf 35 = .ok (.iconst (-1), 1) := by decide +kernel
theorem d_OutcomeSet_stepOf_36 : decode b_OutcomeSet_stepOf 36 = .ok (.ireturn, 1) := by decide +kernel
theorem d_OutcomeSet_stepOf_37 : decode b_OutcomeSet_stepOf 37 = .ok (.aload_n 0, 1) := by decide +kernel
theorem d_OutcomeSet_stepOf_38 : decode b_OutcomeSet_stepOf 38 = .ok (.getfield 22, 3) := by decide +kernel
theorem d_OutcomeSet_stepOf_41 : decode b_OutcomeSet_stepOf 41 = .ok (.iload_n 3, 1) := by decide +kernel
theorem d_OutcomeSet_stepOf_42 : decode b_OutcomeSet_stepOf 42 = .ok (.aload_n 0, 1) := by decide +kernel
theorem d_OutcomeSet_stepOf_43 : decode b_OutcomeSet_stepOf 43 = .ok (.getfield 28, 3) := by decide +kernel
theorem d_OutcomeSet_stepOf_46 : decode b_OutcomeSet_stepOf 46 = .ok (.imul, 1) := by decide +kernel
theorem d_OutcomeSet_stepOf_47 : decode b_OutcomeSet_stepOf 47 = .ok (.iload_n 2, 1) := by decide +kernel
theorem d_OutcomeSet_stepOf_48 : decode b_OutcomeSet_stepOf 48 = .ok (.iadd, 1) := by decide +kernel
theorem d_OutcomeSet_stepOf_49 : decode b_OutcomeSet_stepOf 49 = .ok (.iaload, 1) := by decide +kernel
theorem d_OutcomeSet_stepOf_50 : decode b_OutcomeSet_stepOf 50 = .ok (.ireturn, 1) := by decide +kernel
theorem d_Program_init_0 : decode b_Program_init 0 = .ok (.aload_n 0, 1) := by decide +kernel
theorem d_Program_init_1 : decode b_Program_init 1 = .ok (.invokespecial 3, 3) := by decide +kernel
theorem d_Program_init_4 : decode b_Program_init 4 = .ok (.aload_n 0, 1) := by decide +kernel
theorem d_Program_init_5 : decode b_Program_init 5 = .ok (.iconst 4, 1) := by decide +kernel
theorem d_Program_init_6 : decode b_Program_init 6 = .ok (.newarray .int, 2) := by decide +kernel
theorem d_Program_init_8 : decode b_Program_init 8 = .ok (.putfield 9, 3) := by decide +kernel
theorem d_Program_init_11 : decode b_Program_init 11 = .ok (.aload_n 0, 1) := by decide +kernel
theorem d_Program_init_12 : decode b_Program_init 12 = .ok (.bipush 28, 2) := by decide +kernel
theorem d_Program_init_14 : decode b_Program_init 14 = .ok (.newarray .int, 2) := by decide +kernel
theorem d_Program_init_16 : decode b_Program_init 16 = .ok (.putfield 15, 3) := by decide +kernel
theorem d_Program_init_19 : decode b_Program_init 19 = .ok (.aload_n 0, 1) := by decide +kernel
theorem d_Program_init_20 : decode b_Program_init 20 = .ok (.bipush 7, 2) := by decide +kernel
theorem d_Program_init_22 : decode b_Program_init 22 = .ok (.newarray .int, 2) := by decide +kernel
theorem d_Program_init_24 : decode b_Program_init 24 = .ok (.putfield 18, 3) := by decide +kernel
theorem d_Program_init_27 : decode b_Program_init 27 = .ok (.aload_n 0, 1) := by decide +kernel
theorem d_Program_init_28 : decode b_Program_init 28 = .ok (.bipush 7, 2) := by decide +kernel
theorem d_Program_init_30 : decode b_Program_init 30 = .ok (.newarray .int, 2) := by decide +kernel
theorem d_Program_init_32 : decode b_Program_init 32 = .ok (.putfield 21, 3) := by decide +kernel
theorem d_Program_init_35 : decode b_Program_init 35 = .ok (.aload_n 0, 1) := by decide +kernel
theorem d_Program_init_36 : decode b_Program_init 36 = .ok (.bipush 7, 2) := by decide +kernel
theorem d_Program_init_38 : decode b_Program_init 38 = .ok (.newarray .int, 2) := by decide +kernel
theorem d_Program_init_40 : decode b_Program_init 40 = .ok (.putfield 24, 3) := by decide +kernel
theorem d_Program_init_43 : decode b_Program_init 43 = .ok (.aload_n 0, 1) := by decide +kernel
theorem d_Program_init_44 : decode b_Program_init 44 = .ok (.bipush 7, 2) := by decide +kernel
theorem d_Program_init_46 : decode b_Program_init 46 = .ok (.newarray .int, 2) := by decide +kernel
theorem d_Program_init_48 : decode b_Program_init 48 = .ok (.putfield 27, 3) := by decide +kernel
theorem d_Program_init_51 : decode b_Program_init 51 = .ok (.aload_n 0, 1) := by decide +kernel
theorem d_Program_init_52 : decode b_Program_init 52 = .ok (.bipush 7, 2) := by decide +kernel
theorem d_Program_init_54 : decode b_Program_init 54 = .ok (.newarray .int, 2) := by decide +kernel
theorem d_Program_init_56 : decode b_Program_init 56 = .ok (.putfield 30, 3) := by decide +kernel
theorem d_Program_init_59 : decode b_Program_init 59 = .ok (.aload_n 0, 1) := by decide +kernel
theorem d_Program_init_60 : decode b_Program_init 60 = .ok (.bipush 7, 2) := by decide +kernel
theorem d_Program_init_62 : decode b_Program_init 62 = .ok (.newarray .int, 2) := by decide +kernel
theorem d_Program_init_64 : decode b_Program_init 64 = .ok (.putfield 33, 3) := by decide +kernel
theorem d_Program_init_67 : decode b_Program_init 67 = .ok (.aload_n 0, 1) := by decide +kernel
theorem d_Program_init_68 : decode b_Program_init 68 = .ok (.iconst 4, 1) := by decide +kernel
theorem d_Program_init_69 : decode b_Program_init 69 = .ok (.newarray .int, 2) := by decide +kernel
theorem d_Program_init_71 : decode b_Program_init 71 = .ok (.putfield 36, 3) := by decide +kernel
theorem d_Program_init_74 : decode b_Program_init 74 = .ok (.aload_n 0, 1) := by decide +kernel
theorem d_Program_init_75 : decode b_Program_init 75 = .ok (.bipush 6, 2) := by decide +kernel
theorem d_Program_init_77 : decode b_Program_init 77 = .ok (.newarray .int, 2) := by decide +kernel
theorem d_Program_init_79 : decode b_Program_init 79 = .ok (.putfield 39, 3) := by decide +kernel
theorem d_Program_init_82 : decode b_Program_init 82 = .ok (.aload_n 0, 1) := by decide +kernel
theorem d_Program_init_83 : decode b_Program_init 83 = .ok (.iconst 3, 1) := by decide +kernel
theorem d_Program_init_84 : decode b_Program_init 84 = .ok (.newarray .int, 2) := by decide +kernel
theorem d_Program_init_86 : decode b_Program_init 86 = .ok (.putfield 42, 3) := by decide +kernel
theorem d_Program_init_89 : decode b_Program_init 89 = .ok (.return_, 1) := by decide +kernel
theorem d_Program_empty_0 : decode b_Program_empty 0 = .ok (.aload_n 0, 1) := by decide +kernel
theorem d_Program_empty_1 : decode b_Program_empty 1 = .ok (.iconst 0, 1) := by decide +kernel
theorem d_Program_empty_2 : decode b_Program_empty 2 = .ok (.putfield 45, 3) := by decide +kernel
theorem d_Program_empty_5 : decode b_Program_empty 5 = .ok (.aload_n 0, 1) := by decide +kernel
theorem d_Program_empty_6 : decode b_Program_empty 6 = .ok (.iconst 0, 1) := by decide +kernel
theorem d_Program_empty_7 : decode b_Program_empty 7 = .ok (.putfield 49, 3) := by decide +kernel
theorem d_Program_empty_10 : decode b_Program_empty 10 = .ok (.aload_n 0, 1) := by decide +kernel
theorem d_Program_empty_11 : decode b_Program_empty 11 = .ok (.getfield 9, 3) := by decide +kernel
theorem d_Program_empty_14 : decode b_Program_empty 14 = .ok (.iconst 0, 1) := by decide +kernel
theorem d_Program_empty_15 : decode b_Program_empty 15 = .ok (.invokestatic 52, 3) := by decide +kernel
theorem d_Program_empty_18 : decode b_Program_empty 18 = .ok (.aload_n 0, 1) := by decide +kernel
theorem d_Program_empty_19 : decode b_Program_empty 19 = .ok (.getfield 36, 3) := by decide +kernel
theorem d_Program_empty_22 : decode b_Program_empty 22 = .ok (.iconst 0, 1) := by decide +kernel
theorem d_Program_empty_23 : decode b_Program_empty 23 = .ok (.invokestatic 52, 3) := by decide +kernel
theorem d_Program_empty_26 : decode b_Program_empty 26 = .ok (.aload_n 0, 1) := by decide +kernel
theorem d_Program_empty_27 : decode b_Program_empty 27 = .ok (.getfield 39, 3) := by decide +kernel
theorem d_Program_empty_30 : decode b_Program_empty 30 = .ok (.iconst 0, 1) := by decide +kernel
theorem d_Program_empty_31 : decode b_Program_empty 31 = .ok (.invokestatic 52, 3) := by decide +kernel
theorem d_Program_empty_34 : decode b_Program_empty 34 = .ok (.aload_n 0, 1) := by decide +kernel
theorem d_Program_empty_35 : decode b_Program_empty 35 = .ok (.getfield 42, 3) := by decide +kernel
theorem d_Program_empty_38 : decode b_Program_empty 38 = .ok (.iconst 0, 1) := by decide +kernel
theorem d_Program_empty_39 : decode b_Program_empty 39 = .ok (.invokestatic 52, 3) := by decide +kernel
theorem d_Program_empty_42 : decode b_Program_empty 42 = .ok (.return_, 1) := by decide +kernel
theorem d_Program_addThread_0 : decode b_Program_addThread 0 = .ok (.aload_n 0, 1) := by decide +kernel
theorem d_Program_addThread_1 : decode b_Program_addThread 1 = .ok (.getfield 45, 3) := by decide +kernel
theorem d_Program_addThread_4 : decode b_Program_addThread 4 = .ok (.iconst 4, 1) := by decide +kernel
theorem d_Program_addThread_5 : decode b_Program_addThread 5 = .ok (.if_icmp .lt 5, 3) := by decide +kernel
theorem d_Program_addThread_8 : decode b_Program_addThread 8 = .ok (.iconst (-1), 1) := by decide +kernel
theorem d_Program_addThread_9 : decode b_Program_addThread 9 = .ok (.ireturn, 1) := by decide +kernel
theorem d_Program_addThread_10 : decode b_Program_addThread 10 = .ok (.aload_n 0, 1) := by decide +kernel
theorem d_Program_addThread_11 : decode b_Program_addThread 11 = .ok (.dup, 1) := by decide +kernel
theorem d_Program_addThread_12 : decode b_Program_addThread 12 = .ok (.getfield 45, 3) := by decide +kernel
theorem d_Program_addThread_15 : decode b_Program_addThread 15 = .ok (.iconst 1, 1) := by decide +kernel
theorem d_Program_addThread_16 : decode b_Program_addThread 16 = .ok (.iadd, 1) := by decide +kernel
theorem d_Program_addThread_17 : decode b_Program_addThread 17 = .ok (.putfield 45, 3) := by decide +kernel
theorem d_Program_addThread_20 : decode b_Program_addThread 20 = .ok (.aload_n 0, 1) := by decide +kernel
theorem d_Program_addThread_21 : decode b_Program_addThread 21 = .ok (.getfield 45, 3) := by decide +kernel
theorem d_Program_addThread_24 : decode b_Program_addThread 24 = .ok (.iconst 1, 1) := by decide +kernel
theorem d_Program_addThread_25 : decode b_Program_addThread 25 = .ok (.isub, 1) := by decide +kernel
theorem d_Program_addThread_26 : decode b_Program_addThread 26 = .ok (.ireturn, 1) := by decide +kernel
theorem d_Program_addAction_0 : decode b_Program_addAction 0 = .ok (.iload_n 1, 1) := by decide +kernel
theorem d_Program_addAction_1 : decode b_Program_addAction 1 = .ok (.ifCond .lt 20, 3) := by decide +kernel
theorem d_Program_addAction_4 : decode b_Program_addAction 4 = .ok (.iload_n 1, 1) := by decide +kernel
theorem d_Program_addAction_5 : decode b_Program_addAction 5 = .ok (.aload_n 0, 1) := by decide +kernel
theorem d_Program_addAction_6 : decode b_Program_addAction 6 = .ok (.getfield 45, 3) := by decide +kernel
theorem d_Program_addAction_9 : decode b_Program_addAction 9 = .ok (.if_icmp .ge 12, 3) := by decide +kernel
theorem d_Program_addAction_12 : decode b_Program_addAction 12 = .ok (.aload_n 0, 1) := by decide +kernel
theorem d_Program_addAction_13 : decode b_Program_addAction 13 = .ok (.getfield 49, 3) := by decide +kernel
theorem d_Program_addAction_16 : decode b_Program_addAction 16 = .ok (.bipush 7, 2) := by decide +kernel
theorem d_Program_addAction_18 : decode b_Program_addAction 18 = .ok (.if_icmp .lt 5, 3) := by decide +kernel
theorem d_Program_addAction_21 : decode b_Program_addAction 21 = .ok (.iconst (-1), 1) := by decide +kernel
theorem d_Program_addAction_22 : decode b_Program_addAction 22 = .ok (.ireturn, 1) := by decide +kernel
theorem d_Program_addAction_23 : decode b_Program_addAction 23 = .ok (.aload_n 0, 1) := by decide +kernel
theorem d_Program_addAction_24 : decode b_Program_addAction 24 = .ok (.getfield 49, 3) := by decide +kernel
theorem d_Program_addAction_27 : decode b_Program_addAction 27 = .ok (.istore 6, 2) := by decide +kernel
theorem d_Program_addAction_29 : decode b_Program_addAction 29 = .ok (.iconst 1, 1) := by decide +kernel
theorem d_Program_addAction_30 : decode b_Program_addAction 30 = .ok (.iload 6, 2) := by decide +kernel
theorem d_Program_addAction_32 : decode b_Program_addAction 32 = .ok (.ishl, 1) := by decide +kernel
theorem d_Program_addAction_33 : decode b_Program_addAction 33 = .ok (.istore 7, 2) := by decide +kernel
theorem d_Program_addAction_35 : decode b_Program_addAction 35 = .ok (.aload_n 0, 1) := by decide +kernel
theorem d_Program_addAction_36 : decode b_Program_addAction 36 = .ok (.getfield 15, 3) := by decide +kernel
theorem d_Program_addAction_39 : decode b_Program_addAction 39 = .ok (.iload_n 1, 1) := by decide +kernel
theorem d_Program_addAction_40 : decode b_Program_addAction 40 = .ok (.bipush 7, 2) := by decide +kernel
theorem d_Program_addAction_42 : decode b_Program_addAction 42 = .ok (.imul, 1) := by decide +kernel
theorem d_Program_addAction_43 : decode b_Program_addAction 43 = .ok (.aload_n 0, 1) := by decide +kernel
theorem d_Program_addAction_44 : decode b_Program_addAction 44 = .ok (.getfield 9, 3) := by decide +kernel
theorem d_Program_addAction_47 : decode b_Program_addAction 47 = .ok (.iload_n 1, 1) := by decide +kernel
theorem d_Program_addAction_48 : decode b_Program_addAction 48 = .ok (.iaload, 1) := by decide +kernel
theorem d_Program_addAction_49 : decode b_Program_addAction 49 = .ok (.iadd, 1) := by decide +kernel
theorem d_Program_addAction_50 : decode b_Program_addAction 50 = .ok (.iload 6, 2) := by decide +kernel
theorem d_Program_addAction_52 : decode b_Program_addAction 52 = .ok (.iastore, 1) := by decide +kernel
theorem d_Program_addAction_53 : decode b_Program_addAction 53 = .ok (.aload_n 0, 1) := by decide +kernel
theorem d_Program_addAction_54 : decode b_Program_addAction 54 = .ok (.getfield 18, 3) := by decide +kernel
theorem d_Program_addAction_57 : decode b_Program_addAction 57 = .ok (.iload 6, 2) := by decide +kernel
theorem d_Program_addAction_59 : decode b_Program_addAction 59 = .ok (.iload_n 1, 1) := by decide +kernel
theorem d_Program_addAction_60 : decode b_Program_addAction 60 = .ok (.iastore, 1) := by decide +kernel
theorem d_Program_addAction_61 : decode b_Program_addAction 61 = .ok (.aload_n 0, 1) := by decide +kernel
theorem d_Program_addAction_62 : decode b_Program_addAction 62 = .ok (.getfield 21, 3) := by decide +kernel
theorem d_Program_addAction_65 : decode b_Program_addAction 65 = .ok (.iload 6, 2) := by decide +kernel
theorem d_Program_addAction_67 : decode b_Program_addAction 67 = .ok (.aload_n 0, 1) := by decide +kernel
theorem d_Program_addAction_68 : decode b_Program_addAction 68 = .ok (.getfield 9, 3) := by decide +kernel
theorem d_Program_addAction_71 : decode b_Program_addAction 71 = .ok (.iload_n 1, 1) := by decide +kernel
theorem d_Program_addAction_72 : decode b_Program_addAction 72 = .ok (.iaload, 1) := by decide +kernel
theorem d_Program_addAction_73 : decode b_Program_addAction 73 = .ok (.iastore, 1) := by decide +kernel
theorem d_Program_addAction_74 : decode b_Program_addAction 74 = .ok (.aload_n 0, 1) := by decide +kernel
theorem d_Program_addAction_75 : decode b_Program_addAction 75 = .ok (.getfield 24, 3) := by decide +kernel
theorem d_Program_addAction_78 : decode b_Program_addAction 78 = .ok (.iload 6, 2) := by decide +kernel
theorem d_Program_addAction_80 : decode b_Program_addAction 80 = .ok (.iload_n 2, 1) := by decide +kernel
theorem d_Program_addAction_81 : decode b_Program_addAction 81 = .ok (.iastore, 1) := by decide +kernel
theorem d_Program_addAction_82 : decode b_Program_addAction 82 = .ok (.aload_n 0, 1) := by decide +kernel
theorem d_Program_addAction_83 : decode b_Program_addAction 83 = .ok (.getfield 27, 3) := by decide +kernel
theorem d_Program_addAction_86 : decode b_Program_addAction 86 = .ok (.iload 6, 2) := by decide +kernel
theorem d_Program_addAction_88 : decode b_Program_addAction 88 = .ok (.iload_n 3, 1) := by decide +kernel
theorem d_Program_addAction_89 : decode b_Program_addAction 89 = .ok (.iastore, 1) := by decide +kernel
theorem d_Program_addAction_90 : decode b_Program_addAction 90 = .ok (.aload_n 0, 1) := by decide +kernel
theorem d_Program_addAction_91 : decode b_Program_addAction 91 = .ok (.getfield 30, 3) := by decide +kernel
theorem d_Program_addAction_94 : decode b_Program_addAction 94 = .ok (.iload 6, 2) := by decide +kernel
theorem d_Program_addAction_96 : decode b_Program_addAction 96 = .ok (.iload_n 1, 1) := by decide +kernel
theorem d_Program_addAction_97 : decode b_Program_addAction 97 = .ok (.iconst 2, 1) := by decide +kernel
theorem d_Program_addAction_98 : decode b_Program_addAction 98 = .ok (.imul, 1) := by decide +kernel
theorem d_Program_addAction_99 : decode b_Program_addAction 99 = .ok (.iload 4, 2) := by decide +kernel
theorem d_Program_addAction_101 : decode b_Program_addAction 101 = .ok (.iadd, 1) := by decide +kernel
theorem d_Program_addAction_102 : decode b_Program_addAction 102 = .ok (.iastore, 1) := by decide +kernel
theorem d_Program_addAction_103 : decode b_Program_addAction 103 = .ok (.aload_n 0, 1) := by decide +kernel
theorem d_Program_addAction_104 : decode b_Program_addAction 104 = .ok (.getfield 33, 3) := by decide +kernel
theorem d_Program_addAction_107 : decode b_Program_addAction 107 = .ok (.iload 6, 2) := by decide +kernel
theorem d_Program_addAction_109 : decode b_Program_addAction 109 = .ok (.iload 5, 2) := by decide +kernel
theorem d_Program_addAction_111 : decode b_Program_addAction 111 = .ok (.iastore, 1) := by decide +kernel
theorem d_Program_addAction_112 : decode b_Program_addAction 112 = .ok (.aload_n 0, 1) := by decide +kernel
theorem d_Program_addAction_113 : decode b_Program_addAction 113 = .ok (.getfield 36, 3) := by decide +kernel
theorem d_Program_addAction_116 : decode b_Program_addAction 116 = .ok (.iload_n 1, 1) := by decide +kernel
theorem d_Program_addAction_117 : decode b_Program_addAction 117 = .ok (.dup2, 1) := by decide +kernel
theorem d_Program_addAction_118 : decode b_Program_addAction 118 = .ok (.iaload, 1) := by decide +kernel
theorem d_Program_addAction_119 : decode b_Program_addAction 119 = .ok (.iload 7, 2) := by decide +kernel
theorem d_Program_addAction_121 : decode b_Program_addAction 121 = .ok (.ior, 1) := by decide +kernel
theorem d_Program_addAction_122 : decode b_Program_addAction 122 = .ok (.iastore, 1) := by decide +kernel
theorem d_Program_addAction_123 : decode b_Program_addAction 123 = .ok (.aload_n 0, 1) := by decide +kernel
theorem d_Program_addAction_124 : decode b_Program_addAction 124 = .ok (.getfield 39, 3) := by decide +kernel
theorem d_Program_addAction_127 : decode b_Program_addAction 127 = .ok (.iload_n 2, 1) := by decide +kernel
theorem d_Program_addAction_128 : decode b_Program_addAction 128 = .ok (.dup2, 1) := by decide +kernel
theorem d_Program_addAction_129 : decode b_Program_addAction 129 = .ok (.iaload, 1) := by decide +kernel
theorem d_Program_addAction_130 : decode b_Program_addAction 130 = .ok (.iload 7, 2) := by decide +kernel
theorem d_Program_addAction_132 : decode b_Program_addAction 132 = .ok (.ior, 1) := by decide +kernel
theorem d_Program_addAction_133 : decode b_Program_addAction 133 = .ok (.iastore, 1) := by decide +kernel
theorem d_Program_addAction_134 : decode b_Program_addAction 134 = .ok (.iload_n 2, 1) := by decide +kernel
theorem d_Program_addAction_135 : decode b_Program_addAction 135 = .ok (.iconst 4, 1) := by decide +kernel
theorem d_Program_addAction_136 : decode b_Program_addAction 136 = .ok (.if_icmp .ge 14, 3) := by decide +kernel
theorem d_Program_addAction_139 : decode b_Program_addAction 139 = .ok (.aload_n 0, 1) := by decide +kernel
theorem d_Program_addAction_140 : decode b_Program_addAction 140 = .ok (.getfield 42, 3) := by decide +kernel
theorem d_Program_addAction_143 : decode b_Program_addAction 143 = .ok (.iload_n 3, 1) := by decide +kernel
theorem d_Program_addAction_144 : decode b_Program_addAction 144 = .ok (.dup2, 1) := by decide +kernel
theorem d_Program_addAction_145 : decode b_Program_addAction 145 = .ok (.iaload, 1) := by decide +kernel
theorem d_Program_addAction_146 : decode b_Program_addAction 146 = .ok (.iload 7, 2) := by decide +kernel
theorem d_Program_addAction_148 : decode b_Program_addAction 148 = .ok (.ior, 1) := by decide +kernel
theorem d_Program_addAction_149 : decode b_Program_addAction 149 = .ok (.iastore, 1) := by decide +kernel
theorem d_Program_addAction_150 : decode b_Program_addAction 150 = .ok (.aload_n 0, 1) := by decide +kernel
theorem d_Program_addAction_151 : decode b_Program_addAction 151 = .ok (.dup, 1) := by decide +kernel
theorem d_Program_addAction_152 : decode b_Program_addAction 152 = .ok (.getfield 49, 3) := by decide +kernel
theorem d_Program_addAction_155 : decode b_Program_addAction 155 = .ok (.iconst 1, 1) := by decide +kernel
theorem d_Program_addAction_156 : decode b_Program_addAction 156 = .ok (.iadd, 1) := by decide +kernel
theorem d_Program_addAction_157 : decode b_Program_addAction 157 = .ok (.putfield 49, 3) := by decide +kernel
theorem d_Program_addAction_160 : decode b_Program_addAction 160 = .ok (.aload_n 0, 1) := by decide +kernel
theorem d_Program_addAction_161 : decode b_Program_addAction 161 = .ok (.getfield 9, 3) := by decide +kernel
theorem d_Program_addAction_164 : decode b_Program_addAction 164 = .ok (.iload_n 1, 1) := by decide +kernel
theorem d_Program_addAction_165 : decode b_Program_addAction 165 = .ok (.dup2, 1) := by decide +kernel
theorem d_Program_addAction_166 : decode b_Program_addAction 166 = .ok (.iaload, 1) := by decide +kernel
theorem d_Program_addAction_167 : decode b_Program_addAction 167 = .ok (.iconst 1, 1) := by decide +kernel
theorem d_Program_addAction_168 : decode b_Program_addAction 168 = .ok (.iadd, 1) := by decide +kernel
theorem d_Program_addAction_169 : decode b_Program_addAction 169 = .ok (.iastore, 1) := by decide +kernel
theorem d_Program_addAction_170 : decode b_Program_addAction 170 = .ok (.aload_n 0, 1) := by decide +kernel
theorem d_Program_addAction_171 : decode b_Program_addAction 171 = .ok (.getfield 9, 3) := by decide +kernel
theorem d_Program_addAction_174 : decode b_Program_addAction 174 = .ok (.iload_n 1, 1) := by decide +kernel
theorem d_Program_addAction_175 : decode b_Program_addAction 175 = .ok (.iaload, 1) := by decide +kernel
theorem d_Program_addAction_176 : decode b_Program_addAction 176 = .ok (.ireturn, 1) := by decide +kernel
theorem d_Program_idAt_0 : decode b_Program_idAt 0 = .ok (.iload_n 1, 1) := by decide +kernel
theorem d_Program_idAt_1 : decode b_Program_idAt 1 = .ok (.ifCond .lt 25, 3) := by decide +kernel
theorem d_Program_idAt_4 : decode b_Program_idAt 4 = .ok (.iload_n 1, 1) := by decide +kernel
theorem d_Program_idAt_5 : decode b_Program_idAt 5 = .ok (.aload_n 0, 1) := by decide +kernel
theorem d_Program_idAt_6 : decode b_Program_idAt 6 = .ok (.getfield 45, 3) := by decide +kernel
theorem d_Program_idAt_9 : decode b_Program_idAt 9 = .ok (.if_icmp .ge 17, 3) := by decide +kernel
theorem d_Program_idAt_12 : decode b_Program_idAt 12 = .ok (.iload_n 2, 1) := by decide +kernel
theorem d_Program_idAt_13 : decode b_Program_idAt 13 = .ok (.ifCond .lt 13, 3) := by decide +kernel
theorem d_Program_idAt_16 : decode b_Program_idAt 16 = .ok (.iload_n 2, 1) := by decide +kernel
theorem d_Program_idAt_17 : decode b_Program_idAt 17 = .ok (.aload_n 0, 1) := by decide +kernel
theorem d_Program_idAt_18 : decode b_Program_idAt 18 = .ok (.getfield 9, 3) := by decide +kernel
theorem d_Program_idAt_21 : decode b_Program_idAt 21 = .ok (.iload_n 1, 1) := by decide +kernel
theorem d_Program_idAt_22 : decode b_Program_idAt 22 = .ok (.iaload, 1) := by decide +kernel
theorem d_Program_idAt_23 : decode b_Program_idAt 23 = .ok (.if_icmp .lt 5, 3) := by decide +kernel
theorem d_Program_idAt_26 : decode b_Program_idAt 26 = .ok (.iconst (-1), 1) := by decide +kernel
theorem d_Program_idAt_27 : decode b_Program_idAt 27 = .ok (.ireturn, 1) := by decide +kernel
theorem d_Program_idAt_28 : decode b_Program_idAt 28 = .ok (.aload_n 0, 1) := by decide +kernel
theorem d_Program_idAt_29 : decode b_Program_idAt 29 = .ok (.getfield 15, 3) := by decide +kernel
theorem d_Program_idAt_32 : decode b_Program_idAt 32 = .ok (.iload_n 1, 1) := by decide +kernel
theorem d_Program_idAt_33 : decode b_Program_idAt 33 = .ok (.bipush 7, 2) := by decide +kernel
theorem d_Program_idAt_35 : decode b_Program_idAt 35 = .ok (.imul, 1) := by decide +kernel
theorem d_Program_idAt_36 : decode b_Program_idAt 36 = .ok (.iload_n 2, 1) := by decide +kernel
theorem d_Program_idAt_37 : decode b_Program_idAt 37 = .ok (.iadd, 1) := by decide +kernel
theorem d_Program_idAt_38 : decode b_Program_idAt 38 = .ok (.iaload, 1) := by decide +kernel
theorem d_Program_idAt_39 : decode b_Program_idAt 39 = .ok (.ireturn, 1) := by decide +kernel
theorem d_Program_writersOf_0 : decode b_Program_writersOf 0 = .ok (.iload_n 1, 1) := by decide +kernel
theorem d_Program_writersOf_1 : decode b_Program_writersOf 1 = .ok (.iconst 3, 1) := by decide +kernel
theorem d_Program_writersOf_2 : decode b_Program_writersOf 2 = .ok (.if_icmp .ne 12, 3) := by decide +kernel
theorem d_Program_writersOf_5 : decode b_Program_writersOf 5 = .ok (.aload_n 0, 1) := by decide +kernel
theorem d_Program_writersOf_6 : decode b_Program_writersOf 6 = .ok (.getfield 39, 3) := by decide +kernel
theorem d_Program_writersOf_9 : decode b_Program_writersOf 9 = .ok (.iconst 4, 1) := by decide +kernel
theorem d_Program_writersOf_10 : decode b_Program_writersOf 10 = .ok (.iaload, 1) := by decide +kernel
theorem d_Program_writersOf_11 : decode b_Program_writersOf 11 = .ok (.goto 18, 3) := by decide +kernel
theorem d_Program_writersOf_14 : decode b_Program_writersOf 14 = .ok (.aload_n 0, 1) := by decide +kernel
theorem d_Program_writersOf_15 : decode b_Program_writersOf 15 = .ok (.getfield 42, 3) := by decide +kernel
theorem d_Program_writersOf_18 : decode b_Program_writersOf 18 = .ok (.iload_n 1, 1) := by decide +kernel
theorem d_Program_writersOf_19 : decode b_Program_writersOf 19 = .ok (.iaload, 1) := by decide +kernel
theorem d_Program_writersOf_20 : decode b_Program_writersOf 20 = .ok (.aload_n 0, 1) := by decide +kernel
theorem d_Program_writersOf_21 : decode b_Program_writersOf 21 = .ok (.getfield 39, 3) := by decide +kernel
theorem d_Program_writersOf_24 : decode b_Program_writersOf 24 = .ok (.iconst 0, 1) := by decide +kernel
theorem d_Program_writersOf_25 : decode b_Program_writersOf 25 = .ok (.iaload, 1) := by decide +kernel
theorem d_Program_writersOf_26 : decode b_Program_writersOf 26 = .ok (.iconst (-1), 1) := by decide +kernel
theorem d_Program_writersOf_27 : decode b_Program_writersOf 27 = .ok (.ixor, 1) := by decide +kernel
theorem d_Program_writersOf_28 : decode b_Program_writersOf 28 = .ok (.iand, 1) := by decide +kernel
theorem d_Program_writersOf_29 : decode b_Program_writersOf 29 = .ok (.ireturn, 1) := by decide +kernel
theorem d_Progress_init_0 : decode b_Progress_init 0 = .ok (.aload_n 0, 1) := by decide +kernel
theorem d_Progress_init_1 : decode b_Progress_init 1 = .ok (.invokespecial 3, 3) := by decide +kernel
theorem d_Progress_init_4 : decode b_Progress_init 4 = .ok (.aload_n 0, 1) := by decide +kernel
theorem d_Progress_init_5 : decode b_Progress_init 5 = .ok (.iconst 4, 1) := by decide +kernel
theorem d_Progress_init_6 : decode b_Progress_init 6 = .ok (.newarray .int, 2) := by decide +kernel
theorem d_Progress_init_8 : decode b_Progress_init 8 = .ok (.putfield 9, 3) := by decide +kernel
theorem d_Progress_init_11 : decode b_Progress_init 11 = .ok (.aload_n 0, 1) := by decide +kernel
theorem d_Progress_init_12 : decode b_Progress_init 12 = .ok (.bipush 8, 2) := by decide +kernel
theorem d_Progress_init_14 : decode b_Progress_init 14 = .ok (.newarray .int, 2) := by decide +kernel
theorem d_Progress_init_16 : decode b_Progress_init 16 = .ok (.putfield 15, 3) := by decide +kernel
theorem d_Progress_init_19 : decode b_Progress_init 19 = .ok (.aload_n 0, 1) := by decide +kernel
theorem d_Progress_init_20 : decode b_Progress_init 20 = .ok (.bipush 8, 2) := by decide +kernel
theorem d_Progress_init_22 : decode b_Progress_init 22 = .ok (.newarray .int, 2) := by decide +kernel
theorem d_Progress_init_24 : decode b_Progress_init 24 = .ok (.putfield 18, 3) := by decide +kernel
theorem d_Progress_init_27 : decode b_Progress_init 27 = .ok (.aload_n 0, 1) := by decide +kernel
theorem d_Progress_init_28 : decode b_Progress_init 28 = .ok (.aload_n 1, 1) := by decide +kernel
theorem d_Progress_init_29 : decode b_Progress_init 29 = .ok (.putfield 21, 3) := by decide +kernel
theorem d_Progress_init_32 : decode b_Progress_init 32 = .ok (.return_, 1) := by decide +kernel
theorem d_Progress_begin_0 : decode b_Progress_begin 0 = .ok (.aload_n 0, 1) := by decide +kernel
theorem d_Progress_begin_1 : decode b_Progress_begin 1 = .ok (.getfield 9, 3) := by decide +kernel
theorem d_Progress_begin_4 : decode b_Progress_begin 4 = .ok (.iconst 0, 1) := by decide +kernel
theorem d_Progress_begin_5 : decode b_Progress_begin 5 = .ok (.invokestatic 25, 3) := by decide +kernel
theorem d_Progress_begin_8 : decode b_Progress_begin 8 = .ok (.aload_n 0, 1) := by decide +kernel
theorem d_Progress_begin_9 : decode b_Progress_begin 9 = .ok (.getfield 15, 3) := by decide +kernel
theorem d_Progress_begin_12 : decode b_Progress_begin 12 = .ok (.iconst 0, 1) := by decide +kernel
theorem d_Progress_begin_13 : decode b_Progress_begin 13 = .ok (.invokestatic 25, 3) := by decide +kernel
theorem d_Progress_begin_16 : decode b_Progress_begin 16 = .ok (.aload_n 0, 1) := by decide +kernel
theorem d_Progress_begin_17 : decode b_Progress_begin 17 = .ok (.iconst 0, 1) := by decide +kernel
theorem d_Progress_begin_18 : decode b_Progress_begin 18 = .ok (.putfield 31, 3) := by decide +kernel
theorem d_Progress_begin_21 : decode b_Progress_begin 21 = .ok (.aload_n 0, 1) := by decide +kernel
theorem d_Progress_begin_22 : decode b_Progress_begin 22 = .ok (.lconst 0, 1) := by decide +kernel
theorem d_Progress_begin_23 : decode b_Progress_begin 23 = .ok (.putfield 35, 3) := by decide +kernel
theorem d_Progress_begin_26 : decode b_Progress_begin 26 = .ok (.return_, 1) := by decide +kernel
theorem d_Progress_key_0 : decode b_Progress_key 0 = .ok (.aload_n 0, 1) := by decide +kernel
theorem d_Progress_key_1 : decode b_Progress_key 1 = .ok (.getfield 35, 3) := by decide +kernel
theorem d_Progress_key_4 : decode b_Progress_key 4 = .ok (.bipush 7, 2) := by decide +kernel
theorem d_Progress_key_6 : decode b_Progress_key 6 = .ok (.lshl, 1) := by decide +kernel
theorem d_Progress_key_7 : decode b_Progress_key 7 = .ok (.aload_n 0, 1) := by decide +kernel
theorem d_Progress_key_8 : decode b_Progress_key 8 = .ok (.getfield 31, 3) := by decide +kernel
theorem d_Progress_key_11 : decode b_Progress_key 11 = .ok (.i2l, 1) := by decide +kernel
theorem d_Progress_key_12 : decode b_Progress_key 12 = .ok (.lor, 1) := by decide +kernel
theorem d_Progress_key_13 : decode b_Progress_key 13 = .ok (.lreturn, 1) := by decide +kernel
theorem d_Progress_registersKey_0 : decode b_Progress_registersKey 0 = .ok (.lconst 0, 1) := by decide +kernel
theorem d_Progress_registersKey_1 : decode b_Progress_registersKey 1 = .ok (.lstore_n 1, 1) := by decide +kernel
theorem d_Progress_registersKey_2 : decode b_Progress_registersKey 2 = .ok (.iconst 0, 1) := by decide +kernel
theorem d_Progress_registersKey_3 : decode b_Progress_registersKey 3 = .ok (.istore_n 3, 1) := by decide +kernel
theorem d_Progress_registersKey_4 : decode b_Progress_registersKey 4 = .ok (.iload_n 3, 1) := by decide +kernel
theorem d_Progress_registersKey_5 : decode b_Progress_registersKey 5 = .ok (.bipush 8, 2) := by decide +kernel
theorem d_Progress_registersKey_7 : decode b_Progress_registersKey 7 = .ok (.if_icmp .ge 25, 3) := by decide +kernel
theorem d_Progress_registersKey_10 : decode b_Progress_registersKey 10 = .ok (.lload_n 1, 1) := by decide +kernel
theorem d_Progress_registersKey_11 : decode b_Progress_registersKey 11 = .ok (.bipush 7, 2) := by decide +kernel
theorem d_Progress_registersKey_13 : decode b_Progress_registersKey 13 = .ok (.lshl, 1) := by decide +kernel
theorem d_Progress_registersKey_14 : decode b_Progress_registersKey 14 = .ok (.aload_n 0, 1) := by decide +kernel
theorem d_Progress_registersKey_15 : decode b_Progress_registersKey 15 = .ok (.getfield 15, 3) := by decide +kernel
theorem d_Progress_registersKey_18 : decode b_Progress_registersKey 18 = .ok (.iload_n 3, 1) := by decide +kernel
theorem d_Progress_registersKey_19 : decode b_Progress_registersKey 19 = .ok (.iaload, 1) := by decide +kernel
theorem d_Progress_registersKey_20 : decode b_Progress_registersKey 20 = .ok (.bipush 64, 2) := by decide +kernel
theorem d_Progress_registersKey_22 : decode b_Progress_registersKey 22 = .ok (.iadd, 1) := by decide +kernel
theorem d_Progress_registersKey_23 : decode b_Progress_registersKey 23 = .ok (.i2l, 1) := by decide +kernel
theorem d_Progress_registersKey_24 : decode b_Progress_registersKey 24 = .ok (.lor, 1) := by decide +kernel
theorem d_Progress_registersKey_25 : decode b_Progress_registersKey 25 = .ok (.lstore_n 1, 1) := by decide +kernel
theorem d_Progress_registersKey_26 : decode b_Progress_registersKey 26 = .ok (.iinc 3 1, 3) := by decide +kernel
theorem d_Progress_registersKey_29 : decode b_Progress_registersKey 29 = .ok (.goto (-25), 3) := by decide +kernel
theorem d_Progress_registersKey_32 : decode b_Progress_registersKey 32 = .ok (.lload_n 1, 1) := by decide +kernel
theorem d_Progress_registersKey_33 : decode b_Progress_registersKey 33 = .ok (.lreturn, 1) := by decide +kernel
theorem d_Progress_variablesKey_0 : decode b_Progress_variablesKey 0 = .ok (.aload_n 0, 1) := by decide +kernel
theorem d_Progress_variablesKey_1 : decode b_Progress_variablesKey 1 = .ok (.getfield 18, 3) := by decide +kernel
theorem d_Progress_variablesKey_4 : decode b_Progress_variablesKey 4 = .ok (.iload_n 1, 1) := by decide +kernel
theorem d_Progress_variablesKey_5 : decode b_Progress_variablesKey 5 = .ok (.iaload, 1) := by decide +kernel
theorem d_Progress_variablesKey_6 : decode b_Progress_variablesKey 6 = .ok (.bipush 64, 2) := by decide +kernel
theorem d_Progress_variablesKey_8 : decode b_Progress_variablesKey 8 = .ok (.iadd, 1) := by decide +kernel
theorem d_Progress_variablesKey_9 : decode b_Progress_variablesKey 9 = .ok (.istore 4, 2) := by decide +kernel
theorem d_Progress_variablesKey_11 : decode b_Progress_variablesKey 11 = .ok (.iload 4, 2) := by decide +kernel
theorem d_Progress_variablesKey_13 : decode b_Progress_variablesKey 13 = .ok (.bipush 7, 2) := by decide +kernel
theorem d_Progress_variablesKey_15 : decode b_Progress_variablesKey 15 = .ok (.ishl, 1) := by decide +kernel
theorem d_Progress_variablesKey_16 : decode b_Progress_variablesKey 16 = .ok (.aload_n 0, 1) := by decide +kernel
theorem d_Progress_variablesKey_17 : decode b_Progress_variablesKey 17 = .ok (.getfield 18, 3) := by decide +kernel
theorem d_Progress_variablesKey_20 : decode b_Progress_variablesKey 20 = .ok (.iload_n 2, 1) := by decide +kernel
theorem d_Progress_variablesKey_21 : decode b_Progress_variablesKey 21 = .ok (.iaload, 1) := by decide +kernel
theorem d_Progress_variablesKey_22 : decode b_Progress_variablesKey 22 = .ok (.bipush 64, 2) := by decide +kernel
theorem d_Progress_variablesKey_24 : decode b_Progress_variablesKey 24 = .ok (.iadd, 1) := by decide +kernel
theorem d_Progress_variablesKey_25 : decode b_Progress_variablesKey 25 = .ok (.ior, 1) := by decide +kernel
theorem d_Progress_variablesKey_26 : decode b_Progress_variablesKey 26 = .ok (.istore 4, 2) := by decide +kernel
theorem d_Progress_variablesKey_28 : decode b_Progress_variablesKey 28 = .ok (.iload 4, 2) := by decide +kernel
theorem d_Progress_variablesKey_30 : decode b_Progress_variablesKey 30 = .ok (.bipush 7, 2) := by decide +kernel
theorem d_Progress_variablesKey_32 : decode b_Progress_variablesKey 32 = .ok (.ishl, 1) := by decide +kernel
theorem d_Progress_variablesKey_33 : decode b_Progress_variablesKey 33 = .ok (.aload_n 0, 1) := by decide +kernel
theorem d_Progress_variablesKey_34 : decode b_Progress_variablesKey 34 = .ok (.getfield 18, 3) := by decide +kernel
theorem d_Progress_variablesKey_37 : decode b_Progress_variablesKey 37 = .ok (.iload_n 3, 1) := by decide +kernel
theorem d_Progress_variablesKey_38 : decode b_Progress_variablesKey 38 = .ok (.iaload, 1) := by decide +kernel
theorem d_Progress_variablesKey_39 : decode b_Progress_variablesKey 39 = .ok (.bipush 64, 2) := by decide +kernel
theorem d_Progress_variablesKey_41 : decode b_Progress_variablesKey 41 = .ok (.iadd, 1) := by decide +kernel
theorem d_Progress_variablesKey_42 : decode b_Progress_variablesKey 42 = .ok (.ior, 1) := by decide +kernel
theorem d_Progress_variablesKey_43 : decode b_Progress_variablesKey 43 = .ok (.ireturn, 1) := by decide +kernel
theorem d_StateSet_init_0 : decode b_StateSet_init 0 = .ok (.aload_n 0, 1) := by decide +kernel
theorem d_StateSet_init_1 : decode b_StateSet_init 1 = .ok (.invokespecial 1, 3) := by decide +kernel
theorem d_StateSet_init_4 : decode b_StateSet_init 4 = .ok (.aload_n 0, 1) := by decide +kernel
theorem d_StateSet_init_5 : decode b_StateSet_init 5 = .ok (.iconst 0, 1) := by decide +kernel
theorem d_StateSet_init_6 : decode b_StateSet_init 6 = .ok (.newarray .long, 2) := by decide +kernel
theorem d_StateSet_init_8 : decode b_StateSet_init 8 = .ok (.putfield 7, 3) := by decide +kernel
theorem d_StateSet_init_11 : decode b_StateSet_init 11 = .ok (.aload_n 0, 1) := by decide +kernel
theorem d_StateSet_init_12 : decode b_StateSet_init 12 = .ok (.iconst 0, 1) := by decide +kernel
theorem d_StateSet_init_13 : decode b_StateSet_init 13 = .ok (.newarray .int, 2) := by decide +kernel
theorem d_StateSet_init_15 : decode b_StateSet_init 15 = .ok (.putfield 13, 3) := by decide +kernel
theorem d_StateSet_init_18 : decode b_StateSet_init 18 = .ok (.return_, 1) := by decide +kernel
theorem d_StateSet_empty_0 : decode b_StateSet_empty 0 = .ok (.aload_n 0, 1) := by decide +kernel
theorem d_StateSet_empty_1 : decode b_StateSet_empty 1 = .ok (.iconst 0, 1) := by decide +kernel
theorem d_StateSet_empty_2 : decode b_StateSet_empty 2 = .ok (.putfield 17, 3) := by decide +kernel
theorem d_StateSet_empty_5 : decode b_StateSet_empty 5 = .ok (.aload_n 0, 1) := by decide +kernel
theorem d_StateSet_empty_6 : decode b_StateSet_empty 6 = .ok (.sipush 256, 3) := by decide +kernel
theorem d_StateSet_empty_9 : decode b_StateSet_empty 9 = .ok (.invokevirtual 21, 3) := by decide +kernel
theorem d_StateSet_empty_12 : decode b_StateSet_empty 12 = .ok (.return_, 1) := by decide +kernel
theorem d_StateSet_add_0 : decode b_StateSet_add 0 = .ok (.aload_n 0, 1) := by decide +kernel
theorem d_StateSet_add_1 : decode b_StateSet_add 1 = .ok (.lload_n 1, 1) := by decide +kernel
theorem d_StateSet_add_2 : decode b_StateSet_add 2 = .ok (.invokevirtual 25, 3) := by decide +kernel
theorem d_StateSet_add_5 : decode b_StateSet_add 5 = .ok (.istore_n 3, 1) := by decide +kernel
theorem d_StateSet_add_6 : decode b_StateSet_add 6 = .ok (.aload_n 0, 1) := by decide +kernel
theorem d_StateSet_add_7 : decode b_StateSet_add 7 = .ok (.getfield 13, 3) := by decide +kernel
theorem d_StateSet_add_10 : decode b_StateSet_add 10 = .ok (.iload_n 3, 1) := by decide +kernel
theorem d_StateSet_add_11 : decode b_StateSet_add 11 = .ok (.iaload, 1) := by decide +kernel
theorem d_StateSet_add_12 : decode b_StateSet_add 12 = .ok (.ifCond .ne 12, 3) := by decide +kernel
theorem d_StateSet_add_15 : decode b_StateSet_add 15 = .ok (.aload_n 0, 1) := by decide +kernel
theorem d_StateSet_add_16 : decode b_StateSet_add 16 = .ok (.getfield 17, 3) := by decide +kernel
theorem d_StateSet_add_19 : decode b_StateSet_add 19 = .ok (.ldc 29, 2) := by decide +kernel
theorem d_StateSet_add_21 : decode b_StateSet_add 21 = .ok (.if_icmp .lt 5, 3) := by decide +kernel
theorem d_StateSet_add_24 : decode b_StateSet_add 24 = .ok (.iconst 0, 1) := by decide +kernel
theorem d_StateSet_add_25 : decode b_StateSet_add 25 = .ok (.ireturn, 1) := by decide +kernel
theorem d_StateSet_add_26 : decode b_StateSet_add 26 = .ok (.aload_n 0, 1) := by decide +kernel
theorem d_StateSet_add_27 : decode b_StateSet_add 27 = .ok (.getfield 17, 3) := by decide +kernel
theorem d_StateSet_add_30 : decode b_StateSet_add 30 = .ok (.aload_n 0, 1) := by decide +kernel
theorem d_StateSet_add_31 : decode b_StateSet_add 31 = .ok (.getfield 7, 3) := by decide +kernel
theorem d_StateSet_add_34 : decode b_StateSet_add 34 = .ok (.arraylength, 1) := by decide +kernel
theorem d_StateSet_add_35 : decode b_StateSet_add 35 = .ok (.if_icmp .lt 26, 3) := by decide +kernel
theorem d_StateSet_add_38 : decode b_StateSet_add 38 = .ok (.aload_n 0, 1) := by decide +kernel
theorem d_StateSet_add_39 : decode b_StateSet_add 39 = .ok (.aload_n 0, 1) := by decide +kernel
theorem d_StateSet_add_40 : decode b_StateSet_add 40 = .ok (.getfield 7, 3) := by decide +kernel
theorem d_StateSet_add_43 : decode b_StateSet_add 43 = .ok (.sipush 256, 3) := by decide +kernel
theorem d_StateSet_add_46 : decode b_StateSet_add 46 = .ok (.iconst 2, 1) := by decide +kernel
theorem d_StateSet_add_47 : decode b_StateSet_add 47 = .ok (.aload_n 0, 1) := by decide +kernel
theorem d_StateSet_add_48 : decode b_StateSet_add 48 = .ok (.getfield 17, 3) := by decide +kernel
theorem d_StateSet_add_51 : decode b_StateSet_add 51 = .ok (.imul, 1) := by decide +kernel
theorem d_StateSet_add_52 : decode b_StateSet_add 52 = .ok (.invokestatic 30, 3) := by decide +kernel
theorem d_StateSet_add_55 : decode b_StateSet_add 55 = .ok (.invokestatic 36, 3) := by decide +kernel
theorem d_StateSet_add_58 : decode b_StateSet_add 58 = .ok (.putfield 7, 3) := by decide +kernel
theorem d_StateSet_add_61 : decode b_StateSet_add 61 = .ok (.aload_n 0, 1) := by decide +kernel
theorem d_StateSet_add_62 : decode b_StateSet_add 62 = .ok (.getfield 7, 3) := by decide +kernel
theorem d_StateSet_add_65 : decode b_StateSet_add 65 = .ok (.aload_n 0, 1) := by decide +kernel
theorem d_StateSet_add_66 : decode b_StateSet_add 66 = .ok (.getfield 17, 3) := by decide +kernel
theorem d_StateSet_add_69 : decode b_StateSet_add 69 = .ok (.lload_n 1, 1) := by decide +kernel
theorem d_StateSet_add_70 : decode b_StateSet_add 70 = .ok (.lastore, 1) := by decide +kernel
theorem d_StateSet_add_71 : decode b_StateSet_add 71 = .ok (.aload_n 0, 1) := by decide +kernel
theorem d_StateSet_add_72 : decode b_StateSet_add 72 = .ok (.dup, 1) := by decide +kernel
theorem d_StateSet_add_73 : decode b_StateSet_add 73 = .ok (.getfield 17, 3) := by decide +kernel
theorem d_StateSet_add_76 : decode b_StateSet_add 76 = .ok (.iconst 1, 1) := by decide +kernel
theorem d_StateSet_add_77 : decode b_StateSet_add 77 = .ok (.iadd, 1) := by decide +kernel
theorem d_StateSet_add_78 : decode b_StateSet_add 78 = .ok (.putfield 17, 3) := by decide +kernel
theorem d_StateSet_add_81 : decode b_StateSet_add 81 = .ok (.aload_n 0, 1) := by decide +kernel
theorem d_StateSet_add_82 : decode b_StateSet_add 82 = .ok (.getfield 13, 3) := by decide +kernel
theorem d_StateSet_add_85 : decode b_StateSet_add 85 = .ok (.iload_n 3, 1) := by decide +kernel
theorem d_StateSet_add_86 : decode b_StateSet_add 86 = .ok (.aload_n 0, 1) := by decide +kernel
theorem d_StateSet_add_87 : decode b_StateSet_add 87 = .ok (.getfield 17, 3) := by decide +kernel
theorem d_StateSet_add_90 : decode b_StateSet_add 90 = .ok (.iastore, 1) := by decide +kernel
theorem d_StateSet_add_91 : decode b_StateSet_add 91 = .ok (.iconst 2, 1) := by decide +kernel
theorem d_StateSet_add_92 : decode b_StateSet_add 92 = .ok (.aload_n 0, 1) := by decide +kernel
theorem d_StateSet_add_93 : decode b_StateSet_add 93 = .ok (.getfield 17, 3) := by decide +kernel
theorem d_StateSet_add_96 : decode b_StateSet_add 96 = .ok (.imul, 1) := by decide +kernel
theorem d_StateSet_add_97 : decode b_StateSet_add 97 = .ok (.aload_n 0, 1) := by decide +kernel
theorem d_StateSet_add_98 : decode b_StateSet_add 98 = .ok (.getfield 42, 3) := by decide +kernel
theorem d_StateSet_add_101 : decode b_StateSet_add 101 = .ok (.if_icmp .le 13, 3) := by decide +kernel
theorem d_StateSet_add_104 : decode b_StateSet_add 104 = .ok (.aload_n 0, 1) := by decide +kernel
theorem d_StateSet_add_105 : decode b_StateSet_add 105 = .ok (.iconst 2, 1) := by decide +kernel
theorem d_StateSet_add_106 : decode b_StateSet_add 106 = .ok (.aload_n 0, 1) := by decide +kernel
theorem d_StateSet_add_107 : decode b_StateSet_add 107 = .ok (.getfield 42, 3) := by decide +kernel
theorem d_StateSet_add_110 : decode b_StateSet_add 110 = .ok (.imul, 1) := by decide +kernel
theorem d_StateSet_add_111 : decode b_StateSet_add 111 = .ok (.invokevirtual 21, 3) := by decide +kernel
theorem d_StateSet_add_114 : decode b_StateSet_add 114 = .ok (.iconst 1, 1) := by decide +kernel
theorem d_StateSet_add_115 : decode b_StateSet_add 115 = .ok (.ireturn, 1) := by decide +kernel
theorem d_StateSet_makeRoom_0 : decode b_StateSet_makeRoom 0 = .ok (.aload_n 0, 1) := by decide +kernel
theorem d_StateSet_makeRoom_1 : decode b_StateSet_makeRoom 1 = .ok (.iload_n 1, 1) := by decide +kernel
theorem d_StateSet_makeRoom_2 : decode b_StateSet_makeRoom 2 = .ok (.putfield 42, 3) := by decide +kernel
theorem d_StateSet_makeRoom_5 : decode b_StateSet_makeRoom 5 = .ok (.aload_n 0, 1) := by decide +kernel
theorem d_StateSet_makeRoom_6 : decode b_StateSet_makeRoom 6 = .ok (.getfield 13, 3) := by decide +kernel
theorem d_StateSet_makeRoom_9 : decode b_StateSet_makeRoom 9 = .ok (.arraylength, 1) := by decide +kernel
theorem d_StateSet_makeRoom_10 : decode b_StateSet_makeRoom 10 = .ok (.aload_n 0, 1) := by decide +kernel
theorem d_StateSet_makeRoom_11 : decode b_StateSet_makeRoom 11 = .ok (.getfield 42, 3) := by decide +kernel
theorem d_StateSet_makeRoom_14 : decode b_StateSet_makeRoom 14 = .ok (.if_icmp .ge 16, 3) := by decide +kernel
theorem d_StateSet_makeRoom_17 : decode b_StateSet_makeRoom 17 = .ok (.aload_n 0, 1) := by decide +kernel
theorem d_StateSet_makeRoom_18 : decode b_StateSet_makeRoom 18 = .ok (.aload_n 0, 1) := by decide +kernel
theorem d_StateSet_makeRoom_19 : decode b_StateSet_makeRoom 19 = .ok (.getfield 42, 3) := by decide +kernel
theorem d_StateSet_makeRoom_22 : decode b_StateSet_makeRoom 22 = .ok (.newarray .int, 2) := by decide +kernel
theorem d_StateSet_makeRoom_24 : decode b_StateSet_makeRoom 24 = .ok (.putfield 13, 3) := by decide +kernel
theorem d_StateSet_makeRoom_27 : decode b_StateSet_makeRoom 27 = .ok (.goto 26, 3) := by decide +kernel
theorem d_StateSet_makeRoom_30 : decode b_StateSet_makeRoom 30 = .ok (.iconst 0, 1) := by decide +kernel
theorem d_StateSet_makeRoom_31 : decode b_StateSet_makeRoom 31 = .ok (.istore_n 2, 1) := by decide +kernel
theorem d_StateSet_makeRoom_32 : decode b_StateSet_makeRoom 32 = .ok (.iload_n 2, 1) := by decide +kernel
theorem d_StateSet_makeRoom_33 : decode b_StateSet_makeRoom 33 = .ok (.aload_n 0, 1) := by decide +kernel
theorem d_StateSet_makeRoom_34 : decode b_StateSet_makeRoom 34 = .ok (.getfield 42, 3) := by decide +kernel
theorem d_StateSet_makeRoom_37 : decode b_StateSet_makeRoom 37 = .ok (.if_icmp .ge 16, 3) := by decide +kernel
theorem d_StateSet_makeRoom_40 : decode b_StateSet_makeRoom 40 = .ok (.aload_n 0, 1) := by decide +kernel
theorem d_StateSet_makeRoom_41 : decode b_StateSet_makeRoom 41 = .ok (.getfield 13, 3) := by decide +kernel
theorem d_StateSet_makeRoom_44 : decode b_StateSet_makeRoom 44 = .ok (.iload_n 2, 1) := by decide +kernel
theorem d_StateSet_makeRoom_45 : decode b_StateSet_makeRoom 45 = .ok (.iconst 0, 1) := by decide +kernel
theorem d_StateSet_makeRoom_46 : decode b_StateSet_makeRoom 46 = .ok (.iastore, 1) := by decide +kernel
theorem d_StateSet_makeRoom_47 : decode b_StateSet_makeRoom 47 = .ok (.iinc 2 1, 3) := by decide +kernel
theorem d_StateSet_makeRoom_50 : decode b_StateSet_makeRoom 50 = .ok (.goto (-18), 3) := by decide +kernel
theorem d_StateSet_makeRoom_53 : decode b_StateSet_makeRoom 53 = .ok (.iconst 0, 1) := by decide +kernel
theorem d_StateSet_makeRoom_54 : decode b_StateSet_makeRoom 54 = .ok (.istore_n 2, 1) := by decide +kernel
theorem d_StateSet_makeRoom_55 : decode b_StateSet_makeRoom 55 = .ok (.iload_n 2, 1) := by decide +kernel
theorem d_StateSet_makeRoom_56 : decode b_StateSet_makeRoom 56 = .ok (.aload_n 0, 1) := by decide +kernel
theorem d_StateSet_makeRoom_57 : decode b_StateSet_makeRoom 57 = .ok (.getfield 17, 3) := by decide +kernel
theorem d_StateSet_makeRoom_60 : decode b_StateSet_makeRoom 60 = .ok (.if_icmp .ge 27, 3) := by decide +kernel
theorem d_StateSet_makeRoom_63 : decode b_StateSet_makeRoom 63 = .ok (.aload_n 0, 1) := by decide +kernel
theorem d_StateSet_makeRoom_64 : decode b_StateSet_makeRoom 64 = .ok (.getfield 13, 3) := by decide +kernel
theorem d_StateSet_makeRoom_67 : decode b_StateSet_makeRoom 67 = .ok (.aload_n 0, 1) := by decide +kernel
theorem d_StateSet_makeRoom_68 : decode b_StateSet_makeRoom 68 = .ok (.aload_n 0, 1) := by decide +kernel
theorem d_StateSet_makeRoom_69 : decode b_StateSet_makeRoom 69 = .ok (.getfield 7, 3) := by decide +kernel
theorem d_StateSet_makeRoom_72 : decode b_StateSet_makeRoom 72 = .ok (.iload_n 2, 1) := by decide +kernel
theorem d_StateSet_makeRoom_73 : decode b_StateSet_makeRoom 73 = .ok (.laload, 1) := by decide +kernel
theorem d_StateSet_makeRoom_74 : decode b_StateSet_makeRoom 74 = .ok (.invokevirtual 25, 3) := by decide +kernel
theorem d_StateSet_makeRoom_77 : decode b_StateSet_makeRoom 77 = .ok (.iload_n 2, 1) := by decide +kernel
theorem d_StateSet_makeRoom_78 : decode b_StateSet_makeRoom 78 = .ok (.iconst 1, 1) := by decide +kernel
theorem d_StateSet_makeRoom_79 : decode b_StateSet_makeRoom 79 = .ok (.iadd, 1) := by decide +kernel
theorem d_StateSet_makeRoom_80 : decode b_StateSet_makeRoom 80 = .ok (.iastore, 1) := by decide +kernel
theorem d_StateSet_makeRoom_81 : decode b_StateSet_makeRoom 81 = .ok (.iinc 2 1, 3) := by decide +kernel
theorem d_StateSet_makeRoom_84 : decode b_StateSet_makeRoom 84 = .ok (.goto (-29), 3) := by decide +kernel
theorem d_StateSet_makeRoom_87 : decode b_StateSet_makeRoom 87 = .ok (.return_, 1) := by decide +kernel
theorem d_StateSet_slotOf_0 : decode b_StateSet_slotOf 0 = .ok (.lload_n 1, 1) := by decide +kernel
theorem d_StateSet_slotOf_1 : decode b_StateSet_slotOf 1 = .ok (.ldc2_w 45, 3) := by decide +kernel
theorem d_StateSet_slotOf_4 : decode b_StateSet_slotOf 4 = .ok (.lmul, 1) := by decide +kernel
theorem d_StateSet_slotOf_5 : decode b_StateSet_slotOf 5 = .ok (.bipush 40, 2) := by decide +kernel
theorem d_StateSet_slotOf_7 : decode b_StateSet_slotOf 7 = .ok (.lushr, 1) := by decide +kernel
theorem d_StateSet_slotOf_8 : decode b_StateSet_slotOf 8 = .ok (.l2i, 1) := by decide +kernel
theorem d_StateSet_slotOf_9 : decode b_StateSet_slotOf 9 = .ok (.aload_n 0, 1) := by decide +kernel
theorem d_StateSet_slotOf_10 : decode b_StateSet_slotOf 10 = .ok (.getfield 42, 3) := by decide +kernel
theorem d_StateSet_slotOf_13 : decode b_StateSet_slotOf 13 = .ok (.iconst 1, 1) := by decide +kernel
theorem d_StateSet_slotOf_14 : decode b_StateSet_slotOf 14 = .ok (.isub, 1) := by decide +kernel
theorem d_StateSet_slotOf_15 : decode b_StateSet_slotOf 15 = .ok (.iand, 1) := by decide +kernel
theorem d_StateSet_slotOf_16 : decode b_StateSet_slotOf 16 = .ok (.istore_n 3, 1) := by decide +kernel
theorem d_StateSet_slotOf_17 : decode b_StateSet_slotOf 17 = .ok (.iconst 0, 1) := by decide +kernel
theorem d_StateSet_slotOf_18 : decode b_StateSet_slotOf 18 = .ok (.istore 4, 2) := by decide +kernel
theorem d_StateSet_slotOf_20 : decode b_StateSet_slotOf 20 = .ok (.iload 4, 2) := by decide +kernel
theorem d_StateSet_slotOf_22 : decode b_StateSet_slotOf 22 = .ok (.aload_n 0, 1) := by decide +kernel
theorem d_StateSet_slotOf_23 : decode b_StateSet_slotOf 23 = .ok (.getfield 42, 3) := by decide +kernel
theorem d_StateSet_slotOf_26 : decode b_StateSet_slotOf 26 = .ok (.if_icmp .ge 49, 3) := by decide +kernel
theorem d_StateSet_slotOf_29 : decode b_StateSet_slotOf 29 = .ok (.aload_n 0, 1) := by decide +kernel
theorem d_StateSet_slotOf_30 : decode b_StateSet_slotOf 30 = .ok (.getfield 13, 3) := by decide +kernel
theorem d_StateSet_slotOf_33 : decode b_StateSet_slotOf 33 = .ok (.iload_n 3, 1) := by decide +kernel
theorem d_StateSet_slotOf_34 : decode b_StateSet_slotOf 34 = .ok (.iaload, 1) := by decide +kernel
theorem d_StateSet_slotOf_35 : decode b_StateSet_slotOf 35 = .ok (.istore 5, 2) := by decide +kernel
theorem d_StateSet_slotOf_37 : decode b_StateSet_slotOf 37 = .ok (.iload 5, 2) := by decide +kernel
theorem d_StateSet_slotOf_39 : decode b_StateSet_slotOf 39 = .ok (.ifCond .eq 17, 3) := by decide +kernel
theorem d_StateSet_slotOf_42 : decode b_StateSet_slotOf 42 = .ok (.aload_n 0, 1) := by decide +kernel
theorem d_StateSet_slotOf_43 : decode b_StateSet_slotOf 43 = .ok (.getfield 7, 3) := by decide +kernel
theorem d_StateSet_slotOf_46 : decode b_StateSet_slotOf 46 = .ok (.iload 5, 2) := by decide +kernel
theorem d_StateSet_slotOf_48 : decode b_StateSet_slotOf 48 = .ok (.iconst 1, 1) := by decide +kernel
theorem d_StateSet_slotOf_49 : decode b_StateSet_slotOf 49 = .ok (.isub, 1) := by decide +kernel
theorem d_StateSet_slotOf_50 : decode b_StateSet_slotOf 50 = .ok (.laload, 1) := by decide +kernel
theorem d_StateSet_slotOf_51 : decode b_StateSet_slotOf 51 = .ok (.lload_n 1, 1) := by decide +kernel
theorem d_StateSet_slotOf_52 : decode b_StateSet_slotOf 52 = .ok (.lcmp, 1) := by decide +kernel
theorem d_StateSet_slotOf_53 : decode b_StateSet_slotOf 53 = .ok (.ifCond .ne 5, 3) := by decide +kernel
theorem d_StateSet_slotOf_56 : decode b_StateSet_slotOf 56 = .ok (.iload_n 3, 1) := by decide +kernel
theorem d_StateSet_slotOf_57 : decode b_StateSet_slotOf 57 = .ok (.ireturn, 1) := by decide +kernel
theorem d_StateSet_slotOf_58 : decode b_StateSet_slotOf 58 = .ok (.iload_n 3, 1) := by decide +kernel
theorem d_StateSet_slotOf_59 : decode b_StateSet_slotOf 59 = .ok (.iconst 1, 1) := by decide +kernel
theorem d_StateSet_slotOf_60 : decode b_StateSet_slotOf 60 = .ok (.iadd, 1) := by decide +kernel
theorem d_StateSet_slotOf_61 : decode b_StateSet_slotOf 61 = .ok (.aload_n 0, 1) := by decide +kernel
theorem d_StateSet_slotOf_62 : decode b_StateSet_slotOf 62 = .ok (.getfield 42, 3) := by decide +kernel
theorem d_StateSet_slotOf_65 : decode b_StateSet_slotOf 65 = .ok (.iconst 1, 1) := by decide +kernel
theorem d_StateSet_slotOf_66 : decode b_StateSet_slotOf 66 = .ok (.isub, 1) := by decide +kernel
theorem d_StateSet_slotOf_67 : decode b_StateSet_slotOf 67 = .ok (.iand, 1) := by decide +kernel
theorem d_StateSet_slotOf_68 : decode b_StateSet_slotOf 68 = .ok (.istore_n 3, 1) := by decide +kernel
theorem d_StateSet_slotOf_69 : decode b_StateSet_slotOf 69 = .ok (.iinc 4 1, 3) := by decide +kernel
theorem d_StateSet_slotOf_72 : decode b_StateSet_slotOf 72 = .ok (.goto (-52), 3) := by decide +kernel
theorem d_StateSet_slotOf_75 : decode b_StateSet_slotOf 75 = .ok (.iload_n 3, 1) := by decide +kernel
theorem d_StateSet_slotOf_76 : decode b_StateSet_slotOf 76 = .ok (.ireturn, 1) := by decide +kernel
theorem d_Math_max_0 : decode b_Math_max 0 = .ok (.iload_n 0, 1) := by decide +kernel
theorem d_Math_max_1 : decode b_Math_max 1 = .ok (.iload_n 1, 1) := by decide +kernel
theorem d_Math_max_2 : decode b_Math_max 2 = .ok (.if_icmp .lt 7, 3) := by decide +kernel
theorem d_Math_max_5 : decode b_Math_max 5 = .ok (.iload_n 0, 1) := by decide +kernel
theorem d_Math_max_6 : decode b_Math_max 6 = .ok (.goto 4, 3) := by decide +kernel
theorem d_Math_max_9 : decode b_Math_max 9 = .ok (.iload_n 1, 1) := by decide +kernel
theorem d_Math_max_10 : decode b_Math_max 10 = .ok (.ireturn, 1) := by decide +kernel
theorem d_Math_min_0 : decode b_Math_min 0 = .ok (.iload_n 0, 1) := by decide +kernel
theorem d_Math_min_1 : decode b_Math_min 1 = .ok (.iload_n 1, 1) := by decide +kernel
theorem d_Math_min_2 : decode b_Math_min 2 = .ok (.if_icmp .gt 7, 3) := by decide +kernel
theorem d_Math_min_5 : decode b_Math_min 5 = .ok (.iload_n 0, 1) := by decide +kernel
theorem d_Math_min_6 : decode b_Math_min 6 = .ok (.goto 4, 3) := by decide +kernel
theorem d_Math_min_9 : decode b_Math_min 9 = .ok (.iload_n 1, 1) := by decide +kernel
theorem d_Math_min_10 : decode b_Math_min 10 = .ok (.ireturn, 1) := by decide +kernel
theorem d_Arrays_copyOf_0 : decode b_Arrays_copyOf 0 = .ok (.iload_n 1, 1) := by decide +kernel
theorem d_Arrays_copyOf_1 : decode b_Arrays_copyOf 1 = .ok (.aload_n 0, 1) := by decide +kernel
theorem d_Arrays_copyOf_2 : decode b_Arrays_copyOf 2 = .ok (.arraylength, 1) := by decide +kernel
theorem d_Arrays_copyOf_3 : decode b_Arrays_copyOf 3 = .ok (.if_icmp .ne 11, 3) := by decide +kernel
theorem d_Arrays_copyOf_6 : decode b_Arrays_copyOf 6 = .ok (.aload_n 0, 1) := by decide +kernel
theorem d_Arrays_copyOf_7 : decode b_Arrays_copyOf 7 = .ok (.invokevirtual 316, 3) := by decide +kernel
theorem d_Arrays_copyOf_10 : decode b_Arrays_copyOf 10 = .ok (.checkcast 317, 3) := by decide +kernel
theorem d_Arrays_copyOf_13 : decode b_Arrays_copyOf 13 = .ok (.areturn, 1) := by decide +kernel
theorem d_Arrays_copyOf_14 : decode b_Arrays_copyOf 14 = .ok (.iload_n 1, 1) := by decide +kernel
theorem d_Arrays_copyOf_15 : decode b_Arrays_copyOf 15 = .ok (.newarray .int, 2) := by decide +kernel
theorem d_Arrays_copyOf_17 : decode b_Arrays_copyOf 17 = .ok (.astore_n 2, 1) := by decide +kernel
theorem d_Arrays_copyOf_18 : decode b_Arrays_copyOf 18 = .ok (.aload_n 0, 1) := by decide +kernel
theorem d_Arrays_copyOf_19 : decode b_Arrays_copyOf 19 = .ok (.iconst 0, 1) := by decide +kernel
theorem d_Arrays_copyOf_20 : decode b_Arrays_copyOf 20 = .ok (.aload_n 2, 1) := by decide +kernel
theorem d_Arrays_copyOf_21 : decode b_Arrays_copyOf 21 = .ok (.iconst 0, 1) := by decide +kernel
theorem d_Arrays_copyOf_22 : decode b_Arrays_copyOf 22 = .ok (.aload_n 0, 1) := by decide +kernel
theorem d_Arrays_copyOf_23 : decode b_Arrays_copyOf 23 = .ok (.arraylength, 1) := by decide +kernel
theorem d_Arrays_copyOf_24 : decode b_Arrays_copyOf 24 = .ok (.iload_n 1, 1) := by decide +kernel
theorem d_Arrays_copyOf_25 : decode b_Arrays_copyOf 25 = .ok (.invokestatic 304, 3) := by decide +kernel
theorem d_Arrays_copyOf_28 : decode b_Arrays_copyOf 28 = .ok (.invokestatic 150, 3) := by decide +kernel
theorem d_Arrays_copyOf_31 : decode b_Arrays_copyOf 31 = .ok (.aload_n 2, 1) := by decide +kernel
theorem d_Arrays_copyOf_32 : decode b_Arrays_copyOf 32 = .ok (.areturn, 1) := by decide +kernel
theorem d_Arrays_copyOf2_0 : decode b_Arrays_copyOf2 0 = .ok (.iload_n 1, 1) := by decide +kernel
theorem d_Arrays_copyOf2_1 : decode b_Arrays_copyOf2 1 = .ok (.aload_n 0, 1) := by decide +kernel
theorem d_Arrays_copyOf2_2 : decode b_Arrays_copyOf2 2 = .ok (.arraylength, 1) := by decide +kernel
theorem d_Arrays_copyOf2_3 : decode b_Arrays_copyOf2 3 = .ok (.if_icmp .ne 11, 3) := by decide +kernel
theorem d_Arrays_copyOf2_6 : decode b_Arrays_copyOf2 6 = .ok (.aload_n 0, 1) := by decide +kernel
theorem d_Arrays_copyOf2_7 : decode b_Arrays_copyOf2 7 = .ok (.invokevirtual 319, 3) := by decide +kernel
theorem d_Arrays_copyOf2_10 : decode b_Arrays_copyOf2 10 = .ok (.checkcast 320, 3) := by decide +kernel
theorem d_Arrays_copyOf2_13 : decode b_Arrays_copyOf2 13 = .ok (.areturn, 1) := by decide +kernel
theorem d_Arrays_copyOf2_14 : decode b_Arrays_copyOf2 14 = .ok (.iload_n 1, 1) := by decide +kernel
theorem d_Arrays_copyOf2_15 : decode b_Arrays_copyOf2 15 = .ok (.newarray .long, 2) := by decide +kernel
theorem d_Arrays_copyOf2_17 : decode b_Arrays_copyOf2 17 = .ok (.astore_n 2, 1) := by decide +kernel
theorem d_Arrays_copyOf2_18 : decode b_Arrays_copyOf2 18 = .ok (.aload_n 0, 1) := by decide +kernel
theorem d_Arrays_copyOf2_19 : decode b_Arrays_copyOf2 19 = .ok (.iconst 0, 1) := by decide +kernel
theorem d_Arrays_copyOf2_20 : decode b_Arrays_copyOf2 20 = .ok (.aload_n 2, 1) := by decide +kernel
theorem d_Arrays_copyOf2_21 : decode b_Arrays_copyOf2 21 = .ok (.iconst 0, 1) := by decide +kernel
theorem d_Arrays_copyOf2_22 : decode b_Arrays_copyOf2 22 = .ok (.aload_n 0, 1) := by decide +kernel
theorem d_Arrays_copyOf2_23 : decode b_Arrays_copyOf2 23 = .ok (.arraylength, 1) := by decide +kernel
theorem d_Arrays_copyOf2_24 : decode b_Arrays_copyOf2 24 = .ok (.iload_n 1, 1) := by decide +kernel
theorem d_Arrays_copyOf2_25 : decode b_Arrays_copyOf2 25 = .ok (.invokestatic 304, 3) := by decide +kernel
theorem d_Arrays_copyOf2_28 : decode b_Arrays_copyOf2 28 = .ok (.invokestatic 150, 3) := by decide +kernel
theorem d_Arrays_copyOf2_31 : decode b_Arrays_copyOf2 31 = .ok (.aload_n 2, 1) := by decide +kernel
theorem d_Arrays_copyOf2_32 : decode b_Arrays_copyOf2 32 = .ok (.areturn, 1) := by decide +kernel
theorem d_Arrays_fill_0 : decode b_Arrays_fill 0 = .ok (.iconst 0, 1) := by decide +kernel
theorem d_Arrays_fill_1 : decode b_Arrays_fill 1 = .ok (.istore_n 2, 1) := by decide +kernel
theorem d_Arrays_fill_2 : decode b_Arrays_fill 2 = .ok (.aload_n 0, 1) := by decide +kernel
theorem d_Arrays_fill_3 : decode b_Arrays_fill 3 = .ok (.arraylength, 1) := by decide +kernel
theorem d_Arrays_fill_4 : decode b_Arrays_fill 4 = .ok (.istore_n 3, 1) := by decide +kernel
theorem d_Arrays_fill_5 : decode b_Arrays_fill 5 = .ok (.iload_n 2, 1) := by decide +kernel
theorem d_Arrays_fill_6 : decode b_Arrays_fill 6 = .ok (.iload_n 3, 1) := by decide +kernel
theorem d_Arrays_fill_7 : decode b_Arrays_fill 7 = .ok (.if_icmp .ge 13, 3) := by decide +kernel
theorem d_Arrays_fill_10 : decode b_Arrays_fill 10 = .ok (.aload_n 0, 1) := by decide +kernel
theorem d_Arrays_fill_11 : decode b_Arrays_fill 11 = .ok (.iload_n 2, 1) := by decide +kernel
theorem d_Arrays_fill_12 : decode b_Arrays_fill 12 = .ok (.iload_n 1, 1) := by decide +kernel
theorem d_Arrays_fill_13 : decode b_Arrays_fill 13 = .ok (.iastore, 1) := by decide +kernel
theorem d_Arrays_fill_14 : decode b_Arrays_fill 14 = .ok (.iinc 2 1, 3) := by decide +kernel
theorem d_Arrays_fill_17 : decode b_Arrays_fill 17 = .ok (.goto (-12), 3) := by decide +kernel
theorem d_Arrays_fill_20 : decode b_Arrays_fill 20 = .ok (.return_, 1) := by decide +kernel

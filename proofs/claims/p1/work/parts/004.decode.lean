theorem d_OM_init_0 : decode b_OM_init 0 = .ok (.aload_n 0, 1) := by decide +kernel
theorem d_OM_init_1 : decode b_OM_init 1 = .ok (.invokespecial 3, 3) := by decide +kernel
theorem d_OM_init_4 : decode b_OM_init 4 = .ok (.aload_n 0, 1) := by decide +kernel
theorem d_OM_init_5 : decode b_OM_init 5 = .ok (.new 9, 3) := by decide +kernel
theorem d_OM_init_8 : decode b_OM_init 8 = .ok (.dup, 1) := by decide +kernel
theorem d_OM_init_9 : decode b_OM_init 9 = .ok (.invokespecial 11, 3) := by decide +kernel
theorem d_OM_init_12 : decode b_OM_init 12 = .ok (.putfield 12, 3) := by decide +kernel
theorem d_OM_init_15 : decode b_OM_init 15 = .ok (.new 16, 3) := by decide +kernel
theorem d_OM_init_18 : decode b_OM_init 18 = .ok (.dup, 1) := by decide +kernel
theorem d_OM_init_19 : decode b_OM_init 19 = .ok (.aload_n 0, 1) := by decide +kernel
theorem d_OM_init_20 : decode b_OM_init 20 = .ok (.getfield 12, 3) := by decide +kernel
theorem d_OM_init_23 : decode b_OM_init 23 = .ok (.invokespecial 18, 3) := by decide +kernel
theorem d_OM_init_26 : decode b_OM_init 26 = .ok (.astore_n 1, 1) := by decide +kernel
theorem d_OM_init_27 : decode b_OM_init 27 = .ok (.new 21, 3) := by decide +kernel
theorem d_OM_init_30 : decode b_OM_init 30 = .ok (.dup, 1) := by decide +kernel
theorem d_OM_init_31 : decode b_OM_init 31 = .ok (.invokespecial 23, 3) := by decide +kernel
theorem d_OM_init_34 : decode b_OM_init 34 = .ok (.astore_n 2, 1) := by decide +kernel
theorem d_OM_init_35 : decode b_OM_init 35 = .ok (.aload_n 0, 1) := by decide +kernel
theorem d_OM_init_36 : decode b_OM_init 36 = .ok (.new 24, 3) := by decide +kernel
theorem d_OM_init_39 : decode b_OM_init 39 = .ok (.dup, 1) := by decide +kernel
theorem d_OM_init_40 : decode b_OM_init 40 = .ok (.aload_n 0, 1) := by decide +kernel
theorem d_OM_init_41 : decode b_OM_init 41 = .ok (.getfield 12, 3) := by decide +kernel
theorem d_OM_init_44 : decode b_OM_init 44 = .ok (.aload_n 1, 1) := by decide +kernel
theorem d_OM_init_45 : decode b_OM_init 45 = .ok (.aload_n 2, 1) := by decide +kernel
theorem d_OM_init_46 : decode b_OM_init 46 = .ok (.invokespecial 26, 3) := by decide +kernel
theorem d_OM_init_49 : decode b_OM_init 49 = .ok (.putfield 29, 3) := by decide +kernel
theorem d_OM_init_52 : decode b_OM_init 52 = .ok (.aload_n 0, 1) := by decide +kernel
theorem d_OM_init_53 : decode b_OM_init 53 = .ok (.new 33, 3) := by decide +kernel
theorem d_OM_init_56 : decode b_OM_init 56 = .ok (.dup, 1) := by decide +kernel
theorem d_OM_init_57 : decode b_OM_init 57 = .ok (.aload_n 0, 1) := by decide +kernel
theorem d_OM_init_58 : decode b_OM_init 58 = .ok (.getfield 12, 3) := by decide +kernel
theorem d_OM_init_61 : decode b_OM_init 61 = .ok (.aload_n 1, 1) := by decide +kernel
theorem d_OM_init_62 : decode b_OM_init 62 = .ok (.aload_n 2, 1) := by decide +kernel
theorem d_OM_init_63 : decode b_OM_init 63 = .ok (.invokespecial 35, 3) := by decide +kernel
theorem d_OM_init_66 : decode b_OM_init 66 = .ok (.putfield 36, 3) := by decide +kernel
theorem d_OM_init_69 : decode b_OM_init 69 = .ok (.aload_n 0, 1) := by decide +kernel
theorem d_OM_init_70 : decode b_OM_init 70 = .ok (.new 40, 3) := by decide +kernel
theorem d_OM_init_73 : decode b_OM_init 73 = .ok (.dup, 1) := by decide +kernel
theorem d_OM_init_74 : decode b_OM_init 74 = .ok (.aload_n 0, 1) := by decide +kernel
theorem d_OM_init_75 : decode b_OM_init 75 = .ok (.getfield 12, 3) := by decide +kernel
theorem d_OM_init_78 : decode b_OM_init 78 = .ok (.aload_n 1, 1) := by decide +kernel
theorem d_OM_init_79 : decode b_OM_init 79 = .ok (.invokespecial 42, 3) := by decide +kernel
theorem d_OM_init_82 : decode b_OM_init 82 = .ok (.putfield 45, 3) := by decide +kernel
theorem d_OM_init_85 : decode b_OM_init 85 = .ok (.aload_n 0, 1) := by decide +kernel
theorem d_OM_init_86 : decode b_OM_init 86 = .ok (.iconst 4, 1) := by decide +kernel
theorem d_OM_init_87 : decode b_OM_init 87 = .ok (.anewarray 49, 3) := by decide +kernel
theorem d_OM_init_90 : decode b_OM_init 90 = .ok (.putfield 51, 3) := by decide +kernel
theorem d_OM_init_93 : decode b_OM_init 93 = .ok (.aload_n 0, 1) := by decide +kernel
theorem d_OM_init_94 : decode b_OM_init 94 = .ok (.iconst 4, 1) := by decide +kernel
theorem d_OM_init_95 : decode b_OM_init 95 = .ok (.anewarray 49, 3) := by decide +kernel
theorem d_OM_init_98 : decode b_OM_init 98 = .ok (.putfield 55, 3) := by decide +kernel
theorem d_OM_init_101 : decode b_OM_init 101 = .ok (.iconst 0, 1) := by decide +kernel
theorem d_OM_init_102 : decode b_OM_init 102 = .ok (.istore_n 3, 1) := by decide +kernel
theorem d_OM_init_103 : decode b_OM_init 103 = .ok (.iload_n 3, 1) := by decide +kernel
theorem d_OM_init_104 : decode b_OM_init 104 = .ok (.iconst 4, 1) := by decide +kernel
theorem d_OM_init_105 : decode b_OM_init 105 = .ok (.if_icmp .ge 65, 3) := by decide +kernel
theorem d_OM_init_108 : decode b_OM_init 108 = .ok (.iload_n 3, 1) := by decide +kernel
theorem d_OM_init_109 : decode b_OM_init 109 = .ok (.iconst 1, 1) := by decide +kernel
theorem d_OM_init_110 : decode b_OM_init 110 = .ok (.if_icmp .eq 8, 3) := by decide +kernel
theorem d_OM_init_113 : decode b_OM_init 113 = .ok (.iload_n 3, 1) := by decide +kernel
theorem d_OM_init_114 : decode b_OM_init 114 = .ok (.iconst 2, 1) := by decide +kernel
theorem d_OM_init_115 : decode b_OM_init 115 = .ok (.if_icmp .ne 7, 3) := by decide +kernel
theorem d_OM_init_118 : decode b_OM_init 118 = .ok (.iconst 1, 1) := by decide +kernel
theorem d_OM_init_119 : decode b_OM_init 119 = .ok (.goto 4, 3) := by decide +kernel
theorem d_OM_init_122 : decode b_OM_init 122 = .ok (.iconst 0, 1) := by decide +kernel
theorem d_OM_init_123 : decode b_OM_init 123 = .ok (.istore 4, 2) := by decide +kernel
theorem d_OM_init_125 : decode b_OM_init 125 = .ok (.aload_n 0, 1) := by decide +kernel
theorem d_OM_init_126 : decode b_OM_init 126 = .ok (.getfield 51, 3) := by decide +kernel
theorem d_OM_init_129 : decode b_OM_init 129 = .ok (.iload_n 3, 1) := by decide +kernel
theorem d_OM_init_130 : decode b_OM_init 130 = .ok (.new 49, 3) := by decide +kernel
theorem d_OM_init_133 : decode b_OM_init 133 = .ok (.dup, 1) := by decide +kernel
theorem d_OM_init_134 : decode b_OM_init 134 = .ok (.iload 4, 2) := by decide +kernel
theorem d_OM_init_136 : decode b_OM_init 136 = .ok (.ifCond .eq 8, 3) := by decide +kernel
theorem d_OM_init_139 : decode b_OM_init 139 = .ok (.bipush 14, 2) := by decide +kernel
theorem d_OM_init_141 : decode b_OM_init 141 = .ok (.goto 5, 3) := by decide +kernel
theorem d_OM_init_144 : decode b_OM_init 144 = .ok (.bipush 7, 2) := by decide +kernel
theorem d_OM_init_146 : decode b_OM_init 146 = .ok (.invokespecial 58, 3) := by decide +kernel
theorem d_OM_init_149 : decode b_OM_init 149 = .ok (.aastore, 1) := by decide +kernel
theorem d_OM_init_150 : decode b_OM_init 150 = .ok (.aload_n 0, 1) := by decide +kernel
theorem d_OM_init_151 : decode b_OM_init 151 = .ok (.getfield 55, 3) := by decide +kernel
theorem d_OM_init_154 : decode b_OM_init 154 = .ok (.iload_n 3, 1) := by decide +kernel
theorem d_OM_init_155 : decode b_OM_init 155 = .ok (.new 49, 3) := by decide +kernel
theorem d_OM_init_158 : decode b_OM_init 158 = .ok (.dup, 1) := by decide +kernel
theorem d_OM_init_159 : decode b_OM_init 159 = .ok (.iconst 0, 1) := by decide +kernel
theorem d_OM_init_160 : decode b_OM_init 160 = .ok (.invokespecial 58, 3) := by decide +kernel
theorem d_OM_init_163 : decode b_OM_init 163 = .ok (.aastore, 1) := by decide +kernel
theorem d_OM_init_164 : decode b_OM_init 164 = .ok (.iinc 3 1, 3) := by decide +kernel
theorem d_OM_init_167 : decode b_OM_init 167 = .ok (.goto (-64), 3) := by decide +kernel
theorem d_OM_init_170 : decode b_OM_init 170 = .ok (.return_, 1) := by decide +kernel
theorem d_OM_thread_0 : decode b_OM_thread 0 = .ok (.aload_n 0, 1) := by decide +kernel
theorem d_OM_thread_1 : decode b_OM_thread 1 = .ok (.getfield 12, 3) := by decide +kernel
theorem d_OM_thread_4 : decode b_OM_thread 4 = .ok (.invokevirtual 61, 3) := by decide +kernel
theorem d_OM_thread_7 : decode b_OM_thread 7 = .ok (.istore_n 1, 1) := by decide +kernel
theorem d_OM_thread_8 : decode b_OM_thread 8 = .ok (.iload_n 1, 1) := by decide +kernel
theorem d_OM_thread_9 : decode b_OM_thread 9 = .ok (.iconst (-1), 1) := by decide +kernel
theorem d_OM_thread_10 : decode b_OM_thread 10 = .ok (.if_icmp .eq 7, 3) := by decide +kernel
theorem d_OM_thread_13 : decode b_OM_thread 13 = .ok (.aload_n 0, 1) := by decide +kernel
theorem d_OM_thread_14 : decode b_OM_thread 14 = .ok (.invokevirtual 65, 3) := by decide +kernel
theorem d_OM_thread_17 : decode b_OM_thread 17 = .ok (.iload_n 1, 1) := by decide +kernel
theorem d_OM_thread_18 : decode b_OM_thread 18 = .ok (.ireturn, 1) := by decide +kernel
theorem d_OM_action_0 : decode b_OM_action 0 = .ok (.iload_n 2, 1) := by decide +kernel
theorem d_OM_action_1 : decode b_OM_action 1 = .ok (.iload_n 3, 1) := by decide +kernel
theorem d_OM_action_2 : decode b_OM_action 2 = .ok (.iload 4, 2) := by decide +kernel
theorem d_OM_action_4 : decode b_OM_action 4 = .ok (.iload 5, 2) := by decide +kernel
theorem d_OM_action_6 : decode b_OM_action 6 = .ok (.invokestatic 68, 3) := by decide +kernel
theorem d_OM_action_9 : decode b_OM_action 9 = .ok (.ifCond .ne 5, 3) := by decide +kernel
theorem d_OM_action_12 : decode b_OM_action 12 = .ok (.iconst (-1), 1) := by decide +kernel
theorem d_OM_action_13 : decode b_OM_action 13 = .ok (.ireturn, 1) := by decide +kernel
theorem d_OM_action_14 : decode b_OM_action 14 = .ok (.aload_n 0, 1) := by decide +kernel
theorem d_OM_action_15 : decode b_OM_action 15 = .ok (.getfield 12, 3) := by decide +kernel
theorem d_OM_action_18 : decode b_OM_action 18 = .ok (.iload_n 1, 1) := by decide +kernel
theorem d_OM_action_19 : decode b_OM_action 19 = .ok (.iload_n 2, 1) := by decide +kernel
theorem d_OM_action_20 : decode b_OM_action 20 = .ok (.iload_n 3, 1) := by decide +kernel
theorem d_OM_action_21 : decode b_OM_action 21 = .ok (.iload 4, 2) := by decide +kernel
theorem d_OM_action_23 : decode b_OM_action 23 = .ok (.iload 5, 2) := by decide +kernel
theorem d_OM_action_25 : decode b_OM_action 25 = .ok (.invokevirtual 72, 3) := by decide +kernel
theorem d_OM_action_28 : decode b_OM_action 28 = .ok (.istore 6, 2) := by decide +kernel
theorem d_OM_action_30 : decode b_OM_action 30 = .ok (.iload 6, 2) := by decide +kernel
theorem d_OM_action_32 : decode b_OM_action 32 = .ok (.iconst (-1), 1) := by decide +kernel
theorem d_OM_action_33 : decode b_OM_action 33 = .ok (.if_icmp .eq 7, 3) := by decide +kernel
theorem d_OM_action_36 : decode b_OM_action 36 = .ok (.aload_n 0, 1) := by decide +kernel
theorem d_OM_action_37 : decode b_OM_action 37 = .ok (.invokevirtual 65, 3) := by decide +kernel
theorem d_OM_action_40 : decode b_OM_action 40 = .ok (.iload 6, 2) := by decide +kernel
theorem d_OM_action_42 : decode b_OM_action 42 = .ok (.ireturn, 1) := by decide +kernel
theorem d_OM_clear_0 : decode b_OM_clear 0 = .ok (.aload_n 0, 1) := by decide +kernel
theorem d_OM_clear_1 : decode b_OM_clear 1 = .ok (.getfield 12, 3) := by decide +kernel
theorem d_OM_clear_4 : decode b_OM_clear 4 = .ok (.getfield 76, 3) := by decide +kernel
theorem d_OM_clear_7 : decode b_OM_clear 7 = .ok (.istore_n 1, 1) := by decide +kernel
theorem d_OM_clear_8 : decode b_OM_clear 8 = .ok (.aload_n 0, 1) := by decide +kernel
theorem d_OM_clear_9 : decode b_OM_clear 9 = .ok (.getfield 12, 3) := by decide +kernel
theorem d_OM_clear_12 : decode b_OM_clear 12 = .ok (.invokevirtual 80, 3) := by decide +kernel
theorem d_OM_clear_15 : decode b_OM_clear 15 = .ok (.aload_n 0, 1) := by decide +kernel
theorem d_OM_clear_16 : decode b_OM_clear 16 = .ok (.invokevirtual 65, 3) := by decide +kernel
theorem d_OM_clear_19 : decode b_OM_clear 19 = .ok (.iload_n 1, 1) := by decide +kernel
theorem d_OM_clear_20 : decode b_OM_clear 20 = .ok (.ireturn, 1) := by decide +kernel
theorem d_OM_runs_0 : decode b_OM_runs 0 = .ok (.iload_n 1, 1) := by decide +kernel
theorem d_OM_runs_1 : decode b_OM_runs 1 = .ok (.invokestatic 83, 3) := by decide +kernel
theorem d_OM_runs_4 : decode b_OM_runs 4 = .ok (.ifCond .eq 14, 3) := by decide +kernel
theorem d_OM_runs_7 : decode b_OM_runs 7 = .ok (.aload_n 0, 1) := by decide +kernel
theorem d_OM_runs_8 : decode b_OM_runs 8 = .ok (.iload_n 1, 1) := by decide +kernel
theorem d_OM_runs_9 : decode b_OM_runs 9 = .ok (.invokevirtual 87, 3) := by decide +kernel
theorem d_OM_runs_12 : decode b_OM_runs 12 = .ok (.getfield 91, 3) := by decide +kernel
theorem d_OM_runs_15 : decode b_OM_runs 15 = .ok (.goto 4, 3) := by decide +kernel
theorem d_OM_runs_18 : decode b_OM_runs 18 = .ok (.iconst (-1), 1) := by decide +kernel
theorem d_OM_runs_19 : decode b_OM_runs 19 = .ok (.ireturn, 1) := by decide +kernel
theorem d_OM_outcome_0 : decode b_OM_outcome 0 = .ok (.iload_n 1, 1) := by decide +kernel
theorem d_OM_outcome_1 : decode b_OM_outcome 1 = .ok (.invokestatic 83, 3) := by decide +kernel
theorem d_OM_outcome_4 : decode b_OM_outcome 4 = .ok (.ifCond .eq 16, 3) := by decide +kernel
theorem d_OM_outcome_7 : decode b_OM_outcome 7 = .ok (.aload_n 0, 1) := by decide +kernel
theorem d_OM_outcome_8 : decode b_OM_outcome 8 = .ok (.iload_n 1, 1) := by decide +kernel
theorem d_OM_outcome_9 : decode b_OM_outcome 9 = .ok (.invokevirtual 87, 3) := by decide +kernel
theorem d_OM_outcome_12 : decode b_OM_outcome 12 = .ok (.iload_n 2, 1) := by decide +kernel
theorem d_OM_outcome_13 : decode b_OM_outcome 13 = .ok (.iload_n 3, 1) := by decide +kernel
theorem d_OM_outcome_14 : decode b_OM_outcome 14 = .ok (.invokevirtual 94, 3) := by decide +kernel
theorem d_OM_outcome_17 : decode b_OM_outcome 17 = .ok (.goto 6, 3) := by decide +kernel
theorem d_OM_outcome_20 : decode b_OM_outcome 20 = .ok (.sipush (-1000), 3) := by decide +kernel
theorem d_OM_outcome_23 : decode b_OM_outcome 23 = .ok (.ireturn, 1) := by decide +kernel
theorem d_OM_witness_0 : decode b_OM_witness 0 = .ok (.iload_n 1, 1) := by decide +kernel
theorem d_OM_witness_1 : decode b_OM_witness 1 = .ok (.invokestatic 83, 3) := by decide +kernel
theorem d_OM_witness_4 : decode b_OM_witness 4 = .ok (.ifCond .eq 16, 3) := by decide +kernel
theorem d_OM_witness_7 : decode b_OM_witness 7 = .ok (.aload_n 0, 1) := by decide +kernel
theorem d_OM_witness_8 : decode b_OM_witness 8 = .ok (.iload_n 1, 1) := by decide +kernel
theorem d_OM_witness_9 : decode b_OM_witness 9 = .ok (.invokevirtual 87, 3) := by decide +kernel
theorem d_OM_witness_12 : decode b_OM_witness 12 = .ok (.iload_n 2, 1) := by decide +kernel
theorem d_OM_witness_13 : decode b_OM_witness 13 = .ok (.iload_n 3, 1) := by decide +kernel
theorem d_OM_witness_14 : decode b_OM_witness 14 = .ok (.invokevirtual 98, 3) := by decide +kernel
theorem d_OM_witness_17 : decode b_OM_witness 17 = .ok (.goto 4, 3) := by decide +kernel
theorem d_OM_witness_20 : decode b_OM_witness 20 = .ok (.iconst (-1), 1) := by decide +kernel
theorem d_OM_witness_21 : decode b_OM_witness 21 = .ok (.ireturn, 1) := by decide +kernel
theorem d_OM_orders_0 : decode b_OM_orders 0 = .ok (.iload_n 1, 1) := by decide +kernel
theorem d_OM_orders_1 : decode b_OM_orders 1 = .ok (.invokestatic 83, 3) := by decide +kernel
theorem d_OM_orders_4 : decode b_OM_orders 4 = .ok (.ifCond .eq 14, 3) := by decide +kernel
theorem d_OM_orders_7 : decode b_OM_orders 7 = .ok (.aload_n 0, 1) := by decide +kernel
theorem d_OM_orders_8 : decode b_OM_orders 8 = .ok (.iload_n 1, 1) := by decide +kernel
theorem d_OM_orders_9 : decode b_OM_orders 9 = .ok (.invokevirtual 101, 3) := by decide +kernel
theorem d_OM_orders_12 : decode b_OM_orders 12 = .ok (.getfield 91, 3) := by decide +kernel
theorem d_OM_orders_15 : decode b_OM_orders 15 = .ok (.goto 4, 3) := by decide +kernel
theorem d_OM_orders_18 : decode b_OM_orders 18 = .ok (.iconst (-1), 1) := by decide +kernel
theorem d_OM_orders_19 : decode b_OM_orders 19 = .ok (.ireturn, 1) := by decide +kernel
theorem d_OM_ordered_0 : decode b_OM_ordered 0 = .ok (.iload_n 1, 1) := by decide +kernel
theorem d_OM_ordered_1 : decode b_OM_ordered 1 = .ok (.invokestatic 83, 3) := by decide +kernel
theorem d_OM_ordered_4 : decode b_OM_ordered 4 = .ok (.ifCond .eq 16, 3) := by decide +kernel
theorem d_OM_ordered_7 : decode b_OM_ordered 7 = .ok (.aload_n 0, 1) := by decide +kernel
theorem d_OM_ordered_8 : decode b_OM_ordered 8 = .ok (.iload_n 1, 1) := by decide +kernel
theorem d_OM_ordered_9 : decode b_OM_ordered 9 = .ok (.invokevirtual 101, 3) := by decide +kernel
theorem d_OM_ordered_12 : decode b_OM_ordered 12 = .ok (.iload_n 2, 1) := by decide +kernel
theorem d_OM_ordered_13 : decode b_OM_ordered 13 = .ok (.iload_n 3, 1) := by decide +kernel
theorem d_OM_ordered_14 : decode b_OM_ordered 14 = .ok (.invokevirtual 94, 3) := by decide +kernel
theorem d_OM_ordered_17 : decode b_OM_ordered 17 = .ok (.goto 6, 3) := by decide +kernel
theorem d_OM_ordered_20 : decode b_OM_ordered 20 = .ok (.sipush (-1000), 3) := by decide +kernel
theorem d_OM_ordered_23 : decode b_OM_ordered 23 = .ok (.ireturn, 1) := by decide +kernel
theorem d_OM_graphs_0 : decode b_OM_graphs 0 = .ok (.iload_n 1, 1) := by decide +kernel
theorem d_OM_graphs_1 : decode b_OM_graphs 1 = .ok (.invokestatic 83, 3) := by decide +kernel
theorem d_OM_graphs_4 : decode b_OM_graphs 4 = .ok (.ifCond .eq 14, 3) := by decide +kernel
theorem d_OM_graphs_7 : decode b_OM_graphs 7 = .ok (.aload_n 0, 1) := by decide +kernel
theorem d_OM_graphs_8 : decode b_OM_graphs 8 = .ok (.iload_n 1, 1) := by decide +kernel
theorem d_OM_graphs_9 : decode b_OM_graphs 9 = .ok (.invokevirtual 101, 3) := by decide +kernel
theorem d_OM_graphs_12 : decode b_OM_graphs 12 = .ok (.getfield 104, 3) := by decide +kernel
theorem d_OM_graphs_15 : decode b_OM_graphs 15 = .ok (.goto 4, 3) := by decide +kernel
theorem d_OM_graphs_18 : decode b_OM_graphs 18 = .ok (.iconst (-1), 1) := by decide +kernel
theorem d_OM_graphs_19 : decode b_OM_graphs 19 = .ok (.ireturn, 1) := by decide +kernel
theorem d_OM_beyond_0 : decode b_OM_beyond 0 = .ok (.iload_n 1, 1) := by decide +kernel
theorem d_OM_beyond_1 : decode b_OM_beyond 1 = .ok (.invokestatic 83, 3) := by decide +kernel
theorem d_OM_beyond_4 : decode b_OM_beyond 4 = .ok (.ifCond .eq 10, 3) := by decide +kernel
theorem d_OM_beyond_7 : decode b_OM_beyond 7 = .ok (.iload_n 2, 1) := by decide +kernel
theorem d_OM_beyond_8 : decode b_OM_beyond 8 = .ok (.invokestatic 83, 3) := by decide +kernel
theorem d_OM_beyond_11 : decode b_OM_beyond 11 = .ok (.ifCond .ne 5, 3) := by decide +kernel
theorem d_OM_beyond_14 : decode b_OM_beyond 14 = .ok (.iconst (-1), 1) := by decide +kernel
theorem d_OM_beyond_15 : decode b_OM_beyond 15 = .ok (.ireturn, 1) := by decide +kernel
theorem d_OM_beyond_16 : decode b_OM_beyond 16 = .ok (.iload_n 1, 1) := by decide +kernel
theorem d_OM_beyond_17 : decode b_OM_beyond 17 = .ok (.iload_n 2, 1) := by decide +kernel
theorem d_OM_beyond_18 : decode b_OM_beyond 18 = .ok (.if_icmp .ne 7, 3) := by decide +kernel
theorem d_OM_beyond_21 : decode b_OM_beyond 21 = .ok (.iconst 0, 1) := by decide +kernel
theorem d_OM_beyond_22 : decode b_OM_beyond 22 = .ok (.goto 16, 3) := by decide +kernel
theorem d_OM_beyond_25 : decode b_OM_beyond 25 = .ok (.aload_n 0, 1) := by decide +kernel
theorem d_OM_beyond_26 : decode b_OM_beyond 26 = .ok (.iload_n 1, 1) := by decide +kernel
theorem d_OM_beyond_27 : decode b_OM_beyond 27 = .ok (.invokevirtual 87, 3) := by decide +kernel
theorem d_OM_beyond_30 : decode b_OM_beyond 30 = .ok (.aload_n 0, 1) := by decide +kernel
theorem d_OM_beyond_31 : decode b_OM_beyond 31 = .ok (.iload_n 2, 1) := by decide +kernel
theorem d_OM_beyond_32 : decode b_OM_beyond 32 = .ok (.invokevirtual 87, 3) := by decide +kernel
theorem d_OM_beyond_35 : decode b_OM_beyond 35 = .ok (.invokevirtual 107, 3) := by decide +kernel
theorem d_OM_beyond_38 : decode b_OM_beyond 38 = .ok (.ireturn, 1) := by decide +kernel
theorem d_OM_races_0 : decode b_OM_races 0 = .ok (.aload_n 0, 1) := by decide +kernel
theorem d_OM_races_1 : decode b_OM_races 1 = .ok (.iconst 0, 1) := by decide +kernel
theorem d_OM_races_2 : decode b_OM_races 2 = .ok (.invokevirtual 87, 3) := by decide +kernel
theorem d_OM_races_5 : decode b_OM_races 5 = .ok (.pop, 1) := by decide +kernel
theorem d_OM_races_6 : decode b_OM_races 6 = .ok (.iconst 0, 1) := by decide +kernel
theorem d_OM_races_7 : decode b_OM_races 7 = .ok (.istore_n 1, 1) := by decide +kernel
theorem d_OM_races_8 : decode b_OM_races 8 = .ok (.iconst 0, 1) := by decide +kernel
theorem d_OM_races_9 : decode b_OM_races 9 = .ok (.istore_n 2, 1) := by decide +kernel
theorem d_OM_races_10 : decode b_OM_races 10 = .ok (.iload_n 2, 1) := by decide +kernel
theorem d_OM_races_11 : decode b_OM_races 11 = .ok (.aload_n 0, 1) := by decide +kernel
theorem d_OM_races_12 : decode b_OM_races 12 = .ok (.getfield 12, 3) := by decide +kernel
theorem d_OM_races_15 : decode b_OM_races 15 = .ok (.getfield 111, 3) := by decide +kernel
theorem d_OM_races_18 : decode b_OM_races 18 = .ok (.if_icmp .ge 24, 3) := by decide +kernel
theorem d_OM_races_21 : decode b_OM_races 21 = .ok (.iload_n 1, 1) := by decide +kernel
theorem d_OM_races_22 : decode b_OM_races 22 = .ok (.aload_n 0, 1) := by decide +kernel
theorem d_OM_races_23 : decode b_OM_races 23 = .ok (.getfield 29, 3) := by decide +kernel
theorem d_OM_races_26 : decode b_OM_races 26 = .ok (.getfield 114, 3) := by decide +kernel
theorem d_OM_races_29 : decode b_OM_races 29 = .ok (.iload_n 2, 1) := by decide +kernel
theorem d_OM_races_30 : decode b_OM_races 30 = .ok (.iaload, 1) := by decide +kernel
theorem d_OM_races_31 : decode b_OM_races 31 = .ok (.invokestatic 118, 3) := by decide +kernel
theorem d_OM_races_34 : decode b_OM_races 34 = .ok (.iadd, 1) := by decide +kernel
theorem d_OM_races_35 : decode b_OM_races 35 = .ok (.istore_n 1, 1) := by decide +kernel
theorem d_OM_races_36 : decode b_OM_races 36 = .ok (.iinc 2 1, 3) := by decide +kernel
theorem d_OM_races_39 : decode b_OM_races 39 = .ok (.goto (-29), 3) := by decide +kernel
theorem d_OM_races_42 : decode b_OM_races 42 = .ok (.iload_n 1, 1) := by decide +kernel
theorem d_OM_races_43 : decode b_OM_races 43 = .ok (.iconst 1, 1) := by decide +kernel
theorem d_OM_races_44 : decode b_OM_races 44 = .ok (.ishr, 1) := by decide +kernel
theorem d_OM_races_45 : decode b_OM_races 45 = .ok (.ireturn, 1) := by decide +kernel
theorem d_OM_race_0 : decode b_OM_race 0 = .ok (.aload_n 0, 1) := by decide +kernel
theorem d_OM_race_1 : decode b_OM_race 1 = .ok (.getfield 12, 3) := by decide +kernel
theorem d_OM_race_4 : decode b_OM_race 4 = .ok (.iload_n 1, 1) := by decide +kernel
theorem d_OM_race_5 : decode b_OM_race 5 = .ok (.iload_n 2, 1) := by decide +kernel
theorem d_OM_race_6 : decode b_OM_race 6 = .ok (.invokevirtual 124, 3) := by decide +kernel
theorem d_OM_race_9 : decode b_OM_race 9 = .ok (.istore 5, 2) := by decide +kernel
theorem d_OM_race_11 : decode b_OM_race 11 = .ok (.aload_n 0, 1) := by decide +kernel
theorem d_OM_race_12 : decode b_OM_race 12 = .ok (.getfield 12, 3) := by decide +kernel
theorem d_OM_race_15 : decode b_OM_race 15 = .ok (.iload_n 3, 1) := by decide +kernel
theorem d_OM_race_16 : decode b_OM_race 16 = .ok (.iload 4, 2) := by decide +kernel
theorem d_OM_race_18 : decode b_OM_race 18 = .ok (.invokevirtual 124, 3) := by decide +kernel
theorem d_OM_race_21 : decode b_OM_race 21 = .ok (.istore 6, 2) := by decide +kernel
theorem d_OM_race_23 : decode b_OM_race 23 = .ok (.iload 5, 2) := by decide +kernel
theorem d_OM_race_25 : decode b_OM_race 25 = .ok (.iconst (-1), 1) := by decide +kernel
theorem d_OM_race_26 : decode b_OM_race 26 = .ok (.if_icmp .eq 14, 3) := by decide +kernel
theorem d_OM_race_29 : decode b_OM_race 29 = .ok (.iload 6, 2) := by decide +kernel
theorem d_OM_race_31 : decode b_OM_race 31 = .ok (.iconst (-1), 1) := by decide +kernel
theorem d_OM_race_32 : decode b_OM_race 32 = .ok (.if_icmp .eq 8, 3) := by decide +kernel
theorem d_OM_race_35 : decode b_OM_race 35 = .ok (.iload_n 1, 1) := by decide +kernel
theorem d_OM_race_36 : decode b_OM_race 36 = .ok (.iload_n 3, 1) := by decide +kernel
theorem d_OM_race_37 : decode b_OM_race 37 = .ok (.if_icmp .ne 5, 3) := by decide +kernel
theorem d_OM_race_40 : decode b_OM_race 40 = .ok (.iconst (-1), 1) := by decide +kernel
theorem d_OM_race_41 : decode b_OM_race 41 = .ok (.ireturn, 1) := by decide +kernel
theorem d_OM_race_42 : decode b_OM_race 42 = .ok (.aload_n 0, 1) := by decide +kernel
theorem d_OM_race_43 : decode b_OM_race 43 = .ok (.iconst 0, 1) := by decide +kernel
theorem d_OM_race_44 : decode b_OM_race 44 = .ok (.invokevirtual 87, 3) := by decide +kernel
theorem d_OM_race_47 : decode b_OM_race 47 = .ok (.pop, 1) := by decide +kernel
theorem d_OM_race_48 : decode b_OM_race 48 = .ok (.aload_n 0, 1) := by decide +kernel
theorem d_OM_race_49 : decode b_OM_race 49 = .ok (.getfield 29, 3) := by decide +kernel
theorem d_OM_race_52 : decode b_OM_race 52 = .ok (.getfield 114, 3) := by decide +kernel
theorem d_OM_race_55 : decode b_OM_race 55 = .ok (.iload 5, 2) := by decide +kernel
theorem d_OM_race_57 : decode b_OM_race 57 = .ok (.iaload, 1) := by decide +kernel
theorem d_OM_race_58 : decode b_OM_race 58 = .ok (.iload 6, 2) := by decide +kernel
theorem d_OM_race_60 : decode b_OM_race 60 = .ok (.invokestatic 127, 3) := by decide +kernel
theorem d_OM_race_63 : decode b_OM_race 63 = .ok (.ifCond .eq 7, 3) := by decide +kernel
theorem d_OM_race_66 : decode b_OM_race 66 = .ok (.iconst 1, 1) := by decide +kernel
theorem d_OM_race_67 : decode b_OM_race 67 = .ok (.goto 4, 3) := by decide +kernel
theorem d_OM_race_70 : decode b_OM_race 70 = .ok (.iconst 0, 1) := by decide +kernel
theorem d_OM_race_71 : decode b_OM_race 71 = .ok (.ireturn, 1) := by decide +kernel
theorem d_OM_isModel_0 : decode b_OM_isModel 0 = .ok (.iload_n 0, 1) := by decide +kernel
theorem d_OM_isModel_1 : decode b_OM_isModel 1 = .ok (.ifCond .lt 12, 3) := by decide +kernel
theorem d_OM_isModel_4 : decode b_OM_isModel 4 = .ok (.iload_n 0, 1) := by decide +kernel
theorem d_OM_isModel_5 : decode b_OM_isModel 5 = .ok (.iconst 4, 1) := by decide +kernel
theorem d_OM_isModel_6 : decode b_OM_isModel 6 = .ok (.if_icmp .ge 7, 3) := by decide +kernel
theorem d_OM_isModel_9 : decode b_OM_isModel 9 = .ok (.iconst 1, 1) := by decide +kernel
theorem d_OM_isModel_10 : decode b_OM_isModel 10 = .ok (.goto 4, 3) := by decide +kernel
theorem d_OM_isModel_13 : decode b_OM_isModel 13 = .ok (.iconst 0, 1) := by decide +kernel
theorem d_OM_isModel_14 : decode b_OM_isModel 14 = .ok (.ireturn, 1) := by decide +kernel
theorem d_OM_isAction_0 : decode b_OM_isAction 0 = .ok (.iload_n 1, 1) := by decide +kernel
theorem d_OM_isAction_1 : decode b_OM_isAction 1 = .ok (.ifCond .lt 12, 3) := by decide +kernel
theorem d_OM_isAction_4 : decode b_OM_isAction 4 = .ok (.iload_n 1, 1) := by decide +kernel
theorem d_OM_isAction_5 : decode b_OM_isAction 5 = .ok (.iconst 3, 1) := by decide +kernel
theorem d_OM_isAction_6 : decode b_OM_isAction 6 = .ok (.if_icmp .ge 7, 3) := by decide +kernel
theorem d_OM_isAction_9 : decode b_OM_isAction 9 = .ok (.iconst 1, 1) := by decide +kernel
theorem d_OM_isAction_10 : decode b_OM_isAction 10 = .ok (.goto 4, 3) := by decide +kernel
theorem d_OM_isAction_13 : decode b_OM_isAction 13 = .ok (.iconst 0, 1) := by decide +kernel
theorem d_OM_isAction_14 : decode b_OM_isAction 14 = .ok (.istore 4, 2) := by decide +kernel
theorem d_OM_isAction_16 : decode b_OM_isAction 16 = .ok (.iload_n 2, 1) := by decide +kernel
theorem d_OM_isAction_17 : decode b_OM_isAction 17 = .ok (.ifCond .lt 12, 3) := by decide +kernel
theorem d_OM_isAction_20 : decode b_OM_isAction 20 = .ok (.iload_n 2, 1) := by decide +kernel
theorem d_OM_isAction_21 : decode b_OM_isAction 21 = .ok (.iconst 2, 1) := by decide +kernel
theorem d_OM_isAction_22 : decode b_OM_isAction 22 = .ok (.if_icmp .ge 7, 3) := by decide +kernel
theorem d_OM_isAction_25 : decode b_OM_isAction 25 = .ok (.iconst 1, 1) := by decide +kernel
theorem d_OM_isAction_26 : decode b_OM_isAction 26 = .ok (.goto 4, 3) := by decide +kernel
theorem d_OM_isAction_29 : decode b_OM_isAction 29 = .ok (.iconst 0, 1) := by decide +kernel
theorem d_OM_isAction_30 : decode b_OM_isAction 30 = .ok (.istore 5, 2) := by decide +kernel
theorem d_OM_isAction_32 : decode b_OM_isAction 32 = .ok (.iload_n 3, 1) := by decide +kernel
theorem d_OM_isAction_33 : decode b_OM_isAction 33 = .ok (.bipush (-9), 2) := by decide +kernel
theorem d_OM_isAction_35 : decode b_OM_isAction 35 = .ok (.if_icmp .lt 13, 3) := by decide +kernel
theorem d_OM_isAction_38 : decode b_OM_isAction 38 = .ok (.iload_n 3, 1) := by decide +kernel
theorem d_OM_isAction_39 : decode b_OM_isAction 39 = .ok (.bipush 9, 2) := by decide +kernel
theorem d_OM_isAction_41 : decode b_OM_isAction 41 = .ok (.if_icmp .gt 7, 3) := by decide +kernel
theorem d_OM_isAction_44 : decode b_OM_isAction 44 = .ok (.iconst 1, 1) := by decide +kernel
theorem d_OM_isAction_45 : decode b_OM_isAction 45 = .ok (.goto 4, 3) := by decide +kernel
theorem d_OM_isAction_48 : decode b_OM_isAction 48 = .ok (.iconst 0, 1) := by decide +kernel
theorem d_OM_isAction_49 : decode b_OM_isAction 49 = .ok (.istore 6, 2) := by decide +kernel
theorem d_OM_isAction_51 : decode b_OM_isAction 51 = .ok (.iload_n 0, 1) := by decide +kernel
theorem d_OM_isAction_52 : decode b_OM_isAction 52 = .ok (.tableswitch 145 0 5 #[40, 60, 80, 80, 101, 119], 40) := by decide +kernel
theorem d_OM_isAction_92 : decode b_OM_isAction 92 = .ok (.iload 4, 2) := by decide +kernel
theorem d_OM_isAction_94 : decode b_OM_isAction 94 = .ok (.ifCond .eq 16, 3) := by decide +kernel
theorem d_OM_isAction_97 : decode b_OM_isAction 97 = .ok (.iload 5, 2) := by decide +kernel
theorem d_OM_isAction_99 : decode b_OM_isAction 99 = .ok (.ifCond .eq 11, 3) := by decide +kernel
theorem d_OM_isAction_102 : decode b_OM_isAction 102 = .ok (.iload_n 3, 1) := by decide +kernel
theorem d_OM_isAction_103 : decode b_OM_isAction 103 = .ok (.ifCond .ne 7, 3) := by decide +kernel
theorem d_OM_isAction_106 : decode b_OM_isAction 106 = .ok (.iconst 1, 1) := by decide +kernel
theorem d_OM_isAction_107 : decode b_OM_isAction 107 = .ok (.goto 4, 3) := by decide +kernel
theorem d_OM_isAction_110 : decode b_OM_isAction 110 = .ok (.iconst 0, 1) := by decide +kernel
theorem d_OM_isAction_111 : decode b_OM_isAction 111 = .ok (.ireturn, 1) := by decide +kernel
theorem d_OM_isAction_112 : decode b_OM_isAction 112 = .ok (.iload 4, 2) := by decide +kernel
theorem d_OM_isAction_114 : decode b_OM_isAction 114 = .ok (.ifCond .eq 16, 3) := by decide +kernel
theorem d_OM_isAction_117 : decode b_OM_isAction 117 = .ok (.iload_n 2, 1) := by decide +kernel
theorem d_OM_isAction_118 : decode b_OM_isAction 118 = .ok (.ifCond .ne 12, 3) := by decide +kernel
theorem d_OM_isAction_121 : decode b_OM_isAction 121 = .ok (.iload 6, 2) := by decide +kernel
theorem d_OM_isAction_123 : decode b_OM_isAction 123 = .ok (.ifCond .eq 7, 3) := by decide +kernel
theorem d_OM_isAction_126 : decode b_OM_isAction 126 = .ok (.iconst 1, 1) := by decide +kernel
theorem d_OM_isAction_127 : decode b_OM_isAction 127 = .ok (.goto 4, 3) := by decide +kernel
theorem d_OM_isAction_130 : decode b_OM_isAction 130 = .ok (.iconst 0, 1) := by decide +kernel
theorem d_OM_isAction_131 : decode b_OM_isAction 131 = .ok (.ireturn, 1) := by decide +kernel
theorem d_OM_isAction_132 : decode b_OM_isAction 132 = .ok (.iload 4, 2) := by decide +kernel
theorem d_OM_isAction_134 : decode b_OM_isAction 134 = .ok (.ifCond .eq 17, 3) := by decide +kernel
theorem d_OM_isAction_137 : decode b_OM_isAction 137 = .ok (.iload 5, 2) := by decide +kernel
theorem d_OM_isAction_139 : decode b_OM_isAction 139 = .ok (.ifCond .eq 12, 3) := by decide +kernel
theorem d_OM_isAction_142 : decode b_OM_isAction 142 = .ok (.iload 6, 2) := by decide +kernel
theorem d_OM_isAction_144 : decode b_OM_isAction 144 = .ok (.ifCond .eq 7, 3) := by decide +kernel
theorem d_OM_isAction_147 : decode b_OM_isAction 147 = .ok (.iconst 1, 1) := by decide +kernel
theorem d_OM_isAction_148 : decode b_OM_isAction 148 = .ok (.goto 4, 3) := by decide +kernel
theorem d_OM_isAction_151 : decode b_OM_isAction 151 = .ok (.iconst 0, 1) := by decide +kernel
theorem d_OM_isAction_152 : decode b_OM_isAction 152 = .ok (.ireturn, 1) := by decide +kernel
theorem d_OM_isAction_153 : decode b_OM_isAction 153 = .ok (.iload_n 1, 1) := by decide +kernel
theorem d_OM_isAction_154 : decode b_OM_isAction 154 = .ok (.ifCond .ne 15, 3) := by decide +kernel
theorem d_OM_isAction_157 : decode b_OM_isAction 157 = .ok (.iload_n 2, 1) := by decide +kernel
theorem d_OM_isAction_158 : decode b_OM_isAction 158 = .ok (.ifCond .ne 11, 3) := by decide +kernel
theorem d_OM_isAction_161 : decode b_OM_isAction 161 = .ok (.iload_n 3, 1) := by decide +kernel
theorem d_OM_isAction_162 : decode b_OM_isAction 162 = .ok (.ifCond .ne 7, 3) := by decide +kernel
theorem d_OM_isAction_165 : decode b_OM_isAction 165 = .ok (.iconst 1, 1) := by decide +kernel
theorem d_OM_isAction_166 : decode b_OM_isAction 166 = .ok (.goto 4, 3) := by decide +kernel
theorem d_OM_isAction_169 : decode b_OM_isAction 169 = .ok (.iconst 0, 1) := by decide +kernel
theorem d_OM_isAction_170 : decode b_OM_isAction 170 = .ok (.ireturn, 1) := by decide +kernel
theorem d_OM_isAction_171 : decode b_OM_isAction 171 = .ok (.iload_n 1, 1) := by decide +kernel
theorem d_OM_isAction_172 : decode b_OM_isAction 172 = .ok (.iconst 1, 1) := by decide +kernel
theorem d_OM_isAction_173 : decode b_OM_isAction 173 = .ok (.if_icmp .lt 22, 3) := by decide +kernel
theorem d_OM_isAction_176 : decode b_OM_isAction 176 = .ok (.iload_n 1, 1) := by decide +kernel
theorem d_OM_isAction_177 : decode b_OM_isAction 177 = .ok (.iconst 3, 1) := by decide +kernel
theorem d_OM_isAction_178 : decode b_OM_isAction 178 = .ok (.if_icmp .gt 17, 3) := by decide +kernel
theorem d_OM_isAction_181 : decode b_OM_isAction 181 = .ok (.iload 5, 2) := by decide +kernel
theorem d_OM_isAction_183 : decode b_OM_isAction 183 = .ok (.ifCond .eq 12, 3) := by decide +kernel
theorem d_OM_isAction_186 : decode b_OM_isAction 186 = .ok (.iload 6, 2) := by decide +kernel
theorem d_OM_isAction_188 : decode b_OM_isAction 188 = .ok (.ifCond .eq 7, 3) := by decide +kernel
theorem d_OM_isAction_191 : decode b_OM_isAction 191 = .ok (.iconst 1, 1) := by decide +kernel
theorem d_OM_isAction_192 : decode b_OM_isAction 192 = .ok (.goto 4, 3) := by decide +kernel
theorem d_OM_isAction_195 : decode b_OM_isAction 195 = .ok (.iconst 0, 1) := by decide +kernel
theorem d_OM_isAction_196 : decode b_OM_isAction 196 = .ok (.ireturn, 1) := by decide +kernel
theorem d_OM_isAction_197 : decode b_OM_isAction 197 = .ok (.iconst 0, 1) := by decide +kernel
theorem d_OM_isAction_198 : decode b_OM_isAction 198 = .ok (.ireturn, 1) := by decide +kernel
theorem d_OM_forget_0 : decode b_OM_forget 0 = .ok (.iconst 0, 1) := by decide +kernel
theorem d_OM_forget_1 : decode b_OM_forget 1 = .ok (.istore_n 1, 1) := by decide +kernel
theorem d_OM_forget_2 : decode b_OM_forget 2 = .ok (.iload_n 1, 1) := by decide +kernel
theorem d_OM_forget_3 : decode b_OM_forget 3 = .ok (.iconst 4, 1) := by decide +kernel
theorem d_OM_forget_4 : decode b_OM_forget 4 = .ok (.if_icmp .ge 29, 3) := by decide +kernel
theorem d_OM_forget_7 : decode b_OM_forget 7 = .ok (.aload_n 0, 1) := by decide +kernel
theorem d_OM_forget_8 : decode b_OM_forget 8 = .ok (.getfield 51, 3) := by decide +kernel
theorem d_OM_forget_11 : decode b_OM_forget 11 = .ok (.iload_n 1, 1) := by decide +kernel
theorem d_OM_forget_12 : decode b_OM_forget 12 = .ok (.aaload, 1) := by decide +kernel
theorem d_OM_forget_13 : decode b_OM_forget 13 = .ok (.iconst 0, 1) := by decide +kernel
theorem d_OM_forget_14 : decode b_OM_forget 14 = .ok (.putfield 131, 3) := by decide +kernel
theorem d_OM_forget_17 : decode b_OM_forget 17 = .ok (.aload_n 0, 1) := by decide +kernel
theorem d_OM_forget_18 : decode b_OM_forget 18 = .ok (.getfield 55, 3) := by decide +kernel
theorem d_OM_forget_21 : decode b_OM_forget 21 = .ok (.iload_n 1, 1) := by decide +kernel
theorem d_OM_forget_22 : decode b_OM_forget 22 = .ok (.aaload, 1) := by decide +kernel
theorem d_OM_forget_23 : decode b_OM_forget 23 = .ok (.iconst 0, 1) := by decide +kernel
theorem d_OM_forget_24 : decode b_OM_forget 24 = .ok (.putfield 131, 3) := by decide +kernel
theorem d_OM_forget_27 : decode b_OM_forget 27 = .ok (.iinc 1 1, 3) := by decide +kernel
theorem d_OM_forget_30 : decode b_OM_forget 30 = .ok (.goto (-28), 3) := by decide +kernel
theorem d_OM_forget_33 : decode b_OM_forget 33 = .ok (.return_, 1) := by decide +kernel
theorem d_OM_foundByRuns_0 : decode b_OM_foundByRuns 0 = .ok (.aload_n 0, 1) := by decide +kernel
theorem d_OM_foundByRuns_1 : decode b_OM_foundByRuns 1 = .ok (.getfield 51, 3) := by decide +kernel
theorem d_OM_foundByRuns_4 : decode b_OM_foundByRuns 4 = .ok (.iload_n 1, 1) := by decide +kernel
theorem d_OM_foundByRuns_5 : decode b_OM_foundByRuns 5 = .ok (.aaload, 1) := by decide +kernel
theorem d_OM_foundByRuns_6 : decode b_OM_foundByRuns 6 = .ok (.astore_n 2, 1) := by decide +kernel
theorem d_OM_foundByRuns_7 : decode b_OM_foundByRuns 7 = .ok (.aload_n 2, 1) := by decide +kernel
theorem d_OM_foundByRuns_8 : decode b_OM_foundByRuns 8 = .ok (.getfield 131, 3) := by decide +kernel
theorem d_OM_foundByRuns_11 : decode b_OM_foundByRuns 11 = .ok (.ifCond .ne 33, 3) := by decide +kernel
theorem d_OM_foundByRuns_14 : decode b_OM_foundByRuns 14 = .ok (.iload_n 1, 1) := by decide +kernel
theorem d_OM_foundByRuns_15 : decode b_OM_foundByRuns 15 = .ok (.iconst 3, 1) := by decide +kernel
theorem d_OM_foundByRuns_16 : decode b_OM_foundByRuns 16 = .ok (.if_icmp .ne 14, 3) := by decide +kernel
theorem d_OM_foundByRuns_19 : decode b_OM_foundByRuns 19 = .ok (.aload_n 0, 1) := by decide +kernel
theorem d_OM_foundByRuns_20 : decode b_OM_foundByRuns 20 = .ok (.getfield 36, 3) := by decide +kernel
theorem d_OM_foundByRuns_23 : decode b_OM_foundByRuns 23 = .ok (.aload_n 2, 1) := by decide +kernel
theorem d_OM_foundByRuns_24 : decode b_OM_foundByRuns 24 = .ok (.invokevirtual 135, 3) := by decide +kernel
theorem d_OM_foundByRuns_27 : decode b_OM_foundByRuns 27 = .ok (.goto 12, 3) := by decide +kernel
theorem d_OM_foundByRuns_30 : decode b_OM_foundByRuns 30 = .ok (.aload_n 0, 1) := by decide +kernel
theorem d_OM_foundByRuns_31 : decode b_OM_foundByRuns 31 = .ok (.getfield 29, 3) := by decide +kernel
theorem d_OM_foundByRuns_34 : decode b_OM_foundByRuns 34 = .ok (.iload_n 1, 1) := by decide +kernel
theorem d_OM_foundByRuns_35 : decode b_OM_foundByRuns 35 = .ok (.aload_n 2, 1) := by decide +kernel
theorem d_OM_foundByRuns_36 : decode b_OM_foundByRuns 36 = .ok (.invokevirtual 139, 3) := by decide +kernel
theorem d_OM_foundByRuns_39 : decode b_OM_foundByRuns 39 = .ok (.aload_n 2, 1) := by decide +kernel
theorem d_OM_foundByRuns_40 : decode b_OM_foundByRuns 40 = .ok (.iconst 1, 1) := by decide +kernel
theorem d_OM_foundByRuns_41 : decode b_OM_foundByRuns 41 = .ok (.putfield 131, 3) := by decide +kernel
theorem d_OM_foundByRuns_44 : decode b_OM_foundByRuns 44 = .ok (.aload_n 2, 1) := by decide +kernel
theorem d_OM_foundByRuns_45 : decode b_OM_foundByRuns 45 = .ok (.areturn, 1) := by decide +kernel
theorem d_OM_foundByGraphs_0 : decode b_OM_foundByGraphs 0 = .ok (.aload_n 0, 1) := by decide +kernel
theorem d_OM_foundByGraphs_1 : decode b_OM_foundByGraphs 1 = .ok (.getfield 55, 3) := by decide +kernel
theorem d_OM_foundByGraphs_4 : decode b_OM_foundByGraphs 4 = .ok (.iload_n 1, 1) := by decide +kernel
theorem d_OM_foundByGraphs_5 : decode b_OM_foundByGraphs 5 = .ok (.aaload, 1) := by decide +kernel
theorem d_OM_foundByGraphs_6 : decode b_OM_foundByGraphs 6 = .ok (.astore_n 2, 1) := by decide +kernel
theorem d_OM_foundByGraphs_7 : decode b_OM_foundByGraphs 7 = .ok (.aload_n 2, 1) := by decide +kernel
theorem d_OM_foundByGraphs_8 : decode b_OM_foundByGraphs 8 = .ok (.getfield 131, 3) := by decide +kernel
theorem d_OM_foundByGraphs_11 : decode b_OM_foundByGraphs 11 = .ok (.ifCond .ne 17, 3) := by decide +kernel
theorem d_OM_foundByGraphs_14 : decode b_OM_foundByGraphs 14 = .ok (.aload_n 0, 1) := by decide +kernel
theorem d_OM_foundByGraphs_15 : decode b_OM_foundByGraphs 15 = .ok (.getfield 45, 3) := by decide +kernel
theorem d_OM_foundByGraphs_18 : decode b_OM_foundByGraphs 18 = .ok (.iload_n 1, 1) := by decide +kernel
theorem d_OM_foundByGraphs_19 : decode b_OM_foundByGraphs 19 = .ok (.aload_n 2, 1) := by decide +kernel
theorem d_OM_foundByGraphs_20 : decode b_OM_foundByGraphs 20 = .ok (.invokevirtual 142, 3) := by decide +kernel
theorem d_OM_foundByGraphs_23 : decode b_OM_foundByGraphs 23 = .ok (.aload_n 2, 1) := by decide +kernel
theorem d_OM_foundByGraphs_24 : decode b_OM_foundByGraphs 24 = .ok (.iconst 1, 1) := by decide +kernel
theorem d_OM_foundByGraphs_25 : decode b_OM_foundByGraphs 25 = .ok (.putfield 131, 3) := by decide +kernel
theorem d_OM_foundByGraphs_28 : decode b_OM_foundByGraphs 28 = .ok (.aload_n 2, 1) := by decide +kernel
theorem d_OM_foundByGraphs_29 : decode b_OM_foundByGraphs 29 = .ok (.areturn, 1) := by decide +kernel
theorem d_Ref_init_0 : decode b_Ref_init 0 = .ok (.aload_n 0, 1) := by decide +kernel
theorem d_Ref_init_1 : decode b_Ref_init 1 = .ok (.invokespecial 1, 3) := by decide +kernel
theorem d_Ref_init_4 : decode b_Ref_init 4 = .ok (.aload_n 0, 1) := by decide +kernel
theorem d_Ref_init_5 : decode b_Ref_init 5 = .ok (.iconst 4, 1) := by decide +kernel
theorem d_Ref_init_6 : decode b_Ref_init 6 = .ok (.newarray .int, 2) := by decide +kernel
theorem d_Ref_init_8 : decode b_Ref_init 8 = .ok (.putfield 7, 3) := by decide +kernel
theorem d_Ref_init_11 : decode b_Ref_init 11 = .ok (.aload_n 0, 1) := by decide +kernel
theorem d_Ref_init_12 : decode b_Ref_init 12 = .ok (.bipush 28, 2) := by decide +kernel
theorem d_Ref_init_14 : decode b_Ref_init 14 = .ok (.newarray .int, 2) := by decide +kernel
theorem d_Ref_init_16 : decode b_Ref_init 16 = .ok (.putfield 13, 3) := by decide +kernel
theorem d_Ref_init_19 : decode b_Ref_init 19 = .ok (.aload_n 0, 1) := by decide +kernel
theorem d_Ref_init_20 : decode b_Ref_init 20 = .ok (.bipush 28, 2) := by decide +kernel
theorem d_Ref_init_22 : decode b_Ref_init 22 = .ok (.newarray .int, 2) := by decide +kernel
theorem d_Ref_init_24 : decode b_Ref_init 24 = .ok (.putfield 16, 3) := by decide +kernel
theorem d_Ref_init_27 : decode b_Ref_init 27 = .ok (.aload_n 0, 1) := by decide +kernel
theorem d_Ref_init_28 : decode b_Ref_init 28 = .ok (.bipush 28, 2) := by decide +kernel
theorem d_Ref_init_30 : decode b_Ref_init 30 = .ok (.newarray .int, 2) := by decide +kernel
theorem d_Ref_init_32 : decode b_Ref_init 32 = .ok (.putfield 19, 3) := by decide +kernel
theorem d_Ref_init_35 : decode b_Ref_init 35 = .ok (.aload_n 0, 1) := by decide +kernel
theorem d_Ref_init_36 : decode b_Ref_init 36 = .ok (.bipush 28, 2) := by decide +kernel
theorem d_Ref_init_38 : decode b_Ref_init 38 = .ok (.newarray .int, 2) := by decide +kernel
theorem d_Ref_init_40 : decode b_Ref_init 40 = .ok (.putfield 22, 3) := by decide +kernel
theorem d_Ref_init_43 : decode b_Ref_init 43 = .ok (.aload_n 0, 1) := by decide +kernel
theorem d_Ref_init_44 : decode b_Ref_init 44 = .ok (.bipush 8, 2) := by decide +kernel
theorem d_Ref_init_46 : decode b_Ref_init 46 = .ok (.newarray .boolean, 2) := by decide +kernel
theorem d_Ref_init_48 : decode b_Ref_init 48 = .ok (.putfield 25, 3) := by decide +kernel
theorem d_Ref_init_51 : decode b_Ref_init 51 = .ok (.aload_n 0, 1) := by decide +kernel
theorem d_Ref_init_52 : decode b_Ref_init 52 = .ok (.bipush 8, 2) := by decide +kernel
theorem d_Ref_init_54 : decode b_Ref_init 54 = .ok (.newarray .int, 2) := by decide +kernel
theorem d_Ref_init_56 : decode b_Ref_init 56 = .ok (.putfield 29, 3) := by decide +kernel
theorem d_Ref_init_59 : decode b_Ref_init 59 = .ok (.aload_n 0, 1) := by decide +kernel
theorem d_Ref_init_60 : decode b_Ref_init 60 = .ok (.ldc 32, 2) := by decide +kernel
theorem d_Ref_init_62 : decode b_Ref_init 62 = .ok (.newarray .short, 2) := by decide +kernel
theorem d_Ref_init_64 : decode b_Ref_init 64 = .ok (.putfield 33, 3) := by decide +kernel
theorem d_Ref_init_67 : decode b_Ref_init 67 = .ok (.aload_n 0, 1) := by decide +kernel
theorem d_Ref_init_68 : decode b_Ref_init 68 = .ok (.ldc 37, 2) := by decide +kernel
theorem d_Ref_init_70 : decode b_Ref_init 70 = .ok (.newarray .short, 2) := by decide +kernel
theorem d_Ref_init_72 : decode b_Ref_init 72 = .ok (.putfield 38, 3) := by decide +kernel
theorem d_Ref_init_75 : decode b_Ref_init 75 = .ok (.aload_n 0, 1) := by decide +kernel
theorem d_Ref_init_76 : decode b_Ref_init 76 = .ok (.sipush 16000, 3) := by decide +kernel
theorem d_Ref_init_79 : decode b_Ref_init 79 = .ok (.newarray .int, 2) := by decide +kernel
theorem d_Ref_init_81 : decode b_Ref_init 81 = .ok (.putfield 41, 3) := by decide +kernel
theorem d_Ref_init_84 : decode b_Ref_init 84 = .ok (.aload_n 0, 1) := by decide +kernel
theorem d_Ref_init_85 : decode b_Ref_init 85 = .ok (.sipush 32000, 3) := by decide +kernel
theorem d_Ref_init_88 : decode b_Ref_init 88 = .ok (.newarray .int, 2) := by decide +kernel
theorem d_Ref_init_90 : decode b_Ref_init 90 = .ok (.putfield 44, 3) := by decide +kernel
theorem d_Ref_init_93 : decode b_Ref_init 93 = .ok (.aload_n 0, 1) := by decide +kernel
theorem d_Ref_init_94 : decode b_Ref_init 94 = .ok (.iconst 4, 1) := by decide +kernel
theorem d_Ref_init_95 : decode b_Ref_init 95 = .ok (.newarray .int, 2) := by decide +kernel
theorem d_Ref_init_97 : decode b_Ref_init 97 = .ok (.putfield 47, 3) := by decide +kernel
theorem d_Ref_init_100 : decode b_Ref_init 100 = .ok (.aload_n 0, 1) := by decide +kernel
theorem d_Ref_init_101 : decode b_Ref_init 101 = .ok (.sipush 784, 3) := by decide +kernel
theorem d_Ref_init_104 : decode b_Ref_init 104 = .ok (.newarray .boolean, 2) := by decide +kernel
theorem d_Ref_init_106 : decode b_Ref_init 106 = .ok (.putfield 50, 3) := by decide +kernel
theorem d_Ref_init_109 : decode b_Ref_init 109 = .ok (.aload_n 0, 1) := by decide +kernel
theorem d_Ref_init_110 : decode b_Ref_init 110 = .ok (.sipush 155, 3) := by decide +kernel
theorem d_Ref_init_113 : decode b_Ref_init 113 = .ok (.newarray .int, 2) := by decide +kernel
theorem d_Ref_init_115 : decode b_Ref_init 115 = .ok (.putfield 53, 3) := by decide +kernel
theorem d_Ref_init_118 : decode b_Ref_init 118 = .ok (.aload_n 0, 1) := by decide +kernel
theorem d_Ref_init_119 : decode b_Ref_init 119 = .ok (.sipush 2635, 3) := by decide +kernel
theorem d_Ref_init_122 : decode b_Ref_init 122 = .ok (.newarray .int, 2) := by decide +kernel
theorem d_Ref_init_124 : decode b_Ref_init 124 = .ok (.putfield 56, 3) := by decide +kernel
theorem d_Ref_init_127 : decode b_Ref_init 127 = .ok (.aload_n 0, 1) := by decide +kernel
theorem d_Ref_init_128 : decode b_Ref_init 128 = .ok (.bipush 17, 2) := by decide +kernel
theorem d_Ref_init_130 : decode b_Ref_init 130 = .ok (.newarray .int, 2) := by decide +kernel
theorem d_Ref_init_132 : decode b_Ref_init 132 = .ok (.putfield 59, 3) := by decide +kernel
theorem d_Ref_init_135 : decode b_Ref_init 135 = .ok (.aload_n 0, 1) := by decide +kernel
theorem d_Ref_init_136 : decode b_Ref_init 136 = .ok (.ldc 62, 2) := by decide +kernel
theorem d_Ref_init_138 : decode b_Ref_init 138 = .ok (.newarray .long, 2) := by decide +kernel
theorem d_Ref_init_140 : decode b_Ref_init 140 = .ok (.putfield 63, 3) := by decide +kernel
theorem d_Ref_init_143 : decode b_Ref_init 143 = .ok (.aload_n 0, 1) := by decide +kernel
theorem d_Ref_init_144 : decode b_Ref_init 144 = .ok (.ldc 67, 2) := by decide +kernel
theorem d_Ref_init_146 : decode b_Ref_init 146 = .ok (.newarray .int, 2) := by decide +kernel
theorem d_Ref_init_148 : decode b_Ref_init 148 = .ok (.putfield 68, 3) := by decide +kernel
theorem d_Ref_init_151 : decode b_Ref_init 151 = .ok (.aload_n 0, 1) := by decide +kernel
theorem d_Ref_init_152 : decode b_Ref_init 152 = .ok (.ldc 71, 2) := by decide +kernel
theorem d_Ref_init_154 : decode b_Ref_init 154 = .ok (.newarray .int, 2) := by decide +kernel
theorem d_Ref_init_156 : decode b_Ref_init 156 = .ok (.putfield 72, 3) := by decide +kernel
theorem d_Ref_init_159 : decode b_Ref_init 159 = .ok (.aload_n 0, 1) := by decide +kernel
theorem d_Ref_init_160 : decode b_Ref_init 160 = .ok (.iconst 5, 1) := by decide +kernel
theorem d_Ref_init_161 : decode b_Ref_init 161 = .ok (.newarray .long, 2) := by decide +kernel
theorem d_Ref_init_163 : decode b_Ref_init 163 = .ok (.putfield 75, 3) := by decide +kernel
theorem d_Ref_init_166 : decode b_Ref_init 166 = .ok (.aload_n 0, 1) := by decide +kernel
theorem d_Ref_init_167 : decode b_Ref_init 167 = .ok (.bipush 11, 2) := by decide +kernel
theorem d_Ref_init_169 : decode b_Ref_init 169 = .ok (.newarray .int, 2) := by decide +kernel
theorem d_Ref_init_171 : decode b_Ref_init 171 = .ok (.putfield 78, 3) := by decide +kernel
theorem d_Ref_init_174 : decode b_Ref_init 174 = .ok (.aload_n 0, 1) := by decide +kernel
theorem d_Ref_init_175 : decode b_Ref_init 175 = .ok (.bipush 28, 2) := by decide +kernel
theorem d_Ref_init_177 : decode b_Ref_init 177 = .ok (.newarray .int, 2) := by decide +kernel
theorem d_Ref_init_179 : decode b_Ref_init 179 = .ok (.putfield 81, 3) := by decide +kernel
theorem d_Ref_init_182 : decode b_Ref_init 182 = .ok (.aload_n 0, 1) := by decide +kernel
theorem d_Ref_init_183 : decode b_Ref_init 183 = .ok (.bipush 28, 2) := by decide +kernel
theorem d_Ref_init_185 : decode b_Ref_init 185 = .ok (.newarray .boolean, 2) := by decide +kernel
theorem d_Ref_init_187 : decode b_Ref_init 187 = .ok (.putfield 84, 3) := by decide +kernel
theorem d_Ref_init_190 : decode b_Ref_init 190 = .ok (.aload_n 0, 1) := by decide +kernel
theorem d_Ref_init_191 : decode b_Ref_init 191 = .ok (.bipush 28, 2) := by decide +kernel
theorem d_Ref_init_193 : decode b_Ref_init 193 = .ok (.newarray .boolean, 2) := by decide +kernel
theorem d_Ref_init_195 : decode b_Ref_init 195 = .ok (.putfield 87, 3) := by decide +kernel
theorem d_Ref_init_198 : decode b_Ref_init 198 = .ok (.aload_n 0, 1) := by decide +kernel
theorem d_Ref_init_199 : decode b_Ref_init 199 = .ok (.bipush 28, 2) := by decide +kernel
theorem d_Ref_init_201 : decode b_Ref_init 201 = .ok (.newarray .int, 2) := by decide +kernel
theorem d_Ref_init_203 : decode b_Ref_init 203 = .ok (.putfield 90, 3) := by decide +kernel
theorem d_Ref_init_206 : decode b_Ref_init 206 = .ok (.aload_n 0, 1) := by decide +kernel
theorem d_Ref_init_207 : decode b_Ref_init 207 = .ok (.iconst 4, 1) := by decide +kernel
theorem d_Ref_init_208 : decode b_Ref_init 208 = .ok (.newarray .int, 2) := by decide +kernel
theorem d_Ref_init_210 : decode b_Ref_init 210 = .ok (.putfield 93, 3) := by decide +kernel
theorem d_Ref_init_213 : decode b_Ref_init 213 = .ok (.aload_n 0, 1) := by decide +kernel
theorem d_Ref_init_214 : decode b_Ref_init 214 = .ok (.bipush 8, 2) := by decide +kernel
theorem d_Ref_init_216 : decode b_Ref_init 216 = .ok (.newarray .int, 2) := by decide +kernel
theorem d_Ref_init_218 : decode b_Ref_init 218 = .ok (.putfield 96, 3) := by decide +kernel
theorem d_Ref_init_221 : decode b_Ref_init 221 = .ok (.aload_n 0, 1) := by decide +kernel
theorem d_Ref_init_222 : decode b_Ref_init 222 = .ok (.bipush 7, 2) := by decide +kernel
theorem d_Ref_init_224 : decode b_Ref_init 224 = .ok (.newarray .int, 2) := by decide +kernel
theorem d_Ref_init_226 : decode b_Ref_init 226 = .ok (.putfield 99, 3) := by decide +kernel
theorem d_Ref_init_229 : decode b_Ref_init 229 = .ok (.aload_n 0, 1) := by decide +kernel
theorem d_Ref_init_230 : decode b_Ref_init 230 = .ok (.bipush 28, 2) := by decide +kernel
theorem d_Ref_init_232 : decode b_Ref_init 232 = .ok (.newarray .int, 2) := by decide +kernel
theorem d_Ref_init_234 : decode b_Ref_init 234 = .ok (.putfield 102, 3) := by decide +kernel
theorem d_Ref_init_237 : decode b_Ref_init 237 = .ok (.aload_n 0, 1) := by decide +kernel
theorem d_Ref_init_238 : decode b_Ref_init 238 = .ok (.iconst 4, 1) := by decide +kernel
theorem d_Ref_init_239 : decode b_Ref_init 239 = .ok (.newarray .int, 2) := by decide +kernel
theorem d_Ref_init_241 : decode b_Ref_init 241 = .ok (.putfield 105, 3) := by decide +kernel
theorem d_Ref_init_244 : decode b_Ref_init 244 = .ok (.aload_n 0, 1) := by decide +kernel
theorem d_Ref_init_245 : decode b_Ref_init 245 = .ok (.bipush 28, 2) := by decide +kernel
theorem d_Ref_init_247 : decode b_Ref_init 247 = .ok (.newarray .int, 2) := by decide +kernel
theorem d_Ref_init_249 : decode b_Ref_init 249 = .ok (.putfield 108, 3) := by decide +kernel
theorem d_Ref_init_252 : decode b_Ref_init 252 = .ok (.aload_n 0, 1) := by decide +kernel
theorem d_Ref_init_253 : decode b_Ref_init 253 = .ok (.bipush 7, 2) := by decide +kernel
theorem d_Ref_init_255 : decode b_Ref_init 255 = .ok (.newarray .int, 2) := by decide +kernel
theorem d_Ref_init_257 : decode b_Ref_init 257 = .ok (.putfield 111, 3) := by decide +kernel
theorem d_Ref_init_260 : decode b_Ref_init 260 = .ok (.aload_n 0, 1) := by decide +kernel
theorem d_Ref_init_261 : decode b_Ref_init 261 = .ok (.bipush 7, 2) := by decide +kernel
theorem d_Ref_init_263 : decode b_Ref_init 263 = .ok (.newarray .int, 2) := by decide +kernel
theorem d_Ref_init_265 : decode b_Ref_init 265 = .ok (.putfield 114, 3) := by decide +kernel
theorem d_Ref_init_268 : decode b_Ref_init 268 = .ok (.aload_n 0, 1) := by decide +kernel
theorem d_Ref_init_269 : decode b_Ref_init 269 = .ok (.bipush 7, 2) := by decide +kernel
theorem d_Ref_init_271 : decode b_Ref_init 271 = .ok (.newarray .int, 2) := by decide +kernel
theorem d_Ref_init_273 : decode b_Ref_init 273 = .ok (.putfield 117, 3) := by decide +kernel
theorem d_Ref_init_276 : decode b_Ref_init 276 = .ok (.aload_n 0, 1) := by decide +kernel
theorem d_Ref_init_277 : decode b_Ref_init 277 = .ok (.bipush 7, 2) := by decide +kernel
theorem d_Ref_init_279 : decode b_Ref_init 279 = .ok (.newarray .int, 2) := by decide +kernel
theorem d_Ref_init_281 : decode b_Ref_init 281 = .ok (.putfield 120, 3) := by decide +kernel
theorem d_Ref_init_284 : decode b_Ref_init 284 = .ok (.aload_n 0, 1) := by decide +kernel
theorem d_Ref_init_285 : decode b_Ref_init 285 = .ok (.bipush 7, 2) := by decide +kernel
theorem d_Ref_init_287 : decode b_Ref_init 287 = .ok (.newarray .int, 2) := by decide +kernel
theorem d_Ref_init_289 : decode b_Ref_init 289 = .ok (.putfield 123, 3) := by decide +kernel
theorem d_Ref_init_292 : decode b_Ref_init 292 = .ok (.aload_n 0, 1) := by decide +kernel
theorem d_Ref_init_293 : decode b_Ref_init 293 = .ok (.bipush 7, 2) := by decide +kernel
theorem d_Ref_init_295 : decode b_Ref_init 295 = .ok (.newarray .int, 2) := by decide +kernel
theorem d_Ref_init_297 : decode b_Ref_init 297 = .ok (.putfield 126, 3) := by decide +kernel
theorem d_Ref_init_300 : decode b_Ref_init 300 = .ok (.return_, 1) := by decide +kernel
theorem d_Ref_anew_0 : decode b_Ref_anew 0 = .ok (.iconst 0, 1) := by decide +kernel
theorem d_Ref_anew_1 : decode b_Ref_anew 1 = .ok (.istore_n 1, 1) := by decide +kernel
theorem d_Ref_anew_2 : decode b_Ref_anew 2 = .ok (.iload_n 1, 1) := by decide +kernel
theorem d_Ref_anew_3 : decode b_Ref_anew 3 = .ok (.bipush 8, 2) := by decide +kernel
theorem d_Ref_anew_5 : decode b_Ref_anew 5 = .ok (.if_icmp .ge 16, 3) := by decide +kernel
theorem d_Ref_anew_8 : decode b_Ref_anew 8 = .ok (.aload_n 0, 1) := by decide +kernel
theorem d_Ref_anew_9 : decode b_Ref_anew 9 = .ok (.getfield 25, 3) := by decide +kernel
theorem d_Ref_anew_12 : decode b_Ref_anew 12 = .ok (.iload_n 1, 1) := by decide +kernel
theorem d_Ref_anew_13 : decode b_Ref_anew 13 = .ok (.iconst 0, 1) := by decide +kernel
theorem d_Ref_anew_14 : decode b_Ref_anew 14 = .ok (.bastore, 1) := by decide +kernel
theorem d_Ref_anew_15 : decode b_Ref_anew 15 = .ok (.iinc 1 1, 3) := by decide +kernel
theorem d_Ref_anew_18 : decode b_Ref_anew 18 = .ok (.goto (-16), 3) := by decide +kernel
theorem d_Ref_anew_21 : decode b_Ref_anew 21 = .ok (.aload_n 0, 1) := by decide +kernel
theorem d_Ref_anew_22 : decode b_Ref_anew 22 = .ok (.iconst 0, 1) := by decide +kernel
theorem d_Ref_anew_23 : decode b_Ref_anew 23 = .ok (.putfield 129, 3) := by decide +kernel
theorem d_Ref_anew_26 : decode b_Ref_anew 26 = .ok (.return_, 1) := by decide +kernel
theorem d_Ref_thread_0 : decode b_Ref_thread 0 = .ok (.aload_n 0, 1) := by decide +kernel
theorem d_Ref_thread_1 : decode b_Ref_thread 1 = .ok (.getfield 133, 3) := by decide +kernel
theorem d_Ref_thread_4 : decode b_Ref_thread 4 = .ok (.iconst 4, 1) := by decide +kernel
theorem d_Ref_thread_5 : decode b_Ref_thread 5 = .ok (.if_icmp .ne 5, 3) := by decide +kernel
theorem d_Ref_thread_8 : decode b_Ref_thread 8 = .ok (.iconst (-1), 1) := by decide +kernel
theorem d_Ref_thread_9 : decode b_Ref_thread 9 = .ok (.ireturn, 1) := by decide +kernel
theorem d_Ref_thread_10 : decode b_Ref_thread 10 = .ok (.aload_n 0, 1) := by decide +kernel
theorem d_Ref_thread_11 : decode b_Ref_thread 11 = .ok (.getfield 7, 3) := by decide +kernel
theorem d_Ref_thread_14 : decode b_Ref_thread 14 = .ok (.aload_n 0, 1) := by decide +kernel
theorem d_Ref_thread_15 : decode b_Ref_thread 15 = .ok (.getfield 133, 3) := by decide +kernel
theorem d_Ref_thread_18 : decode b_Ref_thread 18 = .ok (.iconst 0, 1) := by decide +kernel
theorem d_Ref_thread_19 : decode b_Ref_thread 19 = .ok (.iastore, 1) := by decide +kernel
theorem d_Ref_thread_20 : decode b_Ref_thread 20 = .ok (.aload_n 0, 1) := by decide +kernel
theorem d_Ref_thread_21 : decode b_Ref_thread 21 = .ok (.dup, 1) := by decide +kernel
theorem d_Ref_thread_22 : decode b_Ref_thread 22 = .ok (.getfield 133, 3) := by decide +kernel
theorem d_Ref_thread_25 : decode b_Ref_thread 25 = .ok (.iconst 1, 1) := by decide +kernel
theorem d_Ref_thread_26 : decode b_Ref_thread 26 = .ok (.iadd, 1) := by decide +kernel
theorem d_Ref_thread_27 : decode b_Ref_thread 27 = .ok (.putfield 133, 3) := by decide +kernel
theorem d_Ref_thread_30 : decode b_Ref_thread 30 = .ok (.aload_n 0, 1) := by decide +kernel
theorem d_Ref_thread_31 : decode b_Ref_thread 31 = .ok (.invokevirtual 137, 3) := by decide +kernel
theorem d_Ref_thread_34 : decode b_Ref_thread 34 = .ok (.aload_n 0, 1) := by decide +kernel
theorem d_Ref_thread_35 : decode b_Ref_thread 35 = .ok (.getfield 133, 3) := by decide +kernel
theorem d_Ref_thread_38 : decode b_Ref_thread 38 = .ok (.iconst 1, 1) := by decide +kernel
theorem d_Ref_thread_39 : decode b_Ref_thread 39 = .ok (.isub, 1) := by decide +kernel
theorem d_Ref_thread_40 : decode b_Ref_thread 40 = .ok (.ireturn, 1) := by decide +kernel
theorem d_Ref_action_0 : decode b_Ref_action 0 = .ok (.iload_n 1, 1) := by decide +kernel
theorem d_Ref_action_1 : decode b_Ref_action 1 = .ok (.ifCond .lt 29, 3) := by decide +kernel
theorem d_Ref_action_4 : decode b_Ref_action 4 = .ok (.iload_n 1, 1) := by decide +kernel
theorem d_Ref_action_5 : decode b_Ref_action 5 = .ok (.aload_n 0, 1) := by decide +kernel
theorem d_Ref_action_6 : decode b_Ref_action 6 = .ok (.getfield 133, 3) := by decide +kernel
theorem d_Ref_action_9 : decode b_Ref_action 9 = .ok (.if_icmp .ge 21, 3) := by decide +kernel
theorem d_Ref_action_12 : decode b_Ref_action 12 = .ok (.iload_n 2, 1) := by decide +kernel
theorem d_Ref_action_13 : decode b_Ref_action 13 = .ok (.ifCond .lt 17, 3) := by decide +kernel
theorem d_Ref_action_16 : decode b_Ref_action 16 = .ok (.iload_n 2, 1) := by decide +kernel
theorem d_Ref_action_17 : decode b_Ref_action 17 = .ok (.iconst 5, 1) := by decide +kernel
theorem d_Ref_action_18 : decode b_Ref_action 18 = .ok (.if_icmp .gt 12, 3) := by decide +kernel
theorem d_Ref_action_21 : decode b_Ref_action 21 = .ok (.aload_n 0, 1) := by decide +kernel
theorem d_Ref_action_22 : decode b_Ref_action 22 = .ok (.getfield 140, 3) := by decide +kernel
theorem d_Ref_action_25 : decode b_Ref_action 25 = .ok (.bipush 7, 2) := by decide +kernel
theorem d_Ref_action_27 : decode b_Ref_action 27 = .ok (.if_icmp .ne 5, 3) := by decide +kernel
theorem d_Ref_action_30 : decode b_Ref_action 30 = .ok (.iconst (-1), 1) := by decide +kernel
theorem d_Ref_action_31 : decode b_Ref_action 31 = .ok (.ireturn, 1) := by decide +kernel
theorem d_Ref_action_32 : decode b_Ref_action 32 = .ok (.iload 5, 2) := by decide +kernel
theorem d_Ref_action_34 : decode b_Ref_action 34 = .ok (.bipush (-9), 2) := by decide +kernel
theorem d_Ref_action_36 : decode b_Ref_action 36 = .ok (.if_icmp .lt 25, 3) := by decide +kernel
theorem d_Ref_action_39 : decode b_Ref_action 39 = .ok (.iload 5, 2) := by decide +kernel
theorem d_Ref_action_41 : decode b_Ref_action 41 = .ok (.bipush 9, 2) := by decide +kernel
theorem d_Ref_action_43 : decode b_Ref_action 43 = .ok (.if_icmp .gt 18, 3) := by decide +kernel
theorem d_Ref_action_46 : decode b_Ref_action 46 = .ok (.iload 4, 2) := by decide +kernel
theorem d_Ref_action_48 : decode b_Ref_action 48 = .ok (.ifCond .lt 13, 3) := by decide +kernel
theorem d_Ref_action_51 : decode b_Ref_action 51 = .ok (.iload 4, 2) := by decide +kernel
theorem d_Ref_action_53 : decode b_Ref_action 53 = .ok (.iconst 1, 1) := by decide +kernel
theorem d_Ref_action_54 : decode b_Ref_action 54 = .ok (.if_icmp .gt 7, 3) := by decide +kernel
theorem d_Ref_action_57 : decode b_Ref_action 57 = .ok (.iconst 1, 1) := by decide +kernel
theorem d_Ref_action_58 : decode b_Ref_action 58 = .ok (.goto 4, 3) := by decide +kernel
theorem d_Ref_action_61 : decode b_Ref_action 61 = .ok (.iconst 0, 1) := by decide +kernel
theorem d_Ref_action_62 : decode b_Ref_action 62 = .ok (.istore 6, 2) := by decide +kernel
theorem d_Ref_action_64 : decode b_Ref_action 64 = .ok (.iload 6, 2) := by decide +kernel
theorem d_Ref_action_66 : decode b_Ref_action 66 = .ok (.ifCond .eq 46, 3) := by decide +kernel
theorem d_Ref_action_69 : decode b_Ref_action 69 = .ok (.iload_n 2, 1) := by decide +kernel
theorem d_Ref_action_70 : decode b_Ref_action 70 = .ok (.iconst 5, 1) := by decide +kernel
theorem d_Ref_action_71 : decode b_Ref_action 71 = .ok (.if_icmp .ne 16, 3) := by decide +kernel
theorem d_Ref_action_74 : decode b_Ref_action 74 = .ok (.iload_n 3, 1) := by decide +kernel
theorem d_Ref_action_75 : decode b_Ref_action 75 = .ok (.iconst 1, 1) := by decide +kernel
theorem d_Ref_action_76 : decode b_Ref_action 76 = .ok (.if_icmp .lt 36, 3) := by decide +kernel
theorem d_Ref_action_79 : decode b_Ref_action 79 = .ok (.iload_n 3, 1) := by decide +kernel
theorem d_Ref_action_80 : decode b_Ref_action 80 = .ok (.iconst 3, 1) := by decide +kernel
theorem d_Ref_action_81 : decode b_Ref_action 81 = .ok (.if_icmp .gt 31, 3) := by decide +kernel
theorem d_Ref_action_84 : decode b_Ref_action 84 = .ok (.goto 24, 3) := by decide +kernel
theorem d_Ref_action_87 : decode b_Ref_action 87 = .ok (.iload_n 2, 1) := by decide +kernel
theorem d_Ref_action_88 : decode b_Ref_action 88 = .ok (.iconst 4, 1) := by decide +kernel
theorem d_Ref_action_89 : decode b_Ref_action 89 = .ok (.if_icmp .ne 10, 3) := by decide +kernel
theorem d_Ref_action_92 : decode b_Ref_action 92 = .ok (.iload_n 3, 1) := by decide +kernel
theorem d_Ref_action_93 : decode b_Ref_action 93 = .ok (.ifCond .ne 19, 3) := by decide +kernel
theorem d_Ref_action_96 : decode b_Ref_action 96 = .ok (.goto 12, 3) := by decide +kernel
theorem d_Ref_action_99 : decode b_Ref_action 99 = .ok (.iload_n 3, 1) := by decide +kernel
theorem d_Ref_action_100 : decode b_Ref_action 100 = .ok (.ifCond .lt 12, 3) := by decide +kernel
theorem d_Ref_action_103 : decode b_Ref_action 103 = .ok (.iload_n 3, 1) := by decide +kernel
theorem d_Ref_action_104 : decode b_Ref_action 104 = .ok (.iconst 2, 1) := by decide +kernel
theorem d_Ref_action_105 : decode b_Ref_action 105 = .ok (.if_icmp .gt 7, 3) := by decide +kernel
theorem d_Ref_action_108 : decode b_Ref_action 108 = .ok (.iconst 1, 1) := by decide +kernel
theorem d_Ref_action_109 : decode b_Ref_action 109 = .ok (.goto 4, 3) := by decide +kernel
theorem d_Ref_action_112 : decode b_Ref_action 112 = .ok (.iconst 0, 1) := by decide +kernel
theorem d_Ref_action_113 : decode b_Ref_action 113 = .ok (.istore 6, 2) := by decide +kernel
theorem d_Ref_action_115 : decode b_Ref_action 115 = .ok (.iload 6, 2) := by decide +kernel
theorem d_Ref_action_117 : decode b_Ref_action 117 = .ok (.ifCond .eq 36, 3) := by decide +kernel
theorem d_Ref_action_120 : decode b_Ref_action 120 = .ok (.iload_n 2, 1) := by decide +kernel
theorem d_Ref_action_121 : decode b_Ref_action 121 = .ok (.iconst 1, 1) := by decide +kernel
theorem d_Ref_action_122 : decode b_Ref_action 122 = .ok (.if_icmp .eq 8, 3) := by decide +kernel
theorem d_Ref_action_125 : decode b_Ref_action 125 = .ok (.iload_n 2, 1) := by decide +kernel
theorem d_Ref_action_126 : decode b_Ref_action 126 = .ok (.iconst 4, 1) := by decide +kernel
theorem d_Ref_action_127 : decode b_Ref_action 127 = .ok (.if_icmp .ne 8, 3) := by decide +kernel
theorem d_Ref_action_130 : decode b_Ref_action 130 = .ok (.iload 4, 2) := by decide +kernel
theorem d_Ref_action_132 : decode b_Ref_action 132 = .ok (.ifCond .ne 21, 3) := by decide +kernel
theorem d_Ref_action_135 : decode b_Ref_action 135 = .ok (.iload_n 2, 1) := by decide +kernel
theorem d_Ref_action_136 : decode b_Ref_action 136 = .ok (.ifCond .eq 8, 3) := by decide +kernel
theorem d_Ref_action_139 : decode b_Ref_action 139 = .ok (.iload_n 2, 1) := by decide +kernel
theorem d_Ref_action_140 : decode b_Ref_action 140 = .ok (.iconst 4, 1) := by decide +kernel
theorem d_Ref_action_141 : decode b_Ref_action 141 = .ok (.if_icmp .ne 8, 3) := by decide +kernel
theorem d_Ref_action_144 : decode b_Ref_action 144 = .ok (.iload 5, 2) := by decide +kernel
theorem d_Ref_action_146 : decode b_Ref_action 146 = .ok (.ifCond .ne 7, 3) := by decide +kernel
theorem d_Ref_action_149 : decode b_Ref_action 149 = .ok (.iconst 1, 1) := by decide +kernel
theorem d_Ref_action_150 : decode b_Ref_action 150 = .ok (.goto 4, 3) := by decide +kernel
theorem d_Ref_action_153 : decode b_Ref_action 153 = .ok (.iconst 0, 1) := by decide +kernel
theorem d_Ref_action_154 : decode b_Ref_action 154 = .ok (.istore 6, 2) := by decide +kernel
theorem d_Ref_action_156 : decode b_Ref_action 156 = .ok (.iload 6, 2) := by decide +kernel
theorem d_Ref_action_158 : decode b_Ref_action 158 = .ok (.ifCond .ne 5, 3) := by decide +kernel
theorem d_Ref_action_161 : decode b_Ref_action 161 = .ok (.iconst (-1), 1) := by decide +kernel
theorem d_Ref_action_162 : decode b_Ref_action 162 = .ok (.ireturn, 1) := by decide +kernel
theorem d_Ref_action_163 : decode b_Ref_action 163 = .ok (.bipush 7, 2) := by decide +kernel
theorem d_Ref_action_165 : decode b_Ref_action 165 = .ok (.iload_n 1, 1) := by decide +kernel
theorem d_Ref_action_166 : decode b_Ref_action 166 = .ok (.imul, 1) := by decide +kernel
theorem d_Ref_action_167 : decode b_Ref_action 167 = .ok (.aload_n 0, 1) := by decide +kernel
theorem d_Ref_action_168 : decode b_Ref_action 168 = .ok (.getfield 7, 3) := by decide +kernel
theorem d_Ref_action_171 : decode b_Ref_action 171 = .ok (.iload_n 1, 1) := by decide +kernel
theorem d_Ref_action_172 : decode b_Ref_action 172 = .ok (.iaload, 1) := by decide +kernel
theorem d_Ref_action_173 : decode b_Ref_action 173 = .ok (.iadd, 1) := by decide +kernel
theorem d_Ref_action_174 : decode b_Ref_action 174 = .ok (.istore 7, 2) := by decide +kernel
theorem d_Ref_action_176 : decode b_Ref_action 176 = .ok (.aload_n 0, 1) := by decide +kernel
theorem d_Ref_action_177 : decode b_Ref_action 177 = .ok (.getfield 13, 3) := by decide +kernel
theorem d_Ref_action_180 : decode b_Ref_action 180 = .ok (.iload 7, 2) := by decide +kernel
theorem d_Ref_action_182 : decode b_Ref_action 182 = .ok (.iload_n 2, 1) := by decide +kernel
theorem d_Ref_action_183 : decode b_Ref_action 183 = .ok (.iastore, 1) := by decide +kernel
theorem d_Ref_action_184 : decode b_Ref_action 184 = .ok (.aload_n 0, 1) := by decide +kernel
theorem d_Ref_action_185 : decode b_Ref_action 185 = .ok (.getfield 16, 3) := by decide +kernel
theorem d_Ref_action_188 : decode b_Ref_action 188 = .ok (.iload 7, 2) := by decide +kernel
theorem d_Ref_action_190 : decode b_Ref_action 190 = .ok (.iload_n 3, 1) := by decide +kernel
theorem d_Ref_action_191 : decode b_Ref_action 191 = .ok (.iastore, 1) := by decide +kernel
theorem d_Ref_action_192 : decode b_Ref_action 192 = .ok (.aload_n 0, 1) := by decide +kernel
theorem d_Ref_action_193 : decode b_Ref_action 193 = .ok (.getfield 19, 3) := by decide +kernel
theorem d_Ref_action_196 : decode b_Ref_action 196 = .ok (.iload 7, 2) := by decide +kernel
theorem d_Ref_action_198 : decode b_Ref_action 198 = .ok (.iload 4, 2) := by decide +kernel
theorem d_Ref_action_200 : decode b_Ref_action 200 = .ok (.iastore, 1) := by decide +kernel
theorem d_Ref_action_201 : decode b_Ref_action 201 = .ok (.aload_n 0, 1) := by decide +kernel
theorem d_Ref_action_202 : decode b_Ref_action 202 = .ok (.getfield 22, 3) := by decide +kernel
theorem d_Ref_action_205 : decode b_Ref_action 205 = .ok (.iload 7, 2) := by decide +kernel
theorem d_Ref_action_207 : decode b_Ref_action 207 = .ok (.iload 5, 2) := by decide +kernel
theorem d_Ref_action_209 : decode b_Ref_action 209 = .ok (.iastore, 1) := by decide +kernel
theorem d_Ref_action_210 : decode b_Ref_action 210 = .ok (.aload_n 0, 1) := by decide +kernel
theorem d_Ref_action_211 : decode b_Ref_action 211 = .ok (.getfield 7, 3) := by decide +kernel
theorem d_Ref_action_214 : decode b_Ref_action 214 = .ok (.iload_n 1, 1) := by decide +kernel
theorem d_Ref_action_215 : decode b_Ref_action 215 = .ok (.dup2, 1) := by decide +kernel
theorem d_Ref_action_216 : decode b_Ref_action 216 = .ok (.iaload, 1) := by decide +kernel
theorem d_Ref_action_217 : decode b_Ref_action 217 = .ok (.iconst 1, 1) := by decide +kernel
theorem d_Ref_action_218 : decode b_Ref_action 218 = .ok (.iadd, 1) := by decide +kernel
theorem d_Ref_action_219 : decode b_Ref_action 219 = .ok (.iastore, 1) := by decide +kernel
theorem d_Ref_action_220 : decode b_Ref_action 220 = .ok (.aload_n 0, 1) := by decide +kernel
theorem d_Ref_action_221 : decode b_Ref_action 221 = .ok (.dup, 1) := by decide +kernel
theorem d_Ref_action_222 : decode b_Ref_action 222 = .ok (.getfield 140, 3) := by decide +kernel
theorem d_Ref_action_225 : decode b_Ref_action 225 = .ok (.iconst 1, 1) := by decide +kernel
theorem d_Ref_action_226 : decode b_Ref_action 226 = .ok (.iadd, 1) := by decide +kernel
theorem d_Ref_action_227 : decode b_Ref_action 227 = .ok (.putfield 140, 3) := by decide +kernel
theorem d_Ref_action_230 : decode b_Ref_action 230 = .ok (.aload_n 0, 1) := by decide +kernel
theorem d_Ref_action_231 : decode b_Ref_action 231 = .ok (.invokevirtual 137, 3) := by decide +kernel
theorem d_Ref_action_234 : decode b_Ref_action 234 = .ok (.aload_n 0, 1) := by decide +kernel
theorem d_Ref_action_235 : decode b_Ref_action 235 = .ok (.getfield 7, 3) := by decide +kernel
theorem d_Ref_action_238 : decode b_Ref_action 238 = .ok (.iload_n 1, 1) := by decide +kernel
theorem d_Ref_action_239 : decode b_Ref_action 239 = .ok (.iaload, 1) := by decide +kernel
theorem d_Ref_action_240 : decode b_Ref_action 240 = .ok (.ireturn, 1) := by decide +kernel
theorem d_Ref_clear_0 : decode b_Ref_clear 0 = .ok (.aload_n 0, 1) := by decide +kernel
theorem d_Ref_clear_1 : decode b_Ref_clear 1 = .ok (.getfield 133, 3) := by decide +kernel
theorem d_Ref_clear_4 : decode b_Ref_clear 4 = .ok (.istore_n 1, 1) := by decide +kernel
theorem d_Ref_clear_5 : decode b_Ref_clear 5 = .ok (.aload_n 0, 1) := by decide +kernel
theorem d_Ref_clear_6 : decode b_Ref_clear 6 = .ok (.iconst 0, 1) := by decide +kernel
theorem d_Ref_clear_7 : decode b_Ref_clear 7 = .ok (.putfield 133, 3) := by decide +kernel
theorem d_Ref_clear_10 : decode b_Ref_clear 10 = .ok (.aload_n 0, 1) := by decide +kernel
theorem d_Ref_clear_11 : decode b_Ref_clear 11 = .ok (.iconst 0, 1) := by decide +kernel
theorem d_Ref_clear_12 : decode b_Ref_clear 12 = .ok (.putfield 140, 3) := by decide +kernel
theorem d_Ref_clear_15 : decode b_Ref_clear 15 = .ok (.aload_n 0, 1) := by decide +kernel
theorem d_Ref_clear_16 : decode b_Ref_clear 16 = .ok (.invokevirtual 137, 3) := by decide +kernel
theorem d_Ref_clear_19 : decode b_Ref_clear 19 = .ok (.iload_n 1, 1) := by decide +kernel
theorem d_Ref_clear_20 : decode b_Ref_clear 20 = .ok (.ireturn, 1) := by decide +kernel
theorem d_Ref_beginState_0 : decode b_Ref_beginState 0 = .ok (.iconst 0, 1) := by decide +kernel
theorem d_Ref_beginState_1 : decode b_Ref_beginState 1 = .ok (.istore_n 1, 1) := by decide +kernel
theorem d_Ref_beginState_2 : decode b_Ref_beginState 2 = .ok (.iload_n 1, 1) := by decide +kernel
theorem d_Ref_beginState_3 : decode b_Ref_beginState 3 = .ok (.sipush 155, 3) := by decide +kernel
theorem d_Ref_beginState_6 : decode b_Ref_beginState 6 = .ok (.if_icmp .ge 16, 3) := by decide +kernel
theorem d_Ref_beginState_9 : decode b_Ref_beginState 9 = .ok (.aload_n 0, 1) := by decide +kernel
theorem d_Ref_beginState_10 : decode b_Ref_beginState 10 = .ok (.getfield 53, 3) := by decide +kernel
theorem d_Ref_beginState_13 : decode b_Ref_beginState 13 = .ok (.iload_n 1, 1) := by decide +kernel
theorem d_Ref_beginState_14 : decode b_Ref_beginState 14 = .ok (.iconst 0, 1) := by decide +kernel
theorem d_Ref_beginState_15 : decode b_Ref_beginState 15 = .ok (.iastore, 1) := by decide +kernel
theorem d_Ref_beginState_16 : decode b_Ref_beginState 16 = .ok (.iinc 1 1, 3) := by decide +kernel
theorem d_Ref_beginState_19 : decode b_Ref_beginState 19 = .ok (.goto (-17), 3) := by decide +kernel
theorem d_Ref_beginState_22 : decode b_Ref_beginState 22 = .ok (.aload_n 0, 1) := by decide +kernel
theorem d_Ref_beginState_23 : decode b_Ref_beginState 23 = .ok (.getfield 143, 3) := by decide +kernel
theorem d_Ref_beginState_26 : decode b_Ref_beginState 26 = .ok (.iconst 3, 1) := by decide +kernel
theorem d_Ref_beginState_27 : decode b_Ref_beginState 27 = .ok (.if_icmp .ne 89, 3) := by decide +kernel
theorem d_Ref_beginState_30 : decode b_Ref_beginState 30 = .ok (.iconst 0, 1) := by decide +kernel
theorem d_Ref_beginState_31 : decode b_Ref_beginState 31 = .ok (.istore_n 1, 1) := by decide +kernel
theorem d_Ref_beginState_32 : decode b_Ref_beginState 32 = .ok (.iload_n 1, 1) := by decide +kernel
theorem d_Ref_beginState_33 : decode b_Ref_beginState 33 = .ok (.iconst 4, 1) := by decide +kernel
theorem d_Ref_beginState_34 : decode b_Ref_beginState 34 = .ok (.if_icmp .ge 74, 3) := by decide +kernel
theorem d_Ref_beginState_37 : decode b_Ref_beginState 37 = .ok (.aload_n 0, 1) := by decide +kernel
theorem d_Ref_beginState_38 : decode b_Ref_beginState 38 = .ok (.getfield 53, 3) := by decide +kernel
theorem d_Ref_beginState_41 : decode b_Ref_beginState 41 = .ok (.bipush 37, 2) := by decide +kernel
theorem d_Ref_beginState_43 : decode b_Ref_beginState 43 = .ok (.iload_n 1, 1) := by decide +kernel
theorem d_Ref_beginState_44 : decode b_Ref_beginState 44 = .ok (.iadd, 1) := by decide +kernel
theorem d_Ref_beginState_45 : decode b_Ref_beginState 45 = .ok (.iconst 1, 1) := by decide +kernel
theorem d_Ref_beginState_46 : decode b_Ref_beginState 46 = .ok (.iastore, 1) := by decide +kernel
theorem d_Ref_beginState_47 : decode b_Ref_beginState 47 = .ok (.aload_n 0, 1) := by decide +kernel
theorem d_Ref_beginState_48 : decode b_Ref_beginState 48 = .ok (.getfield 53, 3) := by decide +kernel
theorem d_Ref_beginState_51 : decode b_Ref_beginState 51 = .ok (.bipush 41, 2) := by decide +kernel
theorem d_Ref_beginState_53 : decode b_Ref_beginState 53 = .ok (.bipush 8, 2) := by decide +kernel
theorem d_Ref_beginState_55 : decode b_Ref_beginState 55 = .ok (.iload_n 1, 1) := by decide +kernel
theorem d_Ref_beginState_56 : decode b_Ref_beginState 56 = .ok (.imul, 1) := by decide +kernel
theorem d_Ref_beginState_57 : decode b_Ref_beginState 57 = .ok (.iadd, 1) := by decide +kernel
theorem d_Ref_beginState_58 : decode b_Ref_beginState 58 = .ok (.iload_n 1, 1) := by decide +kernel
theorem d_Ref_beginState_59 : decode b_Ref_beginState 59 = .ok (.iastore, 1) := by decide +kernel
theorem d_Ref_beginState_60 : decode b_Ref_beginState 60 = .ok (.iconst 0, 1) := by decide +kernel
theorem d_Ref_beginState_61 : decode b_Ref_beginState 61 = .ok (.istore_n 2, 1) := by decide +kernel
theorem d_Ref_beginState_62 : decode b_Ref_beginState 62 = .ok (.iload_n 2, 1) := by decide +kernel
theorem d_Ref_beginState_63 : decode b_Ref_beginState 63 = .ok (.iconst 4, 1) := by decide +kernel
theorem d_Ref_beginState_64 : decode b_Ref_beginState 64 = .ok (.if_icmp .ge 38, 3) := by decide +kernel
theorem d_Ref_beginState_67 : decode b_Ref_beginState 67 = .ok (.aload_n 0, 1) := by decide +kernel
theorem d_Ref_beginState_68 : decode b_Ref_beginState 68 = .ok (.getfield 53, 3) := by decide +kernel
theorem d_Ref_beginState_71 : decode b_Ref_beginState 71 = .ok (.bipush 95, 2) := by decide +kernel
theorem d_Ref_beginState_73 : decode b_Ref_beginState 73 = .ok (.iconst 4, 1) := by decide +kernel
theorem d_Ref_beginState_74 : decode b_Ref_beginState 74 = .ok (.iload_n 1, 1) := by decide +kernel
theorem d_Ref_beginState_75 : decode b_Ref_beginState 75 = .ok (.imul, 1) := by decide +kernel
theorem d_Ref_beginState_76 : decode b_Ref_beginState 76 = .ok (.iadd, 1) := by decide +kernel
theorem d_Ref_beginState_77 : decode b_Ref_beginState 77 = .ok (.iload_n 2, 1) := by decide +kernel
theorem d_Ref_beginState_78 : decode b_Ref_beginState 78 = .ok (.iadd, 1) := by decide +kernel
theorem d_Ref_beginState_79 : decode b_Ref_beginState 79 = .ok (.iload_n 2, 1) := by decide +kernel
theorem d_Ref_beginState_80 : decode b_Ref_beginState 80 = .ok (.iastore, 1) := by decide +kernel
theorem d_Ref_beginState_81 : decode b_Ref_beginState 81 = .ok (.aload_n 0, 1) := by decide +kernel
theorem d_Ref_beginState_82 : decode b_Ref_beginState 82 = .ok (.getfield 53, 3) := by decide +kernel
theorem d_Ref_beginState_85 : decode b_Ref_beginState 85 = .ok (.sipush 139, 3) := by decide +kernel
theorem d_Ref_beginState_88 : decode b_Ref_beginState 88 = .ok (.iconst 4, 1) := by decide +kernel
theorem d_Ref_beginState_89 : decode b_Ref_beginState 89 = .ok (.iload_n 2, 1) := by decide +kernel
theorem d_Ref_beginState_90 : decode b_Ref_beginState 90 = .ok (.imul, 1) := by decide +kernel
theorem d_Ref_beginState_91 : decode b_Ref_beginState 91 = .ok (.iadd, 1) := by decide +kernel
theorem d_Ref_beginState_92 : decode b_Ref_beginState 92 = .ok (.iload_n 1, 1) := by decide +kernel
theorem d_Ref_beginState_93 : decode b_Ref_beginState 93 = .ok (.iadd, 1) := by decide +kernel
theorem d_Ref_beginState_94 : decode b_Ref_beginState 94 = .ok (.iload_n 1, 1) := by decide +kernel
theorem d_Ref_beginState_95 : decode b_Ref_beginState 95 = .ok (.iastore, 1) := by decide +kernel
theorem d_Ref_beginState_96 : decode b_Ref_beginState 96 = .ok (.iinc 2 1, 3) := by decide +kernel
theorem d_Ref_beginState_99 : decode b_Ref_beginState 99 = .ok (.goto (-37), 3) := by decide +kernel
theorem d_Ref_beginState_102 : decode b_Ref_beginState 102 = .ok (.iinc 1 1, 3) := by decide +kernel
theorem d_Ref_beginState_105 : decode b_Ref_beginState 105 = .ok (.goto (-73), 3) := by decide +kernel
theorem d_Ref_beginState_108 : decode b_Ref_beginState 108 = .ok (.aload_n 0, 1) := by decide +kernel
theorem d_Ref_beginState_109 : decode b_Ref_beginState 109 = .ok (.getfield 53, 3) := by decide +kernel
theorem d_Ref_beginState_112 : decode b_Ref_beginState 112 = .ok (.bipush 15, 2) := by decide +kernel
theorem d_Ref_beginState_114 : decode b_Ref_beginState 114 = .ok (.iconst 4, 1) := by decide +kernel
theorem d_Ref_beginState_115 : decode b_Ref_beginState 115 = .ok (.iastore, 1) := by decide +kernel
theorem d_Ref_beginState_116 : decode b_Ref_beginState 116 = .ok (.return_, 1) := by decide +kernel
theorem d_Ref_keep_0 : decode b_Ref_keep 0 = .ok (.iconst 0, 1) := by decide +kernel
theorem d_Ref_keep_1 : decode b_Ref_keep 1 = .ok (.istore_n 2, 1) := by decide +kernel
theorem d_Ref_keep_2 : decode b_Ref_keep 2 = .ok (.iload_n 2, 1) := by decide +kernel
theorem d_Ref_keep_3 : decode b_Ref_keep 3 = .ok (.aload_n 0, 1) := by decide +kernel
theorem d_Ref_keep_4 : decode b_Ref_keep 4 = .ok (.getfield 146, 3) := by decide +kernel
theorem d_Ref_keep_7 : decode b_Ref_keep 7 = .ok (.if_icmp .ge 27, 3) := by decide +kernel
theorem d_Ref_keep_10 : decode b_Ref_keep 10 = .ok (.aload_n 0, 1) := by decide +kernel
theorem d_Ref_keep_11 : decode b_Ref_keep 11 = .ok (.getfield 56, 3) := by decide +kernel
theorem d_Ref_keep_14 : decode b_Ref_keep 14 = .ok (.sipush 155, 3) := by decide +kernel
theorem d_Ref_keep_17 : decode b_Ref_keep 17 = .ok (.iload_n 1, 1) := by decide +kernel
theorem d_Ref_keep_18 : decode b_Ref_keep 18 = .ok (.imul, 1) := by decide +kernel
theorem d_Ref_keep_19 : decode b_Ref_keep 19 = .ok (.iload_n 2, 1) := by decide +kernel
theorem d_Ref_keep_20 : decode b_Ref_keep 20 = .ok (.iadd, 1) := by decide +kernel
theorem d_Ref_keep_21 : decode b_Ref_keep 21 = .ok (.aload_n 0, 1) := by decide +kernel
theorem d_Ref_keep_22 : decode b_Ref_keep 22 = .ok (.getfield 53, 3) := by decide +kernel
theorem d_Ref_keep_25 : decode b_Ref_keep 25 = .ok (.iload_n 2, 1) := by decide +kernel
theorem d_Ref_keep_26 : decode b_Ref_keep 26 = .ok (.iaload, 1) := by decide +kernel
theorem d_Ref_keep_27 : decode b_Ref_keep 27 = .ok (.iastore, 1) := by decide +kernel
theorem d_Ref_keep_28 : decode b_Ref_keep 28 = .ok (.iinc 2 1, 3) := by decide +kernel
theorem d_Ref_keep_31 : decode b_Ref_keep 31 = .ok (.goto (-29), 3) := by decide +kernel
theorem d_Ref_keep_34 : decode b_Ref_keep 34 = .ok (.return_, 1) := by decide +kernel
theorem d_Ref_bits_0 : decode b_Ref_bits 0 = .ok (.aload_n 0, 1) := by decide +kernel
theorem d_Ref_bits_1 : decode b_Ref_bits 1 = .ok (.getfield 149, 3) := by decide +kernel
theorem d_Ref_bits_4 : decode b_Ref_bits 4 = .ok (.bipush 64, 2) := by decide +kernel
theorem d_Ref_bits_6 : decode b_Ref_bits 6 = .ok (.idiv, 1) := by decide +kernel
theorem d_Ref_bits_7 : decode b_Ref_bits 7 = .ok (.istore 4, 2) := by decide +kernel
theorem d_Ref_bits_9 : decode b_Ref_bits 9 = .ok (.aload_n 0, 1) := by decide +kernel
theorem d_Ref_bits_10 : decode b_Ref_bits 10 = .ok (.getfield 149, 3) := by decide +kernel
theorem d_Ref_bits_13 : decode b_Ref_bits 13 = .ok (.bipush 64, 2) := by decide +kernel
theorem d_Ref_bits_15 : decode b_Ref_bits 15 = .ok (.irem, 1) := by decide +kernel
theorem d_Ref_bits_16 : decode b_Ref_bits 16 = .ok (.istore 5, 2) := by decide +kernel
theorem d_Ref_bits_18 : decode b_Ref_bits 18 = .ok (.aload_n 0, 1) := by decide +kernel
theorem d_Ref_bits_19 : decode b_Ref_bits 19 = .ok (.getfield 75, 3) := by decide +kernel
theorem d_Ref_bits_22 : decode b_Ref_bits 22 = .ok (.iload 4, 2) := by decide +kernel
theorem d_Ref_bits_24 : decode b_Ref_bits 24 = .ok (.dup2, 1) := by decide +kernel
theorem d_Ref_bits_25 : decode b_Ref_bits 25 = .ok (.laload, 1) := by decide +kernel
theorem d_Ref_bits_26 : decode b_Ref_bits 26 = .ok (.lload_n 1, 1) := by decide +kernel
theorem d_Ref_bits_27 : decode b_Ref_bits 27 = .ok (.iload 5, 2) := by decide +kernel
theorem d_Ref_bits_29 : decode b_Ref_bits 29 = .ok (.lshl, 1) := by decide +kernel
theorem d_Ref_bits_30 : decode b_Ref_bits 30 = .ok (.lor, 1) := by decide +kernel
theorem d_Ref_bits_31 : decode b_Ref_bits 31 = .ok (.lastore, 1) := by decide +kernel
theorem d_Ref_bits_32 : decode b_Ref_bits 32 = .ok (.iload 5, 2) := by decide +kernel
theorem d_Ref_bits_34 : decode b_Ref_bits 34 = .ok (.iload_n 3, 1) := by decide +kernel
theorem d_Ref_bits_35 : decode b_Ref_bits 35 = .ok (.iadd, 1) := by decide +kernel
theorem d_Ref_bits_36 : decode b_Ref_bits 36 = .ok (.bipush 64, 2) := by decide +kernel
theorem d_Ref_bits_38 : decode b_Ref_bits 38 = .ok (.if_icmp .le 22, 3) := by decide +kernel
theorem d_Ref_bits_41 : decode b_Ref_bits 41 = .ok (.aload_n 0, 1) := by decide +kernel
theorem d_Ref_bits_42 : decode b_Ref_bits 42 = .ok (.getfield 75, 3) := by decide +kernel
theorem d_Ref_bits_45 : decode b_Ref_bits 45 = .ok (.iload 4, 2) := by decide +kernel
theorem d_Ref_bits_47 : decode b_Ref_bits 47 = .ok (.iconst 1, 1) := by decide +kernel
theorem d_Ref_bits_48 : decode b_Ref_bits 48 = .ok (.iadd, 1) := by decide +kernel
theorem d_Ref_bits_49 : decode b_Ref_bits 49 = .ok (.dup2, 1) := by decide +kernel
theorem d_Ref_bits_50 : decode b_Ref_bits 50 = .ok (.laload, 1) := by decide +kernel
theorem d_Ref_bits_51 : decode b_Ref_bits 51 = .ok (.lload_n 1, 1) := by decide +kernel
theorem d_Ref_bits_52 : decode b_Ref_bits 52 = .ok (.bipush 64, 2) := by decide +kernel
theorem d_Ref_bits_54 : decode b_Ref_bits 54 = .ok (.iload 5, 2) := by decide +kernel
theorem d_Ref_bits_56 : decode b_Ref_bits 56 = .ok (.isub, 1) := by decide +kernel
theorem d_Ref_bits_57 : decode b_Ref_bits 57 = .ok (.lushr, 1) := by decide +kernel
theorem d_Ref_bits_58 : decode b_Ref_bits 58 = .ok (.lor, 1) := by decide +kernel
theorem d_Ref_bits_59 : decode b_Ref_bits 59 = .ok (.lastore, 1) := by decide +kernel
theorem d_Ref_bits_60 : decode b_Ref_bits 60 = .ok (.aload_n 0, 1) := by decide +kernel
theorem d_Ref_bits_61 : decode b_Ref_bits 61 = .ok (.dup, 1) := by decide +kernel
theorem d_Ref_bits_62 : decode b_Ref_bits 62 = .ok (.getfield 149, 3) := by decide +kernel
theorem d_Ref_bits_65 : decode b_Ref_bits 65 = .ok (.iload_n 3, 1) := by decide +kernel
theorem d_Ref_bits_66 : decode b_Ref_bits 66 = .ok (.iadd, 1) := by decide +kernel
theorem d_Ref_bits_67 : decode b_Ref_bits 67 = .ok (.putfield 149, 3) := by decide +kernel
theorem d_Ref_bits_70 : decode b_Ref_bits 70 = .ok (.return_, 1) := by decide +kernel
theorem d_Ref_encode_0 : decode b_Ref_encode 0 = .ok (.iconst 0, 1) := by decide +kernel
theorem d_Ref_encode_1 : decode b_Ref_encode 1 = .ok (.istore_n 1, 1) := by decide +kernel
theorem d_Ref_encode_2 : decode b_Ref_encode 2 = .ok (.iload_n 1, 1) := by decide +kernel
theorem d_Ref_encode_3 : decode b_Ref_encode 3 = .ok (.iconst 5, 1) := by decide +kernel
theorem d_Ref_encode_4 : decode b_Ref_encode 4 = .ok (.if_icmp .ge 16, 3) := by decide +kernel
theorem d_Ref_encode_7 : decode b_Ref_encode 7 = .ok (.aload_n 0, 1) := by decide +kernel
theorem d_Ref_encode_8 : decode b_Ref_encode 8 = .ok (.getfield 75, 3) := by decide +kernel
theorem d_Ref_encode_11 : decode b_Ref_encode 11 = .ok (.iload_n 1, 1) := by decide +kernel
theorem d_Ref_encode_12 : decode b_Ref_encode 12 = .ok (.lconst 0, 1) := by decide +kernel
theorem d_Ref_encode_13 : decode b_Ref_encode 13 = .ok (.lastore, 1) := by decide +kernel
theorem d_Ref_encode_14 : decode b_Ref_encode 14 = .ok (.iinc 1 1, 3) := by decide +kernel
theorem d_Ref_encode_17 : decode b_Ref_encode 17 = .ok (.goto (-15), 3) := by decide +kernel
theorem d_Ref_encode_20 : decode b_Ref_encode 20 = .ok (.aload_n 0, 1) := by decide +kernel
theorem d_Ref_encode_21 : decode b_Ref_encode 21 = .ok (.iconst 0, 1) := by decide +kernel
theorem d_Ref_encode_22 : decode b_Ref_encode 22 = .ok (.putfield 149, 3) := by decide +kernel
theorem d_Ref_encode_25 : decode b_Ref_encode 25 = .ok (.iconst 0, 1) := by decide +kernel
theorem d_Ref_encode_26 : decode b_Ref_encode 26 = .ok (.istore_n 1, 1) := by decide +kernel
theorem d_Ref_encode_27 : decode b_Ref_encode 27 = .ok (.iload_n 1, 1) := by decide +kernel
theorem d_Ref_encode_28 : decode b_Ref_encode 28 = .ok (.iconst 4, 1) := by decide +kernel
theorem d_Ref_encode_29 : decode b_Ref_encode 29 = .ok (.if_icmp .ge 21, 3) := by decide +kernel
theorem d_Ref_encode_32 : decode b_Ref_encode 32 = .ok (.aload_n 0, 1) := by decide +kernel
theorem d_Ref_encode_33 : decode b_Ref_encode 33 = .ok (.aload_n 0, 1) := by decide +kernel
theorem d_Ref_encode_34 : decode b_Ref_encode 34 = .ok (.getfield 53, 3) := by decide +kernel
theorem d_Ref_encode_37 : decode b_Ref_encode 37 = .ok (.iload_n 1, 1) := by decide +kernel
theorem d_Ref_encode_38 : decode b_Ref_encode 38 = .ok (.iaload, 1) := by decide +kernel
theorem d_Ref_encode_39 : decode b_Ref_encode 39 = .ok (.i2l, 1) := by decide +kernel
theorem d_Ref_encode_40 : decode b_Ref_encode 40 = .ok (.iconst 3, 1) := by decide +kernel
theorem d_Ref_encode_41 : decode b_Ref_encode 41 = .ok (.invokevirtual 152, 3) := by decide +kernel
theorem d_Ref_encode_44 : decode b_Ref_encode 44 = .ok (.iinc 1 1, 3) := by decide +kernel
theorem d_Ref_encode_47 : decode b_Ref_encode 47 = .ok (.goto (-20), 3) := by decide +kernel
theorem d_Ref_encode_50 : decode b_Ref_encode 50 = .ok (.iconst 0, 1) := by decide +kernel
theorem d_Ref_encode_51 : decode b_Ref_encode 51 = .ok (.istore_n 1, 1) := by decide +kernel
theorem d_Ref_encode_52 : decode b_Ref_encode 52 = .ok (.iload_n 1, 1) := by decide +kernel
theorem d_Ref_encode_53 : decode b_Ref_encode 53 = .ok (.bipush 8, 2) := by decide +kernel
theorem d_Ref_encode_55 : decode b_Ref_encode 55 = .ok (.if_icmp .ge 27, 3) := by decide +kernel
theorem d_Ref_encode_58 : decode b_Ref_encode 58 = .ok (.aload_n 0, 1) := by decide +kernel
theorem d_Ref_encode_59 : decode b_Ref_encode 59 = .ok (.aload_n 0, 1) := by decide +kernel
theorem d_Ref_encode_60 : decode b_Ref_encode 60 = .ok (.getfield 53, 3) := by decide +kernel
theorem d_Ref_encode_63 : decode b_Ref_encode 63 = .ok (.iconst 4, 1) := by decide +kernel
theorem d_Ref_encode_64 : decode b_Ref_encode 64 = .ok (.iload_n 1, 1) := by decide +kernel
theorem d_Ref_encode_65 : decode b_Ref_encode 65 = .ok (.iadd, 1) := by decide +kernel
theorem d_Ref_encode_66 : decode b_Ref_encode 66 = .ok (.iaload, 1) := by decide +kernel
theorem d_Ref_encode_67 : decode b_Ref_encode 67 = .ok (.bipush 64, 2) := by decide +kernel
theorem d_Ref_encode_69 : decode b_Ref_encode 69 = .ok (.iadd, 1) := by decide +kernel
theorem d_Ref_encode_70 : decode b_Ref_encode 70 = .ok (.i2l, 1) := by decide +kernel
theorem d_Ref_encode_71 : decode b_Ref_encode 71 = .ok (.bipush 7, 2) := by decide +kernel
theorem d_Ref_encode_73 : decode b_Ref_encode 73 = .ok (.invokevirtual 152, 3) := by decide +kernel
theorem d_Ref_encode_76 : decode b_Ref_encode 76 = .ok (.iinc 1 1, 3) := by decide +kernel
theorem d_Ref_encode_79 : decode b_Ref_encode 79 = .ok (.goto (-27), 3) := by decide +kernel
theorem d_Ref_encode_82 : decode b_Ref_encode 82 = .ok (.aload_n 0, 1) := by decide +kernel
theorem d_Ref_encode_83 : decode b_Ref_encode 83 = .ok (.getfield 143, 3) := by decide +kernel
theorem d_Ref_encode_86 : decode b_Ref_encode 86 = .ok (.iconst 3, 1) := by decide +kernel
theorem d_Ref_encode_87 : decode b_Ref_encode 87 = .ok (.if_icmp .ne 8, 3) := by decide +kernel
theorem d_Ref_encode_90 : decode b_Ref_encode 90 = .ok (.aload_n 0, 1) := by decide +kernel
theorem d_Ref_encode_91 : decode b_Ref_encode 91 = .ok (.invokevirtual 156, 3) := by decide +kernel
theorem d_Ref_encode_94 : decode b_Ref_encode 94 = .ok (.return_, 1) := by decide +kernel
theorem d_Ref_encode_95 : decode b_Ref_encode 95 = .ok (.iconst 0, 1) := by decide +kernel
theorem d_Ref_encode_96 : decode b_Ref_encode 96 = .ok (.istore_n 1, 1) := by decide +kernel
theorem d_Ref_encode_97 : decode b_Ref_encode 97 = .ok (.iload_n 1, 1) := by decide +kernel
theorem d_Ref_encode_98 : decode b_Ref_encode 98 = .ok (.iconst 3, 1) := by decide +kernel
theorem d_Ref_encode_99 : decode b_Ref_encode 99 = .ok (.if_icmp .ge 28, 3) := by decide +kernel
theorem d_Ref_encode_102 : decode b_Ref_encode 102 = .ok (.aload_n 0, 1) := by decide +kernel
theorem d_Ref_encode_103 : decode b_Ref_encode 103 = .ok (.aload_n 0, 1) := by decide +kernel
theorem d_Ref_encode_104 : decode b_Ref_encode 104 = .ok (.getfield 53, 3) := by decide +kernel
theorem d_Ref_encode_107 : decode b_Ref_encode 107 = .ok (.bipush 12, 2) := by decide +kernel
theorem d_Ref_encode_109 : decode b_Ref_encode 109 = .ok (.iload_n 1, 1) := by decide +kernel
theorem d_Ref_encode_110 : decode b_Ref_encode 110 = .ok (.iadd, 1) := by decide +kernel
theorem d_Ref_encode_111 : decode b_Ref_encode 111 = .ok (.iaload, 1) := by decide +kernel
theorem d_Ref_encode_112 : decode b_Ref_encode 112 = .ok (.bipush 64, 2) := by decide +kernel
theorem d_Ref_encode_114 : decode b_Ref_encode 114 = .ok (.iadd, 1) := by decide +kernel
theorem d_Ref_encode_115 : decode b_Ref_encode 115 = .ok (.i2l, 1) := by decide +kernel
theorem d_Ref_encode_116 : decode b_Ref_encode 116 = .ok (.bipush 7, 2) := by decide +kernel
theorem d_Ref_encode_118 : decode b_Ref_encode 118 = .ok (.invokevirtual 152, 3) := by decide +kernel
theorem d_Ref_encode_121 : decode b_Ref_encode 121 = .ok (.iinc 1 1, 3) := by decide +kernel
theorem d_Ref_encode_124 : decode b_Ref_encode 124 = .ok (.goto (-27), 3) := by decide +kernel
theorem d_Ref_encode_127 : decode b_Ref_encode 127 = .ok (.iconst 0, 1) := by decide +kernel
theorem d_Ref_encode_128 : decode b_Ref_encode 128 = .ok (.istore_n 1, 1) := by decide +kernel
theorem d_Ref_encode_129 : decode b_Ref_encode 129 = .ok (.iload_n 1, 1) := by decide +kernel
theorem d_Ref_encode_130 : decode b_Ref_encode 130 = .ok (.iconst 4, 1) := by decide +kernel
theorem d_Ref_encode_131 : decode b_Ref_encode 131 = .ok (.if_icmp .ge 182, 3) := by decide +kernel
theorem d_Ref_encode_134 : decode b_Ref_encode 134 = .ok (.aload_n 0, 1) := by decide +kernel
theorem d_Ref_encode_135 : decode b_Ref_encode 135 = .ok (.getfield 143, 3) := by decide +kernel
theorem d_Ref_encode_138 : decode b_Ref_encode 138 = .ok (.ifCond .le 175, 3) := by decide +kernel
theorem d_Ref_encode_141 : decode b_Ref_encode 141 = .ok (.aload_n 0, 1) := by decide +kernel
theorem d_Ref_encode_142 : decode b_Ref_encode 142 = .ok (.getfield 143, 3) := by decide +kernel
theorem d_Ref_encode_145 : decode b_Ref_encode 145 = .ok (.iconst 1, 1) := by decide +kernel
theorem d_Ref_encode_146 : decode b_Ref_encode 146 = .ok (.if_icmp .ne 7, 3) := by decide +kernel
theorem d_Ref_encode_149 : decode b_Ref_encode 149 = .ok (.iconst (-1), 1) := by decide +kernel
theorem d_Ref_encode_150 : decode b_Ref_encode 150 = .ok (.goto 4, 3) := by decide +kernel
theorem d_Ref_encode_153 : decode b_Ref_encode 153 = .ok (.iconst 0, 1) := by decide +kernel
theorem d_Ref_encode_154 : decode b_Ref_encode 154 = .ok (.istore_n 2, 1) := by decide +kernel
theorem d_Ref_encode_155 : decode b_Ref_encode 155 = .ok (.aload_n 0, 1) := by decide +kernel
theorem d_Ref_encode_156 : decode b_Ref_encode 156 = .ok (.getfield 143, 3) := by decide +kernel
theorem d_Ref_encode_159 : decode b_Ref_encode 159 = .ok (.iconst 1, 1) := by decide +kernel
theorem d_Ref_encode_160 : decode b_Ref_encode 160 = .ok (.if_icmp .ne 7, 3) := by decide +kernel
theorem d_Ref_encode_163 : decode b_Ref_encode 163 = .ok (.iconst (-1), 1) := by decide +kernel
theorem d_Ref_encode_164 : decode b_Ref_encode 164 = .ok (.goto 4, 3) := by decide +kernel
theorem d_Ref_encode_167 : decode b_Ref_encode 167 = .ok (.iconst 2, 1) := by decide +kernel
theorem d_Ref_encode_168 : decode b_Ref_encode 168 = .ok (.istore_n 3, 1) := by decide +kernel
theorem d_Ref_encode_169 : decode b_Ref_encode 169 = .ok (.iload_n 2, 1) := by decide +kernel
theorem d_Ref_encode_170 : decode b_Ref_encode 170 = .ok (.istore 4, 2) := by decide +kernel
theorem d_Ref_encode_172 : decode b_Ref_encode 172 = .ok (.iload 4, 2) := by decide +kernel
theorem d_Ref_encode_174 : decode b_Ref_encode 174 = .ok (.iload_n 3, 1) := by decide +kernel
theorem d_Ref_encode_175 : decode b_Ref_encode 175 = .ok (.if_icmp .gt 132, 3) := by decide +kernel
theorem d_Ref_encode_178 : decode b_Ref_encode 178 = .ok (.iconst 0, 1) := by decide +kernel
theorem d_Ref_encode_179 : decode b_Ref_encode 179 = .ok (.istore 5, 2) := by decide +kernel
theorem d_Ref_encode_181 : decode b_Ref_encode 181 = .ok (.iconst 0, 1) := by decide +kernel
theorem d_Ref_encode_182 : decode b_Ref_encode 182 = .ok (.istore 6, 2) := by decide +kernel
theorem d_Ref_encode_184 : decode b_Ref_encode 184 = .ok (.iload 6, 2) := by decide +kernel
theorem d_Ref_encode_186 : decode b_Ref_encode 186 = .ok (.aload_n 0, 1) := by decide +kernel
theorem d_Ref_encode_187 : decode b_Ref_encode 187 = .ok (.getfield 53, 3) := by decide +kernel
theorem d_Ref_encode_190 : decode b_Ref_encode 190 = .ok (.bipush 15, 2) := by decide +kernel
theorem d_Ref_encode_192 : decode b_Ref_encode 192 = .ok (.iaload, 1) := by decide +kernel
theorem d_Ref_encode_193 : decode b_Ref_encode 193 = .ok (.if_icmp .ge 31, 3) := by decide +kernel
theorem d_Ref_encode_196 : decode b_Ref_encode 196 = .ok (.iload 5, 2) := by decide +kernel
theorem d_Ref_encode_198 : decode b_Ref_encode 198 = .ok (.aload_n 0, 1) := by decide +kernel
theorem d_Ref_encode_199 : decode b_Ref_encode 199 = .ok (.iload 6, 2) := by decide +kernel
theorem d_Ref_encode_201 : decode b_Ref_encode 201 = .ok (.iload_n 1, 1) := by decide +kernel
theorem d_Ref_encode_202 : decode b_Ref_encode 202 = .ok (.iload 4, 2) := by decide +kernel
theorem d_Ref_encode_204 : decode b_Ref_encode 204 = .ok (.invokevirtual 159, 3) := by decide +kernel
theorem d_Ref_encode_207 : decode b_Ref_encode 207 = .ok (.ifCond .eq 7, 3) := by decide +kernel
theorem d_Ref_encode_210 : decode b_Ref_encode 210 = .ok (.iconst 1, 1) := by decide +kernel
theorem d_Ref_encode_211 : decode b_Ref_encode 211 = .ok (.goto 4, 3) := by decide +kernel
theorem d_Ref_encode_214 : decode b_Ref_encode 214 = .ok (.iconst 0, 1) := by decide +kernel
theorem d_Ref_encode_215 : decode b_Ref_encode 215 = .ok (.iadd, 1) := by decide +kernel
theorem d_Ref_encode_216 : decode b_Ref_encode 216 = .ok (.istore 5, 2) := by decide +kernel
theorem d_Ref_encode_218 : decode b_Ref_encode 218 = .ok (.iinc 6 1, 3) := by decide +kernel
theorem d_Ref_encode_221 : decode b_Ref_encode 221 = .ok (.goto (-37), 3) := by decide +kernel
theorem d_Ref_encode_224 : decode b_Ref_encode 224 = .ok (.aload_n 0, 1) := by decide +kernel
theorem d_Ref_encode_225 : decode b_Ref_encode 225 = .ok (.iload 5, 2) := by decide +kernel
theorem d_Ref_encode_227 : decode b_Ref_encode 227 = .ok (.i2l, 1) := by decide +kernel
theorem d_Ref_encode_228 : decode b_Ref_encode 228 = .ok (.iconst 3, 1) := by decide +kernel
theorem d_Ref_encode_229 : decode b_Ref_encode 229 = .ok (.invokevirtual 152, 3) := by decide +kernel
theorem d_Ref_encode_232 : decode b_Ref_encode 232 = .ok (.iconst 0, 1) := by decide +kernel
theorem d_Ref_encode_233 : decode b_Ref_encode 233 = .ok (.istore 6, 2) := by decide +kernel
theorem d_Ref_encode_235 : decode b_Ref_encode 235 = .ok (.iload 6, 2) := by decide +kernel
theorem d_Ref_encode_237 : decode b_Ref_encode 237 = .ok (.aload_n 0, 1) := by decide +kernel
theorem d_Ref_encode_238 : decode b_Ref_encode 238 = .ok (.getfield 53, 3) := by decide +kernel
theorem d_Ref_encode_241 : decode b_Ref_encode 241 = .ok (.bipush 15, 2) := by decide +kernel
theorem d_Ref_encode_243 : decode b_Ref_encode 243 = .ok (.iaload, 1) := by decide +kernel
theorem d_Ref_encode_244 : decode b_Ref_encode 244 = .ok (.if_icmp .ge 57, 3) := by decide +kernel
theorem d_Ref_encode_247 : decode b_Ref_encode 247 = .ok (.aload_n 0, 1) := by decide +kernel
theorem d_Ref_encode_248 : decode b_Ref_encode 248 = .ok (.iload 6, 2) := by decide +kernel
theorem d_Ref_encode_250 : decode b_Ref_encode 250 = .ok (.iload_n 1, 1) := by decide +kernel
theorem d_Ref_encode_251 : decode b_Ref_encode 251 = .ok (.iload 4, 2) := by decide +kernel
theorem d_Ref_encode_253 : decode b_Ref_encode 253 = .ok (.invokevirtual 159, 3) := by decide +kernel
theorem d_Ref_encode_256 : decode b_Ref_encode 256 = .ok (.ifCond .eq 39, 3) := by decide +kernel
theorem d_Ref_encode_259 : decode b_Ref_encode 259 = .ok (.aload_n 0, 1) := by decide +kernel
theorem d_Ref_encode_260 : decode b_Ref_encode 260 = .ok (.aload_n 0, 1) := by decide +kernel
theorem d_Ref_encode_261 : decode b_Ref_encode 261 = .ok (.getfield 53, 3) := by decide +kernel
theorem d_Ref_encode_264 : decode b_Ref_encode 264 = .ok (.bipush 23, 2) := by decide +kernel
theorem d_Ref_encode_266 : decode b_Ref_encode 266 = .ok (.iload 6, 2) := by decide +kernel
theorem d_Ref_encode_268 : decode b_Ref_encode 268 = .ok (.iadd, 1) := by decide +kernel
theorem d_Ref_encode_269 : decode b_Ref_encode 269 = .ok (.iaload, 1) := by decide +kernel
theorem d_Ref_encode_270 : decode b_Ref_encode 270 = .ok (.i2l, 1) := by decide +kernel
theorem d_Ref_encode_271 : decode b_Ref_encode 271 = .ok (.iconst 2, 1) := by decide +kernel
theorem d_Ref_encode_272 : decode b_Ref_encode 272 = .ok (.invokevirtual 152, 3) := by decide +kernel
theorem d_Ref_encode_275 : decode b_Ref_encode 275 = .ok (.aload_n 0, 1) := by decide +kernel
theorem d_Ref_encode_276 : decode b_Ref_encode 276 = .ok (.aload_n 0, 1) := by decide +kernel
theorem d_Ref_encode_277 : decode b_Ref_encode 277 = .ok (.getfield 53, 3) := by decide +kernel
theorem d_Ref_encode_280 : decode b_Ref_encode 280 = .ok (.bipush 30, 2) := by decide +kernel
theorem d_Ref_encode_282 : decode b_Ref_encode 282 = .ok (.iload 6, 2) := by decide +kernel
theorem d_Ref_encode_284 : decode b_Ref_encode 284 = .ok (.iadd, 1) := by decide +kernel
theorem d_Ref_encode_285 : decode b_Ref_encode 285 = .ok (.iaload, 1) := by decide +kernel
theorem d_Ref_encode_286 : decode b_Ref_encode 286 = .ok (.bipush 64, 2) := by decide +kernel
theorem d_Ref_encode_288 : decode b_Ref_encode 288 = .ok (.iadd, 1) := by decide +kernel
theorem d_Ref_encode_289 : decode b_Ref_encode 289 = .ok (.i2l, 1) := by decide +kernel
theorem d_Ref_encode_290 : decode b_Ref_encode 290 = .ok (.bipush 7, 2) := by decide +kernel
theorem d_Ref_encode_292 : decode b_Ref_encode 292 = .ok (.invokevirtual 152, 3) := by decide +kernel
theorem d_Ref_encode_295 : decode b_Ref_encode 295 = .ok (.iinc 6 1, 3) := by decide +kernel
theorem d_Ref_encode_298 : decode b_Ref_encode 298 = .ok (.goto (-63), 3) := by decide +kernel
theorem d_Ref_encode_301 : decode b_Ref_encode 301 = .ok (.iinc 4 1, 3) := by decide +kernel
theorem d_Ref_encode_304 : decode b_Ref_encode 304 = .ok (.goto (-132), 3) := by decide +kernel
theorem d_Ref_encode_307 : decode b_Ref_encode 307 = .ok (.iinc 1 1, 3) := by decide +kernel
theorem d_Ref_encode_310 : decode b_Ref_encode 310 = .ok (.goto (-181), 3) := by decide +kernel
theorem d_Ref_encode_313 : decode b_Ref_encode 313 = .ok (.return_, 1) := by decide +kernel
theorem d_Ref_encodeRows_0 : decode b_Ref_encodeRows 0 = .ok (.iconst 0, 1) := by decide +kernel
theorem d_Ref_encodeRows_1 : decode b_Ref_encodeRows 1 = .ok (.istore_n 1, 1) := by decide +kernel
theorem d_Ref_encodeRows_2 : decode b_Ref_encodeRows 2 = .ok (.iload_n 1, 1) := by decide +kernel
theorem d_Ref_encodeRows_3 : decode b_Ref_encodeRows 3 = .ok (.iconst 4, 1) := by decide +kernel
theorem d_Ref_encodeRows_4 : decode b_Ref_encodeRows 4 = .ok (.if_icmp .ge 176, 3) := by decide +kernel
theorem d_Ref_encodeRows_7 : decode b_Ref_encodeRows 7 = .ok (.aload_n 0, 1) := by decide +kernel
theorem d_Ref_encodeRows_8 : decode b_Ref_encodeRows 8 = .ok (.aload_n 0, 1) := by decide +kernel
theorem d_Ref_encodeRows_9 : decode b_Ref_encodeRows 9 = .ok (.getfield 53, 3) := by decide +kernel
theorem d_Ref_encodeRows_12 : decode b_Ref_encodeRows 12 = .ok (.bipush 37, 2) := by decide +kernel
theorem d_Ref_encodeRows_14 : decode b_Ref_encodeRows 14 = .ok (.iload_n 1, 1) := by decide +kernel
theorem d_Ref_encodeRows_15 : decode b_Ref_encodeRows 15 = .ok (.iadd, 1) := by decide +kernel
theorem d_Ref_encodeRows_16 : decode b_Ref_encodeRows 16 = .ok (.iaload, 1) := by decide +kernel
theorem d_Ref_encodeRows_17 : decode b_Ref_encodeRows 17 = .ok (.i2l, 1) := by decide +kernel
theorem d_Ref_encodeRows_18 : decode b_Ref_encodeRows 18 = .ok (.iconst 4, 1) := by decide +kernel
theorem d_Ref_encodeRows_19 : decode b_Ref_encodeRows 19 = .ok (.invokevirtual 152, 3) := by decide +kernel
theorem d_Ref_encodeRows_22 : decode b_Ref_encodeRows 22 = .ok (.iconst 1, 1) := by decide +kernel
theorem d_Ref_encodeRows_23 : decode b_Ref_encodeRows 23 = .ok (.istore_n 2, 1) := by decide +kernel
theorem d_Ref_encodeRows_24 : decode b_Ref_encodeRows 24 = .ok (.iload_n 2, 1) := by decide +kernel
theorem d_Ref_encodeRows_25 : decode b_Ref_encodeRows 25 = .ok (.aload_n 0, 1) := by decide +kernel
theorem d_Ref_encodeRows_26 : decode b_Ref_encodeRows 26 = .ok (.getfield 53, 3) := by decide +kernel
theorem d_Ref_encodeRows_29 : decode b_Ref_encodeRows 29 = .ok (.bipush 37, 2) := by decide +kernel
theorem d_Ref_encodeRows_31 : decode b_Ref_encodeRows 31 = .ok (.iload_n 1, 1) := by decide +kernel
theorem d_Ref_encodeRows_32 : decode b_Ref_encodeRows 32 = .ok (.iadd, 1) := by decide +kernel
theorem d_Ref_encodeRows_33 : decode b_Ref_encodeRows 33 = .ok (.iaload, 1) := by decide +kernel
theorem d_Ref_encodeRows_34 : decode b_Ref_encodeRows 34 = .ok (.if_icmp .ge 99, 3) := by decide +kernel
theorem d_Ref_encodeRows_37 : decode b_Ref_encodeRows 37 = .ok (.aload_n 0, 1) := by decide +kernel
theorem d_Ref_encodeRows_38 : decode b_Ref_encodeRows 38 = .ok (.getfield 53, 3) := by decide +kernel
theorem d_Ref_encodeRows_41 : decode b_Ref_encodeRows 41 = .ok (.bipush 41, 2) := by decide +kernel
theorem d_Ref_encodeRows_43 : decode b_Ref_encodeRows 43 = .ok (.bipush 8, 2) := by decide +kernel
theorem d_Ref_encodeRows_45 : decode b_Ref_encodeRows 45 = .ok (.iload_n 1, 1) := by decide +kernel
theorem d_Ref_encodeRows_46 : decode b_Ref_encodeRows 46 = .ok (.imul, 1) := by decide +kernel
theorem d_Ref_encodeRows_47 : decode b_Ref_encodeRows 47 = .ok (.iadd, 1) := by decide +kernel
theorem d_Ref_encodeRows_48 : decode b_Ref_encodeRows 48 = .ok (.iload_n 2, 1) := by decide +kernel
theorem d_Ref_encodeRows_49 : decode b_Ref_encodeRows 49 = .ok (.iadd, 1) := by decide +kernel
theorem d_Ref_encodeRows_50 : decode b_Ref_encodeRows 50 = .ok (.iaload, 1) := by decide +kernel
theorem d_Ref_encodeRows_51 : decode b_Ref_encodeRows 51 = .ok (.istore_n 3, 1) := by decide +kernel
theorem d_Ref_encodeRows_52 : decode b_Ref_encodeRows 52 = .ok (.aload_n 0, 1) := by decide +kernel
theorem d_Ref_encodeRows_53 : decode b_Ref_encodeRows 53 = .ok (.aload_n 0, 1) := by decide +kernel
theorem d_Ref_encodeRows_54 : decode b_Ref_encodeRows 54 = .ok (.getfield 53, 3) := by decide +kernel
theorem d_Ref_encodeRows_57 : decode b_Ref_encodeRows 57 = .ok (.bipush 73, 2) := by decide +kernel
theorem d_Ref_encodeRows_59 : decode b_Ref_encodeRows 59 = .ok (.iload_n 3, 1) := by decide +kernel
theorem d_Ref_encodeRows_60 : decode b_Ref_encodeRows 60 = .ok (.iadd, 1) := by decide +kernel
theorem d_Ref_encodeRows_61 : decode b_Ref_encodeRows 61 = .ok (.iaload, 1) := by decide +kernel
theorem d_Ref_encodeRows_62 : decode b_Ref_encodeRows 62 = .ok (.bipush 64, 2) := by decide +kernel
theorem d_Ref_encodeRows_64 : decode b_Ref_encodeRows 64 = .ok (.iadd, 1) := by decide +kernel
theorem d_Ref_encodeRows_65 : decode b_Ref_encodeRows 65 = .ok (.i2l, 1) := by decide +kernel
theorem d_Ref_encodeRows_66 : decode b_Ref_encodeRows 66 = .ok (.bipush 7, 2) := by decide +kernel
theorem d_Ref_encodeRows_68 : decode b_Ref_encodeRows 68 = .ok (.invokevirtual 152, 3) := by decide +kernel
theorem d_Ref_encodeRows_71 : decode b_Ref_encodeRows 71 = .ok (.aload_n 0, 1) := by decide +kernel
theorem d_Ref_encodeRows_72 : decode b_Ref_encodeRows 72 = .ok (.aload_n 0, 1) := by decide +kernel
theorem d_Ref_encodeRows_73 : decode b_Ref_encodeRows 73 = .ok (.getfield 53, 3) := by decide +kernel
theorem d_Ref_encodeRows_76 : decode b_Ref_encodeRows 76 = .ok (.bipush 84, 2) := by decide +kernel
theorem d_Ref_encodeRows_78 : decode b_Ref_encodeRows 78 = .ok (.iload_n 3, 1) := by decide +kernel
theorem d_Ref_encodeRows_79 : decode b_Ref_encodeRows 79 = .ok (.iadd, 1) := by decide +kernel
theorem d_Ref_encodeRows_80 : decode b_Ref_encodeRows 80 = .ok (.iaload, 1) := by decide +kernel
theorem d_Ref_encodeRows_81 : decode b_Ref_encodeRows 81 = .ok (.i2l, 1) := by decide +kernel
theorem d_Ref_encodeRows_82 : decode b_Ref_encodeRows 82 = .ok (.iconst 1, 1) := by decide +kernel
theorem d_Ref_encodeRows_83 : decode b_Ref_encodeRows 83 = .ok (.invokevirtual 152, 3) := by decide +kernel
theorem d_Ref_encodeRows_86 : decode b_Ref_encodeRows 86 = .ok (.iconst 0, 1) := by decide +kernel
theorem d_Ref_encodeRows_87 : decode b_Ref_encodeRows 87 = .ok (.istore 4, 2) := by decide +kernel
theorem d_Ref_encodeRows_89 : decode b_Ref_encodeRows 89 = .ok (.iload 4, 2) := by decide +kernel
theorem d_Ref_encodeRows_91 : decode b_Ref_encodeRows 91 = .ok (.iconst 4, 1) := by decide +kernel
theorem d_Ref_encodeRows_92 : decode b_Ref_encodeRows 92 = .ok (.if_icmp .ge 35, 3) := by decide +kernel
theorem d_Ref_encodeRows_95 : decode b_Ref_encodeRows 95 = .ok (.aload_n 0, 1) := by decide +kernel
theorem d_Ref_encodeRows_96 : decode b_Ref_encodeRows 96 = .ok (.aload_n 0, 1) := by decide +kernel
theorem d_Ref_encodeRows_97 : decode b_Ref_encodeRows 97 = .ok (.iload 4, 2) := by decide +kernel
theorem d_Ref_encodeRows_99 : decode b_Ref_encodeRows 99 = .ok (.aload_n 0, 1) := by decide +kernel
theorem d_Ref_encodeRows_100 : decode b_Ref_encodeRows 100 = .ok (.getfield 53, 3) := by decide +kernel
theorem d_Ref_encodeRows_103 : decode b_Ref_encodeRows 103 = .ok (.bipush 95, 2) := by decide +kernel
theorem d_Ref_encodeRows_105 : decode b_Ref_encodeRows 105 = .ok (.iconst 4, 1) := by decide +kernel
theorem d_Ref_encodeRows_106 : decode b_Ref_encodeRows 106 = .ok (.iload_n 3, 1) := by decide +kernel
theorem d_Ref_encodeRows_107 : decode b_Ref_encodeRows 107 = .ok (.imul, 1) := by decide +kernel
theorem d_Ref_encodeRows_108 : decode b_Ref_encodeRows 108 = .ok (.iadd, 1) := by decide +kernel
theorem d_Ref_encodeRows_109 : decode b_Ref_encodeRows 109 = .ok (.iload 4, 2) := by decide +kernel
theorem d_Ref_encodeRows_111 : decode b_Ref_encodeRows 111 = .ok (.iadd, 1) := by decide +kernel
theorem d_Ref_encodeRows_112 : decode b_Ref_encodeRows 112 = .ok (.iaload, 1) := by decide +kernel
theorem d_Ref_encodeRows_113 : decode b_Ref_encodeRows 113 = .ok (.invokevirtual 163, 3) := by decide +kernel
theorem d_Ref_encodeRows_116 : decode b_Ref_encodeRows 116 = .ok (.i2l, 1) := by decide +kernel
theorem d_Ref_encodeRows_117 : decode b_Ref_encodeRows 117 = .ok (.iconst 3, 1) := by decide +kernel
theorem d_Ref_encodeRows_118 : decode b_Ref_encodeRows 118 = .ok (.invokevirtual 152, 3) := by decide +kernel
theorem d_Ref_encodeRows_121 : decode b_Ref_encodeRows 121 = .ok (.iinc 4 1, 3) := by decide +kernel
theorem d_Ref_encodeRows_124 : decode b_Ref_encodeRows 124 = .ok (.goto (-35), 3) := by decide +kernel
theorem d_Ref_encodeRows_127 : decode b_Ref_encodeRows 127 = .ok (.iinc 2 1, 3) := by decide +kernel
theorem d_Ref_encodeRows_130 : decode b_Ref_encodeRows 130 = .ok (.goto (-106), 3) := by decide +kernel
theorem d_Ref_encodeRows_133 : decode b_Ref_encodeRows 133 = .ok (.iconst 0, 1) := by decide +kernel
theorem d_Ref_encodeRows_134 : decode b_Ref_encodeRows 134 = .ok (.istore_n 2, 1) := by decide +kernel
theorem d_Ref_encodeRows_135 : decode b_Ref_encodeRows 135 = .ok (.iload_n 2, 1) := by decide +kernel
theorem d_Ref_encodeRows_136 : decode b_Ref_encodeRows 136 = .ok (.aload_n 0, 1) := by decide +kernel
theorem d_Ref_encodeRows_137 : decode b_Ref_encodeRows 137 = .ok (.getfield 133, 3) := by decide +kernel
theorem d_Ref_encodeRows_140 : decode b_Ref_encodeRows 140 = .ok (.if_icmp .ge 34, 3) := by decide +kernel
theorem d_Ref_encodeRows_143 : decode b_Ref_encodeRows 143 = .ok (.aload_n 0, 1) := by decide +kernel
theorem d_Ref_encodeRows_144 : decode b_Ref_encodeRows 144 = .ok (.aload_n 0, 1) := by decide +kernel
theorem d_Ref_encodeRows_145 : decode b_Ref_encodeRows 145 = .ok (.iload_n 1, 1) := by decide +kernel
theorem d_Ref_encodeRows_146 : decode b_Ref_encodeRows 146 = .ok (.aload_n 0, 1) := by decide +kernel
theorem d_Ref_encodeRows_147 : decode b_Ref_encodeRows 147 = .ok (.getfield 53, 3) := by decide +kernel
theorem d_Ref_encodeRows_150 : decode b_Ref_encodeRows 150 = .ok (.sipush 139, 3) := by decide +kernel
theorem d_Ref_encodeRows_153 : decode b_Ref_encodeRows 153 = .ok (.iconst 4, 1) := by decide +kernel
theorem d_Ref_encodeRows_154 : decode b_Ref_encodeRows 154 = .ok (.iload_n 2, 1) := by decide +kernel
theorem d_Ref_encodeRows_155 : decode b_Ref_encodeRows 155 = .ok (.imul, 1) := by decide +kernel
theorem d_Ref_encodeRows_156 : decode b_Ref_encodeRows 156 = .ok (.iadd, 1) := by decide +kernel
theorem d_Ref_encodeRows_157 : decode b_Ref_encodeRows 157 = .ok (.iload_n 1, 1) := by decide +kernel
theorem d_Ref_encodeRows_158 : decode b_Ref_encodeRows 158 = .ok (.iadd, 1) := by decide +kernel
theorem d_Ref_encodeRows_159 : decode b_Ref_encodeRows 159 = .ok (.iaload, 1) := by decide +kernel
theorem d_Ref_encodeRows_160 : decode b_Ref_encodeRows 160 = .ok (.invokevirtual 163, 3) := by decide +kernel
theorem d_Ref_encodeRows_163 : decode b_Ref_encodeRows 163 = .ok (.i2l, 1) := by decide +kernel
theorem d_Ref_encodeRows_164 : decode b_Ref_encodeRows 164 = .ok (.iconst 3, 1) := by decide +kernel
theorem d_Ref_encodeRows_165 : decode b_Ref_encodeRows 165 = .ok (.invokevirtual 152, 3) := by decide +kernel
theorem d_Ref_encodeRows_168 : decode b_Ref_encodeRows 168 = .ok (.iinc 2 1, 3) := by decide +kernel
theorem d_Ref_encodeRows_171 : decode b_Ref_encodeRows 171 = .ok (.goto (-36), 3) := by decide +kernel
theorem d_Ref_encodeRows_174 : decode b_Ref_encodeRows 174 = .ok (.iinc 1 1, 3) := by decide +kernel
theorem d_Ref_encodeRows_177 : decode b_Ref_encodeRows 177 = .ok (.goto (-175), 3) := by decide +kernel
theorem d_Ref_encodeRows_180 : decode b_Ref_encodeRows 180 = .ok (.return_, 1) := by decide +kernel
theorem d_Ref_wasMet_0 : decode b_Ref_wasMet 0 = .ok (.aload_n 0, 1) := by decide +kernel
theorem d_Ref_wasMet_1 : decode b_Ref_wasMet 1 = .ok (.invokevirtual 167, 3) := by decide +kernel
theorem d_Ref_wasMet_4 : decode b_Ref_wasMet 4 = .ok (.lconst 0, 1) := by decide +kernel
theorem d_Ref_wasMet_5 : decode b_Ref_wasMet 5 = .ok (.lstore_n 1, 1) := by decide +kernel
theorem d_Ref_wasMet_6 : decode b_Ref_wasMet 6 = .ok (.iconst 0, 1) := by decide +kernel
theorem d_Ref_wasMet_7 : decode b_Ref_wasMet 7 = .ok (.istore_n 3, 1) := by decide +kernel
theorem d_Ref_wasMet_8 : decode b_Ref_wasMet 8 = .ok (.iload_n 3, 1) := by decide +kernel
theorem d_Ref_wasMet_9 : decode b_Ref_wasMet 9 = .ok (.iconst 5, 1) := by decide +kernel
theorem d_Ref_wasMet_10 : decode b_Ref_wasMet 10 = .ok (.if_icmp .ge 29, 3) := by decide +kernel
theorem d_Ref_wasMet_13 : decode b_Ref_wasMet 13 = .ok (.lload_n 1, 1) := by decide +kernel
theorem d_Ref_wasMet_14 : decode b_Ref_wasMet 14 = .ok (.aload_n 0, 1) := by decide +kernel
theorem d_Ref_wasMet_15 : decode b_Ref_wasMet 15 = .ok (.getfield 75, 3) := by decide +kernel
theorem d_Ref_wasMet_18 : decode b_Ref_wasMet 18 = .ok (.iload_n 3, 1) := by decide +kernel
theorem d_Ref_wasMet_19 : decode b_Ref_wasMet 19 = .ok (.laload, 1) := by decide +kernel
theorem d_Ref_wasMet_20 : decode b_Ref_wasMet 20 = .ok (.lxor, 1) := by decide +kernel
theorem d_Ref_wasMet_21 : decode b_Ref_wasMet 21 = .ok (.ldc2_w 170, 3) := by decide +kernel
theorem d_Ref_wasMet_24 : decode b_Ref_wasMet 24 = .ok (.lmul, 1) := by decide +kernel
theorem d_Ref_wasMet_25 : decode b_Ref_wasMet 25 = .ok (.lstore_n 1, 1) := by decide +kernel
theorem d_Ref_wasMet_26 : decode b_Ref_wasMet 26 = .ok (.lload_n 1, 1) := by decide +kernel
theorem d_Ref_wasMet_27 : decode b_Ref_wasMet 27 = .ok (.lload_n 1, 1) := by decide +kernel
theorem d_Ref_wasMet_28 : decode b_Ref_wasMet 28 = .ok (.bipush 29, 2) := by decide +kernel
theorem d_Ref_wasMet_30 : decode b_Ref_wasMet 30 = .ok (.lushr, 1) := by decide +kernel
theorem d_Ref_wasMet_31 : decode b_Ref_wasMet 31 = .ok (.lxor, 1) := by decide +kernel
theorem d_Ref_wasMet_32 : decode b_Ref_wasMet 32 = .ok (.lstore_n 1, 1) := by decide +kernel
theorem d_Ref_wasMet_33 : decode b_Ref_wasMet 33 = .ok (.iinc 3 1, 3) := by decide +kernel
theorem d_Ref_wasMet_36 : decode b_Ref_wasMet 36 = .ok (.goto (-28), 3) := by decide +kernel
theorem d_Ref_wasMet_39 : decode b_Ref_wasMet 39 = .ok (.lload_n 1, 1) := by decide +kernel
theorem d_Ref_wasMet_40 : decode b_Ref_wasMet 40 = .ok (.bipush 48, 2) := by decide +kernel
theorem d_Ref_wasMet_42 : decode b_Ref_wasMet 42 = .ok (.lushr, 1) := by decide +kernel
theorem d_Ref_wasMet_43 : decode b_Ref_wasMet 43 = .ok (.l2i, 1) := by decide +kernel
theorem d_Ref_wasMet_44 : decode b_Ref_wasMet 44 = .ok (.istore_n 3, 1) := by decide +kernel
theorem d_Ref_wasMet_45 : decode b_Ref_wasMet 45 = .ok (.aload_n 0, 1) := by decide +kernel
theorem d_Ref_wasMet_46 : decode b_Ref_wasMet 46 = .ok (.getfield 72, 3) := by decide +kernel
theorem d_Ref_wasMet_49 : decode b_Ref_wasMet 49 = .ok (.iload_n 3, 1) := by decide +kernel
theorem d_Ref_wasMet_50 : decode b_Ref_wasMet 50 = .ok (.iaload, 1) := by decide +kernel
theorem d_Ref_wasMet_51 : decode b_Ref_wasMet 51 = .ok (.istore 4, 2) := by decide +kernel
theorem d_Ref_wasMet_53 : decode b_Ref_wasMet 53 = .ok (.iload 4, 2) := by decide +kernel
theorem d_Ref_wasMet_55 : decode b_Ref_wasMet 55 = .ok (.ifCond .lt 75, 3) := by decide +kernel
theorem d_Ref_wasMet_58 : decode b_Ref_wasMet 58 = .ok (.iconst 1, 1) := by decide +kernel
theorem d_Ref_wasMet_59 : decode b_Ref_wasMet 59 = .ok (.istore 5, 2) := by decide +kernel
theorem d_Ref_wasMet_61 : decode b_Ref_wasMet 61 = .ok (.iconst 0, 1) := by decide +kernel
theorem d_Ref_wasMet_62 : decode b_Ref_wasMet 62 = .ok (.istore 6, 2) := by decide +kernel
theorem d_Ref_wasMet_64 : decode b_Ref_wasMet 64 = .ok (.iload 6, 2) := by decide +kernel
theorem d_Ref_wasMet_66 : decode b_Ref_wasMet 66 = .ok (.iconst 5, 1) := by decide +kernel
theorem d_Ref_wasMet_67 : decode b_Ref_wasMet 67 = .ok (.if_icmp .ge 44, 3) := by decide +kernel
theorem d_Ref_wasMet_70 : decode b_Ref_wasMet 70 = .ok (.iload 5, 2) := by decide +kernel
theorem d_Ref_wasMet_72 : decode b_Ref_wasMet 72 = .ok (.ifCond .eq 39, 3) := by decide +kernel
theorem d_Ref_wasMet_75 : decode b_Ref_wasMet 75 = .ok (.aload_n 0, 1) := by decide +kernel
theorem d_Ref_wasMet_76 : decode b_Ref_wasMet 76 = .ok (.getfield 63, 3) := by decide +kernel
theorem d_Ref_wasMet_79 : decode b_Ref_wasMet 79 = .ok (.iconst 5, 1) := by decide +kernel
theorem d_Ref_wasMet_80 : decode b_Ref_wasMet 80 = .ok (.iload 4, 2) := by decide +kernel
theorem d_Ref_wasMet_82 : decode b_Ref_wasMet 82 = .ok (.imul, 1) := by decide +kernel
theorem d_Ref_wasMet_83 : decode b_Ref_wasMet 83 = .ok (.iload 6, 2) := by decide +kernel
theorem d_Ref_wasMet_85 : decode b_Ref_wasMet 85 = .ok (.iadd, 1) := by decide +kernel
theorem d_Ref_wasMet_86 : decode b_Ref_wasMet 86 = .ok (.laload, 1) := by decide +kernel
theorem d_Ref_wasMet_87 : decode b_Ref_wasMet 87 = .ok (.aload_n 0, 1) := by decide +kernel
theorem d_Ref_wasMet_88 : decode b_Ref_wasMet 88 = .ok (.getfield 75, 3) := by decide +kernel
theorem d_Ref_wasMet_91 : decode b_Ref_wasMet 91 = .ok (.iload 6, 2) := by decide +kernel
theorem d_Ref_wasMet_93 : decode b_Ref_wasMet 93 = .ok (.laload, 1) := by decide +kernel
theorem d_Ref_wasMet_94 : decode b_Ref_wasMet 94 = .ok (.lcmp, 1) := by decide +kernel
theorem d_Ref_wasMet_95 : decode b_Ref_wasMet 95 = .ok (.ifCond .ne 7, 3) := by decide +kernel
theorem d_Ref_wasMet_98 : decode b_Ref_wasMet 98 = .ok (.iconst 1, 1) := by decide +kernel
theorem d_Ref_wasMet_99 : decode b_Ref_wasMet 99 = .ok (.goto 4, 3) := by decide +kernel
theorem d_Ref_wasMet_102 : decode b_Ref_wasMet 102 = .ok (.iconst 0, 1) := by decide +kernel
theorem d_Ref_wasMet_103 : decode b_Ref_wasMet 103 = .ok (.istore 5, 2) := by decide +kernel
theorem d_Ref_wasMet_105 : decode b_Ref_wasMet 105 = .ok (.iinc 6 1, 3) := by decide +kernel
theorem d_Ref_wasMet_108 : decode b_Ref_wasMet 108 = .ok (.goto (-44), 3) := by decide +kernel
theorem d_Ref_wasMet_111 : decode b_Ref_wasMet 111 = .ok (.iload 5, 2) := by decide +kernel
theorem d_Ref_wasMet_113 : decode b_Ref_wasMet 113 = .ok (.ifCond .eq 5, 3) := by decide +kernel
theorem d_Ref_wasMet_116 : decode b_Ref_wasMet 116 = .ok (.iconst 1, 1) := by decide +kernel
theorem d_Ref_wasMet_117 : decode b_Ref_wasMet 117 = .ok (.ireturn, 1) := by decide +kernel
theorem d_Ref_wasMet_118 : decode b_Ref_wasMet 118 = .ok (.aload_n 0, 1) := by decide +kernel
theorem d_Ref_wasMet_119 : decode b_Ref_wasMet 119 = .ok (.getfield 68, 3) := by decide +kernel
theorem d_Ref_wasMet_122 : decode b_Ref_wasMet 122 = .ok (.iload 4, 2) := by decide +kernel
theorem d_Ref_wasMet_124 : decode b_Ref_wasMet 124 = .ok (.iaload, 1) := by decide +kernel
theorem d_Ref_wasMet_125 : decode b_Ref_wasMet 125 = .ok (.istore 4, 2) := by decide +kernel
theorem d_Ref_wasMet_127 : decode b_Ref_wasMet 127 = .ok (.goto (-74), 3) := by decide +kernel
theorem d_Ref_wasMet_130 : decode b_Ref_wasMet 130 = .ok (.aload_n 0, 1) := by decide +kernel
theorem d_Ref_wasMet_131 : decode b_Ref_wasMet 131 = .ok (.getfield 172, 3) := by decide +kernel
theorem d_Ref_wasMet_134 : decode b_Ref_wasMet 134 = .ok (.ldc 67, 2) := by decide +kernel
theorem d_Ref_wasMet_136 : decode b_Ref_wasMet 136 = .ok (.if_icmp .ge 74, 3) := by decide +kernel
theorem d_Ref_wasMet_139 : decode b_Ref_wasMet 139 = .ok (.iconst 0, 1) := by decide +kernel
theorem d_Ref_wasMet_140 : decode b_Ref_wasMet 140 = .ok (.istore 4, 2) := by decide +kernel
theorem d_Ref_wasMet_142 : decode b_Ref_wasMet 142 = .ok (.iload 4, 2) := by decide +kernel
theorem d_Ref_wasMet_144 : decode b_Ref_wasMet 144 = .ok (.iconst 5, 1) := by decide +kernel
theorem d_Ref_wasMet_145 : decode b_Ref_wasMet 145 = .ok (.if_icmp .ge 30, 3) := by decide +kernel
theorem d_Ref_wasMet_148 : decode b_Ref_wasMet 148 = .ok (.aload_n 0, 1) := by decide +kernel
theorem d_Ref_wasMet_149 : decode b_Ref_wasMet 149 = .ok (.getfield 63, 3) := by decide +kernel
theorem d_Ref_wasMet_152 : decode b_Ref_wasMet 152 = .ok (.iconst 5, 1) := by decide +kernel
theorem d_Ref_wasMet_153 : decode b_Ref_wasMet 153 = .ok (.aload_n 0, 1) := by decide +kernel
theorem d_Ref_wasMet_154 : decode b_Ref_wasMet 154 = .ok (.getfield 172, 3) := by decide +kernel
theorem d_Ref_wasMet_157 : decode b_Ref_wasMet 157 = .ok (.imul, 1) := by decide +kernel
theorem d_Ref_wasMet_158 : decode b_Ref_wasMet 158 = .ok (.iload 4, 2) := by decide +kernel
theorem d_Ref_wasMet_160 : decode b_Ref_wasMet 160 = .ok (.iadd, 1) := by decide +kernel
theorem d_Ref_wasMet_161 : decode b_Ref_wasMet 161 = .ok (.aload_n 0, 1) := by decide +kernel
theorem d_Ref_wasMet_162 : decode b_Ref_wasMet 162 = .ok (.getfield 75, 3) := by decide +kernel
theorem d_Ref_wasMet_165 : decode b_Ref_wasMet 165 = .ok (.iload 4, 2) := by decide +kernel
theorem d_Ref_wasMet_167 : decode b_Ref_wasMet 167 = .ok (.laload, 1) := by decide +kernel
theorem d_Ref_wasMet_168 : decode b_Ref_wasMet 168 = .ok (.lastore, 1) := by decide +kernel
theorem d_Ref_wasMet_169 : decode b_Ref_wasMet 169 = .ok (.iinc 4 1, 3) := by decide +kernel
theorem d_Ref_wasMet_172 : decode b_Ref_wasMet 172 = .ok (.goto (-30), 3) := by decide +kernel
theorem d_Ref_wasMet_175 : decode b_Ref_wasMet 175 = .ok (.aload_n 0, 1) := by decide +kernel
theorem d_Ref_wasMet_176 : decode b_Ref_wasMet 176 = .ok (.getfield 68, 3) := by decide +kernel
theorem d_Ref_wasMet_179 : decode b_Ref_wasMet 179 = .ok (.aload_n 0, 1) := by decide +kernel
theorem d_Ref_wasMet_180 : decode b_Ref_wasMet 180 = .ok (.getfield 172, 3) := by decide +kernel
theorem d_Ref_wasMet_183 : decode b_Ref_wasMet 183 = .ok (.aload_n 0, 1) := by decide +kernel
theorem d_Ref_wasMet_184 : decode b_Ref_wasMet 184 = .ok (.getfield 72, 3) := by decide +kernel
theorem d_Ref_wasMet_187 : decode b_Ref_wasMet 187 = .ok (.iload_n 3, 1) := by decide +kernel
theorem d_Ref_wasMet_188 : decode b_Ref_wasMet 188 = .ok (.iaload, 1) := by decide +kernel
theorem d_Ref_wasMet_189 : decode b_Ref_wasMet 189 = .ok (.iastore, 1) := by decide +kernel
theorem d_Ref_wasMet_190 : decode b_Ref_wasMet 190 = .ok (.aload_n 0, 1) := by decide +kernel
theorem d_Ref_wasMet_191 : decode b_Ref_wasMet 191 = .ok (.getfield 72, 3) := by decide +kernel
theorem d_Ref_wasMet_194 : decode b_Ref_wasMet 194 = .ok (.iload_n 3, 1) := by decide +kernel
theorem d_Ref_wasMet_195 : decode b_Ref_wasMet 195 = .ok (.aload_n 0, 1) := by decide +kernel
theorem d_Ref_wasMet_196 : decode b_Ref_wasMet 196 = .ok (.getfield 172, 3) := by decide +kernel
theorem d_Ref_wasMet_199 : decode b_Ref_wasMet 199 = .ok (.iastore, 1) := by decide +kernel
theorem d_Ref_wasMet_200 : decode b_Ref_wasMet 200 = .ok (.aload_n 0, 1) := by decide +kernel
theorem d_Ref_wasMet_201 : decode b_Ref_wasMet 201 = .ok (.dup, 1) := by decide +kernel
theorem d_Ref_wasMet_202 : decode b_Ref_wasMet 202 = .ok (.getfield 172, 3) := by decide +kernel
theorem d_Ref_wasMet_205 : decode b_Ref_wasMet 205 = .ok (.iconst 1, 1) := by decide +kernel
theorem d_Ref_wasMet_206 : decode b_Ref_wasMet 206 = .ok (.iadd, 1) := by decide +kernel
theorem d_Ref_wasMet_207 : decode b_Ref_wasMet 207 = .ok (.putfield 172, 3) := by decide +kernel
theorem d_Ref_wasMet_210 : decode b_Ref_wasMet 210 = .ok (.iconst 0, 1) := by decide +kernel
theorem d_Ref_wasMet_211 : decode b_Ref_wasMet 211 = .ok (.ireturn, 1) := by decide +kernel
theorem d_Ref_search_0 : decode b_Ref_search 0 = .ok (.aload_n 0, 1) := by decide +kernel
theorem d_Ref_search_1 : decode b_Ref_search 1 = .ok (.iload_n 1, 1) := by decide +kernel
theorem d_Ref_search_2 : decode b_Ref_search 2 = .ok (.putfield 143, 3) := by decide +kernel
theorem d_Ref_search_5 : decode b_Ref_search 5 = .ok (.aload_n 0, 1) := by decide +kernel
theorem d_Ref_search_6 : decode b_Ref_search 6 = .ok (.iload_n 1, 1) := by decide +kernel
theorem d_Ref_search_7 : decode b_Ref_search 7 = .ok (.iconst 3, 1) := by decide +kernel
theorem d_Ref_search_8 : decode b_Ref_search 8 = .ok (.if_icmp .ne 9, 3) := by decide +kernel
theorem d_Ref_search_11 : decode b_Ref_search 11 = .ok (.sipush 155, 3) := by decide +kernel
theorem d_Ref_search_14 : decode b_Ref_search 14 = .ok (.goto 5, 3) := by decide +kernel
theorem d_Ref_search_17 : decode b_Ref_search 17 = .ok (.bipush 37, 2) := by decide +kernel
theorem d_Ref_search_19 : decode b_Ref_search 19 = .ok (.putfield 146, 3) := by decide +kernel
theorem d_Ref_search_22 : decode b_Ref_search 22 = .ok (.aload_n 0, 1) := by decide +kernel
theorem d_Ref_search_23 : decode b_Ref_search 23 = .ok (.iload_n 2, 1) := by decide +kernel
theorem d_Ref_search_24 : decode b_Ref_search 24 = .ok (.putfield 175, 3) := by decide +kernel
theorem d_Ref_search_27 : decode b_Ref_search 27 = .ok (.aload_n 0, 1) := by decide +kernel
theorem d_Ref_search_28 : decode b_Ref_search 28 = .ok (.iconst 0, 1) := by decide +kernel
theorem d_Ref_search_29 : decode b_Ref_search 29 = .ok (.putfield 172, 3) := by decide +kernel
theorem d_Ref_search_32 : decode b_Ref_search 32 = .ok (.iconst 0, 1) := by decide +kernel
theorem d_Ref_search_33 : decode b_Ref_search 33 = .ok (.istore_n 3, 1) := by decide +kernel
theorem d_Ref_search_34 : decode b_Ref_search 34 = .ok (.iload_n 3, 1) := by decide +kernel
theorem d_Ref_search_35 : decode b_Ref_search 35 = .ok (.ldc 71, 2) := by decide +kernel
theorem d_Ref_search_37 : decode b_Ref_search 37 = .ok (.if_icmp .ge 16, 3) := by decide +kernel
theorem d_Ref_search_40 : decode b_Ref_search 40 = .ok (.aload_n 0, 1) := by decide +kernel
theorem d_Ref_search_41 : decode b_Ref_search 41 = .ok (.getfield 72, 3) := by decide +kernel
theorem d_Ref_search_44 : decode b_Ref_search 44 = .ok (.iload_n 3, 1) := by decide +kernel
theorem d_Ref_search_45 : decode b_Ref_search 45 = .ok (.iconst (-1), 1) := by decide +kernel
theorem d_Ref_search_46 : decode b_Ref_search 46 = .ok (.iastore, 1) := by decide +kernel
theorem d_Ref_search_47 : decode b_Ref_search 47 = .ok (.iinc 3 1, 3) := by decide +kernel
theorem d_Ref_search_50 : decode b_Ref_search 50 = .ok (.goto (-16), 3) := by decide +kernel
theorem d_Ref_search_53 : decode b_Ref_search 53 = .ok (.aload_n 0, 1) := by decide +kernel
theorem d_Ref_search_54 : decode b_Ref_search 54 = .ok (.invokevirtual 178, 3) := by decide +kernel
theorem d_Ref_search_57 : decode b_Ref_search 57 = .ok (.iload_n 2, 1) := by decide +kernel
theorem d_Ref_search_58 : decode b_Ref_search 58 = .ok (.ifCond .ne 10, 3) := by decide +kernel
theorem d_Ref_search_61 : decode b_Ref_search 61 = .ok (.aload_n 0, 1) := by decide +kernel
theorem d_Ref_search_62 : decode b_Ref_search 62 = .ok (.getfield 29, 3) := by decide +kernel
theorem d_Ref_search_65 : decode b_Ref_search 65 = .ok (.iload_n 1, 1) := by decide +kernel
theorem d_Ref_search_66 : decode b_Ref_search 66 = .ok (.iconst 0, 1) := by decide +kernel
theorem d_Ref_search_67 : decode b_Ref_search 67 = .ok (.iastore, 1) := by decide +kernel
theorem d_Ref_search_68 : decode b_Ref_search 68 = .ok (.aload_n 0, 1) := by decide +kernel
theorem d_Ref_search_69 : decode b_Ref_search 69 = .ok (.iconst 0, 1) := by decide +kernel
theorem d_Ref_search_70 : decode b_Ref_search 70 = .ok (.invokevirtual 181, 3) := by decide +kernel
theorem d_Ref_search_73 : decode b_Ref_search 73 = .ok (.return_, 1) := by decide +kernel
theorem d_Ref_from_0 : decode b_Ref_from 0 = .ok (.aload_n 0, 1) := by decide +kernel
theorem d_Ref_from_1 : decode b_Ref_from 1 = .ok (.invokevirtual 184, 3) := by decide +kernel
theorem d_Ref_from_4 : decode b_Ref_from 4 = .ok (.ifCond .eq 4, 3) := by decide +kernel
theorem d_Ref_from_7 : decode b_Ref_from 7 = .ok (.return_, 1) := by decide +kernel
theorem d_Ref_from_8 : decode b_Ref_from 8 = .ok (.aload_n 0, 1) := by decide +kernel
theorem d_Ref_from_9 : decode b_Ref_from 9 = .ok (.getfield 175, 3) := by decide +kernel
theorem d_Ref_from_12 : decode b_Ref_from 12 = .ok (.ifCond .eq 7, 3) := by decide +kernel
theorem d_Ref_from_15 : decode b_Ref_from 15 = .ok (.aload_n 0, 1) := by decide +kernel
theorem d_Ref_from_16 : decode b_Ref_from 16 = .ok (.invokevirtual 188, 3) := by decide +kernel
theorem d_Ref_from_19 : decode b_Ref_from 19 = .ok (.iconst 0, 1) := by decide +kernel
theorem d_Ref_from_20 : decode b_Ref_from 20 = .ok (.istore_n 2, 1) := by decide +kernel
theorem d_Ref_from_21 : decode b_Ref_from 21 = .ok (.aload_n 0, 1) := by decide +kernel
theorem d_Ref_from_22 : decode b_Ref_from 22 = .ok (.iload_n 1, 1) := by decide +kernel
theorem d_Ref_from_23 : decode b_Ref_from 23 = .ok (.invokevirtual 191, 3) := by decide +kernel
theorem d_Ref_from_26 : decode b_Ref_from 26 = .ok (.iconst 0, 1) := by decide +kernel
theorem d_Ref_from_27 : decode b_Ref_from 27 = .ok (.istore_n 3, 1) := by decide +kernel
theorem d_Ref_from_28 : decode b_Ref_from 28 = .ok (.iload_n 3, 1) := by decide +kernel
theorem d_Ref_from_29 : decode b_Ref_from 29 = .ok (.aload_n 0, 1) := by decide +kernel
theorem d_Ref_from_30 : decode b_Ref_from 30 = .ok (.getfield 133, 3) := by decide +kernel
theorem d_Ref_from_33 : decode b_Ref_from 33 = .ok (.if_icmp .ge 62, 3) := by decide +kernel
theorem d_Ref_from_36 : decode b_Ref_from 36 = .ok (.iconst 0, 1) := by decide +kernel
theorem d_Ref_from_37 : decode b_Ref_from 37 = .ok (.istore 4, 2) := by decide +kernel
theorem d_Ref_from_39 : decode b_Ref_from 39 = .ok (.iload 4, 2) := by decide +kernel
theorem d_Ref_from_41 : decode b_Ref_from 41 = .ok (.bipush 9, 2) := by decide +kernel
theorem d_Ref_from_43 : decode b_Ref_from 43 = .ok (.if_icmp .ge 46, 3) := by decide +kernel
theorem d_Ref_from_46 : decode b_Ref_from 46 = .ok (.aload_n 0, 1) := by decide +kernel
theorem d_Ref_from_47 : decode b_Ref_from 47 = .ok (.iload_n 3, 1) := by decide +kernel
theorem d_Ref_from_48 : decode b_Ref_from 48 = .ok (.iload 4, 2) := by decide +kernel
theorem d_Ref_from_50 : decode b_Ref_from 50 = .ok (.invokevirtual 194, 3) := by decide +kernel
theorem d_Ref_from_53 : decode b_Ref_from 53 = .ok (.ifCond .eq 30, 3) := by decide +kernel
theorem d_Ref_from_56 : decode b_Ref_from 56 = .ok (.iconst 1, 1) := by decide +kernel
theorem d_Ref_from_57 : decode b_Ref_from 57 = .ok (.istore_n 2, 1) := by decide +kernel
theorem d_Ref_from_58 : decode b_Ref_from 58 = .ok (.aload_n 0, 1) := by decide +kernel
theorem d_Ref_from_59 : decode b_Ref_from 59 = .ok (.getfield 59, 3) := by decide +kernel
theorem d_Ref_from_62 : decode b_Ref_from 62 = .ok (.iload_n 1, 1) := by decide +kernel
theorem d_Ref_from_63 : decode b_Ref_from 63 = .ok (.bipush 100, 2) := by decide +kernel
theorem d_Ref_from_65 : decode b_Ref_from 65 = .ok (.iload_n 3, 1) := by decide +kernel
theorem d_Ref_from_66 : decode b_Ref_from 66 = .ok (.imul, 1) := by decide +kernel
theorem d_Ref_from_67 : decode b_Ref_from 67 = .ok (.iload 4, 2) := by decide +kernel
theorem d_Ref_from_69 : decode b_Ref_from 69 = .ok (.iadd, 1) := by decide +kernel
theorem d_Ref_from_70 : decode b_Ref_from 70 = .ok (.iastore, 1) := by decide +kernel
theorem d_Ref_from_71 : decode b_Ref_from 71 = .ok (.aload_n 0, 1) := by decide +kernel
theorem d_Ref_from_72 : decode b_Ref_from 72 = .ok (.iload_n 1, 1) := by decide +kernel
theorem d_Ref_from_73 : decode b_Ref_from 73 = .ok (.iconst 1, 1) := by decide +kernel
theorem d_Ref_from_74 : decode b_Ref_from 74 = .ok (.iadd, 1) := by decide +kernel
theorem d_Ref_from_75 : decode b_Ref_from 75 = .ok (.invokevirtual 181, 3) := by decide +kernel
theorem d_Ref_from_78 : decode b_Ref_from 78 = .ok (.aload_n 0, 1) := by decide +kernel
theorem d_Ref_from_79 : decode b_Ref_from 79 = .ok (.iload_n 1, 1) := by decide +kernel
theorem d_Ref_from_80 : decode b_Ref_from 80 = .ok (.invokevirtual 198, 3) := by decide +kernel
theorem d_Ref_from_83 : decode b_Ref_from 83 = .ok (.iinc 4 1, 3) := by decide +kernel
theorem d_Ref_from_86 : decode b_Ref_from 86 = .ok (.goto (-47), 3) := by decide +kernel
theorem d_Ref_from_89 : decode b_Ref_from 89 = .ok (.iinc 3 1, 3) := by decide +kernel
theorem d_Ref_from_92 : decode b_Ref_from 92 = .ok (.goto (-64), 3) := by decide +kernel
theorem d_Ref_from_95 : decode b_Ref_from 95 = .ok (.iload_n 2, 1) := by decide +kernel
theorem d_Ref_from_96 : decode b_Ref_from 96 = .ok (.ifCond .ne 15, 3) := by decide +kernel
theorem d_Ref_from_99 : decode b_Ref_from 99 = .ok (.aload_n 0, 1) := by decide +kernel
theorem d_Ref_from_100 : decode b_Ref_from 100 = .ok (.getfield 175, 3) := by decide +kernel
theorem d_Ref_from_103 : decode b_Ref_from 103 = .ok (.ifCond .ne 8, 3) := by decide +kernel
theorem d_Ref_from_106 : decode b_Ref_from 106 = .ok (.aload_n 0, 1) := by decide +kernel
theorem d_Ref_from_107 : decode b_Ref_from 107 = .ok (.iload_n 1, 1) := by decide +kernel
theorem d_Ref_from_108 : decode b_Ref_from 108 = .ok (.invokevirtual 201, 3) := by decide +kernel
theorem d_Ref_from_111 : decode b_Ref_from 111 = .ok (.return_, 1) := by decide +kernel
theorem d_Ref_ends_0 : decode b_Ref_ends 0 = .ok (.iconst 0, 1) := by decide +kernel
theorem d_Ref_ends_1 : decode b_Ref_ends 1 = .ok (.istore_n 2, 1) := by decide +kernel
theorem d_Ref_ends_2 : decode b_Ref_ends 2 = .ok (.iload_n 2, 1) := by decide +kernel
theorem d_Ref_ends_3 : decode b_Ref_ends 3 = .ok (.bipush 8, 2) := by decide +kernel
theorem d_Ref_ends_5 : decode b_Ref_ends 5 = .ok (.if_icmp .ge 23, 3) := by decide +kernel
theorem d_Ref_ends_8 : decode b_Ref_ends 8 = .ok (.aload_n 0, 1) := by decide +kernel
theorem d_Ref_ends_9 : decode b_Ref_ends 9 = .ok (.getfield 78, 3) := by decide +kernel
theorem d_Ref_ends_12 : decode b_Ref_ends 12 = .ok (.iload_n 2, 1) := by decide +kernel
theorem d_Ref_ends_13 : decode b_Ref_ends 13 = .ok (.aload_n 0, 1) := by decide +kernel
theorem d_Ref_ends_14 : decode b_Ref_ends 14 = .ok (.getfield 53, 3) := by decide +kernel
theorem d_Ref_ends_17 : decode b_Ref_ends 17 = .ok (.iconst 4, 1) := by decide +kernel
theorem d_Ref_ends_18 : decode b_Ref_ends 18 = .ok (.iload_n 2, 1) := by decide +kernel
theorem d_Ref_ends_19 : decode b_Ref_ends 19 = .ok (.iadd, 1) := by decide +kernel
theorem d_Ref_ends_20 : decode b_Ref_ends 20 = .ok (.iaload, 1) := by decide +kernel
theorem d_Ref_ends_21 : decode b_Ref_ends 21 = .ok (.iastore, 1) := by decide +kernel
theorem d_Ref_ends_22 : decode b_Ref_ends 22 = .ok (.iinc 2 1, 3) := by decide +kernel
theorem d_Ref_ends_25 : decode b_Ref_ends 25 = .ok (.goto (-23), 3) := by decide +kernel
theorem d_Ref_ends_28 : decode b_Ref_ends 28 = .ok (.iconst 0, 1) := by decide +kernel
theorem d_Ref_ends_29 : decode b_Ref_ends 29 = .ok (.istore_n 2, 1) := by decide +kernel
theorem d_Ref_ends_30 : decode b_Ref_ends 30 = .ok (.iload_n 2, 1) := by decide +kernel
theorem d_Ref_ends_31 : decode b_Ref_ends 31 = .ok (.iconst 3, 1) := by decide +kernel
theorem d_Ref_ends_32 : decode b_Ref_ends 32 = .ok (.if_icmp .ge 70, 3) := by decide +kernel
theorem d_Ref_ends_35 : decode b_Ref_ends 35 = .ok (.aload_n 0, 1) := by decide +kernel
theorem d_Ref_ends_36 : decode b_Ref_ends 36 = .ok (.getfield 78, 3) := by decide +kernel
theorem d_Ref_ends_39 : decode b_Ref_ends 39 = .ok (.bipush 8, 2) := by decide +kernel
theorem d_Ref_ends_41 : decode b_Ref_ends 41 = .ok (.iload_n 2, 1) := by decide +kernel
theorem d_Ref_ends_42 : decode b_Ref_ends 42 = .ok (.iadd, 1) := by decide +kernel
theorem d_Ref_ends_43 : decode b_Ref_ends 43 = .ok (.aload_n 0, 1) := by decide +kernel
theorem d_Ref_ends_44 : decode b_Ref_ends 44 = .ok (.getfield 143, 3) := by decide +kernel
theorem d_Ref_ends_47 : decode b_Ref_ends 47 = .ok (.iconst 3, 1) := by decide +kernel
theorem d_Ref_ends_48 : decode b_Ref_ends 48 = .ok (.if_icmp .ge 15, 3) := by decide +kernel
theorem d_Ref_ends_51 : decode b_Ref_ends 51 = .ok (.aload_n 0, 1) := by decide +kernel
theorem d_Ref_ends_52 : decode b_Ref_ends 52 = .ok (.getfield 53, 3) := by decide +kernel
theorem d_Ref_ends_55 : decode b_Ref_ends 55 = .ok (.bipush 12, 2) := by decide +kernel
theorem d_Ref_ends_57 : decode b_Ref_ends 57 = .ok (.iload_n 2, 1) := by decide +kernel
theorem d_Ref_ends_58 : decode b_Ref_ends 58 = .ok (.iadd, 1) := by decide +kernel
theorem d_Ref_ends_59 : decode b_Ref_ends 59 = .ok (.iaload, 1) := by decide +kernel
theorem d_Ref_ends_60 : decode b_Ref_ends 60 = .ok (.goto 35, 3) := by decide +kernel
theorem d_Ref_ends_63 : decode b_Ref_ends 63 = .ok (.aload_n 0, 1) := by decide +kernel
theorem d_Ref_ends_64 : decode b_Ref_ends 64 = .ok (.getfield 53, 3) := by decide +kernel
theorem d_Ref_ends_67 : decode b_Ref_ends 67 = .ok (.bipush 73, 2) := by decide +kernel
theorem d_Ref_ends_69 : decode b_Ref_ends 69 = .ok (.aload_n 0, 1) := by decide +kernel
theorem d_Ref_ends_70 : decode b_Ref_ends 70 = .ok (.getfield 53, 3) := by decide +kernel
theorem d_Ref_ends_73 : decode b_Ref_ends 73 = .ok (.bipush 41, 2) := by decide +kernel
theorem d_Ref_ends_75 : decode b_Ref_ends 75 = .ok (.bipush 8, 2) := by decide +kernel
theorem d_Ref_ends_77 : decode b_Ref_ends 77 = .ok (.iload_n 2, 1) := by decide +kernel
theorem d_Ref_ends_78 : decode b_Ref_ends 78 = .ok (.imul, 1) := by decide +kernel
theorem d_Ref_ends_79 : decode b_Ref_ends 79 = .ok (.iadd, 1) := by decide +kernel
theorem d_Ref_ends_80 : decode b_Ref_ends 80 = .ok (.aload_n 0, 1) := by decide +kernel
theorem d_Ref_ends_81 : decode b_Ref_ends 81 = .ok (.getfield 53, 3) := by decide +kernel
theorem d_Ref_ends_84 : decode b_Ref_ends 84 = .ok (.bipush 37, 2) := by decide +kernel
theorem d_Ref_ends_86 : decode b_Ref_ends 86 = .ok (.iload_n 2, 1) := by decide +kernel
theorem d_Ref_ends_87 : decode b_Ref_ends 87 = .ok (.iadd, 1) := by decide +kernel
theorem d_Ref_ends_88 : decode b_Ref_ends 88 = .ok (.iaload, 1) := by decide +kernel
theorem d_Ref_ends_89 : decode b_Ref_ends 89 = .ok (.iadd, 1) := by decide +kernel
theorem d_Ref_ends_90 : decode b_Ref_ends 90 = .ok (.iconst 1, 1) := by decide +kernel
theorem d_Ref_ends_91 : decode b_Ref_ends 91 = .ok (.isub, 1) := by decide +kernel
theorem d_Ref_ends_92 : decode b_Ref_ends 92 = .ok (.iaload, 1) := by decide +kernel
theorem d_Ref_ends_93 : decode b_Ref_ends 93 = .ok (.iadd, 1) := by decide +kernel
theorem d_Ref_ends_94 : decode b_Ref_ends 94 = .ok (.iaload, 1) := by decide +kernel
theorem d_Ref_ends_95 : decode b_Ref_ends 95 = .ok (.iastore, 1) := by decide +kernel
theorem d_Ref_ends_96 : decode b_Ref_ends 96 = .ok (.iinc 2 1, 3) := by decide +kernel
theorem d_Ref_ends_99 : decode b_Ref_ends 99 = .ok (.goto (-69), 3) := by decide +kernel
theorem d_Ref_ends_102 : decode b_Ref_ends 102 = .ok (.aload_n 0, 1) := by decide +kernel
theorem d_Ref_ends_103 : decode b_Ref_ends 103 = .ok (.aload_n 0, 1) := by decide +kernel
theorem d_Ref_ends_104 : decode b_Ref_ends 104 = .ok (.getfield 143, 3) := by decide +kernel
theorem d_Ref_ends_107 : decode b_Ref_ends 107 = .ok (.invokevirtual 231, 3) := by decide +kernel
theorem d_Ref_ends_110 : decode b_Ref_ends 110 = .ok (.istore_n 2, 1) := by decide +kernel
theorem d_Ref_ends_111 : decode b_Ref_ends 111 = .ok (.iload_n 2, 1) := by decide +kernel
theorem d_Ref_ends_112 : decode b_Ref_ends 112 = .ok (.ifCond .lt 56, 3) := by decide +kernel
theorem d_Ref_ends_115 : decode b_Ref_ends 115 = .ok (.sipush 4000, 3) := by decide +kernel
theorem d_Ref_ends_118 : decode b_Ref_ends 118 = .ok (.aload_n 0, 1) := by decide +kernel
theorem d_Ref_ends_119 : decode b_Ref_ends 119 = .ok (.getfield 143, 3) := by decide +kernel
theorem d_Ref_ends_122 : decode b_Ref_ends 122 = .ok (.imul, 1) := by decide +kernel
theorem d_Ref_ends_123 : decode b_Ref_ends 123 = .ok (.iload_n 2, 1) := by decide +kernel
theorem d_Ref_ends_124 : decode b_Ref_ends 124 = .ok (.iadd, 1) := by decide +kernel
theorem d_Ref_ends_125 : decode b_Ref_ends 125 = .ok (.istore_n 3, 1) := by decide +kernel
theorem d_Ref_ends_126 : decode b_Ref_ends 126 = .ok (.aload_n 0, 1) := by decide +kernel
theorem d_Ref_ends_127 : decode b_Ref_ends 127 = .ok (.getfield 41, 3) := by decide +kernel
theorem d_Ref_ends_130 : decode b_Ref_ends 130 = .ok (.iload_n 3, 1) := by decide +kernel
theorem d_Ref_ends_131 : decode b_Ref_ends 131 = .ok (.iload_n 1, 1) := by decide +kernel
theorem d_Ref_ends_132 : decode b_Ref_ends 132 = .ok (.iastore, 1) := by decide +kernel
theorem d_Ref_ends_133 : decode b_Ref_ends 133 = .ok (.iconst 0, 1) := by decide +kernel
theorem d_Ref_ends_134 : decode b_Ref_ends 134 = .ok (.istore 4, 2) := by decide +kernel
theorem d_Ref_ends_136 : decode b_Ref_ends 136 = .ok (.iload 4, 2) := by decide +kernel
theorem d_Ref_ends_138 : decode b_Ref_ends 138 = .ok (.iload_n 1, 1) := by decide +kernel
theorem d_Ref_ends_139 : decode b_Ref_ends 139 = .ok (.if_icmp .ge 29, 3) := by decide +kernel
theorem d_Ref_ends_142 : decode b_Ref_ends 142 = .ok (.aload_n 0, 1) := by decide +kernel
theorem d_Ref_ends_143 : decode b_Ref_ends 143 = .ok (.getfield 38, 3) := by decide +kernel
theorem d_Ref_ends_146 : decode b_Ref_ends 146 = .ok (.bipush 16, 2) := by decide +kernel
theorem d_Ref_ends_148 : decode b_Ref_ends 148 = .ok (.iload_n 3, 1) := by decide +kernel
theorem d_Ref_ends_149 : decode b_Ref_ends 149 = .ok (.imul, 1) := by decide +kernel
theorem d_Ref_ends_150 : decode b_Ref_ends 150 = .ok (.iload 4, 2) := by decide +kernel
theorem d_Ref_ends_152 : decode b_Ref_ends 152 = .ok (.iadd, 1) := by decide +kernel
theorem d_Ref_ends_153 : decode b_Ref_ends 153 = .ok (.aload_n 0, 1) := by decide +kernel
theorem d_Ref_ends_154 : decode b_Ref_ends 154 = .ok (.getfield 59, 3) := by decide +kernel
theorem d_Ref_ends_157 : decode b_Ref_ends 157 = .ok (.iload 4, 2) := by decide +kernel
theorem d_Ref_ends_159 : decode b_Ref_ends 159 = .ok (.iaload, 1) := by decide +kernel
theorem d_Ref_ends_160 : decode b_Ref_ends 160 = .ok (.i2s, 1) := by decide +kernel
theorem d_Ref_ends_161 : decode b_Ref_ends 161 = .ok (.sastore, 1) := by decide +kernel
theorem d_Ref_ends_162 : decode b_Ref_ends 162 = .ok (.iinc 4 1, 3) := by decide +kernel
theorem d_Ref_ends_165 : decode b_Ref_ends 165 = .ok (.goto (-29), 3) := by decide +kernel
theorem d_Ref_ends_168 : decode b_Ref_ends 168 = .ok (.return_, 1) := by decide +kernel
theorem d_Ref_against_0 : decode b_Ref_against 0 = .ok (.iconst 0, 1) := by decide +kernel
theorem d_Ref_against_1 : decode b_Ref_against 1 = .ok (.istore_n 3, 1) := by decide +kernel
theorem d_Ref_against_2 : decode b_Ref_against 2 = .ok (.iload_n 3, 1) := by decide +kernel
theorem d_Ref_against_3 : decode b_Ref_against 3 = .ok (.bipush 11, 2) := by decide +kernel
theorem d_Ref_against_5 : decode b_Ref_against 5 = .ok (.if_icmp .ge 43, 3) := by decide +kernel
theorem d_Ref_against_8 : decode b_Ref_against 8 = .ok (.aload_n 0, 1) := by decide +kernel
theorem d_Ref_against_9 : decode b_Ref_against 9 = .ok (.getfield 78, 3) := by decide +kernel
theorem d_Ref_against_12 : decode b_Ref_against 12 = .ok (.iload_n 3, 1) := by decide +kernel
theorem d_Ref_against_13 : decode b_Ref_against 13 = .ok (.iaload, 1) := by decide +kernel
theorem d_Ref_against_14 : decode b_Ref_against 14 = .ok (.aload_n 0, 1) := by decide +kernel
theorem d_Ref_against_15 : decode b_Ref_against 15 = .ok (.getfield 33, 3) := by decide +kernel
theorem d_Ref_against_18 : decode b_Ref_against 18 = .ok (.bipush 11, 2) := by decide +kernel
theorem d_Ref_against_20 : decode b_Ref_against 20 = .ok (.sipush 4000, 3) := by decide +kernel
theorem d_Ref_against_23 : decode b_Ref_against 23 = .ok (.iload_n 1, 1) := by decide +kernel
theorem d_Ref_against_24 : decode b_Ref_against 24 = .ok (.imul, 1) := by decide +kernel
theorem d_Ref_against_25 : decode b_Ref_against 25 = .ok (.iload_n 2, 1) := by decide +kernel
theorem d_Ref_against_26 : decode b_Ref_against 26 = .ok (.iadd, 1) := by decide +kernel
theorem d_Ref_against_27 : decode b_Ref_against 27 = .ok (.imul, 1) := by decide +kernel
theorem d_Ref_against_28 : decode b_Ref_against 28 = .ok (.iload_n 3, 1) := by decide +kernel
theorem d_Ref_against_29 : decode b_Ref_against 29 = .ok (.iadd, 1) := by decide +kernel
theorem d_Ref_against_30 : decode b_Ref_against 30 = .ok (.saload, 1) := by decide +kernel
theorem d_Ref_against_31 : decode b_Ref_against 31 = .ok (.isub, 1) := by decide +kernel
theorem d_Ref_against_32 : decode b_Ref_against 32 = .ok (.istore 4, 2) := by decide +kernel
theorem d_Ref_against_34 : decode b_Ref_against 34 = .ok (.iload 4, 2) := by decide +kernel
theorem d_Ref_against_36 : decode b_Ref_against 36 = .ok (.ifCond .eq 6, 3) := by decide +kernel
theorem d_Ref_against_39 : decode b_Ref_against 39 = .ok (.iload 4, 2) := by decide +kernel
theorem d_Ref_against_41 : decode b_Ref_against 41 = .ok (.ireturn, 1) := by decide +kernel
theorem d_Ref_against_42 : decode b_Ref_against 42 = .ok (.iinc 3 1, 3) := by decide +kernel
theorem d_Ref_against_45 : decode b_Ref_against 45 = .ok (.goto (-43), 3) := by decide +kernel
theorem d_Ref_against_48 : decode b_Ref_against 48 = .ok (.iconst 0, 1) := by decide +kernel
theorem d_Ref_against_49 : decode b_Ref_against 49 = .ok (.ireturn, 1) := by decide +kernel
theorem d_Ref_addOutcome_0 : decode b_Ref_addOutcome 0 = .ok (.sipush 4000, 3) := by decide +kernel
theorem d_Ref_addOutcome_3 : decode b_Ref_addOutcome 3 = .ok (.iload_n 1, 1) := by decide +kernel
theorem d_Ref_addOutcome_4 : decode b_Ref_addOutcome 4 = .ok (.imul, 1) := by decide +kernel
theorem d_Ref_addOutcome_5 : decode b_Ref_addOutcome 5 = .ok (.istore_n 2, 1) := by decide +kernel
theorem d_Ref_addOutcome_6 : decode b_Ref_addOutcome 6 = .ok (.iconst 0, 1) := by decide +kernel
theorem d_Ref_addOutcome_7 : decode b_Ref_addOutcome 7 = .ok (.istore_n 3, 1) := by decide +kernel
theorem d_Ref_addOutcome_8 : decode b_Ref_addOutcome 8 = .ok (.aload_n 0, 1) := by decide +kernel
theorem d_Ref_addOutcome_9 : decode b_Ref_addOutcome 9 = .ok (.getfield 29, 3) := by decide +kernel
theorem d_Ref_addOutcome_12 : decode b_Ref_addOutcome 12 = .ok (.iload_n 1, 1) := by decide +kernel
theorem d_Ref_addOutcome_13 : decode b_Ref_addOutcome 13 = .ok (.iaload, 1) := by decide +kernel
theorem d_Ref_addOutcome_14 : decode b_Ref_addOutcome 14 = .ok (.istore 4, 2) := by decide +kernel
theorem d_Ref_addOutcome_16 : decode b_Ref_addOutcome 16 = .ok (.iload_n 3, 1) := by decide +kernel
theorem d_Ref_addOutcome_17 : decode b_Ref_addOutcome 17 = .ok (.iload 4, 2) := by decide +kernel
theorem d_Ref_addOutcome_19 : decode b_Ref_addOutcome 19 = .ok (.if_icmp .ge 43, 3) := by decide +kernel
theorem d_Ref_addOutcome_22 : decode b_Ref_addOutcome 22 = .ok (.iload_n 3, 1) := by decide +kernel
theorem d_Ref_addOutcome_23 : decode b_Ref_addOutcome 23 = .ok (.iload 4, 2) := by decide +kernel
theorem d_Ref_addOutcome_25 : decode b_Ref_addOutcome 25 = .ok (.iadd, 1) := by decide +kernel
theorem d_Ref_addOutcome_26 : decode b_Ref_addOutcome 26 = .ok (.iconst 2, 1) := by decide +kernel
theorem d_Ref_addOutcome_27 : decode b_Ref_addOutcome 27 = .ok (.idiv, 1) := by decide +kernel
theorem d_Ref_addOutcome_28 : decode b_Ref_addOutcome 28 = .ok (.istore 5, 2) := by decide +kernel
theorem d_Ref_addOutcome_30 : decode b_Ref_addOutcome 30 = .ok (.aload_n 0, 1) := by decide +kernel
theorem d_Ref_addOutcome_31 : decode b_Ref_addOutcome 31 = .ok (.iload_n 1, 1) := by decide +kernel
theorem d_Ref_addOutcome_32 : decode b_Ref_addOutcome 32 = .ok (.aload_n 0, 1) := by decide +kernel
theorem d_Ref_addOutcome_33 : decode b_Ref_addOutcome 33 = .ok (.getfield 44, 3) := by decide +kernel
theorem d_Ref_addOutcome_36 : decode b_Ref_addOutcome 36 = .ok (.iload_n 2, 1) := by decide +kernel
theorem d_Ref_addOutcome_37 : decode b_Ref_addOutcome 37 = .ok (.iload 5, 2) := by decide +kernel
theorem d_Ref_addOutcome_39 : decode b_Ref_addOutcome 39 = .ok (.iadd, 1) := by decide +kernel
theorem d_Ref_addOutcome_40 : decode b_Ref_addOutcome 40 = .ok (.iaload, 1) := by decide +kernel
theorem d_Ref_addOutcome_41 : decode b_Ref_addOutcome 41 = .ok (.invokevirtual 235, 3) := by decide +kernel
theorem d_Ref_addOutcome_44 : decode b_Ref_addOutcome 44 = .ok (.ifCond .le 11, 3) := by decide +kernel
theorem d_Ref_addOutcome_47 : decode b_Ref_addOutcome 47 = .ok (.iload 5, 2) := by decide +kernel
theorem d_Ref_addOutcome_49 : decode b_Ref_addOutcome 49 = .ok (.iconst 1, 1) := by decide +kernel
theorem d_Ref_addOutcome_50 : decode b_Ref_addOutcome 50 = .ok (.iadd, 1) := by decide +kernel
theorem d_Ref_addOutcome_51 : decode b_Ref_addOutcome 51 = .ok (.istore_n 3, 1) := by decide +kernel
theorem d_Ref_addOutcome_52 : decode b_Ref_addOutcome 52 = .ok (.goto 7, 3) := by decide +kernel
theorem d_Ref_addOutcome_55 : decode b_Ref_addOutcome 55 = .ok (.iload 5, 2) := by decide +kernel
theorem d_Ref_addOutcome_57 : decode b_Ref_addOutcome 57 = .ok (.istore 4, 2) := by decide +kernel
theorem d_Ref_addOutcome_59 : decode b_Ref_addOutcome 59 = .ok (.goto (-43), 3) := by decide +kernel
theorem d_Ref_addOutcome_62 : decode b_Ref_addOutcome 62 = .ok (.aload_n 0, 1) := by decide +kernel
theorem d_Ref_addOutcome_63 : decode b_Ref_addOutcome 63 = .ok (.getfield 29, 3) := by decide +kernel
theorem d_Ref_addOutcome_66 : decode b_Ref_addOutcome 66 = .ok (.iload_n 1, 1) := by decide +kernel
theorem d_Ref_addOutcome_67 : decode b_Ref_addOutcome 67 = .ok (.iaload, 1) := by decide +kernel
theorem d_Ref_addOutcome_68 : decode b_Ref_addOutcome 68 = .ok (.istore 5, 2) := by decide +kernel
theorem d_Ref_addOutcome_70 : decode b_Ref_addOutcome 70 = .ok (.iload_n 3, 1) := by decide +kernel
theorem d_Ref_addOutcome_71 : decode b_Ref_addOutcome 71 = .ok (.iload 5, 2) := by decide +kernel
theorem d_Ref_addOutcome_73 : decode b_Ref_addOutcome 73 = .ok (.if_icmp .ge 19, 3) := by decide +kernel
theorem d_Ref_addOutcome_76 : decode b_Ref_addOutcome 76 = .ok (.aload_n 0, 1) := by decide +kernel
theorem d_Ref_addOutcome_77 : decode b_Ref_addOutcome 77 = .ok (.iload_n 1, 1) := by decide +kernel
theorem d_Ref_addOutcome_78 : decode b_Ref_addOutcome 78 = .ok (.aload_n 0, 1) := by decide +kernel
theorem d_Ref_addOutcome_79 : decode b_Ref_addOutcome 79 = .ok (.getfield 44, 3) := by decide +kernel
theorem d_Ref_addOutcome_82 : decode b_Ref_addOutcome 82 = .ok (.iload_n 2, 1) := by decide +kernel
theorem d_Ref_addOutcome_83 : decode b_Ref_addOutcome 83 = .ok (.iload_n 3, 1) := by decide +kernel
theorem d_Ref_addOutcome_84 : decode b_Ref_addOutcome 84 = .ok (.iadd, 1) := by decide +kernel
theorem d_Ref_addOutcome_85 : decode b_Ref_addOutcome 85 = .ok (.iaload, 1) := by decide +kernel
theorem d_Ref_addOutcome_86 : decode b_Ref_addOutcome 86 = .ok (.invokevirtual 235, 3) := by decide +kernel
theorem d_Ref_addOutcome_89 : decode b_Ref_addOutcome 89 = .ok (.ifCond .eq 11, 3) := by decide +kernel
theorem d_Ref_addOutcome_92 : decode b_Ref_addOutcome 92 = .ok (.iload 5, 2) := by decide +kernel
theorem d_Ref_addOutcome_94 : decode b_Ref_addOutcome 94 = .ok (.sipush 4000, 3) := by decide +kernel
theorem d_Ref_addOutcome_97 : decode b_Ref_addOutcome 97 = .ok (.if_icmp .ne 5, 3) := by decide +kernel
theorem d_Ref_addOutcome_100 : decode b_Ref_addOutcome 100 = .ok (.iconst (-1), 1) := by decide +kernel
theorem d_Ref_addOutcome_101 : decode b_Ref_addOutcome 101 = .ok (.ireturn, 1) := by decide +kernel
theorem d_Ref_addOutcome_102 : decode b_Ref_addOutcome 102 = .ok (.iload 5, 2) := by decide +kernel
theorem d_Ref_addOutcome_104 : decode b_Ref_addOutcome 104 = .ok (.istore 6, 2) := by decide +kernel
theorem d_Ref_addOutcome_106 : decode b_Ref_addOutcome 106 = .ok (.iload 6, 2) := by decide +kernel
theorem d_Ref_addOutcome_108 : decode b_Ref_addOutcome 108 = .ok (.iload_n 3, 1) := by decide +kernel
theorem d_Ref_addOutcome_109 : decode b_Ref_addOutcome 109 = .ok (.if_icmp .le 29, 3) := by decide +kernel
theorem d_Ref_addOutcome_112 : decode b_Ref_addOutcome 112 = .ok (.aload_n 0, 1) := by decide +kernel
theorem d_Ref_addOutcome_113 : decode b_Ref_addOutcome 113 = .ok (.getfield 44, 3) := by decide +kernel
theorem d_Ref_addOutcome_116 : decode b_Ref_addOutcome 116 = .ok (.iload_n 2, 1) := by decide +kernel
theorem d_Ref_addOutcome_117 : decode b_Ref_addOutcome 117 = .ok (.iload 6, 2) := by decide +kernel
theorem d_Ref_addOutcome_119 : decode b_Ref_addOutcome 119 = .ok (.iadd, 1) := by decide +kernel
theorem d_Ref_addOutcome_120 : decode b_Ref_addOutcome 120 = .ok (.aload_n 0, 1) := by decide +kernel
theorem d_Ref_addOutcome_121 : decode b_Ref_addOutcome 121 = .ok (.getfield 44, 3) := by decide +kernel
theorem d_Ref_addOutcome_124 : decode b_Ref_addOutcome 124 = .ok (.iload_n 2, 1) := by decide +kernel
theorem d_Ref_addOutcome_125 : decode b_Ref_addOutcome 125 = .ok (.iload 6, 2) := by decide +kernel
theorem d_Ref_addOutcome_127 : decode b_Ref_addOutcome 127 = .ok (.iadd, 1) := by decide +kernel
theorem d_Ref_addOutcome_128 : decode b_Ref_addOutcome 128 = .ok (.iconst 1, 1) := by decide +kernel
theorem d_Ref_addOutcome_129 : decode b_Ref_addOutcome 129 = .ok (.isub, 1) := by decide +kernel
theorem d_Ref_addOutcome_130 : decode b_Ref_addOutcome 130 = .ok (.iaload, 1) := by decide +kernel
theorem d_Ref_addOutcome_131 : decode b_Ref_addOutcome 131 = .ok (.iastore, 1) := by decide +kernel
theorem d_Ref_addOutcome_132 : decode b_Ref_addOutcome 132 = .ok (.iinc 6 (-1), 3) := by decide +kernel
theorem d_Ref_addOutcome_135 : decode b_Ref_addOutcome 135 = .ok (.goto (-29), 3) := by decide +kernel
theorem d_Ref_addOutcome_138 : decode b_Ref_addOutcome 138 = .ok (.aload_n 0, 1) := by decide +kernel
theorem d_Ref_addOutcome_139 : decode b_Ref_addOutcome 139 = .ok (.getfield 44, 3) := by decide +kernel
theorem d_Ref_addOutcome_142 : decode b_Ref_addOutcome 142 = .ok (.iload_n 2, 1) := by decide +kernel
theorem d_Ref_addOutcome_143 : decode b_Ref_addOutcome 143 = .ok (.iload_n 3, 1) := by decide +kernel
theorem d_Ref_addOutcome_144 : decode b_Ref_addOutcome 144 = .ok (.iadd, 1) := by decide +kernel
theorem d_Ref_addOutcome_145 : decode b_Ref_addOutcome 145 = .ok (.iload 5, 2) := by decide +kernel
theorem d_Ref_addOutcome_147 : decode b_Ref_addOutcome 147 = .ok (.iastore, 1) := by decide +kernel
theorem d_Ref_addOutcome_148 : decode b_Ref_addOutcome 148 = .ok (.aload_n 0, 1) := by decide +kernel
theorem d_Ref_addOutcome_149 : decode b_Ref_addOutcome 149 = .ok (.getfield 29, 3) := by decide +kernel
theorem d_Ref_addOutcome_152 : decode b_Ref_addOutcome 152 = .ok (.iload_n 1, 1) := by decide +kernel
theorem d_Ref_addOutcome_153 : decode b_Ref_addOutcome 153 = .ok (.dup2, 1) := by decide +kernel
theorem d_Ref_addOutcome_154 : decode b_Ref_addOutcome 154 = .ok (.iaload, 1) := by decide +kernel
theorem d_Ref_addOutcome_155 : decode b_Ref_addOutcome 155 = .ok (.iconst 1, 1) := by decide +kernel
theorem d_Ref_addOutcome_156 : decode b_Ref_addOutcome 156 = .ok (.iadd, 1) := by decide +kernel
theorem d_Ref_addOutcome_157 : decode b_Ref_addOutcome 157 = .ok (.iastore, 1) := by decide +kernel
theorem d_Ref_addOutcome_158 : decode b_Ref_addOutcome 158 = .ok (.iconst 0, 1) := by decide +kernel
theorem d_Ref_addOutcome_159 : decode b_Ref_addOutcome 159 = .ok (.istore 6, 2) := by decide +kernel
theorem d_Ref_addOutcome_161 : decode b_Ref_addOutcome 161 = .ok (.iload 6, 2) := by decide +kernel
theorem d_Ref_addOutcome_163 : decode b_Ref_addOutcome 163 = .ok (.bipush 11, 2) := by decide +kernel
theorem d_Ref_addOutcome_165 : decode b_Ref_addOutcome 165 = .ok (.if_icmp .ge 32, 3) := by decide +kernel
theorem d_Ref_addOutcome_168 : decode b_Ref_addOutcome 168 = .ok (.aload_n 0, 1) := by decide +kernel
theorem d_Ref_addOutcome_169 : decode b_Ref_addOutcome 169 = .ok (.getfield 33, 3) := by decide +kernel
theorem d_Ref_addOutcome_172 : decode b_Ref_addOutcome 172 = .ok (.bipush 11, 2) := by decide +kernel
theorem d_Ref_addOutcome_174 : decode b_Ref_addOutcome 174 = .ok (.iload_n 2, 1) := by decide +kernel
theorem d_Ref_addOutcome_175 : decode b_Ref_addOutcome 175 = .ok (.iload 5, 2) := by decide +kernel
theorem d_Ref_addOutcome_177 : decode b_Ref_addOutcome 177 = .ok (.iadd, 1) := by decide +kernel
theorem d_Ref_addOutcome_178 : decode b_Ref_addOutcome 178 = .ok (.imul, 1) := by decide +kernel
theorem d_Ref_addOutcome_179 : decode b_Ref_addOutcome 179 = .ok (.iload 6, 2) := by decide +kernel
theorem d_Ref_addOutcome_181 : decode b_Ref_addOutcome 181 = .ok (.iadd, 1) := by decide +kernel
theorem d_Ref_addOutcome_182 : decode b_Ref_addOutcome 182 = .ok (.aload_n 0, 1) := by decide +kernel
theorem d_Ref_addOutcome_183 : decode b_Ref_addOutcome 183 = .ok (.getfield 78, 3) := by decide +kernel
theorem d_Ref_addOutcome_186 : decode b_Ref_addOutcome 186 = .ok (.iload 6, 2) := by decide +kernel
theorem d_Ref_addOutcome_188 : decode b_Ref_addOutcome 188 = .ok (.iaload, 1) := by decide +kernel
theorem d_Ref_addOutcome_189 : decode b_Ref_addOutcome 189 = .ok (.i2s, 1) := by decide +kernel
theorem d_Ref_addOutcome_190 : decode b_Ref_addOutcome 190 = .ok (.sastore, 1) := by decide +kernel
theorem d_Ref_addOutcome_191 : decode b_Ref_addOutcome 191 = .ok (.iinc 6 1, 3) := by decide +kernel
theorem d_Ref_addOutcome_194 : decode b_Ref_addOutcome 194 = .ok (.goto (-33), 3) := by decide +kernel
theorem d_Ref_addOutcome_197 : decode b_Ref_addOutcome 197 = .ok (.iload 5, 2) := by decide +kernel
theorem d_Ref_addOutcome_199 : decode b_Ref_addOutcome 199 = .ok (.ireturn, 1) := by decide +kernel
theorem d_Ref_markRaces_0 : decode b_Ref_markRaces 0 = .ok (.iconst 0, 1) := by decide +kernel
theorem d_Ref_markRaces_1 : decode b_Ref_markRaces 1 = .ok (.istore_n 1, 1) := by decide +kernel
theorem d_Ref_markRaces_2 : decode b_Ref_markRaces 2 = .ok (.iload_n 1, 1) := by decide +kernel
theorem d_Ref_markRaces_3 : decode b_Ref_markRaces 3 = .ok (.aload_n 0, 1) := by decide +kernel
theorem d_Ref_markRaces_4 : decode b_Ref_markRaces 4 = .ok (.getfield 133, 3) := by decide +kernel
theorem d_Ref_markRaces_7 : decode b_Ref_markRaces 7 = .ok (.if_icmp .ge 197, 3) := by decide +kernel
theorem d_Ref_markRaces_10 : decode b_Ref_markRaces 10 = .ok (.iload_n 1, 1) := by decide +kernel
theorem d_Ref_markRaces_11 : decode b_Ref_markRaces 11 = .ok (.iconst 1, 1) := by decide +kernel
theorem d_Ref_markRaces_12 : decode b_Ref_markRaces 12 = .ok (.iadd, 1) := by decide +kernel
theorem d_Ref_markRaces_13 : decode b_Ref_markRaces 13 = .ok (.istore_n 2, 1) := by decide +kernel
theorem d_Ref_markRaces_14 : decode b_Ref_markRaces 14 = .ok (.iload_n 2, 1) := by decide +kernel
theorem d_Ref_markRaces_15 : decode b_Ref_markRaces 15 = .ok (.aload_n 0, 1) := by decide +kernel
theorem d_Ref_markRaces_16 : decode b_Ref_markRaces 16 = .ok (.getfield 133, 3) := by decide +kernel
theorem d_Ref_markRaces_19 : decode b_Ref_markRaces 19 = .ok (.if_icmp .ge 179, 3) := by decide +kernel
theorem d_Ref_markRaces_22 : decode b_Ref_markRaces 22 = .ok (.aload_n 0, 1) := by decide +kernel
theorem d_Ref_markRaces_23 : decode b_Ref_markRaces 23 = .ok (.getfield 53, 3) := by decide +kernel
theorem d_Ref_markRaces_26 : decode b_Ref_markRaces 26 = .ok (.iload_n 1, 1) := by decide +kernel
theorem d_Ref_markRaces_27 : decode b_Ref_markRaces 27 = .ok (.iaload, 1) := by decide +kernel
theorem d_Ref_markRaces_28 : decode b_Ref_markRaces 28 = .ok (.aload_n 0, 1) := by decide +kernel
theorem d_Ref_markRaces_29 : decode b_Ref_markRaces 29 = .ok (.getfield 7, 3) := by decide +kernel
theorem d_Ref_markRaces_32 : decode b_Ref_markRaces 32 = .ok (.iload_n 1, 1) := by decide +kernel
theorem d_Ref_markRaces_33 : decode b_Ref_markRaces 33 = .ok (.iaload, 1) := by decide +kernel
theorem d_Ref_markRaces_34 : decode b_Ref_markRaces 34 = .ok (.if_icmp .ge 158, 3) := by decide +kernel
theorem d_Ref_markRaces_37 : decode b_Ref_markRaces 37 = .ok (.aload_n 0, 1) := by decide +kernel
theorem d_Ref_markRaces_38 : decode b_Ref_markRaces 38 = .ok (.getfield 53, 3) := by decide +kernel
theorem d_Ref_markRaces_41 : decode b_Ref_markRaces 41 = .ok (.iload_n 2, 1) := by decide +kernel
theorem d_Ref_markRaces_42 : decode b_Ref_markRaces 42 = .ok (.iaload, 1) := by decide +kernel
theorem d_Ref_markRaces_43 : decode b_Ref_markRaces 43 = .ok (.aload_n 0, 1) := by decide +kernel
theorem d_Ref_markRaces_44 : decode b_Ref_markRaces 44 = .ok (.getfield 7, 3) := by decide +kernel
theorem d_Ref_markRaces_47 : decode b_Ref_markRaces 47 = .ok (.iload_n 2, 1) := by decide +kernel
theorem d_Ref_markRaces_48 : decode b_Ref_markRaces 48 = .ok (.iaload, 1) := by decide +kernel
theorem d_Ref_markRaces_49 : decode b_Ref_markRaces 49 = .ok (.if_icmp .ge 143, 3) := by decide +kernel
theorem d_Ref_markRaces_52 : decode b_Ref_markRaces 52 = .ok (.bipush 7, 2) := by decide +kernel
theorem d_Ref_markRaces_54 : decode b_Ref_markRaces 54 = .ok (.iload_n 1, 1) := by decide +kernel
theorem d_Ref_markRaces_55 : decode b_Ref_markRaces 55 = .ok (.imul, 1) := by decide +kernel
theorem d_Ref_markRaces_56 : decode b_Ref_markRaces 56 = .ok (.aload_n 0, 1) := by decide +kernel
theorem d_Ref_markRaces_57 : decode b_Ref_markRaces 57 = .ok (.getfield 53, 3) := by decide +kernel
theorem d_Ref_markRaces_60 : decode b_Ref_markRaces 60 = .ok (.iload_n 1, 1) := by decide +kernel
theorem d_Ref_markRaces_61 : decode b_Ref_markRaces 61 = .ok (.iaload, 1) := by decide +kernel
theorem d_Ref_markRaces_62 : decode b_Ref_markRaces 62 = .ok (.iadd, 1) := by decide +kernel
theorem d_Ref_markRaces_63 : decode b_Ref_markRaces 63 = .ok (.istore_n 3, 1) := by decide +kernel
theorem d_Ref_markRaces_64 : decode b_Ref_markRaces 64 = .ok (.bipush 7, 2) := by decide +kernel
theorem d_Ref_markRaces_66 : decode b_Ref_markRaces 66 = .ok (.iload_n 2, 1) := by decide +kernel
theorem d_Ref_markRaces_67 : decode b_Ref_markRaces 67 = .ok (.imul, 1) := by decide +kernel
theorem d_Ref_markRaces_68 : decode b_Ref_markRaces 68 = .ok (.aload_n 0, 1) := by decide +kernel
theorem d_Ref_markRaces_69 : decode b_Ref_markRaces 69 = .ok (.getfield 53, 3) := by decide +kernel
theorem d_Ref_markRaces_72 : decode b_Ref_markRaces 72 = .ok (.iload_n 2, 1) := by decide +kernel
theorem d_Ref_markRaces_73 : decode b_Ref_markRaces 73 = .ok (.iaload, 1) := by decide +kernel
theorem d_Ref_markRaces_74 : decode b_Ref_markRaces 74 = .ok (.iadd, 1) := by decide +kernel
theorem d_Ref_markRaces_75 : decode b_Ref_markRaces 75 = .ok (.istore 4, 2) := by decide +kernel
theorem d_Ref_markRaces_77 : decode b_Ref_markRaces 77 = .ok (.aload_n 0, 1) := by decide +kernel
theorem d_Ref_markRaces_78 : decode b_Ref_markRaces 78 = .ok (.getfield 13, 3) := by decide +kernel
theorem d_Ref_markRaces_81 : decode b_Ref_markRaces 81 = .ok (.iload_n 3, 1) := by decide +kernel
theorem d_Ref_markRaces_82 : decode b_Ref_markRaces 82 = .ok (.iaload, 1) := by decide +kernel
theorem d_Ref_markRaces_83 : decode b_Ref_markRaces 83 = .ok (.iconst 3, 1) := by decide +kernel
theorem d_Ref_markRaces_84 : decode b_Ref_markRaces 84 = .ok (.if_icmp .gt 34, 3) := by decide +kernel
theorem d_Ref_markRaces_87 : decode b_Ref_markRaces 87 = .ok (.aload_n 0, 1) := by decide +kernel
theorem d_Ref_markRaces_88 : decode b_Ref_markRaces 88 = .ok (.getfield 13, 3) := by decide +kernel
theorem d_Ref_markRaces_91 : decode b_Ref_markRaces 91 = .ok (.iload 4, 2) := by decide +kernel
theorem d_Ref_markRaces_93 : decode b_Ref_markRaces 93 = .ok (.iaload, 1) := by decide +kernel
theorem d_Ref_markRaces_94 : decode b_Ref_markRaces 94 = .ok (.iconst 3, 1) := by decide +kernel
theorem d_Ref_markRaces_95 : decode b_Ref_markRaces 95 = .ok (.if_icmp .gt 23, 3) := by decide +kernel
theorem d_Ref_markRaces_98 : decode b_Ref_markRaces 98 = .ok (.aload_n 0, 1) := by decide +kernel
theorem d_Ref_markRaces_99 : decode b_Ref_markRaces 99 = .ok (.getfield 16, 3) := by decide +kernel
theorem d_Ref_markRaces_102 : decode b_Ref_markRaces 102 = .ok (.iload_n 3, 1) := by decide +kernel
theorem d_Ref_markRaces_103 : decode b_Ref_markRaces 103 = .ok (.iaload, 1) := by decide +kernel
theorem d_Ref_markRaces_104 : decode b_Ref_markRaces 104 = .ok (.aload_n 0, 1) := by decide +kernel
theorem d_Ref_markRaces_105 : decode b_Ref_markRaces 105 = .ok (.getfield 16, 3) := by decide +kernel
theorem d_Ref_markRaces_108 : decode b_Ref_markRaces 108 = .ok (.iload 4, 2) := by decide +kernel
theorem d_Ref_markRaces_110 : decode b_Ref_markRaces 110 = .ok (.iaload, 1) := by decide +kernel
theorem d_Ref_markRaces_111 : decode b_Ref_markRaces 111 = .ok (.if_icmp .ne 7, 3) := by decide +kernel
theorem d_Ref_markRaces_114 : decode b_Ref_markRaces 114 = .ok (.iconst 1, 1) := by decide +kernel
theorem d_Ref_markRaces_115 : decode b_Ref_markRaces 115 = .ok (.goto 4, 3) := by decide +kernel
theorem d_Ref_markRaces_118 : decode b_Ref_markRaces 118 = .ok (.iconst 0, 1) := by decide +kernel
theorem d_Ref_markRaces_119 : decode b_Ref_markRaces 119 = .ok (.istore 5, 2) := by decide +kernel
theorem d_Ref_markRaces_121 : decode b_Ref_markRaces 121 = .ok (.iload 5, 2) := by decide +kernel
theorem d_Ref_markRaces_123 : decode b_Ref_markRaces 123 = .ok (.ifCond .eq 69, 3) := by decide +kernel
theorem d_Ref_markRaces_126 : decode b_Ref_markRaces 126 = .ok (.aload_n 0, 1) := by decide +kernel
theorem d_Ref_markRaces_127 : decode b_Ref_markRaces 127 = .ok (.getfield 13, 3) := by decide +kernel
theorem d_Ref_markRaces_130 : decode b_Ref_markRaces 130 = .ok (.iload_n 3, 1) := by decide +kernel
theorem d_Ref_markRaces_131 : decode b_Ref_markRaces 131 = .ok (.iaload, 1) := by decide +kernel
theorem d_Ref_markRaces_132 : decode b_Ref_markRaces 132 = .ok (.ifCond .ne 13, 3) := by decide +kernel
theorem d_Ref_markRaces_135 : decode b_Ref_markRaces 135 = .ok (.aload_n 0, 1) := by decide +kernel
theorem d_Ref_markRaces_136 : decode b_Ref_markRaces 136 = .ok (.getfield 13, 3) := by decide +kernel
theorem d_Ref_markRaces_139 : decode b_Ref_markRaces 139 = .ok (.iload 4, 2) := by decide +kernel
theorem d_Ref_markRaces_141 : decode b_Ref_markRaces 141 = .ok (.iaload, 1) := by decide +kernel
theorem d_Ref_markRaces_142 : decode b_Ref_markRaces 142 = .ok (.ifCond .eq 50, 3) := by decide +kernel
theorem d_Ref_markRaces_145 : decode b_Ref_markRaces 145 = .ok (.aload_n 0, 1) := by decide +kernel
theorem d_Ref_markRaces_146 : decode b_Ref_markRaces 146 = .ok (.getfield 13, 3) := by decide +kernel
theorem d_Ref_markRaces_149 : decode b_Ref_markRaces 149 = .ok (.iload_n 3, 1) := by decide +kernel
theorem d_Ref_markRaces_150 : decode b_Ref_markRaces 150 = .ok (.iaload, 1) := by decide +kernel
theorem d_Ref_markRaces_151 : decode b_Ref_markRaces 151 = .ok (.iconst 3, 1) := by decide +kernel
theorem d_Ref_markRaces_152 : decode b_Ref_markRaces 152 = .ok (.if_icmp .ne 14, 3) := by decide +kernel
theorem d_Ref_markRaces_155 : decode b_Ref_markRaces 155 = .ok (.aload_n 0, 1) := by decide +kernel
theorem d_Ref_markRaces_156 : decode b_Ref_markRaces 156 = .ok (.getfield 13, 3) := by decide +kernel
theorem d_Ref_markRaces_159 : decode b_Ref_markRaces 159 = .ok (.iload 4, 2) := by decide +kernel
theorem d_Ref_markRaces_161 : decode b_Ref_markRaces 161 = .ok (.iaload, 1) := by decide +kernel
theorem d_Ref_markRaces_162 : decode b_Ref_markRaces 162 = .ok (.iconst 3, 1) := by decide +kernel
theorem d_Ref_markRaces_163 : decode b_Ref_markRaces 163 = .ok (.if_icmp .eq 29, 3) := by decide +kernel
theorem d_Ref_markRaces_166 : decode b_Ref_markRaces 166 = .ok (.aload_n 0, 1) := by decide +kernel
theorem d_Ref_markRaces_167 : decode b_Ref_markRaces 167 = .ok (.getfield 50, 3) := by decide +kernel
theorem d_Ref_markRaces_170 : decode b_Ref_markRaces 170 = .ok (.bipush 28, 2) := by decide +kernel
theorem d_Ref_markRaces_172 : decode b_Ref_markRaces 172 = .ok (.iload_n 3, 1) := by decide +kernel
theorem d_Ref_markRaces_173 : decode b_Ref_markRaces 173 = .ok (.imul, 1) := by decide +kernel
theorem d_Ref_markRaces_174 : decode b_Ref_markRaces 174 = .ok (.iload 4, 2) := by decide +kernel
theorem d_Ref_markRaces_176 : decode b_Ref_markRaces 176 = .ok (.iadd, 1) := by decide +kernel
theorem d_Ref_markRaces_177 : decode b_Ref_markRaces 177 = .ok (.iconst 1, 1) := by decide +kernel
theorem d_Ref_markRaces_178 : decode b_Ref_markRaces 178 = .ok (.bastore, 1) := by decide +kernel
theorem d_Ref_markRaces_179 : decode b_Ref_markRaces 179 = .ok (.aload_n 0, 1) := by decide +kernel
theorem d_Ref_markRaces_180 : decode b_Ref_markRaces 180 = .ok (.getfield 50, 3) := by decide +kernel
theorem d_Ref_markRaces_183 : decode b_Ref_markRaces 183 = .ok (.bipush 28, 2) := by decide +kernel
theorem d_Ref_markRaces_185 : decode b_Ref_markRaces 185 = .ok (.iload 4, 2) := by decide +kernel
theorem d_Ref_markRaces_187 : decode b_Ref_markRaces 187 = .ok (.imul, 1) := by decide +kernel
theorem d_Ref_markRaces_188 : decode b_Ref_markRaces 188 = .ok (.iload_n 3, 1) := by decide +kernel
theorem d_Ref_markRaces_189 : decode b_Ref_markRaces 189 = .ok (.iadd, 1) := by decide +kernel
theorem d_Ref_markRaces_190 : decode b_Ref_markRaces 190 = .ok (.iconst 1, 1) := by decide +kernel
theorem d_Ref_markRaces_191 : decode b_Ref_markRaces 191 = .ok (.bastore, 1) := by decide +kernel
theorem d_Ref_markRaces_192 : decode b_Ref_markRaces 192 = .ok (.iinc 2 1, 3) := by decide +kernel
theorem d_Ref_markRaces_195 : decode b_Ref_markRaces 195 = .ok (.goto (-181), 3) := by decide +kernel
theorem d_Ref_markRaces_198 : decode b_Ref_markRaces 198 = .ok (.iinc 1 1, 3) := by decide +kernel
theorem d_Ref_markRaces_201 : decode b_Ref_markRaces 201 = .ok (.goto (-199), 3) := by decide +kernel
theorem d_Ref_markRaces_204 : decode b_Ref_markRaces 204 = .ok (.return_, 1) := by decide +kernel
theorem d_Ref_findRaces_0 : decode b_Ref_findRaces 0 = .ok (.aload_n 0, 1) := by decide +kernel
theorem d_Ref_findRaces_1 : decode b_Ref_findRaces 1 = .ok (.getfield 129, 3) := by decide +kernel
theorem d_Ref_findRaces_4 : decode b_Ref_findRaces 4 = .ok (.ifCond .ne 36, 3) := by decide +kernel
theorem d_Ref_findRaces_7 : decode b_Ref_findRaces 7 = .ok (.iconst 0, 1) := by decide +kernel
theorem d_Ref_findRaces_8 : decode b_Ref_findRaces 8 = .ok (.istore_n 1, 1) := by decide +kernel
theorem d_Ref_findRaces_9 : decode b_Ref_findRaces 9 = .ok (.iload_n 1, 1) := by decide +kernel
theorem d_Ref_findRaces_10 : decode b_Ref_findRaces 10 = .ok (.sipush 784, 3) := by decide +kernel
theorem d_Ref_findRaces_13 : decode b_Ref_findRaces 13 = .ok (.if_icmp .ge 16, 3) := by decide +kernel
theorem d_Ref_findRaces_16 : decode b_Ref_findRaces 16 = .ok (.aload_n 0, 1) := by decide +kernel
theorem d_Ref_findRaces_17 : decode b_Ref_findRaces 17 = .ok (.getfield 50, 3) := by decide +kernel
theorem d_Ref_findRaces_20 : decode b_Ref_findRaces 20 = .ok (.iload_n 1, 1) := by decide +kernel
theorem d_Ref_findRaces_21 : decode b_Ref_findRaces 21 = .ok (.iconst 0, 1) := by decide +kernel
theorem d_Ref_findRaces_22 : decode b_Ref_findRaces 22 = .ok (.bastore, 1) := by decide +kernel
theorem d_Ref_findRaces_23 : decode b_Ref_findRaces 23 = .ok (.iinc 1 1, 3) := by decide +kernel
theorem d_Ref_findRaces_26 : decode b_Ref_findRaces 26 = .ok (.goto (-17), 3) := by decide +kernel
theorem d_Ref_findRaces_29 : decode b_Ref_findRaces 29 = .ok (.aload_n 0, 1) := by decide +kernel
theorem d_Ref_findRaces_30 : decode b_Ref_findRaces 30 = .ok (.iconst 0, 1) := by decide +kernel
theorem d_Ref_findRaces_31 : decode b_Ref_findRaces 31 = .ok (.iconst 1, 1) := by decide +kernel
theorem d_Ref_findRaces_32 : decode b_Ref_findRaces 32 = .ok (.invokevirtual 238, 3) := by decide +kernel
theorem d_Ref_findRaces_35 : decode b_Ref_findRaces 35 = .ok (.aload_n 0, 1) := by decide +kernel
theorem d_Ref_findRaces_36 : decode b_Ref_findRaces 36 = .ok (.iconst 1, 1) := by decide +kernel
theorem d_Ref_findRaces_37 : decode b_Ref_findRaces 37 = .ok (.putfield 129, 3) := by decide +kernel
theorem d_Ref_findRaces_40 : decode b_Ref_findRaces 40 = .ok (.return_, 1) := by decide +kernel
theorem d_Ref_find_0 : decode b_Ref_find 0 = .ok (.aload_n 0, 1) := by decide +kernel
theorem d_Ref_find_1 : decode b_Ref_find 1 = .ok (.getfield 25, 3) := by decide +kernel
theorem d_Ref_find_4 : decode b_Ref_find 4 = .ok (.iload_n 1, 1) := by decide +kernel
theorem d_Ref_find_5 : decode b_Ref_find 5 = .ok (.baload, 1) := by decide +kernel
theorem d_Ref_find_6 : decode b_Ref_find 6 = .ok (.ifCond .ne 16, 3) := by decide +kernel
theorem d_Ref_find_9 : decode b_Ref_find 9 = .ok (.aload_n 0, 1) := by decide +kernel
theorem d_Ref_find_10 : decode b_Ref_find 10 = .ok (.iload_n 1, 1) := by decide +kernel
theorem d_Ref_find_11 : decode b_Ref_find 11 = .ok (.iconst 0, 1) := by decide +kernel
theorem d_Ref_find_12 : decode b_Ref_find 12 = .ok (.invokevirtual 238, 3) := by decide +kernel
theorem d_Ref_find_15 : decode b_Ref_find 15 = .ok (.aload_n 0, 1) := by decide +kernel
theorem d_Ref_find_16 : decode b_Ref_find 16 = .ok (.getfield 25, 3) := by decide +kernel
theorem d_Ref_find_19 : decode b_Ref_find 19 = .ok (.iload_n 1, 1) := by decide +kernel
theorem d_Ref_find_20 : decode b_Ref_find 20 = .ok (.iconst 1, 1) := by decide +kernel
theorem d_Ref_find_21 : decode b_Ref_find 21 = .ok (.bastore, 1) := by decide +kernel
theorem d_Ref_find_22 : decode b_Ref_find 22 = .ok (.return_, 1) := by decide +kernel
theorem d_Ref_findGraphs_0 : decode b_Ref_findGraphs 0 = .ok (.aload_n 0, 1) := by decide +kernel
theorem d_Ref_findGraphs_1 : decode b_Ref_findGraphs 1 = .ok (.getfield 25, 3) := by decide +kernel
theorem d_Ref_findGraphs_4 : decode b_Ref_findGraphs 4 = .ok (.iconst 4, 1) := by decide +kernel
theorem d_Ref_findGraphs_5 : decode b_Ref_findGraphs 5 = .ok (.iload_n 1, 1) := by decide +kernel
theorem d_Ref_findGraphs_6 : decode b_Ref_findGraphs 6 = .ok (.iadd, 1) := by decide +kernel
theorem d_Ref_findGraphs_7 : decode b_Ref_findGraphs 7 = .ok (.baload, 1) := by decide +kernel
theorem d_Ref_findGraphs_8 : decode b_Ref_findGraphs 8 = .ok (.ifCond .eq 4, 3) := by decide +kernel
theorem d_Ref_findGraphs_11 : decode b_Ref_findGraphs 11 = .ok (.return_, 1) := by decide +kernel
theorem d_Ref_findGraphs_12 : decode b_Ref_findGraphs 12 = .ok (.aload_n 0, 1) := by decide +kernel
theorem d_Ref_findGraphs_13 : decode b_Ref_findGraphs 13 = .ok (.getfield 25, 3) := by decide +kernel
theorem d_Ref_findGraphs_16 : decode b_Ref_findGraphs 16 = .ok (.iconst 4, 1) := by decide +kernel
theorem d_Ref_findGraphs_17 : decode b_Ref_findGraphs 17 = .ok (.iload_n 1, 1) := by decide +kernel
theorem d_Ref_findGraphs_18 : decode b_Ref_findGraphs 18 = .ok (.iadd, 1) := by decide +kernel
theorem d_Ref_findGraphs_19 : decode b_Ref_findGraphs 19 = .ok (.iconst 1, 1) := by decide +kernel
theorem d_Ref_findGraphs_20 : decode b_Ref_findGraphs 20 = .ok (.bastore, 1) := by decide +kernel
theorem d_Ref_findGraphs_21 : decode b_Ref_findGraphs 21 = .ok (.aload_n 0, 1) := by decide +kernel
theorem d_Ref_findGraphs_22 : decode b_Ref_findGraphs 22 = .ok (.getfield 29, 3) := by decide +kernel
theorem d_Ref_findGraphs_25 : decode b_Ref_findGraphs 25 = .ok (.iconst 4, 1) := by decide +kernel
theorem d_Ref_findGraphs_26 : decode b_Ref_findGraphs 26 = .ok (.iload_n 1, 1) := by decide +kernel
theorem d_Ref_findGraphs_27 : decode b_Ref_findGraphs 27 = .ok (.iadd, 1) := by decide +kernel
theorem d_Ref_findGraphs_28 : decode b_Ref_findGraphs 28 = .ok (.iconst 0, 1) := by decide +kernel
theorem d_Ref_findGraphs_29 : decode b_Ref_findGraphs 29 = .ok (.iastore, 1) := by decide +kernel
theorem d_Ref_findGraphs_30 : decode b_Ref_findGraphs 30 = .ok (.aload_n 0, 1) := by decide +kernel
theorem d_Ref_findGraphs_31 : decode b_Ref_findGraphs 31 = .ok (.getfield 47, 3) := by decide +kernel
theorem d_Ref_findGraphs_34 : decode b_Ref_findGraphs 34 = .ok (.iload_n 1, 1) := by decide +kernel
theorem d_Ref_findGraphs_35 : decode b_Ref_findGraphs 35 = .ok (.iconst 0, 1) := by decide +kernel
theorem d_Ref_findGraphs_36 : decode b_Ref_findGraphs 36 = .ok (.iastore, 1) := by decide +kernel
theorem d_Ref_findGraphs_37 : decode b_Ref_findGraphs 37 = .ok (.aload_n 0, 1) := by decide +kernel
theorem d_Ref_findGraphs_38 : decode b_Ref_findGraphs 38 = .ok (.iload_n 1, 1) := by decide +kernel
theorem d_Ref_findGraphs_39 : decode b_Ref_findGraphs 39 = .ok (.putfield 242, 3) := by decide +kernel
theorem d_Ref_findGraphs_42 : decode b_Ref_findGraphs 42 = .ok (.aload_n 0, 1) := by decide +kernel
theorem d_Ref_findGraphs_43 : decode b_Ref_findGraphs 43 = .ok (.iconst 0, 1) := by decide +kernel
theorem d_Ref_findGraphs_44 : decode b_Ref_findGraphs 44 = .ok (.putfield 245, 3) := by decide +kernel
theorem d_Ref_findGraphs_47 : decode b_Ref_findGraphs 47 = .ok (.iconst 0, 1) := by decide +kernel
theorem d_Ref_findGraphs_48 : decode b_Ref_findGraphs 48 = .ok (.istore_n 2, 1) := by decide +kernel
theorem d_Ref_findGraphs_49 : decode b_Ref_findGraphs 49 = .ok (.iload_n 2, 1) := by decide +kernel
theorem d_Ref_findGraphs_50 : decode b_Ref_findGraphs 50 = .ok (.aload_n 0, 1) := by decide +kernel
theorem d_Ref_findGraphs_51 : decode b_Ref_findGraphs 51 = .ok (.getfield 133, 3) := by decide +kernel
theorem d_Ref_findGraphs_54 : decode b_Ref_findGraphs 54 = .ok (.if_icmp .ge 69, 3) := by decide +kernel
theorem d_Ref_findGraphs_57 : decode b_Ref_findGraphs 57 = .ok (.iconst 0, 1) := by decide +kernel
theorem d_Ref_findGraphs_58 : decode b_Ref_findGraphs 58 = .ok (.istore_n 3, 1) := by decide +kernel
theorem d_Ref_findGraphs_59 : decode b_Ref_findGraphs 59 = .ok (.iload_n 3, 1) := by decide +kernel
theorem d_Ref_findGraphs_60 : decode b_Ref_findGraphs 60 = .ok (.aload_n 0, 1) := by decide +kernel
theorem d_Ref_findGraphs_61 : decode b_Ref_findGraphs 61 = .ok (.getfield 7, 3) := by decide +kernel
theorem d_Ref_findGraphs_64 : decode b_Ref_findGraphs 64 = .ok (.iload_n 2, 1) := by decide +kernel
theorem d_Ref_findGraphs_65 : decode b_Ref_findGraphs 65 = .ok (.iaload, 1) := by decide +kernel
theorem d_Ref_findGraphs_66 : decode b_Ref_findGraphs 66 = .ok (.if_icmp .ge 51, 3) := by decide +kernel
theorem d_Ref_findGraphs_69 : decode b_Ref_findGraphs 69 = .ok (.aload_n 0, 1) := by decide +kernel
theorem d_Ref_findGraphs_70 : decode b_Ref_findGraphs 70 = .ok (.getfield 13, 3) := by decide +kernel
theorem d_Ref_findGraphs_73 : decode b_Ref_findGraphs 73 = .ok (.bipush 7, 2) := by decide +kernel
theorem d_Ref_findGraphs_75 : decode b_Ref_findGraphs 75 = .ok (.iload_n 2, 1) := by decide +kernel
theorem d_Ref_findGraphs_76 : decode b_Ref_findGraphs 76 = .ok (.imul, 1) := by decide +kernel
theorem d_Ref_findGraphs_77 : decode b_Ref_findGraphs 77 = .ok (.iload_n 3, 1) := by decide +kernel
theorem d_Ref_findGraphs_78 : decode b_Ref_findGraphs 78 = .ok (.iadd, 1) := by decide +kernel
theorem d_Ref_findGraphs_79 : decode b_Ref_findGraphs 79 = .ok (.iaload, 1) := by decide +kernel
theorem d_Ref_findGraphs_80 : decode b_Ref_findGraphs 80 = .ok (.invokestatic 248, 3) := by decide +kernel
theorem d_Ref_findGraphs_83 : decode b_Ref_findGraphs 83 = .ok (.ifCond .eq 28, 3) := by decide +kernel
theorem d_Ref_findGraphs_86 : decode b_Ref_findGraphs 86 = .ok (.aload_n 0, 1) := by decide +kernel
theorem d_Ref_findGraphs_87 : decode b_Ref_findGraphs 87 = .ok (.getfield 99, 3) := by decide +kernel
theorem d_Ref_findGraphs_90 : decode b_Ref_findGraphs 90 = .ok (.aload_n 0, 1) := by decide +kernel
theorem d_Ref_findGraphs_91 : decode b_Ref_findGraphs 91 = .ok (.getfield 245, 3) := by decide +kernel
theorem d_Ref_findGraphs_94 : decode b_Ref_findGraphs 94 = .ok (.bipush 7, 2) := by decide +kernel
theorem d_Ref_findGraphs_96 : decode b_Ref_findGraphs 96 = .ok (.iload_n 2, 1) := by decide +kernel
theorem d_Ref_findGraphs_97 : decode b_Ref_findGraphs 97 = .ok (.imul, 1) := by decide +kernel
theorem d_Ref_findGraphs_98 : decode b_Ref_findGraphs 98 = .ok (.iload_n 3, 1) := by decide +kernel
theorem d_Ref_findGraphs_99 : decode b_Ref_findGraphs 99 = .ok (.iadd, 1) := by decide +kernel
theorem d_Ref_findGraphs_100 : decode b_Ref_findGraphs 100 = .ok (.iastore, 1) := by decide +kernel
theorem d_Ref_findGraphs_101 : decode b_Ref_findGraphs 101 = .ok (.aload_n 0, 1) := by decide +kernel
theorem d_Ref_findGraphs_102 : decode b_Ref_findGraphs 102 = .ok (.dup, 1) := by decide +kernel
theorem d_Ref_findGraphs_103 : decode b_Ref_findGraphs 103 = .ok (.getfield 245, 3) := by decide +kernel
theorem d_Ref_findGraphs_106 : decode b_Ref_findGraphs 106 = .ok (.iconst 1, 1) := by decide +kernel
theorem d_Ref_findGraphs_107 : decode b_Ref_findGraphs 107 = .ok (.iadd, 1) := by decide +kernel
theorem d_Ref_findGraphs_108 : decode b_Ref_findGraphs 108 = .ok (.putfield 245, 3) := by decide +kernel
theorem d_Ref_findGraphs_111 : decode b_Ref_findGraphs 111 = .ok (.iinc 3 1, 3) := by decide +kernel
theorem d_Ref_findGraphs_114 : decode b_Ref_findGraphs 114 = .ok (.goto (-55), 3) := by decide +kernel
theorem d_Ref_findGraphs_117 : decode b_Ref_findGraphs 117 = .ok (.iinc 2 1, 3) := by decide +kernel
theorem d_Ref_findGraphs_120 : decode b_Ref_findGraphs 120 = .ok (.goto (-71), 3) := by decide +kernel
theorem d_Ref_findGraphs_123 : decode b_Ref_findGraphs 123 = .ok (.aload_n 0, 1) := by decide +kernel
theorem d_Ref_findGraphs_124 : decode b_Ref_findGraphs 124 = .ok (.iconst 0, 1) := by decide +kernel
theorem d_Ref_findGraphs_125 : decode b_Ref_findGraphs 125 = .ok (.invokevirtual 251, 3) := by decide +kernel
theorem d_Ref_findGraphs_128 : decode b_Ref_findGraphs 128 = .ok (.return_, 1) := by decide +kernel
theorem d_Ref_choose_0 : decode b_Ref_choose 0 = .ok (.iload_n 1, 1) := by decide +kernel
theorem d_Ref_choose_1 : decode b_Ref_choose 1 = .ok (.aload_n 0, 1) := by decide +kernel
theorem d_Ref_choose_2 : decode b_Ref_choose 2 = .ok (.getfield 245, 3) := by decide +kernel
theorem d_Ref_choose_5 : decode b_Ref_choose 5 = .ok (.if_icmp .ne 8, 3) := by decide +kernel
theorem d_Ref_choose_8 : decode b_Ref_choose 8 = .ok (.aload_n 0, 1) := by decide +kernel
theorem d_Ref_choose_9 : decode b_Ref_choose 9 = .ok (.invokevirtual 254, 3) := by decide +kernel
theorem d_Ref_choose_12 : decode b_Ref_choose 12 = .ok (.return_, 1) := by decide +kernel
theorem d_Ref_choose_13 : decode b_Ref_choose 13 = .ok (.aload_n 0, 1) := by decide +kernel
theorem d_Ref_choose_14 : decode b_Ref_choose 14 = .ok (.getfield 99, 3) := by decide +kernel
theorem d_Ref_choose_17 : decode b_Ref_choose 17 = .ok (.iload_n 1, 1) := by decide +kernel
theorem d_Ref_choose_18 : decode b_Ref_choose 18 = .ok (.iaload, 1) := by decide +kernel
theorem d_Ref_choose_19 : decode b_Ref_choose 19 = .ok (.istore_n 2, 1) := by decide +kernel
theorem d_Ref_choose_20 : decode b_Ref_choose 20 = .ok (.aload_n 0, 1) := by decide +kernel
theorem d_Ref_choose_21 : decode b_Ref_choose 21 = .ok (.getfield 81, 3) := by decide +kernel
theorem d_Ref_choose_24 : decode b_Ref_choose 24 = .ok (.iload_n 2, 1) := by decide +kernel
theorem d_Ref_choose_25 : decode b_Ref_choose 25 = .ok (.iconst (-1), 1) := by decide +kernel
theorem d_Ref_choose_26 : decode b_Ref_choose 26 = .ok (.iastore, 1) := by decide +kernel
theorem d_Ref_choose_27 : decode b_Ref_choose 27 = .ok (.aload_n 0, 1) := by decide +kernel
theorem d_Ref_choose_28 : decode b_Ref_choose 28 = .ok (.iload_n 1, 1) := by decide +kernel
theorem d_Ref_choose_29 : decode b_Ref_choose 29 = .ok (.invokevirtual 257, 3) := by decide +kernel
theorem d_Ref_choose_32 : decode b_Ref_choose 32 = .ok (.ifCond .eq 10, 3) := by decide +kernel
theorem d_Ref_choose_35 : decode b_Ref_choose 35 = .ok (.aload_n 0, 1) := by decide +kernel
theorem d_Ref_choose_36 : decode b_Ref_choose 36 = .ok (.iload_n 1, 1) := by decide +kernel
theorem d_Ref_choose_37 : decode b_Ref_choose 37 = .ok (.iconst 1, 1) := by decide +kernel
theorem d_Ref_choose_38 : decode b_Ref_choose 38 = .ok (.iadd, 1) := by decide +kernel
theorem d_Ref_choose_39 : decode b_Ref_choose 39 = .ok (.invokevirtual 251, 3) := by decide +kernel
theorem d_Ref_choose_42 : decode b_Ref_choose 42 = .ok (.iconst 0, 1) := by decide +kernel
theorem d_Ref_choose_43 : decode b_Ref_choose 43 = .ok (.istore_n 3, 1) := by decide +kernel
theorem d_Ref_choose_44 : decode b_Ref_choose 44 = .ok (.iload_n 3, 1) := by decide +kernel
theorem d_Ref_choose_45 : decode b_Ref_choose 45 = .ok (.aload_n 0, 1) := by decide +kernel
theorem d_Ref_choose_46 : decode b_Ref_choose 46 = .ok (.getfield 133, 3) := by decide +kernel
theorem d_Ref_choose_49 : decode b_Ref_choose 49 = .ok (.if_icmp .ge 95, 3) := by decide +kernel
theorem d_Ref_choose_52 : decode b_Ref_choose 52 = .ok (.bipush 7, 2) := by decide +kernel
theorem d_Ref_choose_54 : decode b_Ref_choose 54 = .ok (.iload_n 3, 1) := by decide +kernel
theorem d_Ref_choose_55 : decode b_Ref_choose 55 = .ok (.imul, 1) := by decide +kernel
theorem d_Ref_choose_56 : decode b_Ref_choose 56 = .ok (.istore 4, 2) := by decide +kernel
theorem d_Ref_choose_58 : decode b_Ref_choose 58 = .ok (.iload 4, 2) := by decide +kernel
theorem d_Ref_choose_60 : decode b_Ref_choose 60 = .ok (.bipush 7, 2) := by decide +kernel
theorem d_Ref_choose_62 : decode b_Ref_choose 62 = .ok (.iload_n 3, 1) := by decide +kernel
theorem d_Ref_choose_63 : decode b_Ref_choose 63 = .ok (.imul, 1) := by decide +kernel
theorem d_Ref_choose_64 : decode b_Ref_choose 64 = .ok (.aload_n 0, 1) := by decide +kernel
theorem d_Ref_choose_65 : decode b_Ref_choose 65 = .ok (.getfield 7, 3) := by decide +kernel
theorem d_Ref_choose_68 : decode b_Ref_choose 68 = .ok (.iload_n 3, 1) := by decide +kernel
theorem d_Ref_choose_69 : decode b_Ref_choose 69 = .ok (.iaload, 1) := by decide +kernel
theorem d_Ref_choose_70 : decode b_Ref_choose 70 = .ok (.iadd, 1) := by decide +kernel
theorem d_Ref_choose_71 : decode b_Ref_choose 71 = .ok (.if_icmp .ge 67, 3) := by decide +kernel
theorem d_Ref_choose_74 : decode b_Ref_choose 74 = .ok (.iload 4, 2) := by decide +kernel
theorem d_Ref_choose_76 : decode b_Ref_choose 76 = .ok (.iload_n 2, 1) := by decide +kernel
theorem d_Ref_choose_77 : decode b_Ref_choose 77 = .ok (.if_icmp .eq 55, 3) := by decide +kernel
theorem d_Ref_choose_80 : decode b_Ref_choose 80 = .ok (.aload_n 0, 1) := by decide +kernel
theorem d_Ref_choose_81 : decode b_Ref_choose 81 = .ok (.getfield 13, 3) := by decide +kernel
theorem d_Ref_choose_84 : decode b_Ref_choose 84 = .ok (.iload 4, 2) := by decide +kernel
theorem d_Ref_choose_86 : decode b_Ref_choose 86 = .ok (.iaload, 1) := by decide +kernel
theorem d_Ref_choose_87 : decode b_Ref_choose 87 = .ok (.invokestatic 260, 3) := by decide +kernel
theorem d_Ref_choose_90 : decode b_Ref_choose 90 = .ok (.ifCond .eq 42, 3) := by decide +kernel
theorem d_Ref_choose_93 : decode b_Ref_choose 93 = .ok (.aload_n 0, 1) := by decide +kernel
theorem d_Ref_choose_94 : decode b_Ref_choose 94 = .ok (.getfield 16, 3) := by decide +kernel
theorem d_Ref_choose_97 : decode b_Ref_choose 97 = .ok (.iload 4, 2) := by decide +kernel
theorem d_Ref_choose_99 : decode b_Ref_choose 99 = .ok (.iaload, 1) := by decide +kernel
theorem d_Ref_choose_100 : decode b_Ref_choose 100 = .ok (.aload_n 0, 1) := by decide +kernel
theorem d_Ref_choose_101 : decode b_Ref_choose 101 = .ok (.getfield 16, 3) := by decide +kernel
theorem d_Ref_choose_104 : decode b_Ref_choose 104 = .ok (.iload_n 2, 1) := by decide +kernel
theorem d_Ref_choose_105 : decode b_Ref_choose 105 = .ok (.iaload, 1) := by decide +kernel
theorem d_Ref_choose_106 : decode b_Ref_choose 106 = .ok (.if_icmp .ne 26, 3) := by decide +kernel
theorem d_Ref_choose_109 : decode b_Ref_choose 109 = .ok (.aload_n 0, 1) := by decide +kernel
theorem d_Ref_choose_110 : decode b_Ref_choose 110 = .ok (.getfield 81, 3) := by decide +kernel
theorem d_Ref_choose_113 : decode b_Ref_choose 113 = .ok (.iload_n 2, 1) := by decide +kernel
theorem d_Ref_choose_114 : decode b_Ref_choose 114 = .ok (.iload 4, 2) := by decide +kernel
theorem d_Ref_choose_116 : decode b_Ref_choose 116 = .ok (.iastore, 1) := by decide +kernel
theorem d_Ref_choose_117 : decode b_Ref_choose 117 = .ok (.aload_n 0, 1) := by decide +kernel
theorem d_Ref_choose_118 : decode b_Ref_choose 118 = .ok (.iload_n 1, 1) := by decide +kernel
theorem d_Ref_choose_119 : decode b_Ref_choose 119 = .ok (.invokevirtual 257, 3) := by decide +kernel
theorem d_Ref_choose_122 : decode b_Ref_choose 122 = .ok (.ifCond .eq 10, 3) := by decide +kernel
theorem d_Ref_choose_125 : decode b_Ref_choose 125 = .ok (.aload_n 0, 1) := by decide +kernel
theorem d_Ref_choose_126 : decode b_Ref_choose 126 = .ok (.iload_n 1, 1) := by decide +kernel
theorem d_Ref_choose_127 : decode b_Ref_choose 127 = .ok (.iconst 1, 1) := by decide +kernel
theorem d_Ref_choose_128 : decode b_Ref_choose 128 = .ok (.iadd, 1) := by decide +kernel
theorem d_Ref_choose_129 : decode b_Ref_choose 129 = .ok (.invokevirtual 251, 3) := by decide +kernel
theorem d_Ref_choose_132 : decode b_Ref_choose 132 = .ok (.iinc 4 1, 3) := by decide +kernel
theorem d_Ref_choose_135 : decode b_Ref_choose 135 = .ok (.goto (-77), 3) := by decide +kernel
theorem d_Ref_choose_138 : decode b_Ref_choose 138 = .ok (.iinc 3 1, 3) := by decide +kernel
theorem d_Ref_choose_141 : decode b_Ref_choose 141 = .ok (.goto (-97), 3) := by decide +kernel
theorem d_Ref_choose_144 : decode b_Ref_choose 144 = .ok (.return_, 1) := by decide +kernel
theorem d_Ref_goes_0 : decode b_Ref_goes 0 = .ok (.iconst 0, 1) := by decide +kernel
theorem d_Ref_goes_1 : decode b_Ref_goes 1 = .ok (.istore_n 1, 1) := by decide +kernel
theorem d_Ref_goes_2 : decode b_Ref_goes 2 = .ok (.iload_n 1, 1) := by decide +kernel
theorem d_Ref_goes_3 : decode b_Ref_goes 3 = .ok (.bipush 28, 2) := by decide +kernel
theorem d_Ref_goes_5 : decode b_Ref_goes 5 = .ok (.if_icmp .ge 23, 3) := by decide +kernel
theorem d_Ref_goes_8 : decode b_Ref_goes 8 = .ok (.aload_n 0, 1) := by decide +kernel
theorem d_Ref_goes_9 : decode b_Ref_goes 9 = .ok (.getfield 84, 3) := by decide +kernel
theorem d_Ref_goes_12 : decode b_Ref_goes 12 = .ok (.iload_n 1, 1) := by decide +kernel
theorem d_Ref_goes_13 : decode b_Ref_goes 13 = .ok (.iconst 0, 1) := by decide +kernel
theorem d_Ref_goes_14 : decode b_Ref_goes 14 = .ok (.bastore, 1) := by decide +kernel
theorem d_Ref_goes_15 : decode b_Ref_goes 15 = .ok (.aload_n 0, 1) := by decide +kernel
theorem d_Ref_goes_16 : decode b_Ref_goes 16 = .ok (.getfield 87, 3) := by decide +kernel
theorem d_Ref_goes_19 : decode b_Ref_goes 19 = .ok (.iload_n 1, 1) := by decide +kernel
theorem d_Ref_goes_20 : decode b_Ref_goes 20 = .ok (.iconst 0, 1) := by decide +kernel
theorem d_Ref_goes_21 : decode b_Ref_goes 21 = .ok (.bastore, 1) := by decide +kernel
theorem d_Ref_goes_22 : decode b_Ref_goes 22 = .ok (.iinc 1 1, 3) := by decide +kernel
theorem d_Ref_goes_25 : decode b_Ref_goes 25 = .ok (.goto (-23), 3) := by decide +kernel
theorem d_Ref_goes_28 : decode b_Ref_goes 28 = .ok (.iconst 0, 1) := by decide +kernel
theorem d_Ref_goes_29 : decode b_Ref_goes 29 = .ok (.istore_n 1, 1) := by decide +kernel
theorem d_Ref_goes_30 : decode b_Ref_goes 30 = .ok (.iload_n 1, 1) := by decide +kernel
theorem d_Ref_goes_31 : decode b_Ref_goes 31 = .ok (.iconst 4, 1) := by decide +kernel
theorem d_Ref_goes_32 : decode b_Ref_goes 32 = .ok (.if_icmp .ge 36, 3) := by decide +kernel
theorem d_Ref_goes_35 : decode b_Ref_goes 35 = .ok (.aload_n 0, 1) := by decide +kernel
theorem d_Ref_goes_36 : decode b_Ref_goes 36 = .ok (.getfield 93, 3) := by decide +kernel
theorem d_Ref_goes_39 : decode b_Ref_goes 39 = .ok (.iload_n 1, 1) := by decide +kernel
theorem d_Ref_goes_40 : decode b_Ref_goes 40 = .ok (.iconst 0, 1) := by decide +kernel
theorem d_Ref_goes_41 : decode b_Ref_goes 41 = .ok (.iastore, 1) := by decide +kernel
theorem d_Ref_goes_42 : decode b_Ref_goes 42 = .ok (.aload_n 0, 1) := by decide +kernel
theorem d_Ref_goes_43 : decode b_Ref_goes 43 = .ok (.getfield 96, 3) := by decide +kernel
theorem d_Ref_goes_46 : decode b_Ref_goes 46 = .ok (.iconst 2, 1) := by decide +kernel
theorem d_Ref_goes_47 : decode b_Ref_goes 47 = .ok (.iload_n 1, 1) := by decide +kernel
theorem d_Ref_goes_48 : decode b_Ref_goes 48 = .ok (.imul, 1) := by decide +kernel
theorem d_Ref_goes_49 : decode b_Ref_goes 49 = .ok (.iconst 0, 1) := by decide +kernel
theorem d_Ref_goes_50 : decode b_Ref_goes 50 = .ok (.iastore, 1) := by decide +kernel
theorem d_Ref_goes_51 : decode b_Ref_goes 51 = .ok (.aload_n 0, 1) := by decide +kernel
theorem d_Ref_goes_52 : decode b_Ref_goes 52 = .ok (.getfield 96, 3) := by decide +kernel
theorem d_Ref_goes_55 : decode b_Ref_goes 55 = .ok (.iconst 2, 1) := by decide +kernel
theorem d_Ref_goes_56 : decode b_Ref_goes 56 = .ok (.iload_n 1, 1) := by decide +kernel
theorem d_Ref_goes_57 : decode b_Ref_goes 57 = .ok (.imul, 1) := by decide +kernel
theorem d_Ref_goes_58 : decode b_Ref_goes 58 = .ok (.iconst 1, 1) := by decide +kernel
theorem d_Ref_goes_59 : decode b_Ref_goes 59 = .ok (.iadd, 1) := by decide +kernel
theorem d_Ref_goes_60 : decode b_Ref_goes 60 = .ok (.iconst 0, 1) := by decide +kernel
theorem d_Ref_goes_61 : decode b_Ref_goes 61 = .ok (.iastore, 1) := by decide +kernel
theorem d_Ref_goes_62 : decode b_Ref_goes 62 = .ok (.iinc 1 1, 3) := by decide +kernel
theorem d_Ref_goes_65 : decode b_Ref_goes 65 = .ok (.goto (-35), 3) := by decide +kernel
theorem d_Ref_goes_68 : decode b_Ref_goes 68 = .ok (.iconst 1, 1) := by decide +kernel
theorem d_Ref_goes_69 : decode b_Ref_goes 69 = .ok (.istore_n 1, 1) := by decide +kernel
theorem d_Ref_goes_70 : decode b_Ref_goes 70 = .ok (.iload_n 1, 1) := by decide +kernel
theorem d_Ref_goes_71 : decode b_Ref_goes 71 = .ok (.ifCond .eq 52, 3) := by decide +kernel
theorem d_Ref_goes_74 : decode b_Ref_goes 74 = .ok (.iconst 0, 1) := by decide +kernel
theorem d_Ref_goes_75 : decode b_Ref_goes 75 = .ok (.istore_n 1, 1) := by decide +kernel
theorem d_Ref_goes_76 : decode b_Ref_goes 76 = .ok (.iconst 0, 1) := by decide +kernel
theorem d_Ref_goes_77 : decode b_Ref_goes 77 = .ok (.istore_n 2, 1) := by decide +kernel
theorem d_Ref_goes_78 : decode b_Ref_goes 78 = .ok (.iload_n 2, 1) := by decide +kernel
theorem d_Ref_goes_79 : decode b_Ref_goes 79 = .ok (.aload_n 0, 1) := by decide +kernel
theorem d_Ref_goes_80 : decode b_Ref_goes 80 = .ok (.getfield 133, 3) := by decide +kernel
theorem d_Ref_goes_83 : decode b_Ref_goes 83 = .ok (.if_icmp .ge 37, 3) := by decide +kernel
theorem d_Ref_goes_86 : decode b_Ref_goes 86 = .ok (.aload_n 0, 1) := by decide +kernel
theorem d_Ref_goes_87 : decode b_Ref_goes 87 = .ok (.getfield 93, 3) := by decide +kernel
theorem d_Ref_goes_90 : decode b_Ref_goes 90 = .ok (.iload_n 2, 1) := by decide +kernel
theorem d_Ref_goes_91 : decode b_Ref_goes 91 = .ok (.iaload, 1) := by decide +kernel
theorem d_Ref_goes_92 : decode b_Ref_goes 92 = .ok (.aload_n 0, 1) := by decide +kernel
theorem d_Ref_goes_93 : decode b_Ref_goes 93 = .ok (.getfield 7, 3) := by decide +kernel
theorem d_Ref_goes_96 : decode b_Ref_goes 96 = .ok (.iload_n 2, 1) := by decide +kernel
theorem d_Ref_goes_97 : decode b_Ref_goes 97 = .ok (.iaload, 1) := by decide +kernel
theorem d_Ref_goes_98 : decode b_Ref_goes 98 = .ok (.if_icmp .ge 16, 3) := by decide +kernel
theorem d_Ref_goes_101 : decode b_Ref_goes 101 = .ok (.aload_n 0, 1) := by decide +kernel
theorem d_Ref_goes_102 : decode b_Ref_goes 102 = .ok (.iload_n 2, 1) := by decide +kernel
theorem d_Ref_goes_103 : decode b_Ref_goes 103 = .ok (.invokevirtual 263, 3) := by decide +kernel
theorem d_Ref_goes_106 : decode b_Ref_goes 106 = .ok (.ifCond .eq 8, 3) := by decide +kernel
theorem d_Ref_goes_109 : decode b_Ref_goes 109 = .ok (.iconst 1, 1) := by decide +kernel
theorem d_Ref_goes_110 : decode b_Ref_goes 110 = .ok (.istore_n 1, 1) := by decide +kernel
theorem d_Ref_goes_111 : decode b_Ref_goes 111 = .ok (.goto (-25), 3) := by decide +kernel
theorem d_Ref_goes_114 : decode b_Ref_goes 114 = .ok (.iinc 2 1, 3) := by decide +kernel
theorem d_Ref_goes_117 : decode b_Ref_goes 117 = .ok (.goto (-39), 3) := by decide +kernel
theorem d_Ref_goes_120 : decode b_Ref_goes 120 = .ok (.goto (-50), 3) := by decide +kernel
theorem d_Ref_goes_123 : decode b_Ref_goes 123 = .ok (.iconst 0, 1) := by decide +kernel
theorem d_Ref_goes_124 : decode b_Ref_goes 124 = .ok (.istore_n 2, 1) := by decide +kernel
theorem d_Ref_goes_125 : decode b_Ref_goes 125 = .ok (.iload_n 2, 1) := by decide +kernel
theorem d_Ref_goes_126 : decode b_Ref_goes 126 = .ok (.aload_n 0, 1) := by decide +kernel
theorem d_Ref_goes_127 : decode b_Ref_goes 127 = .ok (.getfield 133, 3) := by decide +kernel
theorem d_Ref_goes_130 : decode b_Ref_goes 130 = .ok (.if_icmp .ge 26, 3) := by decide +kernel
theorem d_Ref_goes_133 : decode b_Ref_goes 133 = .ok (.aload_n 0, 1) := by decide +kernel
theorem d_Ref_goes_134 : decode b_Ref_goes 134 = .ok (.getfield 93, 3) := by decide +kernel
theorem d_Ref_goes_137 : decode b_Ref_goes 137 = .ok (.iload_n 2, 1) := by decide +kernel
theorem d_Ref_goes_138 : decode b_Ref_goes 138 = .ok (.iaload, 1) := by decide +kernel
theorem d_Ref_goes_139 : decode b_Ref_goes 139 = .ok (.aload_n 0, 1) := by decide +kernel
theorem d_Ref_goes_140 : decode b_Ref_goes 140 = .ok (.getfield 7, 3) := by decide +kernel
theorem d_Ref_goes_143 : decode b_Ref_goes 143 = .ok (.iload_n 2, 1) := by decide +kernel
theorem d_Ref_goes_144 : decode b_Ref_goes 144 = .ok (.iaload, 1) := by decide +kernel
theorem d_Ref_goes_145 : decode b_Ref_goes 145 = .ok (.if_icmp .ge 5, 3) := by decide +kernel
theorem d_Ref_goes_148 : decode b_Ref_goes 148 = .ok (.iconst 0, 1) := by decide +kernel
theorem d_Ref_goes_149 : decode b_Ref_goes 149 = .ok (.ireturn, 1) := by decide +kernel
theorem d_Ref_goes_150 : decode b_Ref_goes 150 = .ok (.iinc 2 1, 3) := by decide +kernel
theorem d_Ref_goes_153 : decode b_Ref_goes 153 = .ok (.goto (-28), 3) := by decide +kernel
theorem d_Ref_goes_156 : decode b_Ref_goes 156 = .ok (.iconst 0, 1) := by decide +kernel
theorem d_Ref_goes_157 : decode b_Ref_goes 157 = .ok (.istore_n 2, 1) := by decide +kernel
theorem d_Ref_goes_158 : decode b_Ref_goes 158 = .ok (.iconst 0, 1) := by decide +kernel
theorem d_Ref_goes_159 : decode b_Ref_goes 159 = .ok (.istore_n 3, 1) := by decide +kernel
theorem d_Ref_goes_160 : decode b_Ref_goes 160 = .ok (.iload_n 3, 1) := by decide +kernel
theorem d_Ref_goes_161 : decode b_Ref_goes 161 = .ok (.aload_n 0, 1) := by decide +kernel
theorem d_Ref_goes_162 : decode b_Ref_goes 162 = .ok (.getfield 245, 3) := by decide +kernel
theorem d_Ref_goes_165 : decode b_Ref_goes 165 = .ok (.if_icmp .ge 39, 3) := by decide +kernel
theorem d_Ref_goes_168 : decode b_Ref_goes 168 = .ok (.aload_n 0, 1) := by decide +kernel
theorem d_Ref_goes_169 : decode b_Ref_goes 169 = .ok (.getfield 99, 3) := by decide +kernel
theorem d_Ref_goes_172 : decode b_Ref_goes 172 = .ok (.iload_n 3, 1) := by decide +kernel
theorem d_Ref_goes_173 : decode b_Ref_goes 173 = .ok (.iaload, 1) := by decide +kernel
theorem d_Ref_goes_174 : decode b_Ref_goes 174 = .ok (.istore 4, 2) := by decide +kernel
theorem d_Ref_goes_176 : decode b_Ref_goes 176 = .ok (.aload_n 0, 1) := by decide +kernel
theorem d_Ref_goes_177 : decode b_Ref_goes 177 = .ok (.getfield 84, 3) := by decide +kernel
theorem d_Ref_goes_180 : decode b_Ref_goes 180 = .ok (.iload 4, 2) := by decide +kernel
theorem d_Ref_goes_182 : decode b_Ref_goes 182 = .ok (.baload, 1) := by decide +kernel
theorem d_Ref_goes_183 : decode b_Ref_goes 183 = .ok (.ifCond .ne 15, 3) := by decide +kernel
theorem d_Ref_goes_186 : decode b_Ref_goes 186 = .ok (.aload_n 0, 1) := by decide +kernel
theorem d_Ref_goes_187 : decode b_Ref_goes 187 = .ok (.getfield 81, 3) := by decide +kernel
theorem d_Ref_goes_190 : decode b_Ref_goes 190 = .ok (.iload 4, 2) := by decide +kernel
theorem d_Ref_goes_192 : decode b_Ref_goes 192 = .ok (.iaload, 1) := by decide +kernel
theorem d_Ref_goes_193 : decode b_Ref_goes 193 = .ok (.ifCond .lt 5, 3) := by decide +kernel
theorem d_Ref_goes_196 : decode b_Ref_goes 196 = .ok (.iconst 0, 1) := by decide +kernel
theorem d_Ref_goes_197 : decode b_Ref_goes 197 = .ok (.ireturn, 1) := by decide +kernel
theorem d_Ref_goes_198 : decode b_Ref_goes 198 = .ok (.iinc 3 1, 3) := by decide +kernel
theorem d_Ref_goes_201 : decode b_Ref_goes 201 = .ok (.goto (-41), 3) := by decide +kernel
theorem d_Ref_goes_204 : decode b_Ref_goes 204 = .ok (.iconst 0, 1) := by decide +kernel
theorem d_Ref_goes_205 : decode b_Ref_goes 205 = .ok (.istore_n 3, 1) := by decide +kernel
theorem d_Ref_goes_206 : decode b_Ref_goes 206 = .ok (.iload_n 3, 1) := by decide +kernel
theorem d_Ref_goes_207 : decode b_Ref_goes 207 = .ok (.iconst 3, 1) := by decide +kernel
theorem d_Ref_goes_208 : decode b_Ref_goes 208 = .ok (.if_icmp .ge 107, 3) := by decide +kernel
theorem d_Ref_goes_211 : decode b_Ref_goes 211 = .ok (.iconst 0, 1) := by decide +kernel
theorem d_Ref_goes_212 : decode b_Ref_goes 212 = .ok (.istore 4, 2) := by decide +kernel
theorem d_Ref_goes_214 : decode b_Ref_goes 214 = .ok (.iconst 0, 1) := by decide +kernel
theorem d_Ref_goes_215 : decode b_Ref_goes 215 = .ok (.istore 5, 2) := by decide +kernel
theorem d_Ref_goes_217 : decode b_Ref_goes 217 = .ok (.iload 5, 2) := by decide +kernel
theorem d_Ref_goes_219 : decode b_Ref_goes 219 = .ok (.aload_n 0, 1) := by decide +kernel
theorem d_Ref_goes_220 : decode b_Ref_goes 220 = .ok (.getfield 245, 3) := by decide +kernel
theorem d_Ref_goes_223 : decode b_Ref_goes 223 = .ok (.if_icmp .ge 70, 3) := by decide +kernel
theorem d_Ref_goes_226 : decode b_Ref_goes 226 = .ok (.aload_n 0, 1) := by decide +kernel
theorem d_Ref_goes_227 : decode b_Ref_goes 227 = .ok (.getfield 99, 3) := by decide +kernel
theorem d_Ref_goes_230 : decode b_Ref_goes 230 = .ok (.iload 5, 2) := by decide +kernel
theorem d_Ref_goes_232 : decode b_Ref_goes 232 = .ok (.iaload, 1) := by decide +kernel
theorem d_Ref_goes_233 : decode b_Ref_goes 233 = .ok (.istore 6, 2) := by decide +kernel
theorem d_Ref_goes_235 : decode b_Ref_goes 235 = .ok (.iload 4, 2) := by decide +kernel
theorem d_Ref_goes_237 : decode b_Ref_goes 237 = .ok (.aload_n 0, 1) := by decide +kernel
theorem d_Ref_goes_238 : decode b_Ref_goes 238 = .ok (.getfield 13, 3) := by decide +kernel
theorem d_Ref_goes_241 : decode b_Ref_goes 241 = .ok (.iload 6, 2) := by decide +kernel
theorem d_Ref_goes_243 : decode b_Ref_goes 243 = .ok (.iaload, 1) := by decide +kernel
theorem d_Ref_goes_244 : decode b_Ref_goes 244 = .ok (.iconst 3, 1) := by decide +kernel
theorem d_Ref_goes_245 : decode b_Ref_goes 245 = .ok (.if_icmp .ne 38, 3) := by decide +kernel
theorem d_Ref_goes_248 : decode b_Ref_goes 248 = .ok (.aload_n 0, 1) := by decide +kernel
theorem d_Ref_goes_249 : decode b_Ref_goes 249 = .ok (.getfield 16, 3) := by decide +kernel
theorem d_Ref_goes_252 : decode b_Ref_goes 252 = .ok (.iload 6, 2) := by decide +kernel
theorem d_Ref_goes_254 : decode b_Ref_goes 254 = .ok (.iaload, 1) := by decide +kernel
theorem d_Ref_goes_255 : decode b_Ref_goes 255 = .ok (.iload_n 3, 1) := by decide +kernel
theorem d_Ref_goes_256 : decode b_Ref_goes 256 = .ok (.if_icmp .ne 27, 3) := by decide +kernel
theorem d_Ref_goes_259 : decode b_Ref_goes 259 = .ok (.aload_n 0, 1) := by decide +kernel
theorem d_Ref_goes_260 : decode b_Ref_goes 260 = .ok (.getfield 84, 3) := by decide +kernel
theorem d_Ref_goes_263 : decode b_Ref_goes 263 = .ok (.iload 6, 2) := by decide +kernel
theorem d_Ref_goes_265 : decode b_Ref_goes 265 = .ok (.baload, 1) := by decide +kernel
theorem d_Ref_goes_266 : decode b_Ref_goes 266 = .ok (.ifCond .eq 17, 3) := by decide +kernel
theorem d_Ref_goes_269 : decode b_Ref_goes 269 = .ok (.aload_n 0, 1) := by decide +kernel
theorem d_Ref_goes_270 : decode b_Ref_goes 270 = .ok (.getfield 81, 3) := by decide +kernel
theorem d_Ref_goes_273 : decode b_Ref_goes 273 = .ok (.iload 6, 2) := by decide +kernel
theorem d_Ref_goes_275 : decode b_Ref_goes 275 = .ok (.iaload, 1) := by decide +kernel
theorem d_Ref_goes_276 : decode b_Ref_goes 276 = .ok (.ifCond .ge 7, 3) := by decide +kernel
theorem d_Ref_goes_279 : decode b_Ref_goes 279 = .ok (.iconst 1, 1) := by decide +kernel
theorem d_Ref_goes_280 : decode b_Ref_goes 280 = .ok (.goto 4, 3) := by decide +kernel
theorem d_Ref_goes_283 : decode b_Ref_goes 283 = .ok (.iconst 0, 1) := by decide +kernel
theorem d_Ref_goes_284 : decode b_Ref_goes 284 = .ok (.iadd, 1) := by decide +kernel
theorem d_Ref_goes_285 : decode b_Ref_goes 285 = .ok (.istore 4, 2) := by decide +kernel
theorem d_Ref_goes_287 : decode b_Ref_goes 287 = .ok (.iinc 5 1, 3) := by decide +kernel
theorem d_Ref_goes_290 : decode b_Ref_goes 290 = .ok (.goto (-73), 3) := by decide +kernel
theorem d_Ref_goes_293 : decode b_Ref_goes 293 = .ok (.iload_n 2, 1) := by decide +kernel
theorem d_Ref_goes_294 : decode b_Ref_goes 294 = .ok (.ifCond .ne 9, 3) := by decide +kernel
theorem d_Ref_goes_297 : decode b_Ref_goes 297 = .ok (.iload 4, 2) := by decide +kernel
theorem d_Ref_goes_299 : decode b_Ref_goes 299 = .ok (.iconst 1, 1) := by decide +kernel
theorem d_Ref_goes_300 : decode b_Ref_goes 300 = .ok (.if_icmp .le 7, 3) := by decide +kernel
theorem d_Ref_goes_303 : decode b_Ref_goes 303 = .ok (.iconst 1, 1) := by decide +kernel
theorem d_Ref_goes_304 : decode b_Ref_goes 304 = .ok (.goto 4, 3) := by decide +kernel
theorem d_Ref_goes_307 : decode b_Ref_goes 307 = .ok (.iconst 0, 1) := by decide +kernel
theorem d_Ref_goes_308 : decode b_Ref_goes 308 = .ok (.istore_n 2, 1) := by decide +kernel
theorem d_Ref_goes_309 : decode b_Ref_goes 309 = .ok (.iinc 3 1, 3) := by decide +kernel
theorem d_Ref_goes_312 : decode b_Ref_goes 312 = .ok (.goto (-106), 3) := by decide +kernel
theorem d_Ref_goes_315 : decode b_Ref_goes 315 = .ok (.iload_n 2, 1) := by decide +kernel
theorem d_Ref_goes_316 : decode b_Ref_goes 316 = .ok (.ifCond .ne 7, 3) := by decide +kernel
theorem d_Ref_goes_319 : decode b_Ref_goes 319 = .ok (.iconst 1, 1) := by decide +kernel
theorem d_Ref_goes_320 : decode b_Ref_goes 320 = .ok (.goto 4, 3) := by decide +kernel
theorem d_Ref_goes_323 : decode b_Ref_goes 323 = .ok (.iconst 0, 1) := by decide +kernel
theorem d_Ref_goes_324 : decode b_Ref_goes 324 = .ok (.ireturn, 1) := by decide +kernel
theorem d_Ref_one_0 : decode b_Ref_one 0 = .ok (.aload_n 0, 1) := by decide +kernel
theorem d_Ref_one_1 : decode b_Ref_one 1 = .ok (.invokevirtual 266, 3) := by decide +kernel
theorem d_Ref_one_4 : decode b_Ref_one 4 = .ok (.ifCond .ne 4, 3) := by decide +kernel
theorem d_Ref_one_7 : decode b_Ref_one 7 = .ok (.return_, 1) := by decide +kernel
theorem d_Ref_one_8 : decode b_Ref_one 8 = .ok (.iconst 0, 1) := by decide +kernel
theorem d_Ref_one_9 : decode b_Ref_one 9 = .ok (.istore_n 1, 1) := by decide +kernel
theorem d_Ref_one_10 : decode b_Ref_one 10 = .ok (.iload_n 1, 1) := by decide +kernel
theorem d_Ref_one_11 : decode b_Ref_one 11 = .ok (.iconst 4, 1) := by decide +kernel
theorem d_Ref_one_12 : decode b_Ref_one 12 = .ok (.if_icmp .ge 16, 3) := by decide +kernel
theorem d_Ref_one_15 : decode b_Ref_one 15 = .ok (.aload_n 0, 1) := by decide +kernel
theorem d_Ref_one_16 : decode b_Ref_one 16 = .ok (.getfield 105, 3) := by decide +kernel
theorem d_Ref_one_19 : decode b_Ref_one 19 = .ok (.iload_n 1, 1) := by decide +kernel
theorem d_Ref_one_20 : decode b_Ref_one 20 = .ok (.iconst 0, 1) := by decide +kernel
theorem d_Ref_one_21 : decode b_Ref_one 21 = .ok (.iastore, 1) := by decide +kernel
theorem d_Ref_one_22 : decode b_Ref_one 22 = .ok (.iinc 1 1, 3) := by decide +kernel
theorem d_Ref_one_25 : decode b_Ref_one 25 = .ok (.goto (-15), 3) := by decide +kernel
theorem d_Ref_one_28 : decode b_Ref_one 28 = .ok (.aload_n 0, 1) := by decide +kernel
theorem d_Ref_one_29 : decode b_Ref_one 29 = .ok (.iconst 0, 1) := by decide +kernel
theorem d_Ref_one_30 : decode b_Ref_one 30 = .ok (.invokevirtual 269, 3) := by decide +kernel
theorem d_Ref_one_33 : decode b_Ref_one 33 = .ok (.return_, 1) := by decide +kernel
theorem d_Ref_rows_0 : decode b_Ref_rows 0 = .ok (.iload_n 1, 1) := by decide +kernel
theorem d_Ref_rows_1 : decode b_Ref_rows 1 = .ok (.iconst 4, 1) := by decide +kernel
theorem d_Ref_rows_2 : decode b_Ref_rows 2 = .ok (.if_icmp .ne 8, 3) := by decide +kernel
theorem d_Ref_rows_5 : decode b_Ref_rows 5 = .ok (.aload_n 0, 1) := by decide +kernel
theorem d_Ref_rows_6 : decode b_Ref_rows 6 = .ok (.invokevirtual 272, 3) := by decide +kernel
theorem d_Ref_rows_9 : decode b_Ref_rows 9 = .ok (.return_, 1) := by decide +kernel
theorem d_Ref_rows_10 : decode b_Ref_rows 10 = .ok (.iconst 0, 1) := by decide +kernel
theorem d_Ref_rows_11 : decode b_Ref_rows 11 = .ok (.istore_n 2, 1) := by decide +kernel
theorem d_Ref_rows_12 : decode b_Ref_rows 12 = .ok (.iconst 0, 1) := by decide +kernel
theorem d_Ref_rows_13 : decode b_Ref_rows 13 = .ok (.istore_n 3, 1) := by decide +kernel
theorem d_Ref_rows_14 : decode b_Ref_rows 14 = .ok (.iload_n 3, 1) := by decide +kernel
theorem d_Ref_rows_15 : decode b_Ref_rows 15 = .ok (.aload_n 0, 1) := by decide +kernel
theorem d_Ref_rows_16 : decode b_Ref_rows 16 = .ok (.getfield 133, 3) := by decide +kernel
theorem d_Ref_rows_19 : decode b_Ref_rows 19 = .ok (.if_icmp .ge 112, 3) := by decide +kernel
theorem d_Ref_rows_22 : decode b_Ref_rows 22 = .ok (.bipush 7, 2) := by decide +kernel
theorem d_Ref_rows_24 : decode b_Ref_rows 24 = .ok (.iload_n 3, 1) := by decide +kernel
theorem d_Ref_rows_25 : decode b_Ref_rows 25 = .ok (.imul, 1) := by decide +kernel
theorem d_Ref_rows_26 : decode b_Ref_rows 26 = .ok (.istore 4, 2) := by decide +kernel
theorem d_Ref_rows_28 : decode b_Ref_rows 28 = .ok (.iload 4, 2) := by decide +kernel
theorem d_Ref_rows_30 : decode b_Ref_rows 30 = .ok (.bipush 7, 2) := by decide +kernel
theorem d_Ref_rows_32 : decode b_Ref_rows 32 = .ok (.iload_n 3, 1) := by decide +kernel
theorem d_Ref_rows_33 : decode b_Ref_rows 33 = .ok (.imul, 1) := by decide +kernel
theorem d_Ref_rows_34 : decode b_Ref_rows 34 = .ok (.aload_n 0, 1) := by decide +kernel
theorem d_Ref_rows_35 : decode b_Ref_rows 35 = .ok (.getfield 7, 3) := by decide +kernel
theorem d_Ref_rows_38 : decode b_Ref_rows 38 = .ok (.iload_n 3, 1) := by decide +kernel
theorem d_Ref_rows_39 : decode b_Ref_rows 39 = .ok (.iaload, 1) := by decide +kernel
theorem d_Ref_rows_40 : decode b_Ref_rows 40 = .ok (.iadd, 1) := by decide +kernel
theorem d_Ref_rows_41 : decode b_Ref_rows 41 = .ok (.if_icmp .ge 84, 3) := by decide +kernel
theorem d_Ref_rows_44 : decode b_Ref_rows 44 = .ok (.aload_n 0, 1) := by decide +kernel
theorem d_Ref_rows_45 : decode b_Ref_rows 45 = .ok (.iload 4, 2) := by decide +kernel
theorem d_Ref_rows_47 : decode b_Ref_rows 47 = .ok (.iload_n 1, 1) := by decide +kernel
theorem d_Ref_rows_48 : decode b_Ref_rows 48 = .ok (.invokevirtual 275, 3) := by decide +kernel
theorem d_Ref_rows_51 : decode b_Ref_rows 51 = .ok (.ifCond .eq 68, 3) := by decide +kernel
theorem d_Ref_rows_54 : decode b_Ref_rows 54 = .ok (.aload_n 0, 1) := by decide +kernel
theorem d_Ref_rows_55 : decode b_Ref_rows 55 = .ok (.iload 4, 2) := by decide +kernel
theorem d_Ref_rows_57 : decode b_Ref_rows 57 = .ok (.iload_n 1, 1) := by decide +kernel
theorem d_Ref_rows_58 : decode b_Ref_rows 58 = .ok (.invokevirtual 278, 3) := by decide +kernel
theorem d_Ref_rows_61 : decode b_Ref_rows 61 = .ok (.ifCond .ne 58, 3) := by decide +kernel
theorem d_Ref_rows_64 : decode b_Ref_rows 64 = .ok (.iconst 1, 1) := by decide +kernel
theorem d_Ref_rows_65 : decode b_Ref_rows 65 = .ok (.istore_n 2, 1) := by decide +kernel
theorem d_Ref_rows_66 : decode b_Ref_rows 66 = .ok (.aload_n 0, 1) := by decide +kernel
theorem d_Ref_rows_67 : decode b_Ref_rows 67 = .ok (.iload 4, 2) := by decide +kernel
theorem d_Ref_rows_69 : decode b_Ref_rows 69 = .ok (.iload_n 1, 1) := by decide +kernel
theorem d_Ref_rows_70 : decode b_Ref_rows 70 = .ok (.invokevirtual 281, 3) := by decide +kernel
theorem d_Ref_rows_73 : decode b_Ref_rows 73 = .ok (.ifCond .eq 46, 3) := by decide +kernel
theorem d_Ref_rows_76 : decode b_Ref_rows 76 = .ok (.aload_n 0, 1) := by decide +kernel
theorem d_Ref_rows_77 : decode b_Ref_rows 77 = .ok (.getfield 102, 3) := by decide +kernel
theorem d_Ref_rows_80 : decode b_Ref_rows 80 = .ok (.bipush 7, 2) := by decide +kernel
theorem d_Ref_rows_82 : decode b_Ref_rows 82 = .ok (.iload_n 1, 1) := by decide +kernel
theorem d_Ref_rows_83 : decode b_Ref_rows 83 = .ok (.imul, 1) := by decide +kernel
theorem d_Ref_rows_84 : decode b_Ref_rows 84 = .ok (.aload_n 0, 1) := by decide +kernel
theorem d_Ref_rows_85 : decode b_Ref_rows 85 = .ok (.getfield 105, 3) := by decide +kernel
theorem d_Ref_rows_88 : decode b_Ref_rows 88 = .ok (.iload_n 1, 1) := by decide +kernel
theorem d_Ref_rows_89 : decode b_Ref_rows 89 = .ok (.iaload, 1) := by decide +kernel
theorem d_Ref_rows_90 : decode b_Ref_rows 90 = .ok (.iadd, 1) := by decide +kernel
theorem d_Ref_rows_91 : decode b_Ref_rows 91 = .ok (.iload 4, 2) := by decide +kernel
theorem d_Ref_rows_93 : decode b_Ref_rows 93 = .ok (.iastore, 1) := by decide +kernel
theorem d_Ref_rows_94 : decode b_Ref_rows 94 = .ok (.aload_n 0, 1) := by decide +kernel
theorem d_Ref_rows_95 : decode b_Ref_rows 95 = .ok (.getfield 105, 3) := by decide +kernel
theorem d_Ref_rows_98 : decode b_Ref_rows 98 = .ok (.iload_n 1, 1) := by decide +kernel
theorem d_Ref_rows_99 : decode b_Ref_rows 99 = .ok (.dup2, 1) := by decide +kernel
theorem d_Ref_rows_100 : decode b_Ref_rows 100 = .ok (.iaload, 1) := by decide +kernel
theorem d_Ref_rows_101 : decode b_Ref_rows 101 = .ok (.iconst 1, 1) := by decide +kernel
theorem d_Ref_rows_102 : decode b_Ref_rows 102 = .ok (.iadd, 1) := by decide +kernel
theorem d_Ref_rows_103 : decode b_Ref_rows 103 = .ok (.iastore, 1) := by decide +kernel
theorem d_Ref_rows_104 : decode b_Ref_rows 104 = .ok (.aload_n 0, 1) := by decide +kernel
theorem d_Ref_rows_105 : decode b_Ref_rows 105 = .ok (.iload_n 1, 1) := by decide +kernel
theorem d_Ref_rows_106 : decode b_Ref_rows 106 = .ok (.invokevirtual 269, 3) := by decide +kernel
theorem d_Ref_rows_109 : decode b_Ref_rows 109 = .ok (.aload_n 0, 1) := by decide +kernel
theorem d_Ref_rows_110 : decode b_Ref_rows 110 = .ok (.getfield 105, 3) := by decide +kernel
theorem d_Ref_rows_113 : decode b_Ref_rows 113 = .ok (.iload_n 1, 1) := by decide +kernel
theorem d_Ref_rows_114 : decode b_Ref_rows 114 = .ok (.dup2, 1) := by decide +kernel
theorem d_Ref_rows_115 : decode b_Ref_rows 115 = .ok (.iaload, 1) := by decide +kernel
theorem d_Ref_rows_116 : decode b_Ref_rows 116 = .ok (.iconst 1, 1) := by decide +kernel
theorem d_Ref_rows_117 : decode b_Ref_rows 117 = .ok (.isub, 1) := by decide +kernel
theorem d_Ref_rows_118 : decode b_Ref_rows 118 = .ok (.iastore, 1) := by decide +kernel
theorem d_Ref_rows_119 : decode b_Ref_rows 119 = .ok (.iinc 4 1, 3) := by decide +kernel
theorem d_Ref_rows_122 : decode b_Ref_rows 122 = .ok (.goto (-94), 3) := by decide +kernel
theorem d_Ref_rows_125 : decode b_Ref_rows 125 = .ok (.iinc 3 1, 3) := by decide +kernel
theorem d_Ref_rows_128 : decode b_Ref_rows 128 = .ok (.goto (-114), 3) := by decide +kernel
theorem d_Ref_rows_131 : decode b_Ref_rows 131 = .ok (.iload_n 2, 1) := by decide +kernel
theorem d_Ref_rows_132 : decode b_Ref_rows 132 = .ok (.ifCond .ne 10, 3) := by decide +kernel
theorem d_Ref_rows_135 : decode b_Ref_rows 135 = .ok (.aload_n 0, 1) := by decide +kernel
theorem d_Ref_rows_136 : decode b_Ref_rows 136 = .ok (.iload_n 1, 1) := by decide +kernel
theorem d_Ref_rows_137 : decode b_Ref_rows 137 = .ok (.iconst 1, 1) := by decide +kernel
theorem d_Ref_rows_138 : decode b_Ref_rows 138 = .ok (.iadd, 1) := by decide +kernel
theorem d_Ref_rows_139 : decode b_Ref_rows 139 = .ok (.invokevirtual 269, 3) := by decide +kernel
theorem d_Ref_rows_142 : decode b_Ref_rows 142 = .ok (.return_, 1) := by decide +kernel
theorem d_Ref_whole_0 : decode b_Ref_whole 0 = .ok (.aload_n 0, 1) := by decide +kernel
theorem d_Ref_whole_1 : decode b_Ref_whole 1 = .ok (.iconst 0, 1) := by decide +kernel
theorem d_Ref_whole_2 : decode b_Ref_whole 2 = .ok (.putfield 284, 3) := by decide +kernel
theorem d_Ref_whole_5 : decode b_Ref_whole 5 = .ok (.iconst 0, 1) := by decide +kernel
theorem d_Ref_whole_6 : decode b_Ref_whole 6 = .ok (.istore_n 1, 1) := by decide +kernel
theorem d_Ref_whole_7 : decode b_Ref_whole 7 = .ok (.iload_n 1, 1) := by decide +kernel
theorem d_Ref_whole_8 : decode b_Ref_whole 8 = .ok (.aload_n 0, 1) := by decide +kernel
theorem d_Ref_whole_9 : decode b_Ref_whole 9 = .ok (.getfield 133, 3) := by decide +kernel
theorem d_Ref_whole_12 : decode b_Ref_whole 12 = .ok (.if_icmp .ge 104, 3) := by decide +kernel
theorem d_Ref_whole_15 : decode b_Ref_whole 15 = .ok (.bipush 7, 2) := by decide +kernel
theorem d_Ref_whole_17 : decode b_Ref_whole 17 = .ok (.iload_n 1, 1) := by decide +kernel
theorem d_Ref_whole_18 : decode b_Ref_whole 18 = .ok (.imul, 1) := by decide +kernel
theorem d_Ref_whole_19 : decode b_Ref_whole 19 = .ok (.istore_n 2, 1) := by decide +kernel
theorem d_Ref_whole_20 : decode b_Ref_whole 20 = .ok (.iload_n 2, 1) := by decide +kernel
theorem d_Ref_whole_21 : decode b_Ref_whole 21 = .ok (.bipush 7, 2) := by decide +kernel
theorem d_Ref_whole_23 : decode b_Ref_whole 23 = .ok (.iload_n 1, 1) := by decide +kernel
theorem d_Ref_whole_24 : decode b_Ref_whole 24 = .ok (.imul, 1) := by decide +kernel
theorem d_Ref_whole_25 : decode b_Ref_whole 25 = .ok (.aload_n 0, 1) := by decide +kernel
theorem d_Ref_whole_26 : decode b_Ref_whole 26 = .ok (.getfield 7, 3) := by decide +kernel
theorem d_Ref_whole_29 : decode b_Ref_whole 29 = .ok (.iload_n 1, 1) := by decide +kernel
theorem d_Ref_whole_30 : decode b_Ref_whole 30 = .ok (.iaload, 1) := by decide +kernel
theorem d_Ref_whole_31 : decode b_Ref_whole 31 = .ok (.iadd, 1) := by decide +kernel
theorem d_Ref_whole_32 : decode b_Ref_whole 32 = .ok (.if_icmp .ge 78, 3) := by decide +kernel
theorem d_Ref_whole_35 : decode b_Ref_whole 35 = .ok (.aload_n 0, 1) := by decide +kernel
theorem d_Ref_whole_36 : decode b_Ref_whole 36 = .ok (.getfield 84, 3) := by decide +kernel
theorem d_Ref_whole_39 : decode b_Ref_whole 39 = .ok (.iload_n 2, 1) := by decide +kernel
theorem d_Ref_whole_40 : decode b_Ref_whole 40 = .ok (.baload, 1) := by decide +kernel
theorem d_Ref_whole_41 : decode b_Ref_whole 41 = .ok (.ifCond .eq 63, 3) := by decide +kernel
theorem d_Ref_whole_44 : decode b_Ref_whole 44 = .ok (.aload_n 0, 1) := by decide +kernel
theorem d_Ref_whole_45 : decode b_Ref_whole 45 = .ok (.getfield 108, 3) := by decide +kernel
theorem d_Ref_whole_48 : decode b_Ref_whole 48 = .ok (.iload_n 2, 1) := by decide +kernel
theorem d_Ref_whole_49 : decode b_Ref_whole 49 = .ok (.aload_n 0, 1) := by decide +kernel
theorem d_Ref_whole_50 : decode b_Ref_whole 50 = .ok (.getfield 284, 3) := by decide +kernel
theorem d_Ref_whole_53 : decode b_Ref_whole 53 = .ok (.iastore, 1) := by decide +kernel
theorem d_Ref_whole_54 : decode b_Ref_whole 54 = .ok (.aload_n 0, 1) := by decide +kernel
theorem d_Ref_whole_55 : decode b_Ref_whole 55 = .ok (.getfield 111, 3) := by decide +kernel
theorem d_Ref_whole_58 : decode b_Ref_whole 58 = .ok (.aload_n 0, 1) := by decide +kernel
theorem d_Ref_whole_59 : decode b_Ref_whole 59 = .ok (.getfield 284, 3) := by decide +kernel
theorem d_Ref_whole_62 : decode b_Ref_whole 62 = .ok (.iconst 0, 1) := by decide +kernel
theorem d_Ref_whole_63 : decode b_Ref_whole 63 = .ok (.iastore, 1) := by decide +kernel
theorem d_Ref_whole_64 : decode b_Ref_whole 64 = .ok (.aload_n 0, 1) := by decide +kernel
theorem d_Ref_whole_65 : decode b_Ref_whole 65 = .ok (.getfield 114, 3) := by decide +kernel
theorem d_Ref_whole_68 : decode b_Ref_whole 68 = .ok (.aload_n 0, 1) := by decide +kernel
theorem d_Ref_whole_69 : decode b_Ref_whole 69 = .ok (.getfield 284, 3) := by decide +kernel
theorem d_Ref_whole_72 : decode b_Ref_whole 72 = .ok (.iconst 0, 1) := by decide +kernel
theorem d_Ref_whole_73 : decode b_Ref_whole 73 = .ok (.iastore, 1) := by decide +kernel
theorem d_Ref_whole_74 : decode b_Ref_whole 74 = .ok (.aload_n 0, 1) := by decide +kernel
theorem d_Ref_whole_75 : decode b_Ref_whole 75 = .ok (.getfield 117, 3) := by decide +kernel
theorem d_Ref_whole_78 : decode b_Ref_whole 78 = .ok (.aload_n 0, 1) := by decide +kernel
theorem d_Ref_whole_79 : decode b_Ref_whole 79 = .ok (.getfield 284, 3) := by decide +kernel
theorem d_Ref_whole_82 : decode b_Ref_whole 82 = .ok (.iconst 0, 1) := by decide +kernel
theorem d_Ref_whole_83 : decode b_Ref_whole 83 = .ok (.iastore, 1) := by decide +kernel
theorem d_Ref_whole_84 : decode b_Ref_whole 84 = .ok (.aload_n 0, 1) := by decide +kernel
theorem d_Ref_whole_85 : decode b_Ref_whole 85 = .ok (.getfield 120, 3) := by decide +kernel
theorem d_Ref_whole_88 : decode b_Ref_whole 88 = .ok (.aload_n 0, 1) := by decide +kernel
theorem d_Ref_whole_89 : decode b_Ref_whole 89 = .ok (.getfield 284, 3) := by decide +kernel
theorem d_Ref_whole_92 : decode b_Ref_whole 92 = .ok (.iconst 0, 1) := by decide +kernel
theorem d_Ref_whole_93 : decode b_Ref_whole 93 = .ok (.iastore, 1) := by decide +kernel
theorem d_Ref_whole_94 : decode b_Ref_whole 94 = .ok (.aload_n 0, 1) := by decide +kernel
theorem d_Ref_whole_95 : decode b_Ref_whole 95 = .ok (.dup, 1) := by decide +kernel
theorem d_Ref_whole_96 : decode b_Ref_whole 96 = .ok (.getfield 284, 3) := by decide +kernel
theorem d_Ref_whole_99 : decode b_Ref_whole 99 = .ok (.iconst 1, 1) := by decide +kernel
theorem d_Ref_whole_100 : decode b_Ref_whole 100 = .ok (.iadd, 1) := by decide +kernel
theorem d_Ref_whole_101 : decode b_Ref_whole 101 = .ok (.putfield 284, 3) := by decide +kernel
theorem d_Ref_whole_104 : decode b_Ref_whole 104 = .ok (.iinc 2 1, 3) := by decide +kernel
theorem d_Ref_whole_107 : decode b_Ref_whole 107 = .ok (.goto (-87), 3) := by decide +kernel
theorem d_Ref_whole_110 : decode b_Ref_whole 110 = .ok (.iinc 1 1, 3) := by decide +kernel
theorem d_Ref_whole_113 : decode b_Ref_whole 113 = .ok (.goto (-106), 3) := by decide +kernel
theorem d_Ref_whole_116 : decode b_Ref_whole 116 = .ok (.aload_n 0, 1) := by decide +kernel
theorem d_Ref_whole_117 : decode b_Ref_whole 117 = .ok (.invokevirtual 287, 3) := by decide +kernel
theorem d_Ref_whole_120 : decode b_Ref_whole 120 = .ok (.aload_n 0, 1) := by decide +kernel
theorem d_Ref_whole_121 : decode b_Ref_whole 121 = .ok (.invokevirtual 290, 3) := by decide +kernel
theorem d_Ref_whole_124 : decode b_Ref_whole 124 = .ok (.ifCond .ne 4, 3) := by decide +kernel
theorem d_Ref_whole_127 : decode b_Ref_whole 127 = .ok (.return_, 1) := by decide +kernel
theorem d_Ref_whole_128 : decode b_Ref_whole 128 = .ok (.aload_n 0, 1) := by decide +kernel
theorem d_Ref_whole_129 : decode b_Ref_whole 129 = .ok (.getfield 47, 3) := by decide +kernel
theorem d_Ref_whole_132 : decode b_Ref_whole 132 = .ok (.aload_n 0, 1) := by decide +kernel
theorem d_Ref_whole_133 : decode b_Ref_whole 133 = .ok (.getfield 242, 3) := by decide +kernel
theorem d_Ref_whole_136 : decode b_Ref_whole 136 = .ok (.dup2, 1) := by decide +kernel
theorem d_Ref_whole_137 : decode b_Ref_whole 137 = .ok (.iaload, 1) := by decide +kernel
theorem d_Ref_whole_138 : decode b_Ref_whole 138 = .ok (.iconst 1, 1) := by decide +kernel
theorem d_Ref_whole_139 : decode b_Ref_whole 139 = .ok (.iadd, 1) := by decide +kernel
theorem d_Ref_whole_140 : decode b_Ref_whole 140 = .ok (.iastore, 1) := by decide +kernel
theorem d_Ref_whole_141 : decode b_Ref_whole 141 = .ok (.iconst 0, 1) := by decide +kernel
theorem d_Ref_whole_142 : decode b_Ref_whole 142 = .ok (.istore_n 1, 1) := by decide +kernel
theorem d_Ref_whole_143 : decode b_Ref_whole 143 = .ok (.iload_n 1, 1) := by decide +kernel
theorem d_Ref_whole_144 : decode b_Ref_whole 144 = .ok (.bipush 8, 2) := by decide +kernel
theorem d_Ref_whole_146 : decode b_Ref_whole 146 = .ok (.if_icmp .ge 21, 3) := by decide +kernel
theorem d_Ref_whole_149 : decode b_Ref_whole 149 = .ok (.aload_n 0, 1) := by decide +kernel
theorem d_Ref_whole_150 : decode b_Ref_whole 150 = .ok (.getfield 78, 3) := by decide +kernel
theorem d_Ref_whole_153 : decode b_Ref_whole 153 = .ok (.iload_n 1, 1) := by decide +kernel
theorem d_Ref_whole_154 : decode b_Ref_whole 154 = .ok (.aload_n 0, 1) := by decide +kernel
theorem d_Ref_whole_155 : decode b_Ref_whole 155 = .ok (.getfield 96, 3) := by decide +kernel
theorem d_Ref_whole_158 : decode b_Ref_whole 158 = .ok (.iload_n 1, 1) := by decide +kernel
theorem d_Ref_whole_159 : decode b_Ref_whole 159 = .ok (.iaload, 1) := by decide +kernel
theorem d_Ref_whole_160 : decode b_Ref_whole 160 = .ok (.iastore, 1) := by decide +kernel
theorem d_Ref_whole_161 : decode b_Ref_whole 161 = .ok (.iinc 1 1, 3) := by decide +kernel
theorem d_Ref_whole_164 : decode b_Ref_whole 164 = .ok (.goto (-21), 3) := by decide +kernel
theorem d_Ref_whole_167 : decode b_Ref_whole 167 = .ok (.iconst 0, 1) := by decide +kernel
theorem d_Ref_whole_168 : decode b_Ref_whole 168 = .ok (.istore_n 1, 1) := by decide +kernel
theorem d_Ref_whole_169 : decode b_Ref_whole 169 = .ok (.iload_n 1, 1) := by decide +kernel
theorem d_Ref_whole_170 : decode b_Ref_whole 170 = .ok (.iconst 3, 1) := by decide +kernel
theorem d_Ref_whole_171 : decode b_Ref_whole 171 = .ok (.if_icmp .ge 54, 3) := by decide +kernel
theorem d_Ref_whole_174 : decode b_Ref_whole 174 = .ok (.aload_n 0, 1) := by decide +kernel
theorem d_Ref_whole_175 : decode b_Ref_whole 175 = .ok (.getfield 78, 3) := by decide +kernel
theorem d_Ref_whole_178 : decode b_Ref_whole 178 = .ok (.bipush 8, 2) := by decide +kernel
theorem d_Ref_whole_180 : decode b_Ref_whole 180 = .ok (.iload_n 1, 1) := by decide +kernel
theorem d_Ref_whole_181 : decode b_Ref_whole 181 = .ok (.iadd, 1) := by decide +kernel
theorem d_Ref_whole_182 : decode b_Ref_whole 182 = .ok (.aload_n 0, 1) := by decide +kernel
theorem d_Ref_whole_183 : decode b_Ref_whole 183 = .ok (.getfield 105, 3) := by decide +kernel
theorem d_Ref_whole_186 : decode b_Ref_whole 186 = .ok (.iload_n 1, 1) := by decide +kernel
theorem d_Ref_whole_187 : decode b_Ref_whole 187 = .ok (.iaload, 1) := by decide +kernel
theorem d_Ref_whole_188 : decode b_Ref_whole 188 = .ok (.ifCond .ne 7, 3) := by decide +kernel
theorem d_Ref_whole_191 : decode b_Ref_whole 191 = .ok (.iconst 0, 1) := by decide +kernel
theorem d_Ref_whole_192 : decode b_Ref_whole 192 = .ok (.goto 26, 3) := by decide +kernel
theorem d_Ref_whole_195 : decode b_Ref_whole 195 = .ok (.aload_n 0, 1) := by decide +kernel
theorem d_Ref_whole_196 : decode b_Ref_whole 196 = .ok (.getfield 90, 3) := by decide +kernel
theorem d_Ref_whole_199 : decode b_Ref_whole 199 = .ok (.aload_n 0, 1) := by decide +kernel
theorem d_Ref_whole_200 : decode b_Ref_whole 200 = .ok (.getfield 102, 3) := by decide +kernel
theorem d_Ref_whole_203 : decode b_Ref_whole 203 = .ok (.bipush 7, 2) := by decide +kernel
theorem d_Ref_whole_205 : decode b_Ref_whole 205 = .ok (.iload_n 1, 1) := by decide +kernel
theorem d_Ref_whole_206 : decode b_Ref_whole 206 = .ok (.imul, 1) := by decide +kernel
theorem d_Ref_whole_207 : decode b_Ref_whole 207 = .ok (.aload_n 0, 1) := by decide +kernel
theorem d_Ref_whole_208 : decode b_Ref_whole 208 = .ok (.getfield 105, 3) := by decide +kernel
theorem d_Ref_whole_211 : decode b_Ref_whole 211 = .ok (.iload_n 1, 1) := by decide +kernel
theorem d_Ref_whole_212 : decode b_Ref_whole 212 = .ok (.iaload, 1) := by decide +kernel
theorem d_Ref_whole_213 : decode b_Ref_whole 213 = .ok (.iadd, 1) := by decide +kernel
theorem d_Ref_whole_214 : decode b_Ref_whole 214 = .ok (.iconst 1, 1) := by decide +kernel
theorem d_Ref_whole_215 : decode b_Ref_whole 215 = .ok (.isub, 1) := by decide +kernel
theorem d_Ref_whole_216 : decode b_Ref_whole 216 = .ok (.iaload, 1) := by decide +kernel
theorem d_Ref_whole_217 : decode b_Ref_whole 217 = .ok (.iaload, 1) := by decide +kernel
theorem d_Ref_whole_218 : decode b_Ref_whole 218 = .ok (.iastore, 1) := by decide +kernel
theorem d_Ref_whole_219 : decode b_Ref_whole 219 = .ok (.iinc 1 1, 3) := by decide +kernel
theorem d_Ref_whole_222 : decode b_Ref_whole 222 = .ok (.goto (-53), 3) := by decide +kernel
theorem d_Ref_whole_225 : decode b_Ref_whole 225 = .ok (.aload_n 0, 1) := by decide +kernel
theorem d_Ref_whole_226 : decode b_Ref_whole 226 = .ok (.iconst 4, 1) := by decide +kernel
theorem d_Ref_whole_227 : decode b_Ref_whole 227 = .ok (.aload_n 0, 1) := by decide +kernel
theorem d_Ref_whole_228 : decode b_Ref_whole 228 = .ok (.getfield 242, 3) := by decide +kernel
theorem d_Ref_whole_231 : decode b_Ref_whole 231 = .ok (.iadd, 1) := by decide +kernel
theorem d_Ref_whole_232 : decode b_Ref_whole 232 = .ok (.invokevirtual 231, 3) := by decide +kernel
theorem d_Ref_whole_235 : decode b_Ref_whole 235 = .ok (.pop, 1) := by decide +kernel
theorem d_Ref_whole_236 : decode b_Ref_whole 236 = .ok (.return_, 1) := by decide +kernel
theorem d_Ref_relate_0 : decode b_Ref_relate 0 = .ok (.iconst 0, 1) := by decide +kernel
theorem d_Ref_relate_1 : decode b_Ref_relate 1 = .ok (.istore_n 1, 1) := by decide +kernel
theorem d_Ref_relate_2 : decode b_Ref_relate 2 = .ok (.iload_n 1, 1) := by decide +kernel
theorem d_Ref_relate_3 : decode b_Ref_relate 3 = .ok (.aload_n 0, 1) := by decide +kernel
theorem d_Ref_relate_4 : decode b_Ref_relate 4 = .ok (.getfield 133, 3) := by decide +kernel
theorem d_Ref_relate_7 : decode b_Ref_relate 7 = .ok (.if_icmp .ge 88, 3) := by decide +kernel
theorem d_Ref_relate_10 : decode b_Ref_relate 10 = .ok (.bipush 7, 2) := by decide +kernel
theorem d_Ref_relate_12 : decode b_Ref_relate 12 = .ok (.iload_n 1, 1) := by decide +kernel
theorem d_Ref_relate_13 : decode b_Ref_relate 13 = .ok (.imul, 1) := by decide +kernel
theorem d_Ref_relate_14 : decode b_Ref_relate 14 = .ok (.istore_n 2, 1) := by decide +kernel
theorem d_Ref_relate_15 : decode b_Ref_relate 15 = .ok (.iload_n 2, 1) := by decide +kernel
theorem d_Ref_relate_16 : decode b_Ref_relate 16 = .ok (.bipush 7, 2) := by decide +kernel
theorem d_Ref_relate_18 : decode b_Ref_relate 18 = .ok (.iload_n 1, 1) := by decide +kernel
theorem d_Ref_relate_19 : decode b_Ref_relate 19 = .ok (.imul, 1) := by decide +kernel
theorem d_Ref_relate_20 : decode b_Ref_relate 20 = .ok (.aload_n 0, 1) := by decide +kernel
theorem d_Ref_relate_21 : decode b_Ref_relate 21 = .ok (.getfield 7, 3) := by decide +kernel
theorem d_Ref_relate_24 : decode b_Ref_relate 24 = .ok (.iload_n 1, 1) := by decide +kernel
theorem d_Ref_relate_25 : decode b_Ref_relate 25 = .ok (.iaload, 1) := by decide +kernel
theorem d_Ref_relate_26 : decode b_Ref_relate 26 = .ok (.iadd, 1) := by decide +kernel
theorem d_Ref_relate_27 : decode b_Ref_relate 27 = .ok (.if_icmp .ge 62, 3) := by decide +kernel
theorem d_Ref_relate_30 : decode b_Ref_relate 30 = .ok (.iload_n 2, 1) := by decide +kernel
theorem d_Ref_relate_31 : decode b_Ref_relate 31 = .ok (.iconst 1, 1) := by decide +kernel
theorem d_Ref_relate_32 : decode b_Ref_relate 32 = .ok (.iadd, 1) := by decide +kernel
theorem d_Ref_relate_33 : decode b_Ref_relate 33 = .ok (.istore_n 3, 1) := by decide +kernel
theorem d_Ref_relate_34 : decode b_Ref_relate 34 = .ok (.iload_n 3, 1) := by decide +kernel
theorem d_Ref_relate_35 : decode b_Ref_relate 35 = .ok (.bipush 7, 2) := by decide +kernel
theorem d_Ref_relate_37 : decode b_Ref_relate 37 = .ok (.iload_n 1, 1) := by decide +kernel
theorem d_Ref_relate_38 : decode b_Ref_relate 38 = .ok (.imul, 1) := by decide +kernel
theorem d_Ref_relate_39 : decode b_Ref_relate 39 = .ok (.aload_n 0, 1) := by decide +kernel
theorem d_Ref_relate_40 : decode b_Ref_relate 40 = .ok (.getfield 7, 3) := by decide +kernel
theorem d_Ref_relate_43 : decode b_Ref_relate 43 = .ok (.iload_n 1, 1) := by decide +kernel
theorem d_Ref_relate_44 : decode b_Ref_relate 44 = .ok (.iaload, 1) := by decide +kernel
theorem d_Ref_relate_45 : decode b_Ref_relate 45 = .ok (.iadd, 1) := by decide +kernel
theorem d_Ref_relate_46 : decode b_Ref_relate 46 = .ok (.if_icmp .ge 37, 3) := by decide +kernel
theorem d_Ref_relate_49 : decode b_Ref_relate 49 = .ok (.aload_n 0, 1) := by decide +kernel
theorem d_Ref_relate_50 : decode b_Ref_relate 50 = .ok (.getfield 84, 3) := by decide +kernel
theorem d_Ref_relate_53 : decode b_Ref_relate 53 = .ok (.iload_n 2, 1) := by decide +kernel
theorem d_Ref_relate_54 : decode b_Ref_relate 54 = .ok (.baload, 1) := by decide +kernel
theorem d_Ref_relate_55 : decode b_Ref_relate 55 = .ok (.ifCond .eq 22, 3) := by decide +kernel
theorem d_Ref_relate_58 : decode b_Ref_relate 58 = .ok (.aload_n 0, 1) := by decide +kernel
theorem d_Ref_relate_59 : decode b_Ref_relate 59 = .ok (.getfield 84, 3) := by decide +kernel
theorem d_Ref_relate_62 : decode b_Ref_relate 62 = .ok (.iload_n 3, 1) := by decide +kernel
theorem d_Ref_relate_63 : decode b_Ref_relate 63 = .ok (.baload, 1) := by decide +kernel
theorem d_Ref_relate_64 : decode b_Ref_relate 64 = .ok (.ifCond .eq 13, 3) := by decide +kernel
theorem d_Ref_relate_67 : decode b_Ref_relate 67 = .ok (.aload_n 0, 1) := by decide +kernel
theorem d_Ref_relate_68 : decode b_Ref_relate 68 = .ok (.aload_n 0, 1) := by decide +kernel
theorem d_Ref_relate_69 : decode b_Ref_relate 69 = .ok (.getfield 111, 3) := by decide +kernel
theorem d_Ref_relate_72 : decode b_Ref_relate 72 = .ok (.iload_n 2, 1) := by decide +kernel
theorem d_Ref_relate_73 : decode b_Ref_relate 73 = .ok (.iload_n 3, 1) := by decide +kernel
theorem d_Ref_relate_74 : decode b_Ref_relate 74 = .ok (.invokevirtual 293, 3) := by decide +kernel
theorem d_Ref_relate_77 : decode b_Ref_relate 77 = .ok (.iinc 3 1, 3) := by decide +kernel
theorem d_Ref_relate_80 : decode b_Ref_relate 80 = .ok (.goto (-46), 3) := by decide +kernel
theorem d_Ref_relate_83 : decode b_Ref_relate 83 = .ok (.iinc 2 1, 3) := by decide +kernel
theorem d_Ref_relate_86 : decode b_Ref_relate 86 = .ok (.goto (-71), 3) := by decide +kernel
theorem d_Ref_relate_89 : decode b_Ref_relate 89 = .ok (.iinc 1 1, 3) := by decide +kernel
theorem d_Ref_relate_92 : decode b_Ref_relate 92 = .ok (.goto (-90), 3) := by decide +kernel
theorem d_Ref_relate_95 : decode b_Ref_relate 95 = .ok (.iconst 0, 1) := by decide +kernel
theorem d_Ref_relate_96 : decode b_Ref_relate 96 = .ok (.istore_n 1, 1) := by decide +kernel
theorem d_Ref_relate_97 : decode b_Ref_relate 97 = .ok (.iload_n 1, 1) := by decide +kernel
theorem d_Ref_relate_98 : decode b_Ref_relate 98 = .ok (.iconst 4, 1) := by decide +kernel
theorem d_Ref_relate_99 : decode b_Ref_relate 99 = .ok (.if_icmp .ge 80, 3) := by decide +kernel
theorem d_Ref_relate_102 : decode b_Ref_relate 102 = .ok (.bipush 7, 2) := by decide +kernel
theorem d_Ref_relate_104 : decode b_Ref_relate 104 = .ok (.iload_n 1, 1) := by decide +kernel
theorem d_Ref_relate_105 : decode b_Ref_relate 105 = .ok (.imul, 1) := by decide +kernel
theorem d_Ref_relate_106 : decode b_Ref_relate 106 = .ok (.istore_n 2, 1) := by decide +kernel
theorem d_Ref_relate_107 : decode b_Ref_relate 107 = .ok (.iload_n 2, 1) := by decide +kernel
theorem d_Ref_relate_108 : decode b_Ref_relate 108 = .ok (.bipush 7, 2) := by decide +kernel
theorem d_Ref_relate_110 : decode b_Ref_relate 110 = .ok (.iload_n 1, 1) := by decide +kernel
theorem d_Ref_relate_111 : decode b_Ref_relate 111 = .ok (.imul, 1) := by decide +kernel
theorem d_Ref_relate_112 : decode b_Ref_relate 112 = .ok (.aload_n 0, 1) := by decide +kernel
theorem d_Ref_relate_113 : decode b_Ref_relate 113 = .ok (.getfield 105, 3) := by decide +kernel
theorem d_Ref_relate_116 : decode b_Ref_relate 116 = .ok (.iload_n 1, 1) := by decide +kernel
theorem d_Ref_relate_117 : decode b_Ref_relate 117 = .ok (.iaload, 1) := by decide +kernel
theorem d_Ref_relate_118 : decode b_Ref_relate 118 = .ok (.iadd, 1) := by decide +kernel
theorem d_Ref_relate_119 : decode b_Ref_relate 119 = .ok (.if_icmp .ge 54, 3) := by decide +kernel
theorem d_Ref_relate_122 : decode b_Ref_relate 122 = .ok (.iload_n 2, 1) := by decide +kernel
theorem d_Ref_relate_123 : decode b_Ref_relate 123 = .ok (.iconst 1, 1) := by decide +kernel
theorem d_Ref_relate_124 : decode b_Ref_relate 124 = .ok (.iadd, 1) := by decide +kernel
theorem d_Ref_relate_125 : decode b_Ref_relate 125 = .ok (.istore_n 3, 1) := by decide +kernel
theorem d_Ref_relate_126 : decode b_Ref_relate 126 = .ok (.iload_n 3, 1) := by decide +kernel
theorem d_Ref_relate_127 : decode b_Ref_relate 127 = .ok (.bipush 7, 2) := by decide +kernel
theorem d_Ref_relate_129 : decode b_Ref_relate 129 = .ok (.iload_n 1, 1) := by decide +kernel
theorem d_Ref_relate_130 : decode b_Ref_relate 130 = .ok (.imul, 1) := by decide +kernel
theorem d_Ref_relate_131 : decode b_Ref_relate 131 = .ok (.aload_n 0, 1) := by decide +kernel
theorem d_Ref_relate_132 : decode b_Ref_relate 132 = .ok (.getfield 105, 3) := by decide +kernel
theorem d_Ref_relate_135 : decode b_Ref_relate 135 = .ok (.iload_n 1, 1) := by decide +kernel
theorem d_Ref_relate_136 : decode b_Ref_relate 136 = .ok (.iaload, 1) := by decide +kernel
theorem d_Ref_relate_137 : decode b_Ref_relate 137 = .ok (.iadd, 1) := by decide +kernel
theorem d_Ref_relate_138 : decode b_Ref_relate 138 = .ok (.if_icmp .ge 29, 3) := by decide +kernel
theorem d_Ref_relate_141 : decode b_Ref_relate 141 = .ok (.aload_n 0, 1) := by decide +kernel
theorem d_Ref_relate_142 : decode b_Ref_relate 142 = .ok (.aload_n 0, 1) := by decide +kernel
theorem d_Ref_relate_143 : decode b_Ref_relate 143 = .ok (.getfield 117, 3) := by decide +kernel
theorem d_Ref_relate_146 : decode b_Ref_relate 146 = .ok (.aload_n 0, 1) := by decide +kernel
theorem d_Ref_relate_147 : decode b_Ref_relate 147 = .ok (.getfield 102, 3) := by decide +kernel
theorem d_Ref_relate_150 : decode b_Ref_relate 150 = .ok (.iload_n 2, 1) := by decide +kernel
theorem d_Ref_relate_151 : decode b_Ref_relate 151 = .ok (.iaload, 1) := by decide +kernel
theorem d_Ref_relate_152 : decode b_Ref_relate 152 = .ok (.aload_n 0, 1) := by decide +kernel
theorem d_Ref_relate_153 : decode b_Ref_relate 153 = .ok (.getfield 102, 3) := by decide +kernel
theorem d_Ref_relate_156 : decode b_Ref_relate 156 = .ok (.iload_n 3, 1) := by decide +kernel
theorem d_Ref_relate_157 : decode b_Ref_relate 157 = .ok (.iaload, 1) := by decide +kernel
theorem d_Ref_relate_158 : decode b_Ref_relate 158 = .ok (.invokevirtual 293, 3) := by decide +kernel
theorem d_Ref_relate_161 : decode b_Ref_relate 161 = .ok (.iinc 3 1, 3) := by decide +kernel
theorem d_Ref_relate_164 : decode b_Ref_relate 164 = .ok (.goto (-38), 3) := by decide +kernel
theorem d_Ref_relate_167 : decode b_Ref_relate 167 = .ok (.iinc 2 1, 3) := by decide +kernel
theorem d_Ref_relate_170 : decode b_Ref_relate 170 = .ok (.goto (-63), 3) := by decide +kernel
theorem d_Ref_relate_173 : decode b_Ref_relate 173 = .ok (.iinc 1 1, 3) := by decide +kernel
theorem d_Ref_relate_176 : decode b_Ref_relate 176 = .ok (.goto (-79), 3) := by decide +kernel
theorem d_Ref_relate_179 : decode b_Ref_relate 179 = .ok (.iconst 0, 1) := by decide +kernel
theorem d_Ref_relate_180 : decode b_Ref_relate 180 = .ok (.istore_n 1, 1) := by decide +kernel
theorem d_Ref_relate_181 : decode b_Ref_relate 181 = .ok (.iload_n 1, 1) := by decide +kernel
theorem d_Ref_relate_182 : decode b_Ref_relate 182 = .ok (.aload_n 0, 1) := by decide +kernel
theorem d_Ref_relate_183 : decode b_Ref_relate 183 = .ok (.getfield 245, 3) := by decide +kernel
theorem d_Ref_relate_186 : decode b_Ref_relate 186 = .ok (.if_icmp .ge 42, 3) := by decide +kernel
theorem d_Ref_relate_189 : decode b_Ref_relate 189 = .ok (.aload_n 0, 1) := by decide +kernel
theorem d_Ref_relate_190 : decode b_Ref_relate 190 = .ok (.getfield 99, 3) := by decide +kernel
theorem d_Ref_relate_193 : decode b_Ref_relate 193 = .ok (.iload_n 1, 1) := by decide +kernel
theorem d_Ref_relate_194 : decode b_Ref_relate 194 = .ok (.iaload, 1) := by decide +kernel
theorem d_Ref_relate_195 : decode b_Ref_relate 195 = .ok (.istore_n 2, 1) := by decide +kernel
theorem d_Ref_relate_196 : decode b_Ref_relate 196 = .ok (.aload_n 0, 1) := by decide +kernel
theorem d_Ref_relate_197 : decode b_Ref_relate 197 = .ok (.getfield 84, 3) := by decide +kernel
theorem d_Ref_relate_200 : decode b_Ref_relate 200 = .ok (.iload_n 2, 1) := by decide +kernel
theorem d_Ref_relate_201 : decode b_Ref_relate 201 = .ok (.baload, 1) := by decide +kernel
theorem d_Ref_relate_202 : decode b_Ref_relate 202 = .ok (.ifCond .eq 20, 3) := by decide +kernel
theorem d_Ref_relate_205 : decode b_Ref_relate 205 = .ok (.aload_n 0, 1) := by decide +kernel
theorem d_Ref_relate_206 : decode b_Ref_relate 206 = .ok (.iload_n 2, 1) := by decide +kernel
theorem d_Ref_relate_207 : decode b_Ref_relate 207 = .ok (.aload_n 0, 1) := by decide +kernel
theorem d_Ref_relate_208 : decode b_Ref_relate 208 = .ok (.getfield 81, 3) := by decide +kernel
theorem d_Ref_relate_211 : decode b_Ref_relate 211 = .ok (.iload_n 2, 1) := by decide +kernel
theorem d_Ref_relate_212 : decode b_Ref_relate 212 = .ok (.iaload, 1) := by decide +kernel
theorem d_Ref_relate_213 : decode b_Ref_relate 213 = .ok (.aload_n 0, 1) := by decide +kernel
theorem d_Ref_relate_214 : decode b_Ref_relate 214 = .ok (.getfield 16, 3) := by decide +kernel
theorem d_Ref_relate_217 : decode b_Ref_relate 217 = .ok (.iload_n 2, 1) := by decide +kernel
theorem d_Ref_relate_218 : decode b_Ref_relate 218 = .ok (.iaload, 1) := by decide +kernel
theorem d_Ref_relate_219 : decode b_Ref_relate 219 = .ok (.invokevirtual 297, 3) := by decide +kernel
theorem d_Ref_relate_222 : decode b_Ref_relate 222 = .ok (.iinc 1 1, 3) := by decide +kernel
theorem d_Ref_relate_225 : decode b_Ref_relate 225 = .ok (.goto (-44), 3) := by decide +kernel
theorem d_Ref_relate_228 : decode b_Ref_relate 228 = .ok (.iconst 0, 1) := by decide +kernel
theorem d_Ref_relate_229 : decode b_Ref_relate 229 = .ok (.istore_n 1, 1) := by decide +kernel
theorem d_Ref_relate_230 : decode b_Ref_relate 230 = .ok (.iload_n 1, 1) := by decide +kernel
theorem d_Ref_relate_231 : decode b_Ref_relate 231 = .ok (.aload_n 0, 1) := by decide +kernel
theorem d_Ref_relate_232 : decode b_Ref_relate 232 = .ok (.getfield 105, 3) := by decide +kernel
theorem d_Ref_relate_235 : decode b_Ref_relate 235 = .ok (.iconst 3, 1) := by decide +kernel
theorem d_Ref_relate_236 : decode b_Ref_relate 236 = .ok (.iaload, 1) := by decide +kernel
theorem d_Ref_relate_237 : decode b_Ref_relate 237 = .ok (.if_icmp .ge 40, 3) := by decide +kernel
theorem d_Ref_relate_240 : decode b_Ref_relate 240 = .ok (.aload_n 0, 1) := by decide +kernel
theorem d_Ref_relate_241 : decode b_Ref_relate 241 = .ok (.aload_n 0, 1) := by decide +kernel
theorem d_Ref_relate_242 : decode b_Ref_relate 242 = .ok (.getfield 102, 3) := by decide +kernel
theorem d_Ref_relate_245 : decode b_Ref_relate 245 = .ok (.bipush 21, 2) := by decide +kernel
theorem d_Ref_relate_247 : decode b_Ref_relate 247 = .ok (.iload_n 1, 1) := by decide +kernel
theorem d_Ref_relate_248 : decode b_Ref_relate 248 = .ok (.iadd, 1) := by decide +kernel
theorem d_Ref_relate_249 : decode b_Ref_relate 249 = .ok (.iaload, 1) := by decide +kernel
theorem d_Ref_relate_250 : decode b_Ref_relate 250 = .ok (.iload_n 1, 1) := by decide +kernel
theorem d_Ref_relate_251 : decode b_Ref_relate 251 = .ok (.ifCond .ne 7, 3) := by decide +kernel
theorem d_Ref_relate_254 : decode b_Ref_relate 254 = .ok (.iconst (-1), 1) := by decide +kernel
theorem d_Ref_relate_255 : decode b_Ref_relate 255 = .ok (.goto 12, 3) := by decide +kernel
theorem d_Ref_relate_258 : decode b_Ref_relate 258 = .ok (.aload_n 0, 1) := by decide +kernel
theorem d_Ref_relate_259 : decode b_Ref_relate 259 = .ok (.getfield 102, 3) := by decide +kernel
theorem d_Ref_relate_262 : decode b_Ref_relate 262 = .ok (.bipush 20, 2) := by decide +kernel
theorem d_Ref_relate_264 : decode b_Ref_relate 264 = .ok (.iload_n 1, 1) := by decide +kernel
theorem d_Ref_relate_265 : decode b_Ref_relate 265 = .ok (.iadd, 1) := by decide +kernel
theorem d_Ref_relate_266 : decode b_Ref_relate 266 = .ok (.iaload, 1) := by decide +kernel
theorem d_Ref_relate_267 : decode b_Ref_relate 267 = .ok (.iconst 3, 1) := by decide +kernel
theorem d_Ref_relate_268 : decode b_Ref_relate 268 = .ok (.invokevirtual 297, 3) := by decide +kernel
theorem d_Ref_relate_271 : decode b_Ref_relate 271 = .ok (.iinc 1 1, 3) := by decide +kernel
theorem d_Ref_relate_274 : decode b_Ref_relate 274 = .ok (.goto (-44), 3) := by decide +kernel
theorem d_Ref_relate_277 : decode b_Ref_relate 277 = .ok (.return_, 1) := by decide +kernel
theorem d_Ref_hasRing_0 : decode b_Ref_hasRing 0 = .ok (.iconst 0, 1) := by decide +kernel
theorem d_Ref_hasRing_1 : decode b_Ref_hasRing 1 = .ok (.istore_n 1, 1) := by decide +kernel
theorem d_Ref_hasRing_2 : decode b_Ref_hasRing 2 = .ok (.iload_n 1, 1) := by decide +kernel
theorem d_Ref_hasRing_3 : decode b_Ref_hasRing 3 = .ok (.aload_n 0, 1) := by decide +kernel
theorem d_Ref_hasRing_4 : decode b_Ref_hasRing 4 = .ok (.getfield 284, 3) := by decide +kernel
theorem d_Ref_hasRing_7 : decode b_Ref_hasRing 7 = .ok (.if_icmp .ge 54, 3) := by decide +kernel
theorem d_Ref_hasRing_10 : decode b_Ref_hasRing 10 = .ok (.iconst 0, 1) := by decide +kernel
theorem d_Ref_hasRing_11 : decode b_Ref_hasRing 11 = .ok (.istore_n 2, 1) := by decide +kernel
theorem d_Ref_hasRing_12 : decode b_Ref_hasRing 12 = .ok (.iload_n 2, 1) := by decide +kernel
theorem d_Ref_hasRing_13 : decode b_Ref_hasRing 13 = .ok (.aload_n 0, 1) := by decide +kernel
theorem d_Ref_hasRing_14 : decode b_Ref_hasRing 14 = .ok (.getfield 284, 3) := by decide +kernel
theorem d_Ref_hasRing_17 : decode b_Ref_hasRing 17 = .ok (.if_icmp .ge 38, 3) := by decide +kernel
theorem d_Ref_hasRing_20 : decode b_Ref_hasRing 20 = .ok (.aload_n 0, 1) := by decide +kernel
theorem d_Ref_hasRing_21 : decode b_Ref_hasRing 21 = .ok (.getfield 123, 3) := by decide +kernel
theorem d_Ref_hasRing_24 : decode b_Ref_hasRing 24 = .ok (.iload_n 2, 1) := by decide +kernel
theorem d_Ref_hasRing_25 : decode b_Ref_hasRing 25 = .ok (.iaload, 1) := by decide +kernel
theorem d_Ref_hasRing_26 : decode b_Ref_hasRing 26 = .ok (.iload_n 1, 1) := by decide +kernel
theorem d_Ref_hasRing_27 : decode b_Ref_hasRing 27 = .ok (.ishr, 1) := by decide +kernel
theorem d_Ref_hasRing_28 : decode b_Ref_hasRing 28 = .ok (.iconst 1, 1) := by decide +kernel
theorem d_Ref_hasRing_29 : decode b_Ref_hasRing 29 = .ok (.iand, 1) := by decide +kernel
theorem d_Ref_hasRing_30 : decode b_Ref_hasRing 30 = .ok (.iconst 1, 1) := by decide +kernel
theorem d_Ref_hasRing_31 : decode b_Ref_hasRing 31 = .ok (.if_icmp .ne 18, 3) := by decide +kernel
theorem d_Ref_hasRing_34 : decode b_Ref_hasRing 34 = .ok (.aload_n 0, 1) := by decide +kernel
theorem d_Ref_hasRing_35 : decode b_Ref_hasRing 35 = .ok (.getfield 123, 3) := by decide +kernel
theorem d_Ref_hasRing_38 : decode b_Ref_hasRing 38 = .ok (.iload_n 2, 1) := by decide +kernel
theorem d_Ref_hasRing_39 : decode b_Ref_hasRing 39 = .ok (.dup2, 1) := by decide +kernel
theorem d_Ref_hasRing_40 : decode b_Ref_hasRing 40 = .ok (.iaload, 1) := by decide +kernel
theorem d_Ref_hasRing_41 : decode b_Ref_hasRing 41 = .ok (.aload_n 0, 1) := by decide +kernel
theorem d_Ref_hasRing_42 : decode b_Ref_hasRing 42 = .ok (.getfield 123, 3) := by decide +kernel
theorem d_Ref_hasRing_45 : decode b_Ref_hasRing 45 = .ok (.iload_n 1, 1) := by decide +kernel
theorem d_Ref_hasRing_46 : decode b_Ref_hasRing 46 = .ok (.iaload, 1) := by decide +kernel
theorem d_Ref_hasRing_47 : decode b_Ref_hasRing 47 = .ok (.ior, 1) := by decide +kernel
theorem d_Ref_hasRing_48 : decode b_Ref_hasRing 48 = .ok (.iastore, 1) := by decide +kernel
theorem d_Ref_hasRing_49 : decode b_Ref_hasRing 49 = .ok (.iinc 2 1, 3) := by decide +kernel
theorem d_Ref_hasRing_52 : decode b_Ref_hasRing 52 = .ok (.goto (-40), 3) := by decide +kernel
theorem d_Ref_hasRing_55 : decode b_Ref_hasRing 55 = .ok (.iinc 1 1, 3) := by decide +kernel
theorem d_Ref_hasRing_58 : decode b_Ref_hasRing 58 = .ok (.goto (-56), 3) := by decide +kernel
theorem d_Ref_hasRing_61 : decode b_Ref_hasRing 61 = .ok (.iconst 0, 1) := by decide +kernel
theorem d_Ref_hasRing_62 : decode b_Ref_hasRing 62 = .ok (.istore_n 1, 1) := by decide +kernel
theorem d_Ref_hasRing_63 : decode b_Ref_hasRing 63 = .ok (.iload_n 1, 1) := by decide +kernel
theorem d_Ref_hasRing_64 : decode b_Ref_hasRing 64 = .ok (.aload_n 0, 1) := by decide +kernel
theorem d_Ref_hasRing_65 : decode b_Ref_hasRing 65 = .ok (.getfield 284, 3) := by decide +kernel
theorem d_Ref_hasRing_68 : decode b_Ref_hasRing 68 = .ok (.if_icmp .ge 25, 3) := by decide +kernel
theorem d_Ref_hasRing_71 : decode b_Ref_hasRing 71 = .ok (.aload_n 0, 1) := by decide +kernel
theorem d_Ref_hasRing_72 : decode b_Ref_hasRing 72 = .ok (.getfield 123, 3) := by decide +kernel
theorem d_Ref_hasRing_75 : decode b_Ref_hasRing 75 = .ok (.iload_n 1, 1) := by decide +kernel
theorem d_Ref_hasRing_76 : decode b_Ref_hasRing 76 = .ok (.iaload, 1) := by decide +kernel
theorem d_Ref_hasRing_77 : decode b_Ref_hasRing 77 = .ok (.iload_n 1, 1) := by decide +kernel
theorem d_Ref_hasRing_78 : decode b_Ref_hasRing 78 = .ok (.ishr, 1) := by decide +kernel
theorem d_Ref_hasRing_79 : decode b_Ref_hasRing 79 = .ok (.iconst 1, 1) := by decide +kernel
theorem d_Ref_hasRing_80 : decode b_Ref_hasRing 80 = .ok (.iand, 1) := by decide +kernel
theorem d_Ref_hasRing_81 : decode b_Ref_hasRing 81 = .ok (.iconst 1, 1) := by decide +kernel
theorem d_Ref_hasRing_82 : decode b_Ref_hasRing 82 = .ok (.if_icmp .ne 5, 3) := by decide +kernel
theorem d_Ref_hasRing_85 : decode b_Ref_hasRing 85 = .ok (.iconst 1, 1) := by decide +kernel
theorem d_Ref_hasRing_86 : decode b_Ref_hasRing 86 = .ok (.ireturn, 1) := by decide +kernel
theorem d_Ref_hasRing_87 : decode b_Ref_hasRing 87 = .ok (.iinc 1 1, 3) := by decide +kernel
theorem d_Ref_hasRing_90 : decode b_Ref_hasRing 90 = .ok (.goto (-27), 3) := by decide +kernel
theorem d_Ref_hasRing_93 : decode b_Ref_hasRing 93 = .ok (.iconst 0, 1) := by decide +kernel
theorem d_Ref_hasRing_94 : decode b_Ref_hasRing 94 = .ok (.ireturn, 1) := by decide +kernel
theorem d_Ref_stands_0 : decode b_Ref_stands 0 = .ok (.aload_n 0, 1) := by decide +kernel
theorem d_Ref_stands_1 : decode b_Ref_stands 1 = .ok (.getfield 242, 3) := by decide +kernel
theorem d_Ref_stands_4 : decode b_Ref_stands 4 = .ok (.ifCond .ne 65, 3) := by decide +kernel
theorem d_Ref_stands_7 : decode b_Ref_stands 7 = .ok (.iconst 0, 1) := by decide +kernel
theorem d_Ref_stands_8 : decode b_Ref_stands 8 = .ok (.istore_n 1, 1) := by decide +kernel
theorem d_Ref_stands_9 : decode b_Ref_stands 9 = .ok (.iload_n 1, 1) := by decide +kernel
theorem d_Ref_stands_10 : decode b_Ref_stands 10 = .ok (.aload_n 0, 1) := by decide +kernel
theorem d_Ref_stands_11 : decode b_Ref_stands 11 = .ok (.getfield 284, 3) := by decide +kernel
theorem d_Ref_stands_14 : decode b_Ref_stands 14 = .ok (.if_icmp .ge 42, 3) := by decide +kernel
theorem d_Ref_stands_17 : decode b_Ref_stands 17 = .ok (.aload_n 0, 1) := by decide +kernel
theorem d_Ref_stands_18 : decode b_Ref_stands 18 = .ok (.getfield 123, 3) := by decide +kernel
theorem d_Ref_stands_21 : decode b_Ref_stands 21 = .ok (.iload_n 1, 1) := by decide +kernel
theorem d_Ref_stands_22 : decode b_Ref_stands 22 = .ok (.aload_n 0, 1) := by decide +kernel
theorem d_Ref_stands_23 : decode b_Ref_stands 23 = .ok (.getfield 111, 3) := by decide +kernel
theorem d_Ref_stands_26 : decode b_Ref_stands 26 = .ok (.iload_n 1, 1) := by decide +kernel
theorem d_Ref_stands_27 : decode b_Ref_stands 27 = .ok (.iaload, 1) := by decide +kernel
theorem d_Ref_stands_28 : decode b_Ref_stands 28 = .ok (.aload_n 0, 1) := by decide +kernel
theorem d_Ref_stands_29 : decode b_Ref_stands 29 = .ok (.getfield 114, 3) := by decide +kernel
theorem d_Ref_stands_32 : decode b_Ref_stands 32 = .ok (.iload_n 1, 1) := by decide +kernel
theorem d_Ref_stands_33 : decode b_Ref_stands 33 = .ok (.iaload, 1) := by decide +kernel
theorem d_Ref_stands_34 : decode b_Ref_stands 34 = .ok (.ior, 1) := by decide +kernel
theorem d_Ref_stands_35 : decode b_Ref_stands 35 = .ok (.aload_n 0, 1) := by decide +kernel
theorem d_Ref_stands_36 : decode b_Ref_stands 36 = .ok (.getfield 117, 3) := by decide +kernel
theorem d_Ref_stands_39 : decode b_Ref_stands 39 = .ok (.iload_n 1, 1) := by decide +kernel
theorem d_Ref_stands_40 : decode b_Ref_stands 40 = .ok (.iaload, 1) := by decide +kernel
theorem d_Ref_stands_41 : decode b_Ref_stands 41 = .ok (.ior, 1) := by decide +kernel
theorem d_Ref_stands_42 : decode b_Ref_stands 42 = .ok (.aload_n 0, 1) := by decide +kernel
theorem d_Ref_stands_43 : decode b_Ref_stands 43 = .ok (.getfield 120, 3) := by decide +kernel
theorem d_Ref_stands_46 : decode b_Ref_stands 46 = .ok (.iload_n 1, 1) := by decide +kernel
theorem d_Ref_stands_47 : decode b_Ref_stands 47 = .ok (.iaload, 1) := by decide +kernel
theorem d_Ref_stands_48 : decode b_Ref_stands 48 = .ok (.ior, 1) := by decide +kernel
theorem d_Ref_stands_49 : decode b_Ref_stands 49 = .ok (.iastore, 1) := by decide +kernel
theorem d_Ref_stands_50 : decode b_Ref_stands 50 = .ok (.iinc 1 1, 3) := by decide +kernel
theorem d_Ref_stands_53 : decode b_Ref_stands 53 = .ok (.goto (-44), 3) := by decide +kernel
theorem d_Ref_stands_56 : decode b_Ref_stands 56 = .ok (.aload_n 0, 1) := by decide +kernel
theorem d_Ref_stands_57 : decode b_Ref_stands 57 = .ok (.invokevirtual 304, 3) := by decide +kernel
theorem d_Ref_stands_60 : decode b_Ref_stands 60 = .ok (.ifCond .ne 7, 3) := by decide +kernel
theorem d_Ref_stands_63 : decode b_Ref_stands 63 = .ok (.iconst 1, 1) := by decide +kernel
theorem d_Ref_stands_64 : decode b_Ref_stands 64 = .ok (.goto 4, 3) := by decide +kernel
theorem d_Ref_stands_67 : decode b_Ref_stands 67 = .ok (.iconst 0, 1) := by decide +kernel
theorem d_Ref_stands_68 : decode b_Ref_stands 68 = .ok (.ireturn, 1) := by decide +kernel
theorem d_Ref_stands_69 : decode b_Ref_stands 69 = .ok (.aload_n 0, 1) := by decide +kernel
theorem d_Ref_stands_70 : decode b_Ref_stands 70 = .ok (.getfield 242, 3) := by decide +kernel
theorem d_Ref_stands_73 : decode b_Ref_stands 73 = .ok (.iconst 3, 1) := by decide +kernel
theorem d_Ref_stands_74 : decode b_Ref_stands 74 = .ok (.if_icmp .ne 8, 3) := by decide +kernel
theorem d_Ref_stands_77 : decode b_Ref_stands 77 = .ok (.aload_n 0, 1) := by decide +kernel
theorem d_Ref_stands_78 : decode b_Ref_stands 78 = .ok (.invokevirtual 307, 3) := by decide +kernel
theorem d_Ref_stands_81 : decode b_Ref_stands 81 = .ok (.ireturn, 1) := by decide +kernel
theorem d_Ref_stands_82 : decode b_Ref_stands 82 = .ok (.iconst 0, 1) := by decide +kernel
theorem d_Ref_stands_83 : decode b_Ref_stands 83 = .ok (.istore_n 1, 1) := by decide +kernel
theorem d_Ref_stands_84 : decode b_Ref_stands 84 = .ok (.iload_n 1, 1) := by decide +kernel
theorem d_Ref_stands_85 : decode b_Ref_stands 85 = .ok (.aload_n 0, 1) := by decide +kernel
theorem d_Ref_stands_86 : decode b_Ref_stands 86 = .ok (.getfield 284, 3) := by decide +kernel
theorem d_Ref_stands_89 : decode b_Ref_stands 89 = .ok (.if_icmp .ge 127, 3) := by decide +kernel
theorem d_Ref_stands_92 : decode b_Ref_stands 92 = .ok (.aload_n 0, 1) := by decide +kernel
theorem d_Ref_stands_93 : decode b_Ref_stands 93 = .ok (.iload_n 1, 1) := by decide +kernel
theorem d_Ref_stands_94 : decode b_Ref_stands 94 = .ok (.invokevirtual 310, 3) := by decide +kernel
theorem d_Ref_stands_97 : decode b_Ref_stands 97 = .ok (.istore_n 2, 1) := by decide +kernel
theorem d_Ref_stands_98 : decode b_Ref_stands 98 = .ok (.aload_n 0, 1) := by decide +kernel
theorem d_Ref_stands_99 : decode b_Ref_stands 99 = .ok (.getfield 123, 3) := by decide +kernel
theorem d_Ref_stands_102 : decode b_Ref_stands 102 = .ok (.iload_n 1, 1) := by decide +kernel
theorem d_Ref_stands_103 : decode b_Ref_stands 103 = .ok (.aload_n 0, 1) := by decide +kernel
theorem d_Ref_stands_104 : decode b_Ref_stands 104 = .ok (.getfield 114, 3) := by decide +kernel
theorem d_Ref_stands_107 : decode b_Ref_stands 107 = .ok (.iload_n 1, 1) := by decide +kernel
theorem d_Ref_stands_108 : decode b_Ref_stands 108 = .ok (.iaload, 1) := by decide +kernel
theorem d_Ref_stands_109 : decode b_Ref_stands 109 = .ok (.aload_n 0, 1) := by decide +kernel
theorem d_Ref_stands_110 : decode b_Ref_stands 110 = .ok (.getfield 117, 3) := by decide +kernel
theorem d_Ref_stands_113 : decode b_Ref_stands 113 = .ok (.iload_n 1, 1) := by decide +kernel
theorem d_Ref_stands_114 : decode b_Ref_stands 114 = .ok (.iaload, 1) := by decide +kernel
theorem d_Ref_stands_115 : decode b_Ref_stands 115 = .ok (.ior, 1) := by decide +kernel
theorem d_Ref_stands_116 : decode b_Ref_stands 116 = .ok (.aload_n 0, 1) := by decide +kernel
theorem d_Ref_stands_117 : decode b_Ref_stands 117 = .ok (.getfield 120, 3) := by decide +kernel
theorem d_Ref_stands_120 : decode b_Ref_stands 120 = .ok (.iload_n 1, 1) := by decide +kernel
theorem d_Ref_stands_121 : decode b_Ref_stands 121 = .ok (.iaload, 1) := by decide +kernel
theorem d_Ref_stands_122 : decode b_Ref_stands 122 = .ok (.ior, 1) := by decide +kernel
theorem d_Ref_stands_123 : decode b_Ref_stands 123 = .ok (.iastore, 1) := by decide +kernel
theorem d_Ref_stands_124 : decode b_Ref_stands 124 = .ok (.iconst 0, 1) := by decide +kernel
theorem d_Ref_stands_125 : decode b_Ref_stands 125 = .ok (.istore_n 3, 1) := by decide +kernel
theorem d_Ref_stands_126 : decode b_Ref_stands 126 = .ok (.iload_n 3, 1) := by decide +kernel
theorem d_Ref_stands_127 : decode b_Ref_stands 127 = .ok (.aload_n 0, 1) := by decide +kernel
theorem d_Ref_stands_128 : decode b_Ref_stands 128 = .ok (.getfield 284, 3) := by decide +kernel
theorem d_Ref_stands_131 : decode b_Ref_stands 131 = .ok (.if_icmp .ge 79, 3) := by decide +kernel
theorem d_Ref_stands_134 : decode b_Ref_stands 134 = .ok (.aload_n 0, 1) := by decide +kernel
theorem d_Ref_stands_135 : decode b_Ref_stands 135 = .ok (.iload_n 3, 1) := by decide +kernel
theorem d_Ref_stands_136 : decode b_Ref_stands 136 = .ok (.invokevirtual 310, 3) := by decide +kernel
theorem d_Ref_stands_139 : decode b_Ref_stands 139 = .ok (.istore 4, 2) := by decide +kernel
theorem d_Ref_stands_141 : decode b_Ref_stands 141 = .ok (.aload_n 0, 1) := by decide +kernel
theorem d_Ref_stands_142 : decode b_Ref_stands 142 = .ok (.getfield 111, 3) := by decide +kernel
theorem d_Ref_stands_145 : decode b_Ref_stands 145 = .ok (.iload_n 1, 1) := by decide +kernel
theorem d_Ref_stands_146 : decode b_Ref_stands 146 = .ok (.iaload, 1) := by decide +kernel
theorem d_Ref_stands_147 : decode b_Ref_stands 147 = .ok (.iload_n 3, 1) := by decide +kernel
theorem d_Ref_stands_148 : decode b_Ref_stands 148 = .ok (.ishr, 1) := by decide +kernel
theorem d_Ref_stands_149 : decode b_Ref_stands 149 = .ok (.iconst 1, 1) := by decide +kernel
theorem d_Ref_stands_150 : decode b_Ref_stands 150 = .ok (.iand, 1) := by decide +kernel
theorem d_Ref_stands_151 : decode b_Ref_stands 151 = .ok (.iconst 1, 1) := by decide +kernel
theorem d_Ref_stands_152 : decode b_Ref_stands 152 = .ok (.if_icmp .ne 52, 3) := by decide +kernel
theorem d_Ref_stands_155 : decode b_Ref_stands 155 = .ok (.aload_n 0, 1) := by decide +kernel
theorem d_Ref_stands_156 : decode b_Ref_stands 156 = .ok (.getfield 13, 3) := by decide +kernel
theorem d_Ref_stands_159 : decode b_Ref_stands 159 = .ok (.iload_n 2, 1) := by decide +kernel
theorem d_Ref_stands_160 : decode b_Ref_stands 160 = .ok (.iaload, 1) := by decide +kernel
theorem d_Ref_stands_161 : decode b_Ref_stands 161 = .ok (.iconst 4, 1) := by decide +kernel
theorem d_Ref_stands_162 : decode b_Ref_stands 162 = .ok (.if_icmp .eq 42, 3) := by decide +kernel
theorem d_Ref_stands_165 : decode b_Ref_stands 165 = .ok (.aload_n 0, 1) := by decide +kernel
theorem d_Ref_stands_166 : decode b_Ref_stands 166 = .ok (.getfield 13, 3) := by decide +kernel
theorem d_Ref_stands_169 : decode b_Ref_stands 169 = .ok (.iload 4, 2) := by decide +kernel
theorem d_Ref_stands_171 : decode b_Ref_stands 171 = .ok (.iaload, 1) := by decide +kernel
theorem d_Ref_stands_172 : decode b_Ref_stands 172 = .ok (.iconst 4, 1) := by decide +kernel
theorem d_Ref_stands_173 : decode b_Ref_stands 173 = .ok (.if_icmp .eq 31, 3) := by decide +kernel
theorem d_Ref_stands_176 : decode b_Ref_stands 176 = .ok (.aload_n 0, 1) := by decide +kernel
theorem d_Ref_stands_177 : decode b_Ref_stands 177 = .ok (.getfield 16, 3) := by decide +kernel
theorem d_Ref_stands_180 : decode b_Ref_stands 180 = .ok (.iload_n 2, 1) := by decide +kernel
theorem d_Ref_stands_181 : decode b_Ref_stands 181 = .ok (.iaload, 1) := by decide +kernel
theorem d_Ref_stands_182 : decode b_Ref_stands 182 = .ok (.aload_n 0, 1) := by decide +kernel
theorem d_Ref_stands_183 : decode b_Ref_stands 183 = .ok (.getfield 16, 3) := by decide +kernel
theorem d_Ref_stands_186 : decode b_Ref_stands 186 = .ok (.iload 4, 2) := by decide +kernel
theorem d_Ref_stands_188 : decode b_Ref_stands 188 = .ok (.iaload, 1) := by decide +kernel
theorem d_Ref_stands_189 : decode b_Ref_stands 189 = .ok (.if_icmp .ne 15, 3) := by decide +kernel
theorem d_Ref_stands_192 : decode b_Ref_stands 192 = .ok (.aload_n 0, 1) := by decide +kernel
theorem d_Ref_stands_193 : decode b_Ref_stands 193 = .ok (.getfield 123, 3) := by decide +kernel
theorem d_Ref_stands_196 : decode b_Ref_stands 196 = .ok (.iload_n 1, 1) := by decide +kernel
theorem d_Ref_stands_197 : decode b_Ref_stands 197 = .ok (.dup2, 1) := by decide +kernel
theorem d_Ref_stands_198 : decode b_Ref_stands 198 = .ok (.iaload, 1) := by decide +kernel
theorem d_Ref_stands_199 : decode b_Ref_stands 199 = .ok (.iconst 1, 1) := by decide +kernel
theorem d_Ref_stands_200 : decode b_Ref_stands 200 = .ok (.iload_n 3, 1) := by decide +kernel
theorem d_Ref_stands_201 : decode b_Ref_stands 201 = .ok (.ishl, 1) := by decide +kernel
theorem d_Ref_stands_202 : decode b_Ref_stands 202 = .ok (.ior, 1) := by decide +kernel
theorem d_Ref_stands_203 : decode b_Ref_stands 203 = .ok (.iastore, 1) := by decide +kernel
theorem d_Ref_stands_204 : decode b_Ref_stands 204 = .ok (.iinc 3 1, 3) := by decide +kernel
theorem d_Ref_stands_207 : decode b_Ref_stands 207 = .ok (.goto (-81), 3) := by decide +kernel
theorem d_Ref_stands_210 : decode b_Ref_stands 210 = .ok (.iinc 1 1, 3) := by decide +kernel
theorem d_Ref_stands_213 : decode b_Ref_stands 213 = .ok (.goto (-129), 3) := by decide +kernel
theorem d_Ref_stands_216 : decode b_Ref_stands 216 = .ok (.aload_n 0, 1) := by decide +kernel
theorem d_Ref_stands_217 : decode b_Ref_stands 217 = .ok (.invokevirtual 304, 3) := by decide +kernel
theorem d_Ref_stands_220 : decode b_Ref_stands 220 = .ok (.ifCond .eq 5, 3) := by decide +kernel
theorem d_Ref_stands_223 : decode b_Ref_stands 223 = .ok (.iconst 0, 1) := by decide +kernel
theorem d_Ref_stands_224 : decode b_Ref_stands 224 = .ok (.ireturn, 1) := by decide +kernel
theorem d_Ref_stands_225 : decode b_Ref_stands 225 = .ok (.iconst 0, 1) := by decide +kernel
theorem d_Ref_stands_226 : decode b_Ref_stands 226 = .ok (.istore_n 1, 1) := by decide +kernel
theorem d_Ref_stands_227 : decode b_Ref_stands 227 = .ok (.iload_n 1, 1) := by decide +kernel
theorem d_Ref_stands_228 : decode b_Ref_stands 228 = .ok (.aload_n 0, 1) := by decide +kernel
theorem d_Ref_stands_229 : decode b_Ref_stands 229 = .ok (.getfield 284, 3) := by decide +kernel
theorem d_Ref_stands_232 : decode b_Ref_stands 232 = .ok (.if_icmp .ge 119, 3) := by decide +kernel
theorem d_Ref_stands_235 : decode b_Ref_stands 235 = .ok (.aload_n 0, 1) := by decide +kernel
theorem d_Ref_stands_236 : decode b_Ref_stands 236 = .ok (.iload_n 1, 1) := by decide +kernel
theorem d_Ref_stands_237 : decode b_Ref_stands 237 = .ok (.invokevirtual 310, 3) := by decide +kernel
theorem d_Ref_stands_240 : decode b_Ref_stands 240 = .ok (.istore_n 2, 1) := by decide +kernel
theorem d_Ref_stands_241 : decode b_Ref_stands 241 = .ok (.aload_n 0, 1) := by decide +kernel
theorem d_Ref_stands_242 : decode b_Ref_stands 242 = .ok (.getfield 123, 3) := by decide +kernel
theorem d_Ref_stands_245 : decode b_Ref_stands 245 = .ok (.iload_n 1, 1) := by decide +kernel
theorem d_Ref_stands_246 : decode b_Ref_stands 246 = .ok (.aload_n 0, 1) := by decide +kernel
theorem d_Ref_stands_247 : decode b_Ref_stands 247 = .ok (.getfield 117, 3) := by decide +kernel
theorem d_Ref_stands_250 : decode b_Ref_stands 250 = .ok (.iload_n 1, 1) := by decide +kernel
theorem d_Ref_stands_251 : decode b_Ref_stands 251 = .ok (.iaload, 1) := by decide +kernel
theorem d_Ref_stands_252 : decode b_Ref_stands 252 = .ok (.aload_n 0, 1) := by decide +kernel
theorem d_Ref_stands_253 : decode b_Ref_stands 253 = .ok (.getfield 120, 3) := by decide +kernel
theorem d_Ref_stands_256 : decode b_Ref_stands 256 = .ok (.iload_n 1, 1) := by decide +kernel
theorem d_Ref_stands_257 : decode b_Ref_stands 257 = .ok (.iaload, 1) := by decide +kernel
theorem d_Ref_stands_258 : decode b_Ref_stands 258 = .ok (.ior, 1) := by decide +kernel
theorem d_Ref_stands_259 : decode b_Ref_stands 259 = .ok (.iastore, 1) := by decide +kernel
theorem d_Ref_stands_260 : decode b_Ref_stands 260 = .ok (.iconst 0, 1) := by decide +kernel
theorem d_Ref_stands_261 : decode b_Ref_stands 261 = .ok (.istore_n 3, 1) := by decide +kernel
theorem d_Ref_stands_262 : decode b_Ref_stands 262 = .ok (.iload_n 3, 1) := by decide +kernel
theorem d_Ref_stands_263 : decode b_Ref_stands 263 = .ok (.aload_n 0, 1) := by decide +kernel
theorem d_Ref_stands_264 : decode b_Ref_stands 264 = .ok (.getfield 284, 3) := by decide +kernel
theorem d_Ref_stands_267 : decode b_Ref_stands 267 = .ok (.if_icmp .ge 78, 3) := by decide +kernel
theorem d_Ref_stands_270 : decode b_Ref_stands 270 = .ok (.aload_n 0, 1) := by decide +kernel
theorem d_Ref_stands_271 : decode b_Ref_stands 271 = .ok (.iload_n 3, 1) := by decide +kernel
theorem d_Ref_stands_272 : decode b_Ref_stands 272 = .ok (.invokevirtual 310, 3) := by decide +kernel
theorem d_Ref_stands_275 : decode b_Ref_stands 275 = .ok (.istore 4, 2) := by decide +kernel
theorem d_Ref_stands_277 : decode b_Ref_stands 277 = .ok (.aload_n 0, 1) := by decide +kernel
theorem d_Ref_stands_278 : decode b_Ref_stands 278 = .ok (.getfield 111, 3) := by decide +kernel
theorem d_Ref_stands_281 : decode b_Ref_stands 281 = .ok (.iload_n 1, 1) := by decide +kernel
theorem d_Ref_stands_282 : decode b_Ref_stands 282 = .ok (.iaload, 1) := by decide +kernel
theorem d_Ref_stands_283 : decode b_Ref_stands 283 = .ok (.iload_n 3, 1) := by decide +kernel
theorem d_Ref_stands_284 : decode b_Ref_stands 284 = .ok (.ishr, 1) := by decide +kernel
theorem d_Ref_stands_285 : decode b_Ref_stands 285 = .ok (.iconst 1, 1) := by decide +kernel
theorem d_Ref_stands_286 : decode b_Ref_stands 286 = .ok (.iand, 1) := by decide +kernel
theorem d_Ref_stands_287 : decode b_Ref_stands 287 = .ok (.iconst 1, 1) := by decide +kernel
theorem d_Ref_stands_288 : decode b_Ref_stands 288 = .ok (.if_icmp .ne 13, 3) := by decide +kernel
theorem d_Ref_stands_291 : decode b_Ref_stands 291 = .ok (.aload_n 0, 1) := by decide +kernel
theorem d_Ref_stands_292 : decode b_Ref_stands 292 = .ok (.iload_n 2, 1) := by decide +kernel
theorem d_Ref_stands_293 : decode b_Ref_stands 293 = .ok (.iload 4, 2) := by decide +kernel
theorem d_Ref_stands_295 : decode b_Ref_stands 295 = .ok (.invokevirtual 313, 3) := by decide +kernel
theorem d_Ref_stands_298 : decode b_Ref_stands 298 = .ok (.ifCond .ne 29, 3) := by decide +kernel
theorem d_Ref_stands_301 : decode b_Ref_stands 301 = .ok (.aload_n 0, 1) := by decide +kernel
theorem d_Ref_stands_302 : decode b_Ref_stands 302 = .ok (.getfield 114, 3) := by decide +kernel
theorem d_Ref_stands_305 : decode b_Ref_stands 305 = .ok (.iload_n 1, 1) := by decide +kernel
theorem d_Ref_stands_306 : decode b_Ref_stands 306 = .ok (.iaload, 1) := by decide +kernel
theorem d_Ref_stands_307 : decode b_Ref_stands 307 = .ok (.iload_n 3, 1) := by decide +kernel
theorem d_Ref_stands_308 : decode b_Ref_stands 308 = .ok (.ishr, 1) := by decide +kernel
theorem d_Ref_stands_309 : decode b_Ref_stands 309 = .ok (.iconst 1, 1) := by decide +kernel
theorem d_Ref_stands_310 : decode b_Ref_stands 310 = .ok (.iand, 1) := by decide +kernel
theorem d_Ref_stands_311 : decode b_Ref_stands 311 = .ok (.iconst 1, 1) := by decide +kernel
theorem d_Ref_stands_312 : decode b_Ref_stands 312 = .ok (.if_icmp .ne 27, 3) := by decide +kernel
theorem d_Ref_stands_315 : decode b_Ref_stands 315 = .ok (.iload_n 2, 1) := by decide +kernel
theorem d_Ref_stands_316 : decode b_Ref_stands 316 = .ok (.bipush 7, 2) := by decide +kernel
theorem d_Ref_stands_318 : decode b_Ref_stands 318 = .ok (.idiv, 1) := by decide +kernel
theorem d_Ref_stands_319 : decode b_Ref_stands 319 = .ok (.iload 4, 2) := by decide +kernel
theorem d_Ref_stands_321 : decode b_Ref_stands 321 = .ok (.bipush 7, 2) := by decide +kernel
theorem d_Ref_stands_323 : decode b_Ref_stands 323 = .ok (.idiv, 1) := by decide +kernel
theorem d_Ref_stands_324 : decode b_Ref_stands 324 = .ok (.if_icmp .eq 15, 3) := by decide +kernel
theorem d_Ref_stands_327 : decode b_Ref_stands 327 = .ok (.aload_n 0, 1) := by decide +kernel
theorem d_Ref_stands_328 : decode b_Ref_stands 328 = .ok (.getfield 123, 3) := by decide +kernel
theorem d_Ref_stands_331 : decode b_Ref_stands 331 = .ok (.iload_n 1, 1) := by decide +kernel
theorem d_Ref_stands_332 : decode b_Ref_stands 332 = .ok (.dup2, 1) := by decide +kernel
theorem d_Ref_stands_333 : decode b_Ref_stands 333 = .ok (.iaload, 1) := by decide +kernel
theorem d_Ref_stands_334 : decode b_Ref_stands 334 = .ok (.iconst 1, 1) := by decide +kernel
theorem d_Ref_stands_335 : decode b_Ref_stands 335 = .ok (.iload_n 3, 1) := by decide +kernel
theorem d_Ref_stands_336 : decode b_Ref_stands 336 = .ok (.ishl, 1) := by decide +kernel
theorem d_Ref_stands_337 : decode b_Ref_stands 337 = .ok (.ior, 1) := by decide +kernel
theorem d_Ref_stands_338 : decode b_Ref_stands 338 = .ok (.iastore, 1) := by decide +kernel
theorem d_Ref_stands_339 : decode b_Ref_stands 339 = .ok (.iinc 3 1, 3) := by decide +kernel
theorem d_Ref_stands_342 : decode b_Ref_stands 342 = .ok (.goto (-80), 3) := by decide +kernel
theorem d_Ref_stands_345 : decode b_Ref_stands 345 = .ok (.iinc 1 1, 3) := by decide +kernel
theorem d_Ref_stands_348 : decode b_Ref_stands 348 = .ok (.goto (-121), 3) := by decide +kernel
theorem d_Ref_stands_351 : decode b_Ref_stands 351 = .ok (.aload_n 0, 1) := by decide +kernel
theorem d_Ref_stands_352 : decode b_Ref_stands 352 = .ok (.invokevirtual 304, 3) := by decide +kernel
theorem d_Ref_stands_355 : decode b_Ref_stands 355 = .ok (.ifCond .ne 7, 3) := by decide +kernel
theorem d_Ref_stands_358 : decode b_Ref_stands 358 = .ok (.iconst 1, 1) := by decide +kernel
theorem d_Ref_stands_359 : decode b_Ref_stands 359 = .ok (.goto 4, 3) := by decide +kernel
theorem d_Ref_stands_362 : decode b_Ref_stands 362 = .ok (.iconst 0, 1) := by decide +kernel
theorem d_Ref_stands_363 : decode b_Ref_stands 363 = .ok (.ireturn, 1) := by decide +kernel
theorem d_Ref_standsKnown_0 : decode b_Ref_standsKnown 0 = .ok (.iconst 0, 1) := by decide +kernel
theorem d_Ref_standsKnown_1 : decode b_Ref_standsKnown 1 = .ok (.istore_n 1, 1) := by decide +kernel
theorem d_Ref_standsKnown_2 : decode b_Ref_standsKnown 2 = .ok (.iload_n 1, 1) := by decide +kernel
theorem d_Ref_standsKnown_3 : decode b_Ref_standsKnown 3 = .ok (.aload_n 0, 1) := by decide +kernel
theorem d_Ref_standsKnown_4 : decode b_Ref_standsKnown 4 = .ok (.getfield 284, 3) := by decide +kernel
theorem d_Ref_standsKnown_7 : decode b_Ref_standsKnown 7 = .ok (.if_icmp .ge 28, 3) := by decide +kernel
theorem d_Ref_standsKnown_10 : decode b_Ref_standsKnown 10 = .ok (.aload_n 0, 1) := by decide +kernel
theorem d_Ref_standsKnown_11 : decode b_Ref_standsKnown 11 = .ok (.getfield 123, 3) := by decide +kernel
theorem d_Ref_standsKnown_14 : decode b_Ref_standsKnown 14 = .ok (.iload_n 1, 1) := by decide +kernel
theorem d_Ref_standsKnown_15 : decode b_Ref_standsKnown 15 = .ok (.aload_n 0, 1) := by decide +kernel
theorem d_Ref_standsKnown_16 : decode b_Ref_standsKnown 16 = .ok (.getfield 111, 3) := by decide +kernel
theorem d_Ref_standsKnown_19 : decode b_Ref_standsKnown 19 = .ok (.iload_n 1, 1) := by decide +kernel
theorem d_Ref_standsKnown_20 : decode b_Ref_standsKnown 20 = .ok (.iaload, 1) := by decide +kernel
theorem d_Ref_standsKnown_21 : decode b_Ref_standsKnown 21 = .ok (.aload_n 0, 1) := by decide +kernel
theorem d_Ref_standsKnown_22 : decode b_Ref_standsKnown 22 = .ok (.getfield 114, 3) := by decide +kernel
theorem d_Ref_standsKnown_25 : decode b_Ref_standsKnown 25 = .ok (.iload_n 1, 1) := by decide +kernel
theorem d_Ref_standsKnown_26 : decode b_Ref_standsKnown 26 = .ok (.iaload, 1) := by decide +kernel
theorem d_Ref_standsKnown_27 : decode b_Ref_standsKnown 27 = .ok (.ior, 1) := by decide +kernel
theorem d_Ref_standsKnown_28 : decode b_Ref_standsKnown 28 = .ok (.iastore, 1) := by decide +kernel
theorem d_Ref_standsKnown_29 : decode b_Ref_standsKnown 29 = .ok (.iinc 1 1, 3) := by decide +kernel
theorem d_Ref_standsKnown_32 : decode b_Ref_standsKnown 32 = .ok (.goto (-30), 3) := by decide +kernel
theorem d_Ref_standsKnown_35 : decode b_Ref_standsKnown 35 = .ok (.aload_n 0, 1) := by decide +kernel
theorem d_Ref_standsKnown_36 : decode b_Ref_standsKnown 36 = .ok (.invokevirtual 304, 3) := by decide +kernel
theorem d_Ref_standsKnown_39 : decode b_Ref_standsKnown 39 = .ok (.ifCond .eq 5, 3) := by decide +kernel
theorem d_Ref_standsKnown_42 : decode b_Ref_standsKnown 42 = .ok (.iconst 0, 1) := by decide +kernel
theorem d_Ref_standsKnown_43 : decode b_Ref_standsKnown 43 = .ok (.ireturn, 1) := by decide +kernel
theorem d_Ref_standsKnown_44 : decode b_Ref_standsKnown 44 = .ok (.iconst 0, 1) := by decide +kernel
theorem d_Ref_standsKnown_45 : decode b_Ref_standsKnown 45 = .ok (.istore_n 1, 1) := by decide +kernel
theorem d_Ref_standsKnown_46 : decode b_Ref_standsKnown 46 = .ok (.iload_n 1, 1) := by decide +kernel
theorem d_Ref_standsKnown_47 : decode b_Ref_standsKnown 47 = .ok (.aload_n 0, 1) := by decide +kernel
theorem d_Ref_standsKnown_48 : decode b_Ref_standsKnown 48 = .ok (.getfield 284, 3) := by decide +kernel
theorem d_Ref_standsKnown_51 : decode b_Ref_standsKnown 51 = .ok (.if_icmp .ge 47, 3) := by decide +kernel
theorem d_Ref_standsKnown_54 : decode b_Ref_standsKnown 54 = .ok (.aload_n 0, 1) := by decide +kernel
theorem d_Ref_standsKnown_55 : decode b_Ref_standsKnown 55 = .ok (.getfield 126, 3) := by decide +kernel
theorem d_Ref_standsKnown_58 : decode b_Ref_standsKnown 58 = .ok (.iload_n 1, 1) := by decide +kernel
theorem d_Ref_standsKnown_59 : decode b_Ref_standsKnown 59 = .ok (.aload_n 0, 1) := by decide +kernel
theorem d_Ref_standsKnown_60 : decode b_Ref_standsKnown 60 = .ok (.getfield 123, 3) := by decide +kernel
theorem d_Ref_standsKnown_63 : decode b_Ref_standsKnown 63 = .ok (.iload_n 1, 1) := by decide +kernel
theorem d_Ref_standsKnown_64 : decode b_Ref_standsKnown 64 = .ok (.iaload, 1) := by decide +kernel
theorem d_Ref_standsKnown_65 : decode b_Ref_standsKnown 65 = .ok (.iastore, 1) := by decide +kernel
theorem d_Ref_standsKnown_66 : decode b_Ref_standsKnown 66 = .ok (.aload_n 0, 1) := by decide +kernel
theorem d_Ref_standsKnown_67 : decode b_Ref_standsKnown 67 = .ok (.getfield 123, 3) := by decide +kernel
theorem d_Ref_standsKnown_70 : decode b_Ref_standsKnown 70 = .ok (.iload_n 1, 1) := by decide +kernel
theorem d_Ref_standsKnown_71 : decode b_Ref_standsKnown 71 = .ok (.aload_n 0, 1) := by decide +kernel
theorem d_Ref_standsKnown_72 : decode b_Ref_standsKnown 72 = .ok (.getfield 114, 3) := by decide +kernel
theorem d_Ref_standsKnown_75 : decode b_Ref_standsKnown 75 = .ok (.iload_n 1, 1) := by decide +kernel
theorem d_Ref_standsKnown_76 : decode b_Ref_standsKnown 76 = .ok (.iaload, 1) := by decide +kernel
theorem d_Ref_standsKnown_77 : decode b_Ref_standsKnown 77 = .ok (.aload_n 0, 1) := by decide +kernel
theorem d_Ref_standsKnown_78 : decode b_Ref_standsKnown 78 = .ok (.getfield 117, 3) := by decide +kernel
theorem d_Ref_standsKnown_81 : decode b_Ref_standsKnown 81 = .ok (.iload_n 1, 1) := by decide +kernel
theorem d_Ref_standsKnown_82 : decode b_Ref_standsKnown 82 = .ok (.iaload, 1) := by decide +kernel
theorem d_Ref_standsKnown_83 : decode b_Ref_standsKnown 83 = .ok (.ior, 1) := by decide +kernel
theorem d_Ref_standsKnown_84 : decode b_Ref_standsKnown 84 = .ok (.aload_n 0, 1) := by decide +kernel
theorem d_Ref_standsKnown_85 : decode b_Ref_standsKnown 85 = .ok (.getfield 120, 3) := by decide +kernel
theorem d_Ref_standsKnown_88 : decode b_Ref_standsKnown 88 = .ok (.iload_n 1, 1) := by decide +kernel
theorem d_Ref_standsKnown_89 : decode b_Ref_standsKnown 89 = .ok (.iaload, 1) := by decide +kernel
theorem d_Ref_standsKnown_90 : decode b_Ref_standsKnown 90 = .ok (.ior, 1) := by decide +kernel
theorem d_Ref_standsKnown_91 : decode b_Ref_standsKnown 91 = .ok (.iastore, 1) := by decide +kernel
theorem d_Ref_standsKnown_92 : decode b_Ref_standsKnown 92 = .ok (.iinc 1 1, 3) := by decide +kernel
theorem d_Ref_standsKnown_95 : decode b_Ref_standsKnown 95 = .ok (.goto (-49), 3) := by decide +kernel
theorem d_Ref_standsKnown_98 : decode b_Ref_standsKnown 98 = .ok (.aload_n 0, 1) := by decide +kernel
theorem d_Ref_standsKnown_99 : decode b_Ref_standsKnown 99 = .ok (.invokevirtual 304, 3) := by decide +kernel
theorem d_Ref_standsKnown_102 : decode b_Ref_standsKnown 102 = .ok (.pop, 1) := by decide +kernel
theorem d_Ref_standsKnown_103 : decode b_Ref_standsKnown 103 = .ok (.iconst 0, 1) := by decide +kernel
theorem d_Ref_standsKnown_104 : decode b_Ref_standsKnown 104 = .ok (.istore_n 1, 1) := by decide +kernel
theorem d_Ref_standsKnown_105 : decode b_Ref_standsKnown 105 = .ok (.iload_n 1, 1) := by decide +kernel
theorem d_Ref_standsKnown_106 : decode b_Ref_standsKnown 106 = .ok (.aload_n 0, 1) := by decide +kernel
theorem d_Ref_standsKnown_107 : decode b_Ref_standsKnown 107 = .ok (.getfield 284, 3) := by decide +kernel
theorem d_Ref_standsKnown_110 : decode b_Ref_standsKnown 110 = .ok (.if_icmp .ge 55, 3) := by decide +kernel
theorem d_Ref_standsKnown_113 : decode b_Ref_standsKnown 113 = .ok (.iconst 0, 1) := by decide +kernel
theorem d_Ref_standsKnown_114 : decode b_Ref_standsKnown 114 = .ok (.istore_n 2, 1) := by decide +kernel
theorem d_Ref_standsKnown_115 : decode b_Ref_standsKnown 115 = .ok (.iload_n 2, 1) := by decide +kernel
theorem d_Ref_standsKnown_116 : decode b_Ref_standsKnown 116 = .ok (.aload_n 0, 1) := by decide +kernel
theorem d_Ref_standsKnown_117 : decode b_Ref_standsKnown 117 = .ok (.getfield 284, 3) := by decide +kernel
theorem d_Ref_standsKnown_120 : decode b_Ref_standsKnown 120 = .ok (.if_icmp .ge 39, 3) := by decide +kernel
theorem d_Ref_standsKnown_123 : decode b_Ref_standsKnown 123 = .ok (.aload_n 0, 1) := by decide +kernel
theorem d_Ref_standsKnown_124 : decode b_Ref_standsKnown 124 = .ok (.getfield 126, 3) := by decide +kernel
theorem d_Ref_standsKnown_127 : decode b_Ref_standsKnown 127 = .ok (.iload_n 1, 1) := by decide +kernel
theorem d_Ref_standsKnown_128 : decode b_Ref_standsKnown 128 = .ok (.iaload, 1) := by decide +kernel
theorem d_Ref_standsKnown_129 : decode b_Ref_standsKnown 129 = .ok (.iload_n 2, 1) := by decide +kernel
theorem d_Ref_standsKnown_130 : decode b_Ref_standsKnown 130 = .ok (.ishr, 1) := by decide +kernel
theorem d_Ref_standsKnown_131 : decode b_Ref_standsKnown 131 = .ok (.iconst 1, 1) := by decide +kernel
theorem d_Ref_standsKnown_132 : decode b_Ref_standsKnown 132 = .ok (.iand, 1) := by decide +kernel
theorem d_Ref_standsKnown_133 : decode b_Ref_standsKnown 133 = .ok (.iconst 1, 1) := by decide +kernel
theorem d_Ref_standsKnown_134 : decode b_Ref_standsKnown 134 = .ok (.if_icmp .ne 19, 3) := by decide +kernel
theorem d_Ref_standsKnown_137 : decode b_Ref_standsKnown 137 = .ok (.aload_n 0, 1) := by decide +kernel
theorem d_Ref_standsKnown_138 : decode b_Ref_standsKnown 138 = .ok (.getfield 123, 3) := by decide +kernel
theorem d_Ref_standsKnown_141 : decode b_Ref_standsKnown 141 = .ok (.iload_n 2, 1) := by decide +kernel
theorem d_Ref_standsKnown_142 : decode b_Ref_standsKnown 142 = .ok (.iaload, 1) := by decide +kernel
theorem d_Ref_standsKnown_143 : decode b_Ref_standsKnown 143 = .ok (.iload_n 1, 1) := by decide +kernel
theorem d_Ref_standsKnown_144 : decode b_Ref_standsKnown 144 = .ok (.ishr, 1) := by decide +kernel
theorem d_Ref_standsKnown_145 : decode b_Ref_standsKnown 145 = .ok (.iconst 1, 1) := by decide +kernel
theorem d_Ref_standsKnown_146 : decode b_Ref_standsKnown 146 = .ok (.iand, 1) := by decide +kernel
theorem d_Ref_standsKnown_147 : decode b_Ref_standsKnown 147 = .ok (.iconst 1, 1) := by decide +kernel
theorem d_Ref_standsKnown_148 : decode b_Ref_standsKnown 148 = .ok (.if_icmp .ne 5, 3) := by decide +kernel
theorem d_Ref_standsKnown_151 : decode b_Ref_standsKnown 151 = .ok (.iconst 0, 1) := by decide +kernel
theorem d_Ref_standsKnown_152 : decode b_Ref_standsKnown 152 = .ok (.ireturn, 1) := by decide +kernel
theorem d_Ref_standsKnown_153 : decode b_Ref_standsKnown 153 = .ok (.iinc 2 1, 3) := by decide +kernel
theorem d_Ref_standsKnown_156 : decode b_Ref_standsKnown 156 = .ok (.goto (-41), 3) := by decide +kernel
theorem d_Ref_standsKnown_159 : decode b_Ref_standsKnown 159 = .ok (.iinc 1 1, 3) := by decide +kernel
theorem d_Ref_standsKnown_162 : decode b_Ref_standsKnown 162 = .ok (.goto (-57), 3) := by decide +kernel
theorem d_Ref_standsKnown_165 : decode b_Ref_standsKnown 165 = .ok (.iconst 1, 1) := by decide +kernel
theorem d_Ref_standsKnown_166 : decode b_Ref_standsKnown 166 = .ok (.ireturn, 1) := by decide +kernel
theorem d_Ref_isModel_0 : decode b_Ref_isModel 0 = .ok (.iload_n 0, 1) := by decide +kernel
theorem d_Ref_isModel_1 : decode b_Ref_isModel 1 = .ok (.ifCond .lt 12, 3) := by decide +kernel
theorem d_Ref_isModel_4 : decode b_Ref_isModel 4 = .ok (.iload_n 0, 1) := by decide +kernel
theorem d_Ref_isModel_5 : decode b_Ref_isModel 5 = .ok (.iconst 3, 1) := by decide +kernel
theorem d_Ref_isModel_6 : decode b_Ref_isModel 6 = .ok (.if_icmp .gt 7, 3) := by decide +kernel
theorem d_Ref_isModel_9 : decode b_Ref_isModel 9 = .ok (.iconst 1, 1) := by decide +kernel
theorem d_Ref_isModel_10 : decode b_Ref_isModel 10 = .ok (.goto 4, 3) := by decide +kernel
theorem d_Ref_isModel_13 : decode b_Ref_isModel 13 = .ok (.iconst 0, 1) := by decide +kernel
theorem d_Ref_isModel_14 : decode b_Ref_isModel 14 = .ok (.ireturn, 1) := by decide +kernel
theorem d_Ref_runs_0 : decode b_Ref_runs 0 = .ok (.iload_n 1, 1) := by decide +kernel
theorem d_Ref_runs_1 : decode b_Ref_runs 1 = .ok (.invokestatic 316, 3) := by decide +kernel
theorem d_Ref_runs_4 : decode b_Ref_runs 4 = .ok (.ifCond .ne 5, 3) := by decide +kernel
theorem d_Ref_runs_7 : decode b_Ref_runs 7 = .ok (.iconst (-1), 1) := by decide +kernel
theorem d_Ref_runs_8 : decode b_Ref_runs 8 = .ok (.ireturn, 1) := by decide +kernel
theorem d_Ref_runs_9 : decode b_Ref_runs 9 = .ok (.aload_n 0, 1) := by decide +kernel
theorem d_Ref_runs_10 : decode b_Ref_runs 10 = .ok (.iload_n 1, 1) := by decide +kernel
theorem d_Ref_runs_11 : decode b_Ref_runs 11 = .ok (.invokevirtual 319, 3) := by decide +kernel
theorem d_Ref_runs_14 : decode b_Ref_runs 14 = .ok (.aload_n 0, 1) := by decide +kernel
theorem d_Ref_runs_15 : decode b_Ref_runs 15 = .ok (.getfield 29, 3) := by decide +kernel
theorem d_Ref_runs_18 : decode b_Ref_runs 18 = .ok (.iload_n 1, 1) := by decide +kernel
theorem d_Ref_runs_19 : decode b_Ref_runs 19 = .ok (.iaload, 1) := by decide +kernel
theorem d_Ref_runs_20 : decode b_Ref_runs 20 = .ok (.ireturn, 1) := by decide +kernel
theorem d_Ref_told_0 : decode b_Ref_told 0 = .ok (.iload_n 2, 1) := by decide +kernel
theorem d_Ref_told_1 : decode b_Ref_told 1 = .ok (.ifCond .lt 27, 3) := by decide +kernel
theorem d_Ref_told_4 : decode b_Ref_told 4 = .ok (.iload_n 2, 1) := by decide +kernel
theorem d_Ref_told_5 : decode b_Ref_told 5 = .ok (.aload_n 0, 1) := by decide +kernel
theorem d_Ref_told_6 : decode b_Ref_told 6 = .ok (.getfield 29, 3) := by decide +kernel
theorem d_Ref_told_9 : decode b_Ref_told 9 = .ok (.iload_n 1, 1) := by decide +kernel
theorem d_Ref_told_10 : decode b_Ref_told 10 = .ok (.iaload, 1) := by decide +kernel
theorem d_Ref_told_11 : decode b_Ref_told 11 = .ok (.if_icmp .ge 17, 3) := by decide +kernel
theorem d_Ref_told_14 : decode b_Ref_told 14 = .ok (.iload_n 3, 1) := by decide +kernel
theorem d_Ref_told_15 : decode b_Ref_told 15 = .ok (.ifCond .lt 13, 3) := by decide +kernel
theorem d_Ref_told_18 : decode b_Ref_told 18 = .ok (.iload_n 3, 1) := by decide +kernel
theorem d_Ref_told_19 : decode b_Ref_told 19 = .ok (.bipush 10, 2) := by decide +kernel
theorem d_Ref_told_21 : decode b_Ref_told 21 = .ok (.if_icmp .gt 7, 3) := by decide +kernel
theorem d_Ref_told_24 : decode b_Ref_told 24 = .ok (.iconst 1, 1) := by decide +kernel
theorem d_Ref_told_25 : decode b_Ref_told 25 = .ok (.goto 4, 3) := by decide +kernel
theorem d_Ref_told_28 : decode b_Ref_told 28 = .ok (.iconst 0, 1) := by decide +kernel
theorem d_Ref_told_29 : decode b_Ref_told 29 = .ok (.istore 4, 2) := by decide +kernel
theorem d_Ref_told_31 : decode b_Ref_told 31 = .ok (.iload 4, 2) := by decide +kernel
theorem d_Ref_told_33 : decode b_Ref_told 33 = .ok (.ifCond .eq 34, 3) := by decide +kernel
theorem d_Ref_told_36 : decode b_Ref_told 36 = .ok (.aload_n 0, 1) := by decide +kernel
theorem d_Ref_told_37 : decode b_Ref_told 37 = .ok (.getfield 33, 3) := by decide +kernel
theorem d_Ref_told_40 : decode b_Ref_told 40 = .ok (.bipush 11, 2) := by decide +kernel
theorem d_Ref_told_42 : decode b_Ref_told 42 = .ok (.sipush 4000, 3) := by decide +kernel
theorem d_Ref_told_45 : decode b_Ref_told 45 = .ok (.iload_n 1, 1) := by decide +kernel
theorem d_Ref_told_46 : decode b_Ref_told 46 = .ok (.imul, 1) := by decide +kernel
theorem d_Ref_told_47 : decode b_Ref_told 47 = .ok (.aload_n 0, 1) := by decide +kernel
theorem d_Ref_told_48 : decode b_Ref_told 48 = .ok (.getfield 44, 3) := by decide +kernel
theorem d_Ref_told_51 : decode b_Ref_told 51 = .ok (.sipush 4000, 3) := by decide +kernel
theorem d_Ref_told_54 : decode b_Ref_told 54 = .ok (.iload_n 1, 1) := by decide +kernel
theorem d_Ref_told_55 : decode b_Ref_told 55 = .ok (.imul, 1) := by decide +kernel
theorem d_Ref_told_56 : decode b_Ref_told 56 = .ok (.iload_n 2, 1) := by decide +kernel
theorem d_Ref_told_57 : decode b_Ref_told 57 = .ok (.iadd, 1) := by decide +kernel
theorem d_Ref_told_58 : decode b_Ref_told 58 = .ok (.iaload, 1) := by decide +kernel
theorem d_Ref_told_59 : decode b_Ref_told 59 = .ok (.iadd, 1) := by decide +kernel
theorem d_Ref_told_60 : decode b_Ref_told 60 = .ok (.imul, 1) := by decide +kernel
theorem d_Ref_told_61 : decode b_Ref_told 61 = .ok (.iload_n 3, 1) := by decide +kernel
theorem d_Ref_told_62 : decode b_Ref_told 62 = .ok (.iadd, 1) := by decide +kernel
theorem d_Ref_told_63 : decode b_Ref_told 63 = .ok (.saload, 1) := by decide +kernel
theorem d_Ref_told_64 : decode b_Ref_told 64 = .ok (.goto 6, 3) := by decide +kernel
theorem d_Ref_told_67 : decode b_Ref_told 67 = .ok (.sipush (-1000), 3) := by decide +kernel
theorem d_Ref_told_70 : decode b_Ref_told 70 = .ok (.ireturn, 1) := by decide +kernel
theorem d_Ref_outcome_0 : decode b_Ref_outcome 0 = .ok (.iload_n 1, 1) := by decide +kernel
theorem d_Ref_outcome_1 : decode b_Ref_outcome 1 = .ok (.invokestatic 316, 3) := by decide +kernel
theorem d_Ref_outcome_4 : decode b_Ref_outcome 4 = .ok (.ifCond .ne 7, 3) := by decide +kernel
theorem d_Ref_outcome_7 : decode b_Ref_outcome 7 = .ok (.sipush (-1000), 3) := by decide +kernel
theorem d_Ref_outcome_10 : decode b_Ref_outcome 10 = .ok (.ireturn, 1) := by decide +kernel
theorem d_Ref_outcome_11 : decode b_Ref_outcome 11 = .ok (.aload_n 0, 1) := by decide +kernel
theorem d_Ref_outcome_12 : decode b_Ref_outcome 12 = .ok (.iload_n 1, 1) := by decide +kernel
theorem d_Ref_outcome_13 : decode b_Ref_outcome 13 = .ok (.invokevirtual 319, 3) := by decide +kernel
theorem d_Ref_outcome_16 : decode b_Ref_outcome 16 = .ok (.aload_n 0, 1) := by decide +kernel
theorem d_Ref_outcome_17 : decode b_Ref_outcome 17 = .ok (.iload_n 1, 1) := by decide +kernel
theorem d_Ref_outcome_18 : decode b_Ref_outcome 18 = .ok (.iload_n 2, 1) := by decide +kernel
theorem d_Ref_outcome_19 : decode b_Ref_outcome 19 = .ok (.iload_n 3, 1) := by decide +kernel
theorem d_Ref_outcome_20 : decode b_Ref_outcome 20 = .ok (.invokevirtual 322, 3) := by decide +kernel
theorem d_Ref_outcome_23 : decode b_Ref_outcome 23 = .ok (.ireturn, 1) := by decide +kernel
theorem d_Ref_witness_0 : decode b_Ref_witness 0 = .ok (.iload_n 1, 1) := by decide +kernel
theorem d_Ref_witness_1 : decode b_Ref_witness 1 = .ok (.invokestatic 316, 3) := by decide +kernel
theorem d_Ref_witness_4 : decode b_Ref_witness 4 = .ok (.ifCond .ne 5, 3) := by decide +kernel
theorem d_Ref_witness_7 : decode b_Ref_witness 7 = .ok (.iconst (-1), 1) := by decide +kernel
theorem d_Ref_witness_8 : decode b_Ref_witness 8 = .ok (.ireturn, 1) := by decide +kernel
theorem d_Ref_witness_9 : decode b_Ref_witness 9 = .ok (.aload_n 0, 1) := by decide +kernel
theorem d_Ref_witness_10 : decode b_Ref_witness 10 = .ok (.iload_n 1, 1) := by decide +kernel
theorem d_Ref_witness_11 : decode b_Ref_witness 11 = .ok (.invokevirtual 319, 3) := by decide +kernel
theorem d_Ref_witness_14 : decode b_Ref_witness 14 = .ok (.iload_n 2, 1) := by decide +kernel
theorem d_Ref_witness_15 : decode b_Ref_witness 15 = .ok (.ifCond .lt 13, 3) := by decide +kernel
theorem d_Ref_witness_18 : decode b_Ref_witness 18 = .ok (.iload_n 2, 1) := by decide +kernel
theorem d_Ref_witness_19 : decode b_Ref_witness 19 = .ok (.aload_n 0, 1) := by decide +kernel
theorem d_Ref_witness_20 : decode b_Ref_witness 20 = .ok (.getfield 29, 3) := by decide +kernel
theorem d_Ref_witness_23 : decode b_Ref_witness 23 = .ok (.iload_n 1, 1) := by decide +kernel
theorem d_Ref_witness_24 : decode b_Ref_witness 24 = .ok (.iaload, 1) := by decide +kernel
theorem d_Ref_witness_25 : decode b_Ref_witness 25 = .ok (.if_icmp .lt 5, 3) := by decide +kernel
theorem d_Ref_witness_28 : decode b_Ref_witness 28 = .ok (.iconst (-1), 1) := by decide +kernel
theorem d_Ref_witness_29 : decode b_Ref_witness 29 = .ok (.ireturn, 1) := by decide +kernel
theorem d_Ref_witness_30 : decode b_Ref_witness 30 = .ok (.sipush 4000, 3) := by decide +kernel
theorem d_Ref_witness_33 : decode b_Ref_witness 33 = .ok (.iload_n 1, 1) := by decide +kernel
theorem d_Ref_witness_34 : decode b_Ref_witness 34 = .ok (.imul, 1) := by decide +kernel
theorem d_Ref_witness_35 : decode b_Ref_witness 35 = .ok (.aload_n 0, 1) := by decide +kernel
theorem d_Ref_witness_36 : decode b_Ref_witness 36 = .ok (.getfield 44, 3) := by decide +kernel
theorem d_Ref_witness_39 : decode b_Ref_witness 39 = .ok (.sipush 4000, 3) := by decide +kernel
theorem d_Ref_witness_42 : decode b_Ref_witness 42 = .ok (.iload_n 1, 1) := by decide +kernel
theorem d_Ref_witness_43 : decode b_Ref_witness 43 = .ok (.imul, 1) := by decide +kernel
theorem d_Ref_witness_44 : decode b_Ref_witness 44 = .ok (.iload_n 2, 1) := by decide +kernel
theorem d_Ref_witness_45 : decode b_Ref_witness 45 = .ok (.iadd, 1) := by decide +kernel
theorem d_Ref_witness_46 : decode b_Ref_witness 46 = .ok (.iaload, 1) := by decide +kernel
theorem d_Ref_witness_47 : decode b_Ref_witness 47 = .ok (.iadd, 1) := by decide +kernel
theorem d_Ref_witness_48 : decode b_Ref_witness 48 = .ok (.istore 4, 2) := by decide +kernel
theorem d_Ref_witness_50 : decode b_Ref_witness 50 = .ok (.iload_n 3, 1) := by decide +kernel
theorem d_Ref_witness_51 : decode b_Ref_witness 51 = .ok (.ifCond .lt 29, 3) := by decide +kernel
theorem d_Ref_witness_54 : decode b_Ref_witness 54 = .ok (.iload_n 3, 1) := by decide +kernel
theorem d_Ref_witness_55 : decode b_Ref_witness 55 = .ok (.aload_n 0, 1) := by decide +kernel
theorem d_Ref_witness_56 : decode b_Ref_witness 56 = .ok (.getfield 41, 3) := by decide +kernel
theorem d_Ref_witness_59 : decode b_Ref_witness 59 = .ok (.iload 4, 2) := by decide +kernel
theorem d_Ref_witness_61 : decode b_Ref_witness 61 = .ok (.iaload, 1) := by decide +kernel
theorem d_Ref_witness_62 : decode b_Ref_witness 62 = .ok (.if_icmp .ge 18, 3) := by decide +kernel
theorem d_Ref_witness_65 : decode b_Ref_witness 65 = .ok (.aload_n 0, 1) := by decide +kernel
theorem d_Ref_witness_66 : decode b_Ref_witness 66 = .ok (.getfield 38, 3) := by decide +kernel
theorem d_Ref_witness_69 : decode b_Ref_witness 69 = .ok (.bipush 16, 2) := by decide +kernel
theorem d_Ref_witness_71 : decode b_Ref_witness 71 = .ok (.iload 4, 2) := by decide +kernel
theorem d_Ref_witness_73 : decode b_Ref_witness 73 = .ok (.imul, 1) := by decide +kernel
theorem d_Ref_witness_74 : decode b_Ref_witness 74 = .ok (.iload_n 3, 1) := by decide +kernel
theorem d_Ref_witness_75 : decode b_Ref_witness 75 = .ok (.iadd, 1) := by decide +kernel
theorem d_Ref_witness_76 : decode b_Ref_witness 76 = .ok (.saload, 1) := by decide +kernel
theorem d_Ref_witness_77 : decode b_Ref_witness 77 = .ok (.goto 4, 3) := by decide +kernel
theorem d_Ref_witness_80 : decode b_Ref_witness 80 = .ok (.iconst (-1), 1) := by decide +kernel
theorem d_Ref_witness_81 : decode b_Ref_witness 81 = .ok (.ireturn, 1) := by decide +kernel
theorem d_Ref_orders_0 : decode b_Ref_orders 0 = .ok (.iload_n 1, 1) := by decide +kernel
theorem d_Ref_orders_1 : decode b_Ref_orders 1 = .ok (.invokestatic 316, 3) := by decide +kernel
theorem d_Ref_orders_4 : decode b_Ref_orders 4 = .ok (.ifCond .ne 5, 3) := by decide +kernel
theorem d_Ref_orders_7 : decode b_Ref_orders 7 = .ok (.iconst (-1), 1) := by decide +kernel
theorem d_Ref_orders_8 : decode b_Ref_orders 8 = .ok (.ireturn, 1) := by decide +kernel
theorem d_Ref_orders_9 : decode b_Ref_orders 9 = .ok (.aload_n 0, 1) := by decide +kernel
theorem d_Ref_orders_10 : decode b_Ref_orders 10 = .ok (.iload_n 1, 1) := by decide +kernel
theorem d_Ref_orders_11 : decode b_Ref_orders 11 = .ok (.invokevirtual 326, 3) := by decide +kernel
theorem d_Ref_orders_14 : decode b_Ref_orders 14 = .ok (.aload_n 0, 1) := by decide +kernel
theorem d_Ref_orders_15 : decode b_Ref_orders 15 = .ok (.getfield 29, 3) := by decide +kernel
theorem d_Ref_orders_18 : decode b_Ref_orders 18 = .ok (.iconst 4, 1) := by decide +kernel
theorem d_Ref_orders_19 : decode b_Ref_orders 19 = .ok (.iload_n 1, 1) := by decide +kernel
theorem d_Ref_orders_20 : decode b_Ref_orders 20 = .ok (.iadd, 1) := by decide +kernel
theorem d_Ref_orders_21 : decode b_Ref_orders 21 = .ok (.iaload, 1) := by decide +kernel
theorem d_Ref_orders_22 : decode b_Ref_orders 22 = .ok (.ireturn, 1) := by decide +kernel
theorem d_Ref_ordered_0 : decode b_Ref_ordered 0 = .ok (.iload_n 1, 1) := by decide +kernel
theorem d_Ref_ordered_1 : decode b_Ref_ordered 1 = .ok (.invokestatic 316, 3) := by decide +kernel
theorem d_Ref_ordered_4 : decode b_Ref_ordered 4 = .ok (.ifCond .ne 7, 3) := by decide +kernel
theorem d_Ref_ordered_7 : decode b_Ref_ordered 7 = .ok (.sipush (-1000), 3) := by decide +kernel
theorem d_Ref_ordered_10 : decode b_Ref_ordered 10 = .ok (.ireturn, 1) := by decide +kernel
theorem d_Ref_ordered_11 : decode b_Ref_ordered 11 = .ok (.aload_n 0, 1) := by decide +kernel
theorem d_Ref_ordered_12 : decode b_Ref_ordered 12 = .ok (.iload_n 1, 1) := by decide +kernel
theorem d_Ref_ordered_13 : decode b_Ref_ordered 13 = .ok (.invokevirtual 326, 3) := by decide +kernel
theorem d_Ref_ordered_16 : decode b_Ref_ordered 16 = .ok (.aload_n 0, 1) := by decide +kernel
theorem d_Ref_ordered_17 : decode b_Ref_ordered 17 = .ok (.iconst 4, 1) := by decide +kernel
theorem d_Ref_ordered_18 : decode b_Ref_ordered 18 = .ok (.iload_n 1, 1) := by decide +kernel
theorem d_Ref_ordered_19 : decode b_Ref_ordered 19 = .ok (.iadd, 1) := by decide +kernel
theorem d_Ref_ordered_20 : decode b_Ref_ordered 20 = .ok (.iload_n 2, 1) := by decide +kernel
theorem d_Ref_ordered_21 : decode b_Ref_ordered 21 = .ok (.iload_n 3, 1) := by decide +kernel
theorem d_Ref_ordered_22 : decode b_Ref_ordered 22 = .ok (.invokevirtual 322, 3) := by decide +kernel
theorem d_Ref_ordered_25 : decode b_Ref_ordered 25 = .ok (.ireturn, 1) := by decide +kernel
theorem d_Ref_graphs_0 : decode b_Ref_graphs 0 = .ok (.iload_n 1, 1) := by decide +kernel
theorem d_Ref_graphs_1 : decode b_Ref_graphs 1 = .ok (.invokestatic 316, 3) := by decide +kernel
theorem d_Ref_graphs_4 : decode b_Ref_graphs 4 = .ok (.ifCond .ne 5, 3) := by decide +kernel
theorem d_Ref_graphs_7 : decode b_Ref_graphs 7 = .ok (.iconst (-1), 1) := by decide +kernel
theorem d_Ref_graphs_8 : decode b_Ref_graphs 8 = .ok (.ireturn, 1) := by decide +kernel
theorem d_Ref_graphs_9 : decode b_Ref_graphs 9 = .ok (.aload_n 0, 1) := by decide +kernel
theorem d_Ref_graphs_10 : decode b_Ref_graphs 10 = .ok (.iload_n 1, 1) := by decide +kernel
theorem d_Ref_graphs_11 : decode b_Ref_graphs 11 = .ok (.invokevirtual 326, 3) := by decide +kernel
theorem d_Ref_graphs_14 : decode b_Ref_graphs 14 = .ok (.aload_n 0, 1) := by decide +kernel
theorem d_Ref_graphs_15 : decode b_Ref_graphs 15 = .ok (.getfield 47, 3) := by decide +kernel
theorem d_Ref_graphs_18 : decode b_Ref_graphs 18 = .ok (.iload_n 1, 1) := by decide +kernel
theorem d_Ref_graphs_19 : decode b_Ref_graphs 19 = .ok (.iaload, 1) := by decide +kernel
theorem d_Ref_graphs_20 : decode b_Ref_graphs 20 = .ok (.ireturn, 1) := by decide +kernel
theorem d_Ref_beyond_0 : decode b_Ref_beyond 0 = .ok (.iload_n 1, 1) := by decide +kernel
theorem d_Ref_beyond_1 : decode b_Ref_beyond 1 = .ok (.invokestatic 316, 3) := by decide +kernel
theorem d_Ref_beyond_4 : decode b_Ref_beyond 4 = .ok (.ifCond .eq 10, 3) := by decide +kernel
theorem d_Ref_beyond_7 : decode b_Ref_beyond 7 = .ok (.iload_n 2, 1) := by decide +kernel
theorem d_Ref_beyond_8 : decode b_Ref_beyond 8 = .ok (.invokestatic 316, 3) := by decide +kernel
theorem d_Ref_beyond_11 : decode b_Ref_beyond 11 = .ok (.ifCond .ne 5, 3) := by decide +kernel
theorem d_Ref_beyond_14 : decode b_Ref_beyond 14 = .ok (.iconst (-1), 1) := by decide +kernel
theorem d_Ref_beyond_15 : decode b_Ref_beyond 15 = .ok (.ireturn, 1) := by decide +kernel
theorem d_Ref_beyond_16 : decode b_Ref_beyond 16 = .ok (.aload_n 0, 1) := by decide +kernel
theorem d_Ref_beyond_17 : decode b_Ref_beyond 17 = .ok (.iload_n 1, 1) := by decide +kernel
theorem d_Ref_beyond_18 : decode b_Ref_beyond 18 = .ok (.invokevirtual 319, 3) := by decide +kernel
theorem d_Ref_beyond_21 : decode b_Ref_beyond 21 = .ok (.aload_n 0, 1) := by decide +kernel
theorem d_Ref_beyond_22 : decode b_Ref_beyond 22 = .ok (.iload_n 2, 1) := by decide +kernel
theorem d_Ref_beyond_23 : decode b_Ref_beyond 23 = .ok (.invokevirtual 319, 3) := by decide +kernel
theorem d_Ref_beyond_26 : decode b_Ref_beyond 26 = .ok (.iconst 0, 1) := by decide +kernel
theorem d_Ref_beyond_27 : decode b_Ref_beyond 27 = .ok (.istore_n 3, 1) := by decide +kernel
theorem d_Ref_beyond_28 : decode b_Ref_beyond 28 = .ok (.iconst 0, 1) := by decide +kernel
theorem d_Ref_beyond_29 : decode b_Ref_beyond 29 = .ok (.istore 4, 2) := by decide +kernel
theorem d_Ref_beyond_31 : decode b_Ref_beyond 31 = .ok (.iload 4, 2) := by decide +kernel
theorem d_Ref_beyond_33 : decode b_Ref_beyond 33 = .ok (.aload_n 0, 1) := by decide +kernel
theorem d_Ref_beyond_34 : decode b_Ref_beyond 34 = .ok (.getfield 29, 3) := by decide +kernel
theorem d_Ref_beyond_37 : decode b_Ref_beyond 37 = .ok (.iload_n 1, 1) := by decide +kernel
theorem d_Ref_beyond_38 : decode b_Ref_beyond 38 = .ok (.iaload, 1) := by decide +kernel
theorem d_Ref_beyond_39 : decode b_Ref_beyond 39 = .ok (.if_icmp .ge 156, 3) := by decide +kernel
theorem d_Ref_beyond_42 : decode b_Ref_beyond 42 = .ok (.iconst 0, 1) := by decide +kernel
theorem d_Ref_beyond_43 : decode b_Ref_beyond 43 = .ok (.istore 5, 2) := by decide +kernel
theorem d_Ref_beyond_45 : decode b_Ref_beyond 45 = .ok (.iload 5, 2) := by decide +kernel
theorem d_Ref_beyond_47 : decode b_Ref_beyond 47 = .ok (.bipush 11, 2) := by decide +kernel
theorem d_Ref_beyond_49 : decode b_Ref_beyond 49 = .ok (.if_icmp .ge 35, 3) := by decide +kernel
theorem d_Ref_beyond_52 : decode b_Ref_beyond 52 = .ok (.aload_n 0, 1) := by decide +kernel
theorem d_Ref_beyond_53 : decode b_Ref_beyond 53 = .ok (.getfield 78, 3) := by decide +kernel
theorem d_Ref_beyond_56 : decode b_Ref_beyond 56 = .ok (.iload 5, 2) := by decide +kernel
theorem d_Ref_beyond_58 : decode b_Ref_beyond 58 = .ok (.aload_n 0, 1) := by decide +kernel
theorem d_Ref_beyond_59 : decode b_Ref_beyond 59 = .ok (.getfield 33, 3) := by decide +kernel
theorem d_Ref_beyond_62 : decode b_Ref_beyond 62 = .ok (.bipush 11, 2) := by decide +kernel
theorem d_Ref_beyond_64 : decode b_Ref_beyond 64 = .ok (.sipush 4000, 3) := by decide +kernel
theorem d_Ref_beyond_67 : decode b_Ref_beyond 67 = .ok (.iload_n 1, 1) := by decide +kernel
theorem d_Ref_beyond_68 : decode b_Ref_beyond 68 = .ok (.imul, 1) := by decide +kernel
theorem d_Ref_beyond_69 : decode b_Ref_beyond 69 = .ok (.iload 4, 2) := by decide +kernel
theorem d_Ref_beyond_71 : decode b_Ref_beyond 71 = .ok (.iadd, 1) := by decide +kernel
theorem d_Ref_beyond_72 : decode b_Ref_beyond 72 = .ok (.imul, 1) := by decide +kernel
theorem d_Ref_beyond_73 : decode b_Ref_beyond 73 = .ok (.iload 5, 2) := by decide +kernel
theorem d_Ref_beyond_75 : decode b_Ref_beyond 75 = .ok (.iadd, 1) := by decide +kernel
theorem d_Ref_beyond_76 : decode b_Ref_beyond 76 = .ok (.saload, 1) := by decide +kernel
theorem d_Ref_beyond_77 : decode b_Ref_beyond 77 = .ok (.iastore, 1) := by decide +kernel
theorem d_Ref_beyond_78 : decode b_Ref_beyond 78 = .ok (.iinc 5 1, 3) := by decide +kernel
theorem d_Ref_beyond_81 : decode b_Ref_beyond 81 = .ok (.goto (-36), 3) := by decide +kernel
theorem d_Ref_beyond_84 : decode b_Ref_beyond 84 = .ok (.sipush 4000, 3) := by decide +kernel
theorem d_Ref_beyond_87 : decode b_Ref_beyond 87 = .ok (.iload_n 2, 1) := by decide +kernel
theorem d_Ref_beyond_88 : decode b_Ref_beyond 88 = .ok (.imul, 1) := by decide +kernel
theorem d_Ref_beyond_89 : decode b_Ref_beyond 89 = .ok (.istore 5, 2) := by decide +kernel
theorem d_Ref_beyond_91 : decode b_Ref_beyond 91 = .ok (.iconst 0, 1) := by decide +kernel
theorem d_Ref_beyond_92 : decode b_Ref_beyond 92 = .ok (.istore 6, 2) := by decide +kernel
theorem d_Ref_beyond_94 : decode b_Ref_beyond 94 = .ok (.aload_n 0, 1) := by decide +kernel
theorem d_Ref_beyond_95 : decode b_Ref_beyond 95 = .ok (.getfield 29, 3) := by decide +kernel
theorem d_Ref_beyond_98 : decode b_Ref_beyond 98 = .ok (.iload_n 2, 1) := by decide +kernel
theorem d_Ref_beyond_99 : decode b_Ref_beyond 99 = .ok (.iaload, 1) := by decide +kernel
theorem d_Ref_beyond_100 : decode b_Ref_beyond 100 = .ok (.istore 7, 2) := by decide +kernel
theorem d_Ref_beyond_102 : decode b_Ref_beyond 102 = .ok (.iload 6, 2) := by decide +kernel
theorem d_Ref_beyond_104 : decode b_Ref_beyond 104 = .ok (.iload 7, 2) := by decide +kernel
theorem d_Ref_beyond_106 : decode b_Ref_beyond 106 = .ok (.if_icmp .ge 46, 3) := by decide +kernel
theorem d_Ref_beyond_109 : decode b_Ref_beyond 109 = .ok (.iload 6, 2) := by decide +kernel
theorem d_Ref_beyond_111 : decode b_Ref_beyond 111 = .ok (.iload 7, 2) := by decide +kernel
theorem d_Ref_beyond_113 : decode b_Ref_beyond 113 = .ok (.iadd, 1) := by decide +kernel
theorem d_Ref_beyond_114 : decode b_Ref_beyond 114 = .ok (.iconst 2, 1) := by decide +kernel
theorem d_Ref_beyond_115 : decode b_Ref_beyond 115 = .ok (.idiv, 1) := by decide +kernel
theorem d_Ref_beyond_116 : decode b_Ref_beyond 116 = .ok (.istore 8, 2) := by decide +kernel
theorem d_Ref_beyond_118 : decode b_Ref_beyond 118 = .ok (.aload_n 0, 1) := by decide +kernel
theorem d_Ref_beyond_119 : decode b_Ref_beyond 119 = .ok (.iload_n 2, 1) := by decide +kernel
theorem d_Ref_beyond_120 : decode b_Ref_beyond 120 = .ok (.aload_n 0, 1) := by decide +kernel
theorem d_Ref_beyond_121 : decode b_Ref_beyond 121 = .ok (.getfield 44, 3) := by decide +kernel
theorem d_Ref_beyond_124 : decode b_Ref_beyond 124 = .ok (.iload 5, 2) := by decide +kernel
theorem d_Ref_beyond_126 : decode b_Ref_beyond 126 = .ok (.iload 8, 2) := by decide +kernel
theorem d_Ref_beyond_128 : decode b_Ref_beyond 128 = .ok (.iadd, 1) := by decide +kernel
theorem d_Ref_beyond_129 : decode b_Ref_beyond 129 = .ok (.iaload, 1) := by decide +kernel
theorem d_Ref_beyond_130 : decode b_Ref_beyond 130 = .ok (.invokevirtual 235, 3) := by decide +kernel
theorem d_Ref_beyond_133 : decode b_Ref_beyond 133 = .ok (.ifCond .le 12, 3) := by decide +kernel
theorem d_Ref_beyond_136 : decode b_Ref_beyond 136 = .ok (.iload 8, 2) := by decide +kernel
theorem d_Ref_beyond_138 : decode b_Ref_beyond 138 = .ok (.iconst 1, 1) := by decide +kernel
theorem d_Ref_beyond_139 : decode b_Ref_beyond 139 = .ok (.iadd, 1) := by decide +kernel
theorem d_Ref_beyond_140 : decode b_Ref_beyond 140 = .ok (.istore 6, 2) := by decide +kernel
theorem d_Ref_beyond_142 : decode b_Ref_beyond 142 = .ok (.goto 7, 3) := by decide +kernel
theorem d_Ref_beyond_145 : decode b_Ref_beyond 145 = .ok (.iload 8, 2) := by decide +kernel
theorem d_Ref_beyond_147 : decode b_Ref_beyond 147 = .ok (.istore 7, 2) := by decide +kernel
theorem d_Ref_beyond_149 : decode b_Ref_beyond 149 = .ok (.goto (-47), 3) := by decide +kernel
theorem d_Ref_beyond_152 : decode b_Ref_beyond 152 = .ok (.iload_n 3, 1) := by decide +kernel
theorem d_Ref_beyond_153 : decode b_Ref_beyond 153 = .ok (.iload 6, 2) := by decide +kernel
theorem d_Ref_beyond_155 : decode b_Ref_beyond 155 = .ok (.aload_n 0, 1) := by decide +kernel
theorem d_Ref_beyond_156 : decode b_Ref_beyond 156 = .ok (.getfield 29, 3) := by decide +kernel
theorem d_Ref_beyond_159 : decode b_Ref_beyond 159 = .ok (.iload_n 2, 1) := by decide +kernel
theorem d_Ref_beyond_160 : decode b_Ref_beyond 160 = .ok (.iaload, 1) := by decide +kernel
theorem d_Ref_beyond_161 : decode b_Ref_beyond 161 = .ok (.if_icmp .ge 25, 3) := by decide +kernel
theorem d_Ref_beyond_164 : decode b_Ref_beyond 164 = .ok (.aload_n 0, 1) := by decide +kernel
theorem d_Ref_beyond_165 : decode b_Ref_beyond 165 = .ok (.iload_n 2, 1) := by decide +kernel
theorem d_Ref_beyond_166 : decode b_Ref_beyond 166 = .ok (.aload_n 0, 1) := by decide +kernel
theorem d_Ref_beyond_167 : decode b_Ref_beyond 167 = .ok (.getfield 44, 3) := by decide +kernel
theorem d_Ref_beyond_170 : decode b_Ref_beyond 170 = .ok (.iload 5, 2) := by decide +kernel
theorem d_Ref_beyond_172 : decode b_Ref_beyond 172 = .ok (.iload 6, 2) := by decide +kernel
theorem d_Ref_beyond_174 : decode b_Ref_beyond 174 = .ok (.iadd, 1) := by decide +kernel
theorem d_Ref_beyond_175 : decode b_Ref_beyond 175 = .ok (.iaload, 1) := by decide +kernel
theorem d_Ref_beyond_176 : decode b_Ref_beyond 176 = .ok (.invokevirtual 235, 3) := by decide +kernel
theorem d_Ref_beyond_179 : decode b_Ref_beyond 179 = .ok (.ifCond .ne 7, 3) := by decide +kernel
theorem d_Ref_beyond_182 : decode b_Ref_beyond 182 = .ok (.iconst 0, 1) := by decide +kernel
theorem d_Ref_beyond_183 : decode b_Ref_beyond 183 = .ok (.goto 4, 3) := by decide +kernel
theorem d_Ref_beyond_186 : decode b_Ref_beyond 186 = .ok (.iconst 1, 1) := by decide +kernel
theorem d_Ref_beyond_187 : decode b_Ref_beyond 187 = .ok (.iadd, 1) := by decide +kernel
theorem d_Ref_beyond_188 : decode b_Ref_beyond 188 = .ok (.istore_n 3, 1) := by decide +kernel
theorem d_Ref_beyond_189 : decode b_Ref_beyond 189 = .ok (.iinc 4 1, 3) := by decide +kernel
theorem d_Ref_beyond_192 : decode b_Ref_beyond 192 = .ok (.goto (-161), 3) := by decide +kernel
theorem d_Ref_beyond_195 : decode b_Ref_beyond 195 = .ok (.iload_n 3, 1) := by decide +kernel
theorem d_Ref_beyond_196 : decode b_Ref_beyond 196 = .ok (.ireturn, 1) := by decide +kernel
theorem d_Ref_races_0 : decode b_Ref_races 0 = .ok (.aload_n 0, 1) := by decide +kernel
theorem d_Ref_races_1 : decode b_Ref_races 1 = .ok (.invokevirtual 329, 3) := by decide +kernel
theorem d_Ref_races_4 : decode b_Ref_races 4 = .ok (.iconst 0, 1) := by decide +kernel
theorem d_Ref_races_5 : decode b_Ref_races 5 = .ok (.istore_n 1, 1) := by decide +kernel
theorem d_Ref_races_6 : decode b_Ref_races 6 = .ok (.iconst 0, 1) := by decide +kernel
theorem d_Ref_races_7 : decode b_Ref_races 7 = .ok (.istore_n 2, 1) := by decide +kernel
theorem d_Ref_races_8 : decode b_Ref_races 8 = .ok (.iload_n 2, 1) := by decide +kernel
theorem d_Ref_races_9 : decode b_Ref_races 9 = .ok (.bipush 28, 2) := by decide +kernel
theorem d_Ref_races_11 : decode b_Ref_races 11 = .ok (.if_icmp .ge 47, 3) := by decide +kernel
theorem d_Ref_races_14 : decode b_Ref_races 14 = .ok (.iload_n 2, 1) := by decide +kernel
theorem d_Ref_races_15 : decode b_Ref_races 15 = .ok (.iconst 1, 1) := by decide +kernel
theorem d_Ref_races_16 : decode b_Ref_races 16 = .ok (.iadd, 1) := by decide +kernel
theorem d_Ref_races_17 : decode b_Ref_races 17 = .ok (.istore_n 3, 1) := by decide +kernel
theorem d_Ref_races_18 : decode b_Ref_races 18 = .ok (.iload_n 3, 1) := by decide +kernel
theorem d_Ref_races_19 : decode b_Ref_races 19 = .ok (.bipush 28, 2) := by decide +kernel
theorem d_Ref_races_21 : decode b_Ref_races 21 = .ok (.if_icmp .ge 31, 3) := by decide +kernel
theorem d_Ref_races_24 : decode b_Ref_races 24 = .ok (.iload_n 1, 1) := by decide +kernel
theorem d_Ref_races_25 : decode b_Ref_races 25 = .ok (.aload_n 0, 1) := by decide +kernel
theorem d_Ref_races_26 : decode b_Ref_races 26 = .ok (.getfield 50, 3) := by decide +kernel
theorem d_Ref_races_29 : decode b_Ref_races 29 = .ok (.bipush 28, 2) := by decide +kernel
theorem d_Ref_races_31 : decode b_Ref_races 31 = .ok (.iload_n 2, 1) := by decide +kernel
theorem d_Ref_races_32 : decode b_Ref_races 32 = .ok (.imul, 1) := by decide +kernel
theorem d_Ref_races_33 : decode b_Ref_races 33 = .ok (.iload_n 3, 1) := by decide +kernel
theorem d_Ref_races_34 : decode b_Ref_races 34 = .ok (.iadd, 1) := by decide +kernel
theorem d_Ref_races_35 : decode b_Ref_races 35 = .ok (.baload, 1) := by decide +kernel
theorem d_Ref_races_36 : decode b_Ref_races 36 = .ok (.ifCond .eq 7, 3) := by decide +kernel
theorem d_Ref_races_39 : decode b_Ref_races 39 = .ok (.iconst 1, 1) := by decide +kernel
theorem d_Ref_races_40 : decode b_Ref_races 40 = .ok (.goto 4, 3) := by decide +kernel
theorem d_Ref_races_43 : decode b_Ref_races 43 = .ok (.iconst 0, 1) := by decide +kernel
theorem d_Ref_races_44 : decode b_Ref_races 44 = .ok (.iadd, 1) := by decide +kernel
theorem d_Ref_races_45 : decode b_Ref_races 45 = .ok (.istore_n 1, 1) := by decide +kernel
theorem d_Ref_races_46 : decode b_Ref_races 46 = .ok (.iinc 3 1, 3) := by decide +kernel
theorem d_Ref_races_49 : decode b_Ref_races 49 = .ok (.goto (-31), 3) := by decide +kernel
theorem d_Ref_races_52 : decode b_Ref_races 52 = .ok (.iinc 2 1, 3) := by decide +kernel
theorem d_Ref_races_55 : decode b_Ref_races 55 = .ok (.goto (-47), 3) := by decide +kernel
theorem d_Ref_races_58 : decode b_Ref_races 58 = .ok (.iload_n 1, 1) := by decide +kernel
theorem d_Ref_races_59 : decode b_Ref_races 59 = .ok (.ireturn, 1) := by decide +kernel
theorem d_Ref_isAction_0 : decode b_Ref_isAction 0 = .ok (.iload_n 1, 1) := by decide +kernel
theorem d_Ref_isAction_1 : decode b_Ref_isAction 1 = .ok (.ifCond .lt 29, 3) := by decide +kernel
theorem d_Ref_isAction_4 : decode b_Ref_isAction 4 = .ok (.iload_n 1, 1) := by decide +kernel
theorem d_Ref_isAction_5 : decode b_Ref_isAction 5 = .ok (.aload_n 0, 1) := by decide +kernel
theorem d_Ref_isAction_6 : decode b_Ref_isAction 6 = .ok (.getfield 133, 3) := by decide +kernel
theorem d_Ref_isAction_9 : decode b_Ref_isAction 9 = .ok (.if_icmp .ge 21, 3) := by decide +kernel
theorem d_Ref_isAction_12 : decode b_Ref_isAction 12 = .ok (.iload_n 2, 1) := by decide +kernel
theorem d_Ref_isAction_13 : decode b_Ref_isAction 13 = .ok (.ifCond .lt 17, 3) := by decide +kernel
theorem d_Ref_isAction_16 : decode b_Ref_isAction 16 = .ok (.iload_n 2, 1) := by decide +kernel
theorem d_Ref_isAction_17 : decode b_Ref_isAction 17 = .ok (.aload_n 0, 1) := by decide +kernel
theorem d_Ref_isAction_18 : decode b_Ref_isAction 18 = .ok (.getfield 7, 3) := by decide +kernel
theorem d_Ref_isAction_21 : decode b_Ref_isAction 21 = .ok (.iload_n 1, 1) := by decide +kernel
theorem d_Ref_isAction_22 : decode b_Ref_isAction 22 = .ok (.iaload, 1) := by decide +kernel
theorem d_Ref_isAction_23 : decode b_Ref_isAction 23 = .ok (.if_icmp .ge 7, 3) := by decide +kernel
theorem d_Ref_isAction_26 : decode b_Ref_isAction 26 = .ok (.iconst 1, 1) := by decide +kernel
theorem d_Ref_isAction_27 : decode b_Ref_isAction 27 = .ok (.goto 4, 3) := by decide +kernel
theorem d_Ref_isAction_30 : decode b_Ref_isAction 30 = .ok (.iconst 0, 1) := by decide +kernel
theorem d_Ref_isAction_31 : decode b_Ref_isAction 31 = .ok (.ireturn, 1) := by decide +kernel
theorem d_Ref_race_0 : decode b_Ref_race 0 = .ok (.aload_n 0, 1) := by decide +kernel
theorem d_Ref_race_1 : decode b_Ref_race 1 = .ok (.iload_n 1, 1) := by decide +kernel
theorem d_Ref_race_2 : decode b_Ref_race 2 = .ok (.iload_n 2, 1) := by decide +kernel
theorem d_Ref_race_3 : decode b_Ref_race 3 = .ok (.invokevirtual 332, 3) := by decide +kernel
theorem d_Ref_race_6 : decode b_Ref_race 6 = .ok (.ifCond .eq 18, 3) := by decide +kernel
theorem d_Ref_race_9 : decode b_Ref_race 9 = .ok (.aload_n 0, 1) := by decide +kernel
theorem d_Ref_race_10 : decode b_Ref_race 10 = .ok (.iload_n 3, 1) := by decide +kernel
theorem d_Ref_race_11 : decode b_Ref_race 11 = .ok (.iload 4, 2) := by decide +kernel
theorem d_Ref_race_13 : decode b_Ref_race 13 = .ok (.invokevirtual 332, 3) := by decide +kernel
theorem d_Ref_race_16 : decode b_Ref_race 16 = .ok (.ifCond .eq 8, 3) := by decide +kernel
theorem d_Ref_race_19 : decode b_Ref_race 19 = .ok (.iload_n 1, 1) := by decide +kernel
theorem d_Ref_race_20 : decode b_Ref_race 20 = .ok (.iload_n 3, 1) := by decide +kernel
theorem d_Ref_race_21 : decode b_Ref_race 21 = .ok (.if_icmp .ne 5, 3) := by decide +kernel
theorem d_Ref_race_24 : decode b_Ref_race 24 = .ok (.iconst (-1), 1) := by decide +kernel
theorem d_Ref_race_25 : decode b_Ref_race 25 = .ok (.ireturn, 1) := by decide +kernel
theorem d_Ref_race_26 : decode b_Ref_race 26 = .ok (.aload_n 0, 1) := by decide +kernel
theorem d_Ref_race_27 : decode b_Ref_race 27 = .ok (.invokevirtual 329, 3) := by decide +kernel
theorem d_Ref_race_30 : decode b_Ref_race 30 = .ok (.aload_n 0, 1) := by decide +kernel
theorem d_Ref_race_31 : decode b_Ref_race 31 = .ok (.getfield 50, 3) := by decide +kernel
theorem d_Ref_race_34 : decode b_Ref_race 34 = .ok (.bipush 28, 2) := by decide +kernel
theorem d_Ref_race_36 : decode b_Ref_race 36 = .ok (.bipush 7, 2) := by decide +kernel
theorem d_Ref_race_38 : decode b_Ref_race 38 = .ok (.iload_n 1, 1) := by decide +kernel
theorem d_Ref_race_39 : decode b_Ref_race 39 = .ok (.imul, 1) := by decide +kernel
theorem d_Ref_race_40 : decode b_Ref_race 40 = .ok (.iload_n 2, 1) := by decide +kernel
theorem d_Ref_race_41 : decode b_Ref_race 41 = .ok (.iadd, 1) := by decide +kernel
theorem d_Ref_race_42 : decode b_Ref_race 42 = .ok (.imul, 1) := by decide +kernel
theorem d_Ref_race_43 : decode b_Ref_race 43 = .ok (.bipush 7, 2) := by decide +kernel
theorem d_Ref_race_45 : decode b_Ref_race 45 = .ok (.iload_n 3, 1) := by decide +kernel
theorem d_Ref_race_46 : decode b_Ref_race 46 = .ok (.imul, 1) := by decide +kernel
theorem d_Ref_race_47 : decode b_Ref_race 47 = .ok (.iadd, 1) := by decide +kernel
theorem d_Ref_race_48 : decode b_Ref_race 48 = .ok (.iload 4, 2) := by decide +kernel
theorem d_Ref_race_50 : decode b_Ref_race 50 = .ok (.iadd, 1) := by decide +kernel
theorem d_Ref_race_51 : decode b_Ref_race 51 = .ok (.baload, 1) := by decide +kernel
theorem d_Ref_race_52 : decode b_Ref_race 52 = .ok (.ifCond .eq 7, 3) := by decide +kernel
theorem d_Ref_race_55 : decode b_Ref_race 55 = .ok (.iconst 1, 1) := by decide +kernel
theorem d_Ref_race_56 : decode b_Ref_race 56 = .ok (.goto 4, 3) := by decide +kernel
theorem d_Ref_race_59 : decode b_Ref_race 59 = .ok (.iconst 0, 1) := by decide +kernel
theorem d_Ref_race_60 : decode b_Ref_race 60 = .ok (.ireturn, 1) := by decide +kernel
theorem d_BufferWalk_init_0 : decode b_BufferWalk_init 0 = .ok (.aload_n 0, 1) := by decide +kernel
theorem d_BufferWalk_init_1 : decode b_BufferWalk_init 1 = .ok (.invokespecial 3, 3) := by decide +kernel
theorem d_BufferWalk_init_4 : decode b_BufferWalk_init 4 = .ok (.aload_n 0, 1) := by decide +kernel
theorem d_BufferWalk_init_5 : decode b_BufferWalk_init 5 = .ok (.bipush 14, 2) := by decide +kernel
theorem d_BufferWalk_init_7 : decode b_BufferWalk_init 7 = .ok (.newarray .int, 2) := by decide +kernel
theorem d_BufferWalk_init_9 : decode b_BufferWalk_init 9 = .ok (.putfield 9, 3) := by decide +kernel
theorem d_BufferWalk_init_12 : decode b_BufferWalk_init 12 = .ok (.aload_n 0, 1) := by decide +kernel
theorem d_BufferWalk_init_13 : decode b_BufferWalk_init 13 = .ok (.bipush 7, 2) := by decide +kernel
theorem d_BufferWalk_init_15 : decode b_BufferWalk_init 15 = .ok (.newarray .int, 2) := by decide +kernel
theorem d_BufferWalk_init_17 : decode b_BufferWalk_init 17 = .ok (.putfield 15, 3) := by decide +kernel
theorem d_BufferWalk_init_20 : decode b_BufferWalk_init 20 = .ok (.aload_n 0, 1) := by decide +kernel
theorem d_BufferWalk_init_21 : decode b_BufferWalk_init 21 = .ok (.aload_n 1, 1) := by decide +kernel
theorem d_BufferWalk_init_22 : decode b_BufferWalk_init 22 = .ok (.putfield 18, 3) := by decide +kernel
theorem d_BufferWalk_init_25 : decode b_BufferWalk_init 25 = .ok (.aload_n 0, 1) := by decide +kernel
theorem d_BufferWalk_init_26 : decode b_BufferWalk_init 26 = .ok (.aload_n 2, 1) := by decide +kernel
theorem d_BufferWalk_init_27 : decode b_BufferWalk_init 27 = .ok (.putfield 22, 3) := by decide +kernel
theorem d_BufferWalk_init_30 : decode b_BufferWalk_init 30 = .ok (.aload_n 0, 1) := by decide +kernel
theorem d_BufferWalk_init_31 : decode b_BufferWalk_init 31 = .ok (.aload_n 3, 1) := by decide +kernel
theorem d_BufferWalk_init_32 : decode b_BufferWalk_init 32 = .ok (.putfield 26, 3) := by decide +kernel
theorem d_BufferWalk_init_35 : decode b_BufferWalk_init 35 = .ok (.return_, 1) := by decide +kernel
theorem d_BufferWalk_walk_0 : decode b_BufferWalk_walk 0 = .ok (.aload_n 0, 1) := by decide +kernel
theorem d_BufferWalk_walk_1 : decode b_BufferWalk_walk 1 = .ok (.iload_n 1, 1) := by decide +kernel
theorem d_BufferWalk_walk_2 : decode b_BufferWalk_walk 2 = .ok (.putfield 30, 3) := by decide +kernel
theorem d_BufferWalk_walk_5 : decode b_BufferWalk_walk 5 = .ok (.aload_n 0, 1) := by decide +kernel
theorem d_BufferWalk_walk_6 : decode b_BufferWalk_walk 6 = .ok (.aload_n 2, 1) := by decide +kernel
theorem d_BufferWalk_walk_7 : decode b_BufferWalk_walk 7 = .ok (.putfield 34, 3) := by decide +kernel
theorem d_BufferWalk_walk_10 : decode b_BufferWalk_walk 10 = .ok (.aload_n 0, 1) := by decide +kernel
theorem d_BufferWalk_walk_11 : decode b_BufferWalk_walk 11 = .ok (.getfield 34, 3) := by decide +kernel
theorem d_BufferWalk_walk_14 : decode b_BufferWalk_walk 14 = .ok (.invokevirtual 38, 3) := by decide +kernel
theorem d_BufferWalk_walk_17 : decode b_BufferWalk_walk 17 = .ok (.aload_n 0, 1) := by decide +kernel
theorem d_BufferWalk_walk_18 : decode b_BufferWalk_walk 18 = .ok (.getfield 26, 3) := by decide +kernel
theorem d_BufferWalk_walk_21 : decode b_BufferWalk_walk 21 = .ok (.invokevirtual 43, 3) := by decide +kernel
theorem d_BufferWalk_walk_24 : decode b_BufferWalk_walk 24 = .ok (.aload_n 0, 1) := by decide +kernel
theorem d_BufferWalk_walk_25 : decode b_BufferWalk_walk 25 = .ok (.getfield 22, 3) := by decide +kernel
theorem d_BufferWalk_walk_28 : decode b_BufferWalk_walk 28 = .ok (.invokevirtual 48, 3) := by decide +kernel
theorem d_BufferWalk_walk_31 : decode b_BufferWalk_walk 31 = .ok (.aload_n 0, 1) := by decide +kernel
theorem d_BufferWalk_walk_32 : decode b_BufferWalk_walk 32 = .ok (.iconst 0, 1) := by decide +kernel
theorem d_BufferWalk_walk_33 : decode b_BufferWalk_walk 33 = .ok (.putfield 51, 3) := by decide +kernel
theorem d_BufferWalk_walk_36 : decode b_BufferWalk_walk 36 = .ok (.aload_n 0, 1) := by decide +kernel
theorem d_BufferWalk_walk_37 : decode b_BufferWalk_walk 37 = .ok (.iconst 0, 1) := by decide +kernel
theorem d_BufferWalk_walk_38 : decode b_BufferWalk_walk 38 = .ok (.putfield 54, 3) := by decide +kernel
theorem d_BufferWalk_walk_41 : decode b_BufferWalk_walk 41 = .ok (.aload_n 0, 1) := by decide +kernel
theorem d_BufferWalk_walk_42 : decode b_BufferWalk_walk 42 = .ok (.getfield 30, 3) := by decide +kernel
theorem d_BufferWalk_walk_45 : decode b_BufferWalk_walk 45 = .ok (.ifCond .ne 11, 3) := by decide +kernel
theorem d_BufferWalk_walk_48 : decode b_BufferWalk_walk 48 = .ok (.aload_n 0, 1) := by decide +kernel
theorem d_BufferWalk_walk_49 : decode b_BufferWalk_walk 49 = .ok (.getfield 15, 3) := by decide +kernel
theorem d_BufferWalk_walk_52 : decode b_BufferWalk_walk 52 = .ok (.iconst 0, 1) := by decide +kernel
theorem d_BufferWalk_walk_53 : decode b_BufferWalk_walk 53 = .ok (.invokestatic 57, 3) := by decide +kernel
theorem d_BufferWalk_walk_56 : decode b_BufferWalk_walk 56 = .ok (.aload_n 0, 1) := by decide +kernel
theorem d_BufferWalk_walk_57 : decode b_BufferWalk_walk 57 = .ok (.iconst 0, 1) := by decide +kernel
theorem d_BufferWalk_walk_58 : decode b_BufferWalk_walk 58 = .ok (.invokevirtual 63, 3) := by decide +kernel
theorem d_BufferWalk_walk_61 : decode b_BufferWalk_walk 61 = .ok (.return_, 1) := by decide +kernel
theorem d_BufferWalk_spread_0 : decode b_BufferWalk_spread 0 = .ok (.aload_n 0, 1) := by decide +kernel
theorem d_BufferWalk_spread_1 : decode b_BufferWalk_spread 1 = .ok (.getfield 22, 3) := by decide +kernel
theorem d_BufferWalk_spread_4 : decode b_BufferWalk_spread 4 = .ok (.invokevirtual 67, 3) := by decide +kernel
theorem d_BufferWalk_spread_7 : decode b_BufferWalk_spread 7 = .ok (.bipush 9, 2) := by decide +kernel
theorem d_BufferWalk_spread_9 : decode b_BufferWalk_spread 9 = .ok (.lshl, 1) := by decide +kernel
theorem d_BufferWalk_spread_10 : decode b_BufferWalk_spread 10 = .ok (.aload_n 0, 1) := by decide +kernel
theorem d_BufferWalk_spread_11 : decode b_BufferWalk_spread 11 = .ok (.getfield 51, 3) := by decide +kernel
theorem d_BufferWalk_spread_14 : decode b_BufferWalk_spread 14 = .ok (.i2l, 1) := by decide +kernel
theorem d_BufferWalk_spread_15 : decode b_BufferWalk_spread 15 = .ok (.lor, 1) := by decide +kernel
theorem d_BufferWalk_spread_16 : decode b_BufferWalk_spread 16 = .ok (.lstore_n 2, 1) := by decide +kernel
theorem d_BufferWalk_spread_17 : decode b_BufferWalk_spread 17 = .ok (.aload_n 0, 1) := by decide +kernel
theorem d_BufferWalk_spread_18 : decode b_BufferWalk_spread 18 = .ok (.getfield 26, 3) := by decide +kernel
theorem d_BufferWalk_spread_21 : decode b_BufferWalk_spread 21 = .ok (.lload_n 2, 1) := by decide +kernel
theorem d_BufferWalk_spread_22 : decode b_BufferWalk_spread 22 = .ok (.bipush 7, 2) := by decide +kernel
theorem d_BufferWalk_spread_24 : decode b_BufferWalk_spread 24 = .ok (.lshl, 1) := by decide +kernel
theorem d_BufferWalk_spread_25 : decode b_BufferWalk_spread 25 = .ok (.aload_n 0, 1) := by decide +kernel
theorem d_BufferWalk_spread_26 : decode b_BufferWalk_spread 26 = .ok (.getfield 54, 3) := by decide +kernel
theorem d_BufferWalk_spread_29 : decode b_BufferWalk_spread 29 = .ok (.i2l, 1) := by decide +kernel
theorem d_BufferWalk_spread_30 : decode b_BufferWalk_spread 30 = .ok (.lor, 1) := by decide +kernel
theorem d_BufferWalk_spread_31 : decode b_BufferWalk_spread 31 = .ok (.invokevirtual 71, 3) := by decide +kernel
theorem d_BufferWalk_spread_34 : decode b_BufferWalk_spread 34 = .ok (.ifCond .ne 4, 3) := by decide +kernel
theorem d_BufferWalk_spread_37 : decode b_BufferWalk_spread 37 = .ok (.return_, 1) := by decide +kernel
theorem d_BufferWalk_spread_38 : decode b_BufferWalk_spread 38 = .ok (.aload_n 0, 1) := by decide +kernel
theorem d_BufferWalk_spread_39 : decode b_BufferWalk_spread 39 = .ok (.getfield 30, 3) := by decide +kernel
theorem d_BufferWalk_spread_42 : decode b_BufferWalk_spread 42 = .ok (.ifCond .ne 7, 3) := by decide +kernel
theorem d_BufferWalk_spread_45 : decode b_BufferWalk_spread 45 = .ok (.aload_n 0, 1) := by decide +kernel
theorem d_BufferWalk_spread_46 : decode b_BufferWalk_spread 46 = .ok (.invokevirtual 75, 3) := by decide +kernel
theorem d_BufferWalk_spread_49 : decode b_BufferWalk_spread 49 = .ok (.iconst 1, 1) := by decide +kernel
theorem d_BufferWalk_spread_50 : decode b_BufferWalk_spread 50 = .ok (.istore 4, 2) := by decide +kernel
theorem d_BufferWalk_spread_52 : decode b_BufferWalk_spread 52 = .ok (.iconst 0, 1) := by decide +kernel
theorem d_BufferWalk_spread_53 : decode b_BufferWalk_spread 53 = .ok (.istore 5, 2) := by decide +kernel
theorem d_BufferWalk_spread_55 : decode b_BufferWalk_spread 55 = .ok (.iload 5, 2) := by decide +kernel
theorem d_BufferWalk_spread_57 : decode b_BufferWalk_spread 57 = .ok (.aload_n 0, 1) := by decide +kernel
theorem d_BufferWalk_spread_58 : decode b_BufferWalk_spread 58 = .ok (.getfield 18, 3) := by decide +kernel
theorem d_BufferWalk_spread_61 : decode b_BufferWalk_spread 61 = .ok (.getfield 78, 3) := by decide +kernel
theorem d_BufferWalk_spread_64 : decode b_BufferWalk_spread 64 = .ok (.if_icmp .ge 35, 3) := by decide +kernel
theorem d_BufferWalk_spread_67 : decode b_BufferWalk_spread 67 = .ok (.aload_n 0, 1) := by decide +kernel
theorem d_BufferWalk_spread_68 : decode b_BufferWalk_spread 68 = .ok (.iload 5, 2) := by decide +kernel
theorem d_BufferWalk_spread_70 : decode b_BufferWalk_spread 70 = .ok (.iload_n 1, 1) := by decide +kernel
theorem d_BufferWalk_spread_71 : decode b_BufferWalk_spread 71 = .ok (.invokevirtual 83, 3) := by decide +kernel
theorem d_BufferWalk_spread_74 : decode b_BufferWalk_spread 74 = .ok (.ifCond .eq 6, 3) := by decide +kernel
theorem d_BufferWalk_spread_77 : decode b_BufferWalk_spread 77 = .ok (.iconst 0, 1) := by decide +kernel
theorem d_BufferWalk_spread_78 : decode b_BufferWalk_spread 78 = .ok (.istore 4, 2) := by decide +kernel
theorem d_BufferWalk_spread_80 : decode b_BufferWalk_spread 80 = .ok (.aload_n 0, 1) := by decide +kernel
theorem d_BufferWalk_spread_81 : decode b_BufferWalk_spread 81 = .ok (.iload 5, 2) := by decide +kernel
theorem d_BufferWalk_spread_83 : decode b_BufferWalk_spread 83 = .ok (.iload_n 1, 1) := by decide +kernel
theorem d_BufferWalk_spread_84 : decode b_BufferWalk_spread 84 = .ok (.invokevirtual 87, 3) := by decide +kernel
theorem d_BufferWalk_spread_87 : decode b_BufferWalk_spread 87 = .ok (.ifCond .eq 6, 3) := by decide +kernel
theorem d_BufferWalk_spread_90 : decode b_BufferWalk_spread 90 = .ok (.iconst 0, 1) := by decide +kernel
theorem d_BufferWalk_spread_91 : decode b_BufferWalk_spread 91 = .ok (.istore 4, 2) := by decide +kernel
theorem d_BufferWalk_spread_93 : decode b_BufferWalk_spread 93 = .ok (.iinc 5 1, 3) := by decide +kernel
theorem d_BufferWalk_spread_96 : decode b_BufferWalk_spread 96 = .ok (.goto (-41), 3) := by decide +kernel
theorem d_BufferWalk_spread_99 : decode b_BufferWalk_spread 99 = .ok (.iload 4, 2) := by decide +kernel
theorem d_BufferWalk_spread_101 : decode b_BufferWalk_spread 101 = .ok (.ifCond .eq 48, 3) := by decide +kernel
theorem d_BufferWalk_spread_104 : decode b_BufferWalk_spread 104 = .ok (.aload_n 0, 1) := by decide +kernel
theorem d_BufferWalk_spread_105 : decode b_BufferWalk_spread 105 = .ok (.getfield 22, 3) := by decide +kernel
theorem d_BufferWalk_spread_108 : decode b_BufferWalk_spread 108 = .ok (.aload_n 0, 1) := by decide +kernel
theorem d_BufferWalk_spread_109 : decode b_BufferWalk_spread 109 = .ok (.iconst 0, 1) := by decide +kernel
theorem d_BufferWalk_spread_110 : decode b_BufferWalk_spread 110 = .ok (.invokevirtual 90, 3) := by decide +kernel
theorem d_BufferWalk_spread_113 : decode b_BufferWalk_spread 113 = .ok (.aload_n 0, 1) := by decide +kernel
theorem d_BufferWalk_spread_114 : decode b_BufferWalk_spread 114 = .ok (.iconst 1, 1) := by decide +kernel
theorem d_BufferWalk_spread_115 : decode b_BufferWalk_spread 115 = .ok (.invokevirtual 90, 3) := by decide +kernel
theorem d_BufferWalk_spread_118 : decode b_BufferWalk_spread 118 = .ok (.aload_n 0, 1) := by decide +kernel
theorem d_BufferWalk_spread_119 : decode b_BufferWalk_spread 119 = .ok (.iconst 2, 1) := by decide +kernel
theorem d_BufferWalk_spread_120 : decode b_BufferWalk_spread 120 = .ok (.invokevirtual 90, 3) := by decide +kernel
theorem d_BufferWalk_spread_123 : decode b_BufferWalk_spread 123 = .ok (.invokevirtual 94, 3) := by decide +kernel
theorem d_BufferWalk_spread_126 : decode b_BufferWalk_spread 126 = .ok (.istore 5, 2) := by decide +kernel
theorem d_BufferWalk_spread_128 : decode b_BufferWalk_spread 128 = .ok (.aload_n 0, 1) := by decide +kernel
theorem d_BufferWalk_spread_129 : decode b_BufferWalk_spread 129 = .ok (.getfield 34, 3) := by decide +kernel
theorem d_BufferWalk_spread_132 : decode b_BufferWalk_spread 132 = .ok (.aload_n 0, 1) := by decide +kernel
theorem d_BufferWalk_spread_133 : decode b_BufferWalk_spread 133 = .ok (.getfield 22, 3) := by decide +kernel
theorem d_BufferWalk_spread_136 : decode b_BufferWalk_spread 136 = .ok (.invokevirtual 98, 3) := by decide +kernel
theorem d_BufferWalk_spread_139 : decode b_BufferWalk_spread 139 = .ok (.iload 5, 2) := by decide +kernel
theorem d_BufferWalk_spread_141 : decode b_BufferWalk_spread 141 = .ok (.aload_n 0, 1) := by decide +kernel
theorem d_BufferWalk_spread_142 : decode b_BufferWalk_spread 142 = .ok (.getfield 9, 3) := by decide +kernel
theorem d_BufferWalk_spread_145 : decode b_BufferWalk_spread 145 = .ok (.iload_n 1, 1) := by decide +kernel
theorem d_BufferWalk_spread_146 : decode b_BufferWalk_spread 146 = .ok (.invokevirtual 101, 3) := by decide +kernel
theorem d_BufferWalk_spread_149 : decode b_BufferWalk_spread 149 = .ok (.return_, 1) := by decide +kernel
theorem d_BufferWalk_sourceIn_0 : decode b_BufferWalk_sourceIn 0 = .ok (.aload_n 0, 1) := by decide +kernel
theorem d_BufferWalk_sourceIn_1 : decode b_BufferWalk_sourceIn 1 = .ok (.getfield 51, 3) := by decide +kernel
theorem d_BufferWalk_sourceIn_4 : decode b_BufferWalk_sourceIn 4 = .ok (.iconst 3, 1) := by decide +kernel
theorem d_BufferWalk_sourceIn_5 : decode b_BufferWalk_sourceIn 5 = .ok (.iload_n 1, 1) := by decide +kernel
theorem d_BufferWalk_sourceIn_6 : decode b_BufferWalk_sourceIn 6 = .ok (.imul, 1) := by decide +kernel
theorem d_BufferWalk_sourceIn_7 : decode b_BufferWalk_sourceIn 7 = .ok (.ishr, 1) := by decide +kernel
theorem d_BufferWalk_sourceIn_8 : decode b_BufferWalk_sourceIn 8 = .ok (.bipush 7, 2) := by decide +kernel
theorem d_BufferWalk_sourceIn_10 : decode b_BufferWalk_sourceIn 10 = .ok (.iand, 1) := by decide +kernel
theorem d_BufferWalk_sourceIn_11 : decode b_BufferWalk_sourceIn 11 = .ok (.ireturn, 1) := by decide +kernel
theorem d_BufferWalk_noteRaces_0 : decode b_BufferWalk_noteRaces 0 = .ok (.iconst 0, 1) := by decide +kernel
theorem d_BufferWalk_noteRaces_1 : decode b_BufferWalk_noteRaces 1 = .ok (.istore_n 1, 1) := by decide +kernel
theorem d_BufferWalk_noteRaces_2 : decode b_BufferWalk_noteRaces 2 = .ok (.iconst 0, 1) := by decide +kernel
theorem d_BufferWalk_noteRaces_3 : decode b_BufferWalk_noteRaces 3 = .ok (.istore_n 2, 1) := by decide +kernel
theorem d_BufferWalk_noteRaces_4 : decode b_BufferWalk_noteRaces 4 = .ok (.iload_n 2, 1) := by decide +kernel
theorem d_BufferWalk_noteRaces_5 : decode b_BufferWalk_noteRaces 5 = .ok (.aload_n 0, 1) := by decide +kernel
theorem d_BufferWalk_noteRaces_6 : decode b_BufferWalk_noteRaces 6 = .ok (.getfield 18, 3) := by decide +kernel
theorem d_BufferWalk_noteRaces_9 : decode b_BufferWalk_noteRaces 9 = .ok (.getfield 78, 3) := by decide +kernel
theorem d_BufferWalk_noteRaces_12 : decode b_BufferWalk_noteRaces 12 = .ok (.if_icmp .ge 33, 3) := by decide +kernel
theorem d_BufferWalk_noteRaces_15 : decode b_BufferWalk_noteRaces 15 = .ok (.aload_n 0, 1) := by decide +kernel
theorem d_BufferWalk_noteRaces_16 : decode b_BufferWalk_noteRaces 16 = .ok (.getfield 22, 3) := by decide +kernel
theorem d_BufferWalk_noteRaces_19 : decode b_BufferWalk_noteRaces 19 = .ok (.iload_n 2, 1) := by decide +kernel
theorem d_BufferWalk_noteRaces_20 : decode b_BufferWalk_noteRaces 20 = .ok (.invokevirtual 105, 3) := by decide +kernel
theorem d_BufferWalk_noteRaces_23 : decode b_BufferWalk_noteRaces 23 = .ok (.istore_n 3, 1) := by decide +kernel
theorem d_BufferWalk_noteRaces_24 : decode b_BufferWalk_noteRaces 24 = .ok (.iload_n 1, 1) := by decide +kernel
theorem d_BufferWalk_noteRaces_25 : decode b_BufferWalk_noteRaces 25 = .ok (.iload_n 3, 1) := by decide +kernel
theorem d_BufferWalk_noteRaces_26 : decode b_BufferWalk_noteRaces 26 = .ok (.iconst (-1), 1) := by decide +kernel
theorem d_BufferWalk_noteRaces_27 : decode b_BufferWalk_noteRaces 27 = .ok (.if_icmp .ne 7, 3) := by decide +kernel
theorem d_BufferWalk_noteRaces_30 : decode b_BufferWalk_noteRaces 30 = .ok (.iconst 0, 1) := by decide +kernel
theorem d_BufferWalk_noteRaces_31 : decode b_BufferWalk_noteRaces 31 = .ok (.goto 6, 3) := by decide +kernel
theorem d_BufferWalk_noteRaces_34 : decode b_BufferWalk_noteRaces 34 = .ok (.iconst 1, 1) := by decide +kernel
theorem d_BufferWalk_noteRaces_35 : decode b_BufferWalk_noteRaces 35 = .ok (.iload_n 3, 1) := by decide +kernel
theorem d_BufferWalk_noteRaces_36 : decode b_BufferWalk_noteRaces 36 = .ok (.ishl, 1) := by decide +kernel
theorem d_BufferWalk_noteRaces_37 : decode b_BufferWalk_noteRaces 37 = .ok (.ior, 1) := by decide +kernel
theorem d_BufferWalk_noteRaces_38 : decode b_BufferWalk_noteRaces 38 = .ok (.istore_n 1, 1) := by decide +kernel
theorem d_BufferWalk_noteRaces_39 : decode b_BufferWalk_noteRaces 39 = .ok (.iinc 2 1, 3) := by decide +kernel
theorem d_BufferWalk_noteRaces_42 : decode b_BufferWalk_noteRaces 42 = .ok (.goto (-38), 3) := by decide +kernel
theorem d_BufferWalk_noteRaces_45 : decode b_BufferWalk_noteRaces 45 = .ok (.iconst 0, 1) := by decide +kernel
theorem d_BufferWalk_noteRaces_46 : decode b_BufferWalk_noteRaces 46 = .ok (.istore_n 2, 1) := by decide +kernel
theorem d_BufferWalk_noteRaces_47 : decode b_BufferWalk_noteRaces 47 = .ok (.iload_n 2, 1) := by decide +kernel
theorem d_BufferWalk_noteRaces_48 : decode b_BufferWalk_noteRaces 48 = .ok (.aload_n 0, 1) := by decide +kernel
theorem d_BufferWalk_noteRaces_49 : decode b_BufferWalk_noteRaces 49 = .ok (.getfield 18, 3) := by decide +kernel
theorem d_BufferWalk_noteRaces_52 : decode b_BufferWalk_noteRaces 52 = .ok (.getfield 161, 3) := by decide +kernel
theorem d_BufferWalk_noteRaces_55 : decode b_BufferWalk_noteRaces 55 = .ok (.if_icmp .ge 36, 3) := by decide +kernel
theorem d_BufferWalk_noteRaces_58 : decode b_BufferWalk_noteRaces 58 = .ok (.iload_n 1, 1) := by decide +kernel
theorem d_BufferWalk_noteRaces_59 : decode b_BufferWalk_noteRaces 59 = .ok (.iload_n 2, 1) := by decide +kernel
theorem d_BufferWalk_noteRaces_60 : decode b_BufferWalk_noteRaces 60 = .ok (.invokestatic 146, 3) := by decide +kernel
theorem d_BufferWalk_noteRaces_63 : decode b_BufferWalk_noteRaces 63 = .ok (.ifCond .eq 22, 3) := by decide +kernel
theorem d_BufferWalk_noteRaces_66 : decode b_BufferWalk_noteRaces 66 = .ok (.aload_n 0, 1) := by decide +kernel
theorem d_BufferWalk_noteRaces_67 : decode b_BufferWalk_noteRaces 67 = .ok (.getfield 15, 3) := by decide +kernel
theorem d_BufferWalk_noteRaces_70 : decode b_BufferWalk_noteRaces 70 = .ok (.iload_n 2, 1) := by decide +kernel
theorem d_BufferWalk_noteRaces_71 : decode b_BufferWalk_noteRaces 71 = .ok (.dup2, 1) := by decide +kernel
theorem d_BufferWalk_noteRaces_72 : decode b_BufferWalk_noteRaces 72 = .ok (.iaload, 1) := by decide +kernel
theorem d_BufferWalk_noteRaces_73 : decode b_BufferWalk_noteRaces 73 = .ok (.iload_n 1, 1) := by decide +kernel
theorem d_BufferWalk_noteRaces_74 : decode b_BufferWalk_noteRaces 74 = .ok (.aload_n 0, 1) := by decide +kernel
theorem d_BufferWalk_noteRaces_75 : decode b_BufferWalk_noteRaces 75 = .ok (.getfield 18, 3) := by decide +kernel
theorem d_BufferWalk_noteRaces_78 : decode b_BufferWalk_noteRaces 78 = .ok (.iload_n 2, 1) := by decide +kernel
theorem d_BufferWalk_noteRaces_79 : decode b_BufferWalk_noteRaces 79 = .ok (.invokevirtual 164, 3) := by decide +kernel
theorem d_BufferWalk_noteRaces_82 : decode b_BufferWalk_noteRaces 82 = .ok (.iand, 1) := by decide +kernel
theorem d_BufferWalk_noteRaces_83 : decode b_BufferWalk_noteRaces 83 = .ok (.ior, 1) := by decide +kernel
theorem d_BufferWalk_noteRaces_84 : decode b_BufferWalk_noteRaces 84 = .ok (.iastore, 1) := by decide +kernel
theorem d_BufferWalk_noteRaces_85 : decode b_BufferWalk_noteRaces 85 = .ok (.iinc 2 1, 3) := by decide +kernel
theorem d_BufferWalk_noteRaces_88 : decode b_BufferWalk_noteRaces 88 = .ok (.goto (-41), 3) := by decide +kernel
theorem d_BufferWalk_noteRaces_91 : decode b_BufferWalk_noteRaces 91 = .ok (.return_, 1) := by decide +kernel
theorem d_GraphSearch_init_0 : decode b_GraphSearch_init 0 = .ok (.aload_n 0, 1) := by decide +kernel
theorem d_GraphSearch_init_1 : decode b_GraphSearch_init 1 = .ok (.invokespecial 3, 3) := by decide +kernel
theorem d_GraphSearch_init_4 : decode b_GraphSearch_init 4 = .ok (.aload_n 0, 1) := by decide +kernel
theorem d_GraphSearch_init_5 : decode b_GraphSearch_init 5 = .ok (.bipush 7, 2) := by decide +kernel
theorem d_GraphSearch_init_7 : decode b_GraphSearch_init 7 = .ok (.newarray .int, 2) := by decide +kernel
theorem d_GraphSearch_init_9 : decode b_GraphSearch_init 9 = .ok (.putfield 9, 3) := by decide +kernel
theorem d_GraphSearch_init_12 : decode b_GraphSearch_init 12 = .ok (.aload_n 0, 1) := by decide +kernel
theorem d_GraphSearch_init_13 : decode b_GraphSearch_init 13 = .ok (.iconst 4, 1) := by decide +kernel
theorem d_GraphSearch_init_14 : decode b_GraphSearch_init 14 = .ok (.newarray .int, 2) := by decide +kernel
theorem d_GraphSearch_init_16 : decode b_GraphSearch_init 16 = .ok (.putfield 15, 3) := by decide +kernel
theorem d_GraphSearch_init_19 : decode b_GraphSearch_init 19 = .ok (.aload_n 0, 1) := by decide +kernel
theorem d_GraphSearch_init_20 : decode b_GraphSearch_init 20 = .ok (.iconst 3, 1) := by decide +kernel
theorem d_GraphSearch_init_21 : decode b_GraphSearch_init 21 = .ok (.newarray .int, 2) := by decide +kernel
theorem d_GraphSearch_init_23 : decode b_GraphSearch_init 23 = .ok (.putfield 18, 3) := by decide +kernel
theorem d_GraphSearch_init_26 : decode b_GraphSearch_init 26 = .ok (.aload_n 0, 1) := by decide +kernel
theorem d_GraphSearch_init_27 : decode b_GraphSearch_init 27 = .ok (.bipush 7, 2) := by decide +kernel
theorem d_GraphSearch_init_29 : decode b_GraphSearch_init 29 = .ok (.newarray .int, 2) := by decide +kernel
theorem d_GraphSearch_init_31 : decode b_GraphSearch_init 31 = .ok (.putfield 21, 3) := by decide +kernel
theorem d_GraphSearch_init_34 : decode b_GraphSearch_init 34 = .ok (.aload_n 0, 1) := by decide +kernel
theorem d_GraphSearch_init_35 : decode b_GraphSearch_init 35 = .ok (.bipush 7, 2) := by decide +kernel
theorem d_GraphSearch_init_37 : decode b_GraphSearch_init 37 = .ok (.newarray .int, 2) := by decide +kernel
theorem d_GraphSearch_init_39 : decode b_GraphSearch_init 39 = .ok (.putfield 24, 3) := by decide +kernel
theorem d_GraphSearch_init_42 : decode b_GraphSearch_init 42 = .ok (.aload_n 0, 1) := by decide +kernel
theorem d_GraphSearch_init_43 : decode b_GraphSearch_init 43 = .ok (.bipush 7, 2) := by decide +kernel
theorem d_GraphSearch_init_45 : decode b_GraphSearch_init 45 = .ok (.newarray .int, 2) := by decide +kernel
theorem d_GraphSearch_init_47 : decode b_GraphSearch_init 47 = .ok (.putfield 27, 3) := by decide +kernel
theorem d_GraphSearch_init_50 : decode b_GraphSearch_init 50 = .ok (.aload_n 0, 1) := by decide +kernel
theorem d_GraphSearch_init_51 : decode b_GraphSearch_init 51 = .ok (.bipush 8, 2) := by decide +kernel
theorem d_GraphSearch_init_53 : decode b_GraphSearch_init 53 = .ok (.newarray .int, 2) := by decide +kernel
theorem d_GraphSearch_init_55 : decode b_GraphSearch_init 55 = .ok (.putfield 30, 3) := by decide +kernel
theorem d_GraphSearch_init_58 : decode b_GraphSearch_init 58 = .ok (.aload_n 0, 1) := by decide +kernel
theorem d_GraphSearch_init_59 : decode b_GraphSearch_init 59 = .ok (.iconst 4, 1) := by decide +kernel
theorem d_GraphSearch_init_60 : decode b_GraphSearch_init 60 = .ok (.newarray .int, 2) := by decide +kernel
theorem d_GraphSearch_init_62 : decode b_GraphSearch_init 62 = .ok (.putfield 33, 3) := by decide +kernel
theorem d_GraphSearch_init_65 : decode b_GraphSearch_init 65 = .ok (.aload_n 0, 1) := by decide +kernel
theorem d_GraphSearch_init_66 : decode b_GraphSearch_init 66 = .ok (.iconst 4, 1) := by decide +kernel
theorem d_GraphSearch_init_67 : decode b_GraphSearch_init 67 = .ok (.newarray .int, 2) := by decide +kernel
theorem d_GraphSearch_init_69 : decode b_GraphSearch_init 69 = .ok (.putfield 36, 3) := by decide +kernel
theorem d_GraphSearch_init_72 : decode b_GraphSearch_init 72 = .ok (.aload_n 0, 1) := by decide +kernel
theorem d_GraphSearch_init_73 : decode b_GraphSearch_init 73 = .ok (.bipush 7, 2) := by decide +kernel
theorem d_GraphSearch_init_75 : decode b_GraphSearch_init 75 = .ok (.newarray .int, 2) := by decide +kernel
theorem d_GraphSearch_init_77 : decode b_GraphSearch_init 77 = .ok (.putfield 39, 3) := by decide +kernel
theorem d_GraphSearch_init_80 : decode b_GraphSearch_init 80 = .ok (.aload_n 0, 1) := by decide +kernel
theorem d_GraphSearch_init_81 : decode b_GraphSearch_init 81 = .ok (.bipush 7, 2) := by decide +kernel
theorem d_GraphSearch_init_83 : decode b_GraphSearch_init 83 = .ok (.newarray .int, 2) := by decide +kernel
theorem d_GraphSearch_init_85 : decode b_GraphSearch_init 85 = .ok (.putfield 42, 3) := by decide +kernel
theorem d_GraphSearch_init_88 : decode b_GraphSearch_init 88 = .ok (.aload_n 0, 1) := by decide +kernel
theorem d_GraphSearch_init_89 : decode b_GraphSearch_init 89 = .ok (.bipush 7, 2) := by decide +kernel
theorem d_GraphSearch_init_91 : decode b_GraphSearch_init 91 = .ok (.newarray .int, 2) := by decide +kernel
theorem d_GraphSearch_init_93 : decode b_GraphSearch_init 93 = .ok (.putfield 45, 3) := by decide +kernel
theorem d_GraphSearch_init_96 : decode b_GraphSearch_init 96 = .ok (.aload_n 0, 1) := by decide +kernel
theorem d_GraphSearch_init_97 : decode b_GraphSearch_init 97 = .ok (.aload_n 1, 1) := by decide +kernel
theorem d_GraphSearch_init_98 : decode b_GraphSearch_init 98 = .ok (.putfield 48, 3) := by decide +kernel
theorem d_GraphSearch_init_101 : decode b_GraphSearch_init 101 = .ok (.aload_n 0, 1) := by decide +kernel
theorem d_GraphSearch_init_102 : decode b_GraphSearch_init 102 = .ok (.aload_n 2, 1) := by decide +kernel
theorem d_GraphSearch_init_103 : decode b_GraphSearch_init 103 = .ok (.putfield 52, 3) := by decide +kernel
theorem d_GraphSearch_init_106 : decode b_GraphSearch_init 106 = .ok (.return_, 1) := by decide +kernel
theorem d_GraphSearch_search_0 : decode b_GraphSearch_search 0 = .ok (.aload_n 0, 1) := by decide +kernel
theorem d_GraphSearch_search_1 : decode b_GraphSearch_search 1 = .ok (.iload_n 1, 1) := by decide +kernel
theorem d_GraphSearch_search_2 : decode b_GraphSearch_search 2 = .ok (.putfield 56, 3) := by decide +kernel
theorem d_GraphSearch_search_5 : decode b_GraphSearch_search 5 = .ok (.aload_n 0, 1) := by decide +kernel
theorem d_GraphSearch_search_6 : decode b_GraphSearch_search 6 = .ok (.aload_n 2, 1) := by decide +kernel
theorem d_GraphSearch_search_7 : decode b_GraphSearch_search 7 = .ok (.putfield 60, 3) := by decide +kernel
theorem d_GraphSearch_search_10 : decode b_GraphSearch_search 10 = .ok (.aload_n 0, 1) := by decide +kernel
theorem d_GraphSearch_search_11 : decode b_GraphSearch_search 11 = .ok (.getfield 60, 3) := by decide +kernel
theorem d_GraphSearch_search_14 : decode b_GraphSearch_search 14 = .ok (.invokevirtual 64, 3) := by decide +kernel
theorem d_GraphSearch_search_17 : decode b_GraphSearch_search 17 = .ok (.aload_n 0, 1) := by decide +kernel
theorem d_GraphSearch_search_18 : decode b_GraphSearch_search 18 = .ok (.getfield 52, 3) := by decide +kernel
theorem d_GraphSearch_search_21 : decode b_GraphSearch_search 21 = .ok (.invokevirtual 69, 3) := by decide +kernel
theorem d_GraphSearch_search_24 : decode b_GraphSearch_search 24 = .ok (.aload_n 0, 1) := by decide +kernel
theorem d_GraphSearch_search_25 : decode b_GraphSearch_search 25 = .ok (.getfield 9, 3) := by decide +kernel
theorem d_GraphSearch_search_28 : decode b_GraphSearch_search 28 = .ok (.iconst (-1), 1) := by decide +kernel
theorem d_GraphSearch_search_29 : decode b_GraphSearch_search 29 = .ok (.invokestatic 72, 3) := by decide +kernel
theorem d_GraphSearch_search_32 : decode b_GraphSearch_search 32 = .ok (.aload_n 0, 1) := by decide +kernel
theorem d_GraphSearch_search_33 : decode b_GraphSearch_search 33 = .ok (.getfield 15, 3) := by decide +kernel
theorem d_GraphSearch_search_36 : decode b_GraphSearch_search 36 = .ok (.iconst (-1), 1) := by decide +kernel
theorem d_GraphSearch_search_37 : decode b_GraphSearch_search 37 = .ok (.invokestatic 72, 3) := by decide +kernel
theorem d_GraphSearch_search_40 : decode b_GraphSearch_search 40 = .ok (.aload_n 0, 1) := by decide +kernel
theorem d_GraphSearch_search_41 : decode b_GraphSearch_search 41 = .ok (.getfield 18, 3) := by decide +kernel
theorem d_GraphSearch_search_44 : decode b_GraphSearch_search 44 = .ok (.iconst 0, 1) := by decide +kernel
theorem d_GraphSearch_search_45 : decode b_GraphSearch_search 45 = .ok (.invokestatic 72, 3) := by decide +kernel
theorem d_GraphSearch_search_48 : decode b_GraphSearch_search 48 = .ok (.iconst 0, 1) := by decide +kernel
theorem d_GraphSearch_search_49 : decode b_GraphSearch_search 49 = .ok (.istore_n 3, 1) := by decide +kernel
theorem d_GraphSearch_search_50 : decode b_GraphSearch_search 50 = .ok (.iload_n 3, 1) := by decide +kernel
theorem d_GraphSearch_search_51 : decode b_GraphSearch_search 51 = .ok (.aload_n 0, 1) := by decide +kernel
theorem d_GraphSearch_search_52 : decode b_GraphSearch_search 52 = .ok (.getfield 48, 3) := by decide +kernel
theorem d_GraphSearch_search_55 : decode b_GraphSearch_search 55 = .ok (.getfield 78, 3) := by decide +kernel
theorem d_GraphSearch_search_58 : decode b_GraphSearch_search 58 = .ok (.if_icmp .ge 14, 3) := by decide +kernel
theorem d_GraphSearch_search_61 : decode b_GraphSearch_search 61 = .ok (.aload_n 0, 1) := by decide +kernel
theorem d_GraphSearch_search_62 : decode b_GraphSearch_search 62 = .ok (.iload_n 3, 1) := by decide +kernel
theorem d_GraphSearch_search_63 : decode b_GraphSearch_search 63 = .ok (.invokevirtual 83, 3) := by decide +kernel
theorem d_GraphSearch_search_66 : decode b_GraphSearch_search 66 = .ok (.iinc 3 1, 3) := by decide +kernel
theorem d_GraphSearch_search_69 : decode b_GraphSearch_search 69 = .ok (.goto (-19), 3) := by decide +kernel
theorem d_GraphSearch_search_72 : decode b_GraphSearch_search 72 = .ok (.aload_n 0, 1) := by decide +kernel
theorem d_GraphSearch_search_73 : decode b_GraphSearch_search 73 = .ok (.iconst 0, 1) := by decide +kernel
theorem d_GraphSearch_search_74 : decode b_GraphSearch_search 74 = .ok (.invokevirtual 87, 3) := by decide +kernel
theorem d_GraphSearch_search_77 : decode b_GraphSearch_search 77 = .ok (.return_, 1) := by decide +kernel
theorem d_GraphSearch_choose_0 : decode b_GraphSearch_choose 0 = .ok (.iload_n 1, 1) := by decide +kernel
theorem d_GraphSearch_choose_1 : decode b_GraphSearch_choose 1 = .ok (.bipush 14, 2) := by decide +kernel
theorem d_GraphSearch_choose_3 : decode b_GraphSearch_choose 3 = .ok (.if_icmp .le 4, 3) := by decide +kernel
theorem d_GraphSearch_choose_6 : decode b_GraphSearch_choose 6 = .ok (.return_, 1) := by decide +kernel
theorem d_GraphSearch_choose_7 : decode b_GraphSearch_choose 7 = .ok (.aload_n 0, 1) := by decide +kernel
theorem d_GraphSearch_choose_8 : decode b_GraphSearch_choose 8 = .ok (.invokevirtual 107, 3) := by decide +kernel
theorem d_GraphSearch_choose_11 : decode b_GraphSearch_choose 11 = .ok (.istore_n 2, 1) := by decide +kernel
theorem d_GraphSearch_choose_12 : decode b_GraphSearch_choose 12 = .ok (.iload_n 2, 1) := by decide +kernel
theorem d_GraphSearch_choose_13 : decode b_GraphSearch_choose 13 = .ok (.iconst (-1), 1) := by decide +kernel
theorem d_GraphSearch_choose_14 : decode b_GraphSearch_choose 14 = .ok (.if_icmp .ne 33, 3) := by decide +kernel
theorem d_GraphSearch_choose_17 : decode b_GraphSearch_choose 17 = .ok (.aload_n 0, 1) := by decide +kernel
theorem d_GraphSearch_choose_18 : decode b_GraphSearch_choose 18 = .ok (.invokevirtual 110, 3) := by decide +kernel
theorem d_GraphSearch_choose_21 : decode b_GraphSearch_choose 21 = .ok (.ifCond .eq 25, 3) := by decide +kernel
theorem d_GraphSearch_choose_24 : decode b_GraphSearch_choose 24 = .ok (.aload_n 0, 1) := by decide +kernel
theorem d_GraphSearch_choose_25 : decode b_GraphSearch_choose 25 = .ok (.invokevirtual 114, 3) := by decide +kernel
theorem d_GraphSearch_choose_28 : decode b_GraphSearch_choose 28 = .ok (.aload_n 0, 1) := by decide +kernel
theorem d_GraphSearch_choose_29 : decode b_GraphSearch_choose 29 = .ok (.aload_n 0, 1) := by decide +kernel
theorem d_GraphSearch_choose_30 : decode b_GraphSearch_choose 30 = .ok (.getfield 56, 3) := by decide +kernel
theorem d_GraphSearch_choose_33 : decode b_GraphSearch_choose 33 = .ok (.iconst 3, 1) := by decide +kernel
theorem d_GraphSearch_choose_34 : decode b_GraphSearch_choose 34 = .ok (.if_icmp .ne 7, 3) := by decide +kernel
theorem d_GraphSearch_choose_37 : decode b_GraphSearch_choose 37 = .ok (.iconst 3, 1) := by decide +kernel
theorem d_GraphSearch_choose_38 : decode b_GraphSearch_choose 38 = .ok (.goto 4, 3) := by decide +kernel
theorem d_GraphSearch_choose_41 : decode b_GraphSearch_choose 41 = .ok (.iconst 2, 1) := by decide +kernel
theorem d_GraphSearch_choose_42 : decode b_GraphSearch_choose 42 = .ok (.iconst 0, 1) := by decide +kernel
theorem d_GraphSearch_choose_43 : decode b_GraphSearch_choose 43 = .ok (.invokevirtual 117, 3) := by decide +kernel
theorem d_GraphSearch_choose_46 : decode b_GraphSearch_choose 46 = .ok (.return_, 1) := by decide +kernel
theorem d_GraphSearch_choose_47 : decode b_GraphSearch_choose 47 = .ok (.aload_n 0, 1) := by decide +kernel
theorem d_GraphSearch_choose_48 : decode b_GraphSearch_choose 48 = .ok (.getfield 52, 3) := by decide +kernel
theorem d_GraphSearch_choose_51 : decode b_GraphSearch_choose 51 = .ok (.iload_n 2, 1) := by decide +kernel
theorem d_GraphSearch_choose_52 : decode b_GraphSearch_choose 52 = .ok (.invokevirtual 121, 3) := by decide +kernel
theorem d_GraphSearch_choose_55 : decode b_GraphSearch_choose 55 = .ok (.istore_n 3, 1) := by decide +kernel
theorem d_GraphSearch_choose_56 : decode b_GraphSearch_choose 56 = .ok (.aload_n 0, 1) := by decide +kernel
theorem d_GraphSearch_choose_57 : decode b_GraphSearch_choose 57 = .ok (.getfield 15, 3) := by decide +kernel
theorem d_GraphSearch_choose_60 : decode b_GraphSearch_choose 60 = .ok (.iload_n 2, 1) := by decide +kernel
theorem d_GraphSearch_choose_61 : decode b_GraphSearch_choose 61 = .ok (.iaload, 1) := by decide +kernel
theorem d_GraphSearch_choose_62 : decode b_GraphSearch_choose 62 = .ok (.istore 4, 2) := by decide +kernel
theorem d_GraphSearch_choose_64 : decode b_GraphSearch_choose 64 = .ok (.aload_n 0, 1) := by decide +kernel
theorem d_GraphSearch_choose_65 : decode b_GraphSearch_choose 65 = .ok (.getfield 48, 3) := by decide +kernel
theorem d_GraphSearch_choose_68 : decode b_GraphSearch_choose 68 = .ok (.iload_n 3, 1) := by decide +kernel
theorem d_GraphSearch_choose_69 : decode b_GraphSearch_choose 69 = .ok (.invokevirtual 124, 3) := by decide +kernel
theorem d_GraphSearch_choose_72 : decode b_GraphSearch_choose 72 = .ok (.ifCond .ne 13, 3) := by decide +kernel
theorem d_GraphSearch_choose_75 : decode b_GraphSearch_choose 75 = .ok (.aload_n 0, 1) := by decide +kernel
theorem d_GraphSearch_choose_76 : decode b_GraphSearch_choose 76 = .ok (.iload_n 3, 1) := by decide +kernel
theorem d_GraphSearch_choose_77 : decode b_GraphSearch_choose 77 = .ok (.iconst 0, 1) := by decide +kernel
theorem d_GraphSearch_choose_78 : decode b_GraphSearch_choose 78 = .ok (.iload_n 1, 1) := by decide +kernel
theorem d_GraphSearch_choose_79 : decode b_GraphSearch_choose 79 = .ok (.invokevirtual 128, 3) := by decide +kernel
theorem d_GraphSearch_choose_82 : decode b_GraphSearch_choose 82 = .ok (.goto 41, 3) := by decide +kernel
theorem d_GraphSearch_choose_85 : decode b_GraphSearch_choose 85 = .ok (.iload 4, 2) := by decide +kernel
theorem d_GraphSearch_choose_87 : decode b_GraphSearch_choose 87 = .ok (.iconst (-1), 1) := by decide +kernel
theorem d_GraphSearch_choose_88 : decode b_GraphSearch_choose 88 = .ok (.if_icmp .ne 12, 3) := by decide +kernel
theorem d_GraphSearch_choose_91 : decode b_GraphSearch_choose 91 = .ok (.aload_n 0, 1) := by decide +kernel
theorem d_GraphSearch_choose_92 : decode b_GraphSearch_choose 92 = .ok (.iload_n 3, 1) := by decide +kernel
theorem d_GraphSearch_choose_93 : decode b_GraphSearch_choose 93 = .ok (.iload_n 1, 1) := by decide +kernel
theorem d_GraphSearch_choose_94 : decode b_GraphSearch_choose 94 = .ok (.invokevirtual 132, 3) := by decide +kernel
theorem d_GraphSearch_choose_97 : decode b_GraphSearch_choose 97 = .ok (.goto 26, 3) := by decide +kernel
theorem d_GraphSearch_choose_100 : decode b_GraphSearch_choose 100 = .ok (.aload_n 0, 1) := by decide +kernel
theorem d_GraphSearch_choose_101 : decode b_GraphSearch_choose 101 = .ok (.getfield 15, 3) := by decide +kernel
theorem d_GraphSearch_choose_104 : decode b_GraphSearch_choose 104 = .ok (.iload_n 2, 1) := by decide +kernel
theorem d_GraphSearch_choose_105 : decode b_GraphSearch_choose 105 = .ok (.iconst (-1), 1) := by decide +kernel
theorem d_GraphSearch_choose_106 : decode b_GraphSearch_choose 106 = .ok (.iastore, 1) := by decide +kernel
theorem d_GraphSearch_choose_107 : decode b_GraphSearch_choose 107 = .ok (.aload_n 0, 1) := by decide +kernel
theorem d_GraphSearch_choose_108 : decode b_GraphSearch_choose 108 = .ok (.iload_n 3, 1) := by decide +kernel
theorem d_GraphSearch_choose_109 : decode b_GraphSearch_choose 109 = .ok (.iload 4, 2) := by decide +kernel
theorem d_GraphSearch_choose_111 : decode b_GraphSearch_choose 111 = .ok (.iload_n 1, 1) := by decide +kernel
theorem d_GraphSearch_choose_112 : decode b_GraphSearch_choose 112 = .ok (.invokevirtual 128, 3) := by decide +kernel
theorem d_GraphSearch_choose_115 : decode b_GraphSearch_choose 115 = .ok (.aload_n 0, 1) := by decide +kernel
theorem d_GraphSearch_choose_116 : decode b_GraphSearch_choose 116 = .ok (.getfield 15, 3) := by decide +kernel
theorem d_GraphSearch_choose_119 : decode b_GraphSearch_choose 119 = .ok (.iload_n 2, 1) := by decide +kernel
theorem d_GraphSearch_choose_120 : decode b_GraphSearch_choose 120 = .ok (.iload 4, 2) := by decide +kernel
theorem d_GraphSearch_choose_122 : decode b_GraphSearch_choose 122 = .ok (.iastore, 1) := by decide +kernel
theorem d_GraphSearch_choose_123 : decode b_GraphSearch_choose 123 = .ok (.return_, 1) := by decide +kernel
theorem d_GraphSearch_freeThread_0 : decode b_GraphSearch_freeThread 0 = .ok (.iconst 0, 1) := by decide +kernel
theorem d_GraphSearch_freeThread_1 : decode b_GraphSearch_freeThread 1 = .ok (.istore_n 1, 1) := by decide +kernel
theorem d_GraphSearch_freeThread_2 : decode b_GraphSearch_freeThread 2 = .ok (.iload_n 1, 1) := by decide +kernel
theorem d_GraphSearch_freeThread_3 : decode b_GraphSearch_freeThread 3 = .ok (.aload_n 0, 1) := by decide +kernel
theorem d_GraphSearch_freeThread_4 : decode b_GraphSearch_freeThread 4 = .ok (.getfield 48, 3) := by decide +kernel
theorem d_GraphSearch_freeThread_7 : decode b_GraphSearch_freeThread 7 = .ok (.getfield 135, 3) := by decide +kernel
theorem d_GraphSearch_freeThread_10 : decode b_GraphSearch_freeThread 10 = .ok (.if_icmp .ge 31, 3) := by decide +kernel
theorem d_GraphSearch_freeThread_13 : decode b_GraphSearch_freeThread 13 = .ok (.aload_n 0, 1) := by decide +kernel
theorem d_GraphSearch_freeThread_14 : decode b_GraphSearch_freeThread 14 = .ok (.getfield 52, 3) := by decide +kernel
theorem d_GraphSearch_freeThread_17 : decode b_GraphSearch_freeThread 17 = .ok (.iload_n 1, 1) := by decide +kernel
theorem d_GraphSearch_freeThread_18 : decode b_GraphSearch_freeThread 18 = .ok (.invokevirtual 121, 3) := by decide +kernel
theorem d_GraphSearch_freeThread_21 : decode b_GraphSearch_freeThread 21 = .ok (.iconst (-1), 1) := by decide +kernel
theorem d_GraphSearch_freeThread_22 : decode b_GraphSearch_freeThread 22 = .ok (.if_icmp .eq 13, 3) := by decide +kernel
theorem d_GraphSearch_freeThread_25 : decode b_GraphSearch_freeThread 25 = .ok (.aload_n 0, 1) := by decide +kernel
theorem d_GraphSearch_freeThread_26 : decode b_GraphSearch_freeThread 26 = .ok (.iload_n 1, 1) := by decide +kernel
theorem d_GraphSearch_freeThread_27 : decode b_GraphSearch_freeThread 27 = .ok (.invokevirtual 138, 3) := by decide +kernel
theorem d_GraphSearch_freeThread_30 : decode b_GraphSearch_freeThread 30 = .ok (.ifCond .ne 5, 3) := by decide +kernel
theorem d_GraphSearch_freeThread_33 : decode b_GraphSearch_freeThread 33 = .ok (.iload_n 1, 1) := by decide +kernel
theorem d_GraphSearch_freeThread_34 : decode b_GraphSearch_freeThread 34 = .ok (.ireturn, 1) := by decide +kernel
theorem d_GraphSearch_freeThread_35 : decode b_GraphSearch_freeThread 35 = .ok (.iinc 1 1, 3) := by decide +kernel
theorem d_GraphSearch_freeThread_38 : decode b_GraphSearch_freeThread 38 = .ok (.goto (-36), 3) := by decide +kernel
theorem d_GraphSearch_freeThread_41 : decode b_GraphSearch_freeThread 41 = .ok (.iconst (-1), 1) := by decide +kernel
theorem d_GraphSearch_freeThread_42 : decode b_GraphSearch_freeThread 42 = .ok (.ireturn, 1) := by decide +kernel
theorem d_GraphSearch_allEnded_0 : decode b_GraphSearch_allEnded 0 = .ok (.iconst 0, 1) := by decide +kernel
theorem d_GraphSearch_allEnded_1 : decode b_GraphSearch_allEnded 1 = .ok (.istore_n 1, 1) := by decide +kernel
theorem d_GraphSearch_allEnded_2 : decode b_GraphSearch_allEnded 2 = .ok (.iload_n 1, 1) := by decide +kernel
theorem d_GraphSearch_allEnded_3 : decode b_GraphSearch_allEnded 3 = .ok (.aload_n 0, 1) := by decide +kernel
theorem d_GraphSearch_allEnded_4 : decode b_GraphSearch_allEnded 4 = .ok (.getfield 48, 3) := by decide +kernel
theorem d_GraphSearch_allEnded_7 : decode b_GraphSearch_allEnded 7 = .ok (.getfield 135, 3) := by decide +kernel
theorem d_GraphSearch_allEnded_10 : decode b_GraphSearch_allEnded 10 = .ok (.if_icmp .ge 23, 3) := by decide +kernel
theorem d_GraphSearch_allEnded_13 : decode b_GraphSearch_allEnded 13 = .ok (.aload_n 0, 1) := by decide +kernel
theorem d_GraphSearch_allEnded_14 : decode b_GraphSearch_allEnded 14 = .ok (.getfield 52, 3) := by decide +kernel
theorem d_GraphSearch_allEnded_17 : decode b_GraphSearch_allEnded 17 = .ok (.iload_n 1, 1) := by decide +kernel
theorem d_GraphSearch_allEnded_18 : decode b_GraphSearch_allEnded 18 = .ok (.invokevirtual 121, 3) := by decide +kernel
theorem d_GraphSearch_allEnded_21 : decode b_GraphSearch_allEnded 21 = .ok (.iconst (-1), 1) := by decide +kernel
theorem d_GraphSearch_allEnded_22 : decode b_GraphSearch_allEnded 22 = .ok (.if_icmp .eq 5, 3) := by decide +kernel
theorem d_GraphSearch_allEnded_25 : decode b_GraphSearch_allEnded 25 = .ok (.iconst 0, 1) := by decide +kernel
theorem d_GraphSearch_allEnded_26 : decode b_GraphSearch_allEnded 26 = .ok (.ireturn, 1) := by decide +kernel
theorem d_GraphSearch_allEnded_27 : decode b_GraphSearch_allEnded 27 = .ok (.iinc 1 1, 3) := by decide +kernel
theorem d_GraphSearch_allEnded_30 : decode b_GraphSearch_allEnded 30 = .ok (.goto (-28), 3) := by decide +kernel
theorem d_GraphSearch_allEnded_33 : decode b_GraphSearch_allEnded 33 = .ok (.iconst 1, 1) := by decide +kernel
theorem d_GraphSearch_allEnded_34 : decode b_GraphSearch_allEnded 34 = .ok (.ireturn, 1) := by decide +kernel
theorem d_GraphSearch_noteReaders_0 : decode b_GraphSearch_noteReaders 0 = .ok (.aload_n 0, 1) := by decide +kernel
theorem d_GraphSearch_noteReaders_1 : decode b_GraphSearch_noteReaders 1 = .ok (.aload_n 0, 1) := by decide +kernel
theorem d_GraphSearch_noteReaders_2 : decode b_GraphSearch_noteReaders 2 = .ok (.getfield 52, 3) := by decide +kernel
theorem d_GraphSearch_noteReaders_5 : decode b_GraphSearch_noteReaders 5 = .ok (.getfield 172, 3) := by decide +kernel
theorem d_GraphSearch_noteReaders_8 : decode b_GraphSearch_noteReaders 8 = .ok (.aload_n 0, 1) := by decide +kernel
theorem d_GraphSearch_noteReaders_9 : decode b_GraphSearch_noteReaders 9 = .ok (.getfield 48, 3) := by decide +kernel
theorem d_GraphSearch_noteReaders_12 : decode b_GraphSearch_noteReaders 12 = .ok (.getfield 181, 3) := by decide +kernel
theorem d_GraphSearch_noteReaders_15 : decode b_GraphSearch_noteReaders 15 = .ok (.iconst 5, 1) := by decide +kernel
theorem d_GraphSearch_noteReaders_16 : decode b_GraphSearch_noteReaders 16 = .ok (.iaload, 1) := by decide +kernel
theorem d_GraphSearch_noteReaders_17 : decode b_GraphSearch_noteReaders 17 = .ok (.iconst (-1), 1) := by decide +kernel
theorem d_GraphSearch_noteReaders_18 : decode b_GraphSearch_noteReaders 18 = .ok (.ixor, 1) := by decide +kernel
theorem d_GraphSearch_noteReaders_19 : decode b_GraphSearch_noteReaders 19 = .ok (.iand, 1) := by decide +kernel
theorem d_GraphSearch_noteReaders_20 : decode b_GraphSearch_noteReaders 20 = .ok (.putfield 190, 3) := by decide +kernel
theorem d_GraphSearch_noteReaders_23 : decode b_GraphSearch_noteReaders 23 = .ok (.aload_n 0, 1) := by decide +kernel
theorem d_GraphSearch_noteReaders_24 : decode b_GraphSearch_noteReaders 24 = .ok (.getfield 30, 3) := by decide +kernel
theorem d_GraphSearch_noteReaders_27 : decode b_GraphSearch_noteReaders 27 = .ok (.iconst 0, 1) := by decide +kernel
theorem d_GraphSearch_noteReaders_28 : decode b_GraphSearch_noteReaders 28 = .ok (.invokestatic 72, 3) := by decide +kernel
theorem d_GraphSearch_noteReaders_31 : decode b_GraphSearch_noteReaders 31 = .ok (.aload_n 0, 1) := by decide +kernel
theorem d_GraphSearch_noteReaders_32 : decode b_GraphSearch_noteReaders 32 = .ok (.getfield 33, 3) := by decide +kernel
theorem d_GraphSearch_noteReaders_35 : decode b_GraphSearch_noteReaders 35 = .ok (.iconst 0, 1) := by decide +kernel
theorem d_GraphSearch_noteReaders_36 : decode b_GraphSearch_noteReaders 36 = .ok (.invokestatic 72, 3) := by decide +kernel
theorem d_GraphSearch_noteReaders_39 : decode b_GraphSearch_noteReaders 39 = .ok (.aload_n 0, 1) := by decide +kernel
theorem d_GraphSearch_noteReaders_40 : decode b_GraphSearch_noteReaders 40 = .ok (.getfield 39, 3) := by decide +kernel
theorem d_GraphSearch_noteReaders_43 : decode b_GraphSearch_noteReaders 43 = .ok (.iconst 0, 1) := by decide +kernel
theorem d_GraphSearch_noteReaders_44 : decode b_GraphSearch_noteReaders 44 = .ok (.invokestatic 72, 3) := by decide +kernel
theorem d_GraphSearch_noteReaders_47 : decode b_GraphSearch_noteReaders 47 = .ok (.iconst 0, 1) := by decide +kernel
theorem d_GraphSearch_noteReaders_48 : decode b_GraphSearch_noteReaders 48 = .ok (.istore_n 1, 1) := by decide +kernel
theorem d_GraphSearch_noteReaders_49 : decode b_GraphSearch_noteReaders 49 = .ok (.iload_n 1, 1) := by decide +kernel
theorem d_GraphSearch_noteReaders_50 : decode b_GraphSearch_noteReaders 50 = .ok (.aload_n 0, 1) := by decide +kernel
theorem d_GraphSearch_noteReaders_51 : decode b_GraphSearch_noteReaders 51 = .ok (.getfield 48, 3) := by decide +kernel
theorem d_GraphSearch_noteReaders_54 : decode b_GraphSearch_noteReaders 54 = .ok (.getfield 78, 3) := by decide +kernel
theorem d_GraphSearch_noteReaders_57 : decode b_GraphSearch_noteReaders 57 = .ok (.if_icmp .ge 36, 3) := by decide +kernel
theorem d_GraphSearch_noteReaders_60 : decode b_GraphSearch_noteReaders 60 = .ok (.aload_n 0, 1) := by decide +kernel
theorem d_GraphSearch_noteReaders_61 : decode b_GraphSearch_noteReaders 61 = .ok (.getfield 190, 3) := by decide +kernel
theorem d_GraphSearch_noteReaders_64 : decode b_GraphSearch_noteReaders 64 = .ok (.iload_n 1, 1) := by decide +kernel
theorem d_GraphSearch_noteReaders_65 : decode b_GraphSearch_noteReaders 65 = .ok (.invokestatic 166, 3) := by decide +kernel
theorem d_GraphSearch_noteReaders_68 : decode b_GraphSearch_noteReaders 68 = .ok (.ifCond .eq 19, 3) := by decide +kernel
theorem d_GraphSearch_noteReaders_71 : decode b_GraphSearch_noteReaders 71 = .ok (.aload_n 0, 1) := by decide +kernel
theorem d_GraphSearch_noteReaders_72 : decode b_GraphSearch_noteReaders 72 = .ok (.getfield 48, 3) := by decide +kernel
theorem d_GraphSearch_noteReaders_75 : decode b_GraphSearch_noteReaders 75 = .ok (.iload_n 1, 1) := by decide +kernel
theorem d_GraphSearch_noteReaders_76 : decode b_GraphSearch_noteReaders 76 = .ok (.invokevirtual 124, 3) := by decide +kernel
theorem d_GraphSearch_noteReaders_79 : decode b_GraphSearch_noteReaders 79 = .ok (.ifCond .eq 8, 3) := by decide +kernel
theorem d_GraphSearch_noteReaders_82 : decode b_GraphSearch_noteReaders 82 = .ok (.aload_n 0, 1) := by decide +kernel
theorem d_GraphSearch_noteReaders_83 : decode b_GraphSearch_noteReaders 83 = .ok (.iload_n 1, 1) := by decide +kernel
theorem d_GraphSearch_noteReaders_84 : decode b_GraphSearch_noteReaders 84 = .ok (.invokevirtual 193, 3) := by decide +kernel
theorem d_GraphSearch_noteReaders_87 : decode b_GraphSearch_noteReaders 87 = .ok (.iinc 1 1, 3) := by decide +kernel
theorem d_GraphSearch_noteReaders_90 : decode b_GraphSearch_noteReaders 90 = .ok (.goto (-41), 3) := by decide +kernel
theorem d_GraphSearch_noteReaders_93 : decode b_GraphSearch_noteReaders 93 = .ok (.return_, 1) := by decide +kernel
theorem d_GraphSearch_startRow_0 : decode b_GraphSearch_startRow 0 = .ok (.aload_n 0, 1) := by decide +kernel
theorem d_GraphSearch_startRow_1 : decode b_GraphSearch_startRow 1 = .ok (.getfield 56, 3) := by decide +kernel
theorem d_GraphSearch_startRow_4 : decode b_GraphSearch_startRow 4 = .ok (.iconst 3, 1) := by decide +kernel
theorem d_GraphSearch_startRow_5 : decode b_GraphSearch_startRow 5 = .ok (.if_icmp .ne 12, 3) := by decide +kernel
theorem d_GraphSearch_startRow_8 : decode b_GraphSearch_startRow 8 = .ok (.iload_n 1, 1) := by decide +kernel
theorem d_GraphSearch_startRow_9 : decode b_GraphSearch_startRow 9 = .ok (.iconst 2, 1) := by decide +kernel
theorem d_GraphSearch_startRow_10 : decode b_GraphSearch_startRow 10 = .ok (.if_icmp .ne 7, 3) := by decide +kernel
theorem d_GraphSearch_startRow_13 : decode b_GraphSearch_startRow 13 = .ok (.aload_n 0, 1) := by decide +kernel
theorem d_GraphSearch_startRow_14 : decode b_GraphSearch_startRow 14 = .ok (.invokevirtual 196, 3) := by decide +kernel
theorem d_GraphSearch_startRow_17 : decode b_GraphSearch_startRow 17 = .ok (.iload_n 1, 1) := by decide +kernel
theorem d_GraphSearch_startRow_18 : decode b_GraphSearch_startRow 18 = .ok (.ifCond .lt 33, 3) := by decide +kernel
theorem d_GraphSearch_startRow_21 : decode b_GraphSearch_startRow 21 = .ok (.aload_n 0, 1) := by decide +kernel
theorem d_GraphSearch_startRow_22 : decode b_GraphSearch_startRow 22 = .ok (.iload_n 1, 1) := by decide +kernel
theorem d_GraphSearch_startRow_23 : decode b_GraphSearch_startRow 23 = .ok (.iconst 0, 1) := by decide +kernel
theorem d_GraphSearch_startRow_24 : decode b_GraphSearch_startRow 24 = .ok (.aload_n 0, 1) := by decide +kernel
theorem d_GraphSearch_startRow_25 : decode b_GraphSearch_startRow 25 = .ok (.getfield 48, 3) := by decide +kernel
theorem d_GraphSearch_startRow_28 : decode b_GraphSearch_startRow 28 = .ok (.iload_n 1, 1) := by decide +kernel
theorem d_GraphSearch_startRow_29 : decode b_GraphSearch_startRow 29 = .ok (.invokevirtual 163, 3) := by decide +kernel
theorem d_GraphSearch_startRow_32 : decode b_GraphSearch_startRow 32 = .ok (.aload_n 0, 1) := by decide +kernel
theorem d_GraphSearch_startRow_33 : decode b_GraphSearch_startRow 33 = .ok (.getfield 190, 3) := by decide +kernel
theorem d_GraphSearch_startRow_36 : decode b_GraphSearch_startRow 36 = .ok (.iand, 1) := by decide +kernel
theorem d_GraphSearch_startRow_37 : decode b_GraphSearch_startRow 37 = .ok (.iconst 0, 1) := by decide +kernel
theorem d_GraphSearch_startRow_38 : decode b_GraphSearch_startRow 38 = .ok (.aload_n 0, 1) := by decide +kernel
theorem d_GraphSearch_startRow_39 : decode b_GraphSearch_startRow 39 = .ok (.getfield 33, 3) := by decide +kernel
theorem d_GraphSearch_startRow_42 : decode b_GraphSearch_startRow 42 = .ok (.iload_n 1, 1) := by decide +kernel
theorem d_GraphSearch_startRow_43 : decode b_GraphSearch_startRow 43 = .ok (.iaload, 1) := by decide +kernel
theorem d_GraphSearch_startRow_44 : decode b_GraphSearch_startRow 44 = .ok (.iload_n 2, 1) := by decide +kernel
theorem d_GraphSearch_startRow_45 : decode b_GraphSearch_startRow 45 = .ok (.invokevirtual 199, 3) := by decide +kernel
theorem d_GraphSearch_startRow_48 : decode b_GraphSearch_startRow 48 = .ok (.goto 51, 3) := by decide +kernel
theorem d_GraphSearch_startRow_51 : decode b_GraphSearch_startRow 51 = .ok (.aload_n 0, 1) := by decide +kernel
theorem d_GraphSearch_startRow_52 : decode b_GraphSearch_startRow 52 = .ok (.invokevirtual 203, 3) := by decide +kernel
theorem d_GraphSearch_startRow_55 : decode b_GraphSearch_startRow 55 = .ok (.ifCond .eq 44, 3) := by decide +kernel
theorem d_GraphSearch_startRow_58 : decode b_GraphSearch_startRow 58 = .ok (.aload_n 0, 1) := by decide +kernel
theorem d_GraphSearch_startRow_59 : decode b_GraphSearch_startRow 59 = .ok (.getfield 52, 3) := by decide +kernel
theorem d_GraphSearch_startRow_62 : decode b_GraphSearch_startRow 62 = .ok (.aload_n 0, 1) := by decide +kernel
theorem d_GraphSearch_startRow_63 : decode b_GraphSearch_startRow 63 = .ok (.getfield 36, 3) := by decide +kernel
theorem d_GraphSearch_startRow_66 : decode b_GraphSearch_startRow 66 = .ok (.iconst 0, 1) := by decide +kernel
theorem d_GraphSearch_startRow_67 : decode b_GraphSearch_startRow 67 = .ok (.iaload, 1) := by decide +kernel
theorem d_GraphSearch_startRow_68 : decode b_GraphSearch_startRow 68 = .ok (.aload_n 0, 1) := by decide +kernel
theorem d_GraphSearch_startRow_69 : decode b_GraphSearch_startRow 69 = .ok (.getfield 36, 3) := by decide +kernel
theorem d_GraphSearch_startRow_72 : decode b_GraphSearch_startRow 72 = .ok (.iconst 1, 1) := by decide +kernel
theorem d_GraphSearch_startRow_73 : decode b_GraphSearch_startRow 73 = .ok (.iaload, 1) := by decide +kernel
theorem d_GraphSearch_startRow_74 : decode b_GraphSearch_startRow 74 = .ok (.aload_n 0, 1) := by decide +kernel
theorem d_GraphSearch_startRow_75 : decode b_GraphSearch_startRow 75 = .ok (.getfield 36, 3) := by decide +kernel
theorem d_GraphSearch_startRow_78 : decode b_GraphSearch_startRow 78 = .ok (.iconst 2, 1) := by decide +kernel
theorem d_GraphSearch_startRow_79 : decode b_GraphSearch_startRow 79 = .ok (.iaload, 1) := by decide +kernel
theorem d_GraphSearch_startRow_80 : decode b_GraphSearch_startRow 80 = .ok (.invokevirtual 206, 3) := by decide +kernel
theorem d_GraphSearch_startRow_83 : decode b_GraphSearch_startRow 83 = .ok (.istore_n 3, 1) := by decide +kernel
theorem d_GraphSearch_startRow_84 : decode b_GraphSearch_startRow 84 = .ok (.aload_n 0, 1) := by decide +kernel
theorem d_GraphSearch_startRow_85 : decode b_GraphSearch_startRow 85 = .ok (.getfield 60, 3) := by decide +kernel
theorem d_GraphSearch_startRow_88 : decode b_GraphSearch_startRow 88 = .ok (.aload_n 0, 1) := by decide +kernel
theorem d_GraphSearch_startRow_89 : decode b_GraphSearch_startRow 89 = .ok (.getfield 52, 3) := by decide +kernel
theorem d_GraphSearch_startRow_92 : decode b_GraphSearch_startRow 92 = .ok (.invokevirtual 210, 3) := by decide +kernel
theorem d_GraphSearch_startRow_95 : decode b_GraphSearch_startRow 95 = .ok (.iload_n 3, 1) := by decide +kernel
theorem d_GraphSearch_startRow_96 : decode b_GraphSearch_startRow 96 = .ok (.invokevirtual 214, 3) := by decide +kernel
theorem d_GraphSearch_startRow_99 : decode b_GraphSearch_startRow 99 = .ok (.return_, 1) := by decide +kernel
theorem d_GraphSearch_lay_0 : decode b_GraphSearch_lay 0 = .ok (.iload 6, 2) := by decide +kernel
theorem d_GraphSearch_lay_2 : decode b_GraphSearch_lay 2 = .ok (.bipush 11, 2) := by decide +kernel
theorem d_GraphSearch_lay_4 : decode b_GraphSearch_lay 4 = .ok (.if_icmp .le 4, 3) := by decide +kernel
theorem d_GraphSearch_lay_7 : decode b_GraphSearch_lay 7 = .ok (.return_, 1) := by decide +kernel
theorem d_GraphSearch_lay_8 : decode b_GraphSearch_lay 8 = .ok (.iload_n 3, 1) := by decide +kernel
theorem d_GraphSearch_lay_9 : decode b_GraphSearch_lay 9 = .ok (.ifCond .ne 22, 3) := by decide +kernel
theorem d_GraphSearch_lay_12 : decode b_GraphSearch_lay 12 = .ok (.aload_n 0, 1) := by decide +kernel
theorem d_GraphSearch_lay_13 : decode b_GraphSearch_lay 13 = .ok (.getfield 36, 3) := by decide +kernel
theorem d_GraphSearch_lay_16 : decode b_GraphSearch_lay 16 = .ok (.iload_n 1, 1) := by decide +kernel
theorem d_GraphSearch_lay_17 : decode b_GraphSearch_lay 17 = .ok (.iload_n 2, 1) := by decide +kernel
theorem d_GraphSearch_lay_18 : decode b_GraphSearch_lay 18 = .ok (.iastore, 1) := by decide +kernel
theorem d_GraphSearch_lay_19 : decode b_GraphSearch_lay 19 = .ok (.aload_n 0, 1) := by decide +kernel
theorem d_GraphSearch_lay_20 : decode b_GraphSearch_lay 20 = .ok (.iload_n 1, 1) := by decide +kernel
theorem d_GraphSearch_lay_21 : decode b_GraphSearch_lay 21 = .ok (.iconst 1, 1) := by decide +kernel
theorem d_GraphSearch_lay_22 : decode b_GraphSearch_lay 22 = .ok (.isub, 1) := by decide +kernel
theorem d_GraphSearch_lay_23 : decode b_GraphSearch_lay 23 = .ok (.iload 6, 2) := by decide +kernel
theorem d_GraphSearch_lay_25 : decode b_GraphSearch_lay 25 = .ok (.iconst 1, 1) := by decide +kernel
theorem d_GraphSearch_lay_26 : decode b_GraphSearch_lay 26 = .ok (.iadd, 1) := by decide +kernel
theorem d_GraphSearch_lay_27 : decode b_GraphSearch_lay 27 = .ok (.invokevirtual 117, 3) := by decide +kernel
theorem d_GraphSearch_lay_30 : decode b_GraphSearch_lay 30 = .ok (.return_, 1) := by decide +kernel
theorem d_GraphSearch_lay_31 : decode b_GraphSearch_lay 31 = .ok (.iload_n 1, 1) := by decide +kernel
theorem d_GraphSearch_lay_32 : decode b_GraphSearch_lay 32 = .ok (.iconst 3, 1) := by decide +kernel
theorem d_GraphSearch_lay_33 : decode b_GraphSearch_lay 33 = .ok (.if_icmp .ne 7, 3) := by decide +kernel
theorem d_GraphSearch_lay_36 : decode b_GraphSearch_lay 36 = .ok (.iconst 0, 1) := by decide +kernel
theorem d_GraphSearch_lay_37 : decode b_GraphSearch_lay 37 = .ok (.goto 14, 3) := by decide +kernel
theorem d_GraphSearch_lay_40 : decode b_GraphSearch_lay 40 = .ok (.iload_n 3, 1) := by decide +kernel
theorem d_GraphSearch_lay_41 : decode b_GraphSearch_lay 41 = .ok (.aload_n 0, 1) := by decide +kernel
theorem d_GraphSearch_lay_42 : decode b_GraphSearch_lay 42 = .ok (.getfield 48, 3) := by decide +kernel
theorem d_GraphSearch_lay_45 : decode b_GraphSearch_lay 45 = .ok (.getfield 181, 3) := by decide +kernel
theorem d_GraphSearch_lay_48 : decode b_GraphSearch_lay 48 = .ok (.iconst 3, 1) := by decide +kernel
theorem d_GraphSearch_lay_49 : decode b_GraphSearch_lay 49 = .ok (.iaload, 1) := by decide +kernel
theorem d_GraphSearch_lay_50 : decode b_GraphSearch_lay 50 = .ok (.iand, 1) := by decide +kernel
theorem d_GraphSearch_lay_51 : decode b_GraphSearch_lay 51 = .ok (.istore 7, 2) := by decide +kernel
theorem d_GraphSearch_lay_53 : decode b_GraphSearch_lay 53 = .ok (.iload 7, 2) := by decide +kernel
theorem d_GraphSearch_lay_55 : decode b_GraphSearch_lay 55 = .ok (.iload_n 2, 1) := by decide +kernel
theorem d_GraphSearch_lay_56 : decode b_GraphSearch_lay 56 = .ok (.ifCond .ne 12, 3) := by decide +kernel
theorem d_GraphSearch_lay_59 : decode b_GraphSearch_lay 59 = .ok (.aload_n 0, 1) := by decide +kernel
theorem d_GraphSearch_lay_60 : decode b_GraphSearch_lay 60 = .ok (.getfield 33, 3) := by decide +kernel
theorem d_GraphSearch_lay_63 : decode b_GraphSearch_lay 63 = .ok (.iload_n 1, 1) := by decide +kernel
theorem d_GraphSearch_lay_64 : decode b_GraphSearch_lay 64 = .ok (.iaload, 1) := by decide +kernel
theorem d_GraphSearch_lay_65 : decode b_GraphSearch_lay 65 = .ok (.goto 9, 3) := by decide +kernel
theorem d_GraphSearch_lay_68 : decode b_GraphSearch_lay 68 = .ok (.aload_n 0, 1) := by decide +kernel
theorem d_GraphSearch_lay_69 : decode b_GraphSearch_lay 69 = .ok (.getfield 30, 3) := by decide +kernel
theorem d_GraphSearch_lay_72 : decode b_GraphSearch_lay 72 = .ok (.iload_n 2, 1) := by decide +kernel
theorem d_GraphSearch_lay_73 : decode b_GraphSearch_lay 73 = .ok (.iaload, 1) := by decide +kernel
theorem d_GraphSearch_lay_74 : decode b_GraphSearch_lay 74 = .ok (.iand, 1) := by decide +kernel
theorem d_GraphSearch_lay_75 : decode b_GraphSearch_lay 75 = .ok (.istore 8, 2) := by decide +kernel
theorem d_GraphSearch_lay_77 : decode b_GraphSearch_lay 77 = .ok (.iload 8, 2) := by decide +kernel
theorem d_GraphSearch_lay_79 : decode b_GraphSearch_lay 79 = .ok (.ifCond .eq 8, 3) := by decide +kernel
theorem d_GraphSearch_lay_82 : decode b_GraphSearch_lay 82 = .ok (.iload 8, 2) := by decide +kernel
theorem d_GraphSearch_lay_84 : decode b_GraphSearch_lay 84 = .ok (.goto 9, 3) := by decide +kernel
theorem d_GraphSearch_lay_87 : decode b_GraphSearch_lay 87 = .ok (.iload_n 3, 1) := by decide +kernel
theorem d_GraphSearch_lay_88 : decode b_GraphSearch_lay 88 = .ok (.iload 7, 2) := by decide +kernel
theorem d_GraphSearch_lay_90 : decode b_GraphSearch_lay 90 = .ok (.iconst (-1), 1) := by decide +kernel
theorem d_GraphSearch_lay_91 : decode b_GraphSearch_lay 91 = .ok (.ixor, 1) := by decide +kernel
theorem d_GraphSearch_lay_92 : decode b_GraphSearch_lay 92 = .ok (.iand, 1) := by decide +kernel
theorem d_GraphSearch_lay_93 : decode b_GraphSearch_lay 93 = .ok (.istore 9, 2) := by decide +kernel
theorem d_GraphSearch_lay_95 : decode b_GraphSearch_lay 95 = .ok (.iconst 0, 1) := by decide +kernel
theorem d_GraphSearch_lay_96 : decode b_GraphSearch_lay 96 = .ok (.istore 10, 2) := by decide +kernel
theorem d_GraphSearch_lay_98 : decode b_GraphSearch_lay 98 = .ok (.iload 10, 2) := by decide +kernel
theorem d_GraphSearch_lay_100 : decode b_GraphSearch_lay 100 = .ok (.aload_n 0, 1) := by decide +kernel
theorem d_GraphSearch_lay_101 : decode b_GraphSearch_lay 101 = .ok (.getfield 48, 3) := by decide +kernel
theorem d_GraphSearch_lay_104 : decode b_GraphSearch_lay 104 = .ok (.getfield 78, 3) := by decide +kernel
theorem d_GraphSearch_lay_107 : decode b_GraphSearch_lay 107 = .ok (.if_icmp .ge 105, 3) := by decide +kernel
theorem d_GraphSearch_lay_110 : decode b_GraphSearch_lay 110 = .ok (.iload 9, 2) := by decide +kernel
theorem d_GraphSearch_lay_112 : decode b_GraphSearch_lay 112 = .ok (.iload 10, 2) := by decide +kernel
theorem d_GraphSearch_lay_114 : decode b_GraphSearch_lay 114 = .ok (.invokestatic 166, 3) := by decide +kernel
theorem d_GraphSearch_lay_117 : decode b_GraphSearch_lay 117 = .ok (.ifCond .eq 89, 3) := by decide +kernel
theorem d_GraphSearch_lay_120 : decode b_GraphSearch_lay 120 = .ok (.aload_n 0, 1) := by decide +kernel
theorem d_GraphSearch_lay_121 : decode b_GraphSearch_lay 121 = .ok (.getfield 21, 3) := by decide +kernel
theorem d_GraphSearch_lay_124 : decode b_GraphSearch_lay 124 = .ok (.iload 10, 2) := by decide +kernel
theorem d_GraphSearch_lay_126 : decode b_GraphSearch_lay 126 = .ok (.iaload, 1) := by decide +kernel
theorem d_GraphSearch_lay_127 : decode b_GraphSearch_lay 127 = .ok (.iload_n 3, 1) := by decide +kernel
theorem d_GraphSearch_lay_128 : decode b_GraphSearch_lay 128 = .ok (.iand, 1) := by decide +kernel
theorem d_GraphSearch_lay_129 : decode b_GraphSearch_lay 129 = .ok (.ifCond .ne 77, 3) := by decide +kernel
theorem d_GraphSearch_lay_132 : decode b_GraphSearch_lay 132 = .ok (.iload 5, 2) := by decide +kernel
theorem d_GraphSearch_lay_134 : decode b_GraphSearch_lay 134 = .ok (.aload_n 0, 1) := by decide +kernel
theorem d_GraphSearch_lay_135 : decode b_GraphSearch_lay 135 = .ok (.getfield 48, 3) := by decide +kernel
theorem d_GraphSearch_lay_138 : decode b_GraphSearch_lay 138 = .ok (.iload 10, 2) := by decide +kernel
theorem d_GraphSearch_lay_140 : decode b_GraphSearch_lay 140 = .ok (.invokevirtual 178, 3) := by decide +kernel
theorem d_GraphSearch_lay_143 : decode b_GraphSearch_lay 143 = .ok (.iand, 1) := by decide +kernel
theorem d_GraphSearch_lay_144 : decode b_GraphSearch_lay 144 = .ok (.ifCond .ne 62, 3) := by decide +kernel
theorem d_GraphSearch_lay_147 : decode b_GraphSearch_lay 147 = .ok (.iconst 1, 1) := by decide +kernel
theorem d_GraphSearch_lay_148 : decode b_GraphSearch_lay 148 = .ok (.iload 10, 2) := by decide +kernel
theorem d_GraphSearch_lay_150 : decode b_GraphSearch_lay 150 = .ok (.ishl, 1) := by decide +kernel
theorem d_GraphSearch_lay_151 : decode b_GraphSearch_lay 151 = .ok (.istore 11, 2) := by decide +kernel
theorem d_GraphSearch_lay_153 : decode b_GraphSearch_lay 153 = .ok (.aload_n 0, 1) := by decide +kernel
theorem d_GraphSearch_lay_154 : decode b_GraphSearch_lay 154 = .ok (.getfield 39, 3) := by decide +kernel
theorem d_GraphSearch_lay_157 : decode b_GraphSearch_lay 157 = .ok (.iload 10, 2) := by decide +kernel
theorem d_GraphSearch_lay_159 : decode b_GraphSearch_lay 159 = .ok (.iload 4, 2) := by decide +kernel
theorem d_GraphSearch_lay_161 : decode b_GraphSearch_lay 161 = .ok (.iload 5, 2) := by decide +kernel
theorem d_GraphSearch_lay_163 : decode b_GraphSearch_lay 163 = .ok (.iload 11, 2) := by decide +kernel
theorem d_GraphSearch_lay_165 : decode b_GraphSearch_lay 165 = .ok (.iconst (-1), 1) := by decide +kernel
theorem d_GraphSearch_lay_166 : decode b_GraphSearch_lay 166 = .ok (.ixor, 1) := by decide +kernel
theorem d_GraphSearch_lay_167 : decode b_GraphSearch_lay 167 = .ok (.iand, 1) := by decide +kernel
theorem d_GraphSearch_lay_168 : decode b_GraphSearch_lay 168 = .ok (.ior, 1) := by decide +kernel
theorem d_GraphSearch_lay_169 : decode b_GraphSearch_lay 169 = .ok (.iastore, 1) := by decide +kernel
theorem d_GraphSearch_lay_170 : decode b_GraphSearch_lay 170 = .ok (.aload_n 0, 1) := by decide +kernel
theorem d_GraphSearch_lay_171 : decode b_GraphSearch_lay 171 = .ok (.iload_n 1, 1) := by decide +kernel
theorem d_GraphSearch_lay_172 : decode b_GraphSearch_lay 172 = .ok (.iload 10, 2) := by decide +kernel
theorem d_GraphSearch_lay_174 : decode b_GraphSearch_lay 174 = .ok (.iconst 1, 1) := by decide +kernel
theorem d_GraphSearch_lay_175 : decode b_GraphSearch_lay 175 = .ok (.iadd, 1) := by decide +kernel
theorem d_GraphSearch_lay_176 : decode b_GraphSearch_lay 176 = .ok (.iload_n 3, 1) := by decide +kernel
theorem d_GraphSearch_lay_177 : decode b_GraphSearch_lay 177 = .ok (.iload 11, 2) := by decide +kernel
theorem d_GraphSearch_lay_179 : decode b_GraphSearch_lay 179 = .ok (.iconst (-1), 1) := by decide +kernel
theorem d_GraphSearch_lay_180 : decode b_GraphSearch_lay 180 = .ok (.ixor, 1) := by decide +kernel
theorem d_GraphSearch_lay_181 : decode b_GraphSearch_lay 181 = .ok (.iand, 1) := by decide +kernel
theorem d_GraphSearch_lay_182 : decode b_GraphSearch_lay 182 = .ok (.iload 4, 2) := by decide +kernel
theorem d_GraphSearch_lay_184 : decode b_GraphSearch_lay 184 = .ok (.iload 11, 2) := by decide +kernel
theorem d_GraphSearch_lay_186 : decode b_GraphSearch_lay 186 = .ok (.ior, 1) := by decide +kernel
theorem d_GraphSearch_lay_187 : decode b_GraphSearch_lay 187 = .ok (.iload 5, 2) := by decide +kernel
theorem d_GraphSearch_lay_189 : decode b_GraphSearch_lay 189 = .ok (.aload_n 0, 1) := by decide +kernel
theorem d_GraphSearch_lay_190 : decode b_GraphSearch_lay 190 = .ok (.getfield 30, 3) := by decide +kernel
theorem d_GraphSearch_lay_193 : decode b_GraphSearch_lay 193 = .ok (.iload 10, 2) := by decide +kernel
theorem d_GraphSearch_lay_195 : decode b_GraphSearch_lay 195 = .ok (.iconst 1, 1) := by decide +kernel
theorem d_GraphSearch_lay_196 : decode b_GraphSearch_lay 196 = .ok (.iadd, 1) := by decide +kernel
theorem d_GraphSearch_lay_197 : decode b_GraphSearch_lay 197 = .ok (.iaload, 1) := by decide +kernel
theorem d_GraphSearch_lay_198 : decode b_GraphSearch_lay 198 = .ok (.ior, 1) := by decide +kernel
theorem d_GraphSearch_lay_199 : decode b_GraphSearch_lay 199 = .ok (.iload 6, 2) := by decide +kernel
theorem d_GraphSearch_lay_201 : decode b_GraphSearch_lay 201 = .ok (.iconst 1, 1) := by decide +kernel
theorem d_GraphSearch_lay_202 : decode b_GraphSearch_lay 202 = .ok (.iadd, 1) := by decide +kernel
theorem d_GraphSearch_lay_203 : decode b_GraphSearch_lay 203 = .ok (.invokevirtual 199, 3) := by decide +kernel
theorem d_GraphSearch_lay_206 : decode b_GraphSearch_lay 206 = .ok (.iinc 10 1, 3) := by decide +kernel
theorem d_GraphSearch_lay_209 : decode b_GraphSearch_lay 209 = .ok (.goto (-111), 3) := by decide +kernel
theorem d_GraphSearch_lay_212 : decode b_GraphSearch_lay 212 = .ok (.return_, 1) := by decide +kernel
theorem d_GraphSearch_stands_0 : decode b_GraphSearch_stands 0 = .ok (.aload_n 0, 1) := by decide +kernel
theorem d_GraphSearch_stands_1 : decode b_GraphSearch_stands 1 = .ok (.getfield 56, 3) := by decide +kernel
theorem d_GraphSearch_stands_4 : decode b_GraphSearch_stands 4 = .ok (.lookupswitch 50 #[(0, 28), (3, 45)], 28) := by decide +kernel
theorem d_GraphSearch_stands_32 : decode b_GraphSearch_stands 32 = .ok (.aload_n 0, 1) := by decide +kernel
theorem d_GraphSearch_stands_33 : decode b_GraphSearch_stands 33 = .ok (.aload_n 0, 1) := by decide +kernel
theorem d_GraphSearch_stands_34 : decode b_GraphSearch_stands 34 = .ok (.getfield 21, 3) := by decide +kernel
theorem d_GraphSearch_stands_37 : decode b_GraphSearch_stands 37 = .ok (.aload_n 0, 1) := by decide +kernel
theorem d_GraphSearch_stands_38 : decode b_GraphSearch_stands 38 = .ok (.getfield 39, 3) := by decide +kernel
theorem d_GraphSearch_stands_41 : decode b_GraphSearch_stands 41 = .ok (.aload_n 0, 1) := by decide +kernel
theorem d_GraphSearch_stands_42 : decode b_GraphSearch_stands 42 = .ok (.getfield 190, 3) := by decide +kernel
theorem d_GraphSearch_stands_45 : decode b_GraphSearch_stands 45 = .ok (.invokevirtual 218, 3) := by decide +kernel
theorem d_GraphSearch_stands_48 : decode b_GraphSearch_stands 48 = .ok (.ireturn, 1) := by decide +kernel
theorem d_GraphSearch_stands_49 : decode b_GraphSearch_stands 49 = .ok (.aload_n 0, 1) := by decide +kernel
theorem d_GraphSearch_stands_50 : decode b_GraphSearch_stands 50 = .ok (.invokevirtual 222, 3) := by decide +kernel
theorem d_GraphSearch_stands_53 : decode b_GraphSearch_stands 53 = .ok (.ireturn, 1) := by decide +kernel
theorem d_GraphSearch_stands_54 : decode b_GraphSearch_stands 54 = .ok (.aload_n 0, 1) := by decide +kernel
theorem d_GraphSearch_stands_55 : decode b_GraphSearch_stands 55 = .ok (.invokevirtual 225, 3) := by decide +kernel
theorem d_GraphSearch_stands_58 : decode b_GraphSearch_stands 58 = .ok (.aload_n 0, 1) := by decide +kernel
theorem d_GraphSearch_stands_59 : decode b_GraphSearch_stands 59 = .ok (.aload_n 0, 1) := by decide +kernel
theorem d_GraphSearch_stands_60 : decode b_GraphSearch_stands 60 = .ok (.getfield 24, 3) := by decide +kernel
theorem d_GraphSearch_stands_63 : decode b_GraphSearch_stands 63 = .ok (.aload_n 0, 1) := by decide +kernel
theorem d_GraphSearch_stands_64 : decode b_GraphSearch_stands 64 = .ok (.getfield 39, 3) := by decide +kernel
theorem d_GraphSearch_stands_67 : decode b_GraphSearch_stands 67 = .ok (.aload_n 0, 1) := by decide +kernel
theorem d_GraphSearch_stands_68 : decode b_GraphSearch_stands 68 = .ok (.getfield 190, 3) := by decide +kernel
theorem d_GraphSearch_stands_71 : decode b_GraphSearch_stands 71 = .ok (.aload_n 0, 1) := by decide +kernel
theorem d_GraphSearch_stands_72 : decode b_GraphSearch_stands 72 = .ok (.getfield 48, 3) := by decide +kernel
theorem d_GraphSearch_stands_75 : decode b_GraphSearch_stands 75 = .ok (.getfield 181, 3) := by decide +kernel
theorem d_GraphSearch_stands_78 : decode b_GraphSearch_stands 78 = .ok (.iconst 4, 1) := by decide +kernel
theorem d_GraphSearch_stands_79 : decode b_GraphSearch_stands 79 = .ok (.iaload, 1) := by decide +kernel
theorem d_GraphSearch_stands_80 : decode b_GraphSearch_stands 80 = .ok (.iconst (-1), 1) := by decide +kernel
theorem d_GraphSearch_stands_81 : decode b_GraphSearch_stands 81 = .ok (.ixor, 1) := by decide +kernel
theorem d_GraphSearch_stands_82 : decode b_GraphSearch_stands 82 = .ok (.iand, 1) := by decide +kernel
theorem d_GraphSearch_stands_83 : decode b_GraphSearch_stands 83 = .ok (.invokevirtual 218, 3) := by decide +kernel
theorem d_GraphSearch_stands_86 : decode b_GraphSearch_stands 86 = .ok (.ifCond .eq 26, 3) := by decide +kernel
theorem d_GraphSearch_stands_89 : decode b_GraphSearch_stands 89 = .ok (.aload_n 0, 1) := by decide +kernel
theorem d_GraphSearch_stands_90 : decode b_GraphSearch_stands 90 = .ok (.aload_n 0, 1) := by decide +kernel
theorem d_GraphSearch_stands_91 : decode b_GraphSearch_stands 91 = .ok (.getfield 27, 3) := by decide +kernel
theorem d_GraphSearch_stands_94 : decode b_GraphSearch_stands 94 = .ok (.aload_n 0, 1) := by decide +kernel
theorem d_GraphSearch_stands_95 : decode b_GraphSearch_stands 95 = .ok (.getfield 42, 3) := by decide +kernel
theorem d_GraphSearch_stands_98 : decode b_GraphSearch_stands 98 = .ok (.aload_n 0, 1) := by decide +kernel
theorem d_GraphSearch_stands_99 : decode b_GraphSearch_stands 99 = .ok (.getfield 190, 3) := by decide +kernel
theorem d_GraphSearch_stands_102 : decode b_GraphSearch_stands 102 = .ok (.invokevirtual 218, 3) := by decide +kernel
theorem d_GraphSearch_stands_105 : decode b_GraphSearch_stands 105 = .ok (.ifCond .eq 7, 3) := by decide +kernel
theorem d_GraphSearch_stands_108 : decode b_GraphSearch_stands 108 = .ok (.iconst 1, 1) := by decide +kernel
theorem d_GraphSearch_stands_109 : decode b_GraphSearch_stands 109 = .ok (.goto 4, 3) := by decide +kernel
theorem d_GraphSearch_stands_112 : decode b_GraphSearch_stands 112 = .ok (.iconst 0, 1) := by decide +kernel
theorem d_GraphSearch_stands_113 : decode b_GraphSearch_stands 113 = .ok (.ireturn, 1) := by decide +kernel
theorem d_GraphSearch_tellOuter_0 : decode b_GraphSearch_tellOuter 0 = .ok (.iconst 0, 1) := by decide +kernel
theorem d_GraphSearch_tellOuter_1 : decode b_GraphSearch_tellOuter 1 = .ok (.istore_n 1, 1) := by decide +kernel
theorem d_GraphSearch_tellOuter_2 : decode b_GraphSearch_tellOuter 2 = .ok (.iload_n 1, 1) := by decide +kernel
theorem d_GraphSearch_tellOuter_3 : decode b_GraphSearch_tellOuter 3 = .ok (.aload_n 0, 1) := by decide +kernel
theorem d_GraphSearch_tellOuter_4 : decode b_GraphSearch_tellOuter 4 = .ok (.getfield 48, 3) := by decide +kernel
theorem d_GraphSearch_tellOuter_7 : decode b_GraphSearch_tellOuter 7 = .ok (.getfield 78, 3) := by decide +kernel
theorem d_GraphSearch_tellOuter_10 : decode b_GraphSearch_tellOuter 10 = .ok (.if_icmp .ge 72, 3) := by decide +kernel
theorem d_GraphSearch_tellOuter_13 : decode b_GraphSearch_tellOuter 13 = .ok (.aload_n 0, 1) := by decide +kernel
theorem d_GraphSearch_tellOuter_14 : decode b_GraphSearch_tellOuter 14 = .ok (.getfield 48, 3) := by decide +kernel
theorem d_GraphSearch_tellOuter_17 : decode b_GraphSearch_tellOuter 17 = .ok (.getfield 90, 3) := by decide +kernel
theorem d_GraphSearch_tellOuter_20 : decode b_GraphSearch_tellOuter 20 = .ok (.iload_n 1, 1) := by decide +kernel
theorem d_GraphSearch_tellOuter_21 : decode b_GraphSearch_tellOuter 21 = .ok (.iaload, 1) := by decide +kernel
theorem d_GraphSearch_tellOuter_22 : decode b_GraphSearch_tellOuter 22 = .ok (.ifCond .ne 7, 3) := by decide +kernel
theorem d_GraphSearch_tellOuter_25 : decode b_GraphSearch_tellOuter 25 = .ok (.iconst 1, 1) := by decide +kernel
theorem d_GraphSearch_tellOuter_26 : decode b_GraphSearch_tellOuter 26 = .ok (.goto 4, 3) := by decide +kernel
theorem d_GraphSearch_tellOuter_29 : decode b_GraphSearch_tellOuter 29 = .ok (.iconst 0, 1) := by decide +kernel
theorem d_GraphSearch_tellOuter_30 : decode b_GraphSearch_tellOuter 30 = .ok (.istore_n 2, 1) := by decide +kernel
theorem d_GraphSearch_tellOuter_31 : decode b_GraphSearch_tellOuter 31 = .ok (.aload_n 0, 1) := by decide +kernel
theorem d_GraphSearch_tellOuter_32 : decode b_GraphSearch_tellOuter 32 = .ok (.getfield 42, 3) := by decide +kernel
theorem d_GraphSearch_tellOuter_35 : decode b_GraphSearch_tellOuter 35 = .ok (.iload_n 1, 1) := by decide +kernel
theorem d_GraphSearch_tellOuter_36 : decode b_GraphSearch_tellOuter 36 = .ok (.iload_n 2, 1) := by decide +kernel
theorem d_GraphSearch_tellOuter_37 : decode b_GraphSearch_tellOuter 37 = .ok (.ifCond .eq 32, 3) := by decide +kernel
theorem d_GraphSearch_tellOuter_40 : decode b_GraphSearch_tellOuter 40 = .ok (.aload_n 0, 1) := by decide +kernel
theorem d_GraphSearch_tellOuter_41 : decode b_GraphSearch_tellOuter 41 = .ok (.getfield 39, 3) := by decide +kernel
theorem d_GraphSearch_tellOuter_44 : decode b_GraphSearch_tellOuter 44 = .ok (.iload_n 1, 1) := by decide +kernel
theorem d_GraphSearch_tellOuter_45 : decode b_GraphSearch_tellOuter 45 = .ok (.iaload, 1) := by decide +kernel
theorem d_GraphSearch_tellOuter_46 : decode b_GraphSearch_tellOuter 46 = .ok (.aload_n 0, 1) := by decide +kernel
theorem d_GraphSearch_tellOuter_47 : decode b_GraphSearch_tellOuter 47 = .ok (.getfield 48, 3) := by decide +kernel
theorem d_GraphSearch_tellOuter_50 : decode b_GraphSearch_tellOuter 50 = .ok (.getfield 228, 3) := by decide +kernel
theorem d_GraphSearch_tellOuter_53 : decode b_GraphSearch_tellOuter 53 = .ok (.aload_n 0, 1) := by decide +kernel
theorem d_GraphSearch_tellOuter_54 : decode b_GraphSearch_tellOuter 54 = .ok (.getfield 48, 3) := by decide +kernel
theorem d_GraphSearch_tellOuter_57 : decode b_GraphSearch_tellOuter 57 = .ok (.getfield 153, 3) := by decide +kernel
theorem d_GraphSearch_tellOuter_60 : decode b_GraphSearch_tellOuter 60 = .ok (.iload_n 1, 1) := by decide +kernel
theorem d_GraphSearch_tellOuter_61 : decode b_GraphSearch_tellOuter 61 = .ok (.iaload, 1) := by decide +kernel
theorem d_GraphSearch_tellOuter_62 : decode b_GraphSearch_tellOuter 62 = .ok (.iaload, 1) := by decide +kernel
theorem d_GraphSearch_tellOuter_63 : decode b_GraphSearch_tellOuter 63 = .ok (.iconst (-1), 1) := by decide +kernel
theorem d_GraphSearch_tellOuter_64 : decode b_GraphSearch_tellOuter 64 = .ok (.ixor, 1) := by decide +kernel
theorem d_GraphSearch_tellOuter_65 : decode b_GraphSearch_tellOuter 65 = .ok (.iand, 1) := by decide +kernel
theorem d_GraphSearch_tellOuter_66 : decode b_GraphSearch_tellOuter 66 = .ok (.goto 9, 3) := by decide +kernel
theorem d_GraphSearch_tellOuter_69 : decode b_GraphSearch_tellOuter 69 = .ok (.aload_n 0, 1) := by decide +kernel
theorem d_GraphSearch_tellOuter_70 : decode b_GraphSearch_tellOuter 70 = .ok (.getfield 39, 3) := by decide +kernel
theorem d_GraphSearch_tellOuter_73 : decode b_GraphSearch_tellOuter 73 = .ok (.iload_n 1, 1) := by decide +kernel
theorem d_GraphSearch_tellOuter_74 : decode b_GraphSearch_tellOuter 74 = .ok (.iaload, 1) := by decide +kernel
theorem d_GraphSearch_tellOuter_75 : decode b_GraphSearch_tellOuter 75 = .ok (.iastore, 1) := by decide +kernel
theorem d_GraphSearch_tellOuter_76 : decode b_GraphSearch_tellOuter 76 = .ok (.iinc 1 1, 3) := by decide +kernel
theorem d_GraphSearch_tellOuter_79 : decode b_GraphSearch_tellOuter 79 = .ok (.goto (-77), 3) := by decide +kernel
theorem d_GraphSearch_tellOuter_82 : decode b_GraphSearch_tellOuter 82 = .ok (.return_, 1) := by decide +kernel
theorem d_GraphSearch_hasNoRing_0 : decode b_GraphSearch_hasNoRing 0 = .ok (.iload_n 3, 1) := by decide +kernel
theorem d_GraphSearch_hasNoRing_1 : decode b_GraphSearch_hasNoRing 1 = .ok (.istore 4, 2) := by decide +kernel
theorem d_GraphSearch_hasNoRing_3 : decode b_GraphSearch_hasNoRing 3 = .ok (.iconst 0, 1) := by decide +kernel
theorem d_GraphSearch_hasNoRing_4 : decode b_GraphSearch_hasNoRing 4 = .ok (.istore 5, 2) := by decide +kernel
theorem d_GraphSearch_hasNoRing_6 : decode b_GraphSearch_hasNoRing 6 = .ok (.iload 5, 2) := by decide +kernel
theorem d_GraphSearch_hasNoRing_8 : decode b_GraphSearch_hasNoRing 8 = .ok (.bipush 7, 2) := by decide +kernel
theorem d_GraphSearch_hasNoRing_10 : decode b_GraphSearch_hasNoRing 10 = .ok (.if_icmp .ge 61, 3) := by decide +kernel
theorem d_GraphSearch_hasNoRing_13 : decode b_GraphSearch_hasNoRing 13 = .ok (.iload 4, 2) := by decide +kernel
theorem d_GraphSearch_hasNoRing_15 : decode b_GraphSearch_hasNoRing 15 = .ok (.ifCond .eq 56, 3) := by decide +kernel
theorem d_GraphSearch_hasNoRing_18 : decode b_GraphSearch_hasNoRing 18 = .ok (.iconst 0, 1) := by decide +kernel
theorem d_GraphSearch_hasNoRing_19 : decode b_GraphSearch_hasNoRing 19 = .ok (.istore 6, 2) := by decide +kernel
theorem d_GraphSearch_hasNoRing_21 : decode b_GraphSearch_hasNoRing 21 = .ok (.iload 6, 2) := by decide +kernel
theorem d_GraphSearch_hasNoRing_23 : decode b_GraphSearch_hasNoRing 23 = .ok (.aload_n 0, 1) := by decide +kernel
theorem d_GraphSearch_hasNoRing_24 : decode b_GraphSearch_hasNoRing 24 = .ok (.getfield 48, 3) := by decide +kernel
theorem d_GraphSearch_hasNoRing_27 : decode b_GraphSearch_hasNoRing 27 = .ok (.getfield 78, 3) := by decide +kernel
theorem d_GraphSearch_hasNoRing_30 : decode b_GraphSearch_hasNoRing 30 = .ok (.if_icmp .ge 35, 3) := by decide +kernel
theorem d_GraphSearch_hasNoRing_33 : decode b_GraphSearch_hasNoRing 33 = .ok (.aload_n 1, 1) := by decide +kernel
theorem d_GraphSearch_hasNoRing_34 : decode b_GraphSearch_hasNoRing 34 = .ok (.iload 6, 2) := by decide +kernel
theorem d_GraphSearch_hasNoRing_36 : decode b_GraphSearch_hasNoRing 36 = .ok (.iaload, 1) := by decide +kernel
theorem d_GraphSearch_hasNoRing_37 : decode b_GraphSearch_hasNoRing 37 = .ok (.aload_n 2, 1) := by decide +kernel
theorem d_GraphSearch_hasNoRing_38 : decode b_GraphSearch_hasNoRing 38 = .ok (.iload 6, 2) := by decide +kernel
theorem d_GraphSearch_hasNoRing_40 : decode b_GraphSearch_hasNoRing 40 = .ok (.iaload, 1) := by decide +kernel
theorem d_GraphSearch_hasNoRing_41 : decode b_GraphSearch_hasNoRing 41 = .ok (.ior, 1) := by decide +kernel
theorem d_GraphSearch_hasNoRing_42 : decode b_GraphSearch_hasNoRing 42 = .ok (.iload 4, 2) := by decide +kernel
theorem d_GraphSearch_hasNoRing_44 : decode b_GraphSearch_hasNoRing 44 = .ok (.iand, 1) := by decide +kernel
theorem d_GraphSearch_hasNoRing_45 : decode b_GraphSearch_hasNoRing 45 = .ok (.ifCond .ne 14, 3) := by decide +kernel
theorem d_GraphSearch_hasNoRing_48 : decode b_GraphSearch_hasNoRing 48 = .ok (.iload 4, 2) := by decide +kernel
theorem d_GraphSearch_hasNoRing_50 : decode b_GraphSearch_hasNoRing 50 = .ok (.iconst 1, 1) := by decide +kernel
theorem d_GraphSearch_hasNoRing_51 : decode b_GraphSearch_hasNoRing 51 = .ok (.iload 6, 2) := by decide +kernel
theorem d_GraphSearch_hasNoRing_53 : decode b_GraphSearch_hasNoRing 53 = .ok (.ishl, 1) := by decide +kernel
theorem d_GraphSearch_hasNoRing_54 : decode b_GraphSearch_hasNoRing 54 = .ok (.iconst (-1), 1) := by decide +kernel
theorem d_GraphSearch_hasNoRing_55 : decode b_GraphSearch_hasNoRing 55 = .ok (.ixor, 1) := by decide +kernel
theorem d_GraphSearch_hasNoRing_56 : decode b_GraphSearch_hasNoRing 56 = .ok (.iand, 1) := by decide +kernel
theorem d_GraphSearch_hasNoRing_57 : decode b_GraphSearch_hasNoRing 57 = .ok (.istore 4, 2) := by decide +kernel
theorem d_GraphSearch_hasNoRing_59 : decode b_GraphSearch_hasNoRing 59 = .ok (.iinc 6 1, 3) := by decide +kernel
theorem d_GraphSearch_hasNoRing_62 : decode b_GraphSearch_hasNoRing 62 = .ok (.goto (-41), 3) := by decide +kernel
theorem d_GraphSearch_hasNoRing_65 : decode b_GraphSearch_hasNoRing 65 = .ok (.iinc 5 1, 3) := by decide +kernel
theorem d_GraphSearch_hasNoRing_68 : decode b_GraphSearch_hasNoRing 68 = .ok (.goto (-62), 3) := by decide +kernel
theorem d_GraphSearch_hasNoRing_71 : decode b_GraphSearch_hasNoRing 71 = .ok (.iload 4, 2) := by decide +kernel
theorem d_GraphSearch_hasNoRing_73 : decode b_GraphSearch_hasNoRing 73 = .ok (.ifCond .ne 7, 3) := by decide +kernel
theorem d_GraphSearch_hasNoRing_76 : decode b_GraphSearch_hasNoRing 76 = .ok (.iconst 1, 1) := by decide +kernel
theorem d_GraphSearch_hasNoRing_77 : decode b_GraphSearch_hasNoRing 77 = .ok (.goto 4, 3) := by decide +kernel
theorem d_GraphSearch_hasNoRing_80 : decode b_GraphSearch_hasNoRing 80 = .ok (.iconst 0, 1) := by decide +kernel
theorem d_GraphSearch_hasNoRing_81 : decode b_GraphSearch_hasNoRing 81 = .ok (.ireturn, 1) := by decide +kernel
theorem d_GraphSearch_closeHappens_0 : decode b_GraphSearch_closeHappens 0 = .ok (.iconst 0, 1) := by decide +kernel
theorem d_GraphSearch_closeHappens_1 : decode b_GraphSearch_closeHappens 1 = .ok (.istore_n 1, 1) := by decide +kernel
theorem d_GraphSearch_closeHappens_2 : decode b_GraphSearch_closeHappens 2 = .ok (.iload_n 1, 1) := by decide +kernel
theorem d_GraphSearch_closeHappens_3 : decode b_GraphSearch_closeHappens 3 = .ok (.aload_n 0, 1) := by decide +kernel
theorem d_GraphSearch_closeHappens_4 : decode b_GraphSearch_closeHappens 4 = .ok (.getfield 48, 3) := by decide +kernel
theorem d_GraphSearch_closeHappens_7 : decode b_GraphSearch_closeHappens 7 = .ok (.getfield 78, 3) := by decide +kernel
theorem d_GraphSearch_closeHappens_10 : decode b_GraphSearch_closeHappens 10 = .ok (.if_icmp .ge 88, 3) := by decide +kernel
theorem d_GraphSearch_closeHappens_13 : decode b_GraphSearch_closeHappens 13 = .ok (.aload_n 0, 1) := by decide +kernel
theorem d_GraphSearch_closeHappens_14 : decode b_GraphSearch_closeHappens 14 = .ok (.getfield 45, 3) := by decide +kernel
theorem d_GraphSearch_closeHappens_17 : decode b_GraphSearch_closeHappens 17 = .ok (.iload_n 1, 1) := by decide +kernel
theorem d_GraphSearch_closeHappens_18 : decode b_GraphSearch_closeHappens 18 = .ok (.aload_n 0, 1) := by decide +kernel
theorem d_GraphSearch_closeHappens_19 : decode b_GraphSearch_closeHappens 19 = .ok (.getfield 48, 3) := by decide +kernel
theorem d_GraphSearch_closeHappens_22 : decode b_GraphSearch_closeHappens 22 = .ok (.iload_n 1, 1) := by decide +kernel
theorem d_GraphSearch_closeHappens_23 : decode b_GraphSearch_closeHappens 23 = .ok (.invokevirtual 178, 3) := by decide +kernel
theorem d_GraphSearch_closeHappens_26 : decode b_GraphSearch_closeHappens 26 = .ok (.aload_n 0, 1) := by decide +kernel
theorem d_GraphSearch_closeHappens_27 : decode b_GraphSearch_closeHappens 27 = .ok (.getfield 190, 3) := by decide +kernel
theorem d_GraphSearch_closeHappens_30 : decode b_GraphSearch_closeHappens 30 = .ok (.iand, 1) := by decide +kernel
theorem d_GraphSearch_closeHappens_31 : decode b_GraphSearch_closeHappens 31 = .ok (.aload_n 0, 1) := by decide +kernel
theorem d_GraphSearch_closeHappens_32 : decode b_GraphSearch_closeHappens 32 = .ok (.getfield 30, 3) := by decide +kernel
theorem d_GraphSearch_closeHappens_35 : decode b_GraphSearch_closeHappens 35 = .ok (.iload_n 1, 1) := by decide +kernel
theorem d_GraphSearch_closeHappens_36 : decode b_GraphSearch_closeHappens 36 = .ok (.iconst 1, 1) := by decide +kernel
theorem d_GraphSearch_closeHappens_37 : decode b_GraphSearch_closeHappens 37 = .ok (.iadd, 1) := by decide +kernel
theorem d_GraphSearch_closeHappens_38 : decode b_GraphSearch_closeHappens 38 = .ok (.iaload, 1) := by decide +kernel
theorem d_GraphSearch_closeHappens_39 : decode b_GraphSearch_closeHappens 39 = .ok (.ior, 1) := by decide +kernel
theorem d_GraphSearch_closeHappens_40 : decode b_GraphSearch_closeHappens 40 = .ok (.iastore, 1) := by decide +kernel
theorem d_GraphSearch_closeHappens_41 : decode b_GraphSearch_closeHappens 41 = .ok (.aload_n 0, 1) := by decide +kernel
theorem d_GraphSearch_closeHappens_42 : decode b_GraphSearch_closeHappens 42 = .ok (.getfield 48, 3) := by decide +kernel
theorem d_GraphSearch_closeHappens_45 : decode b_GraphSearch_closeHappens 45 = .ok (.getfield 90, 3) := by decide +kernel
theorem d_GraphSearch_closeHappens_48 : decode b_GraphSearch_closeHappens 48 = .ok (.iload_n 1, 1) := by decide +kernel
theorem d_GraphSearch_closeHappens_49 : decode b_GraphSearch_closeHappens 49 = .ok (.iaload, 1) := by decide +kernel
theorem d_GraphSearch_closeHappens_50 : decode b_GraphSearch_closeHappens 50 = .ok (.iconst 4, 1) := by decide +kernel
theorem d_GraphSearch_closeHappens_51 : decode b_GraphSearch_closeHappens 51 = .ok (.if_icmp .ne 41, 3) := by decide +kernel
theorem d_GraphSearch_closeHappens_54 : decode b_GraphSearch_closeHappens 54 = .ok (.aload_n 0, 1) := by decide +kernel
theorem d_GraphSearch_closeHappens_55 : decode b_GraphSearch_closeHappens 55 = .ok (.getfield 39, 3) := by decide +kernel
theorem d_GraphSearch_closeHappens_58 : decode b_GraphSearch_closeHappens 58 = .ok (.iload_n 1, 1) := by decide +kernel
theorem d_GraphSearch_closeHappens_59 : decode b_GraphSearch_closeHappens 59 = .ok (.iaload, 1) := by decide +kernel
theorem d_GraphSearch_closeHappens_60 : decode b_GraphSearch_closeHappens 60 = .ok (.iconst 1, 1) := by decide +kernel
theorem d_GraphSearch_closeHappens_61 : decode b_GraphSearch_closeHappens 61 = .ok (.iload_n 1, 1) := by decide +kernel
theorem d_GraphSearch_closeHappens_62 : decode b_GraphSearch_closeHappens 62 = .ok (.ishl, 1) := by decide +kernel
theorem d_GraphSearch_closeHappens_63 : decode b_GraphSearch_closeHappens 63 = .ok (.ior, 1) := by decide +kernel
theorem d_GraphSearch_closeHappens_64 : decode b_GraphSearch_closeHappens 64 = .ok (.istore_n 2, 1) := by decide +kernel
theorem d_GraphSearch_closeHappens_65 : decode b_GraphSearch_closeHappens 65 = .ok (.aload_n 0, 1) := by decide +kernel
theorem d_GraphSearch_closeHappens_66 : decode b_GraphSearch_closeHappens 66 = .ok (.getfield 45, 3) := by decide +kernel
theorem d_GraphSearch_closeHappens_69 : decode b_GraphSearch_closeHappens 69 = .ok (.iload_n 1, 1) := by decide +kernel
theorem d_GraphSearch_closeHappens_70 : decode b_GraphSearch_closeHappens 70 = .ok (.dup2, 1) := by decide +kernel
theorem d_GraphSearch_closeHappens_71 : decode b_GraphSearch_closeHappens 71 = .ok (.iaload, 1) := by decide +kernel
theorem d_GraphSearch_closeHappens_72 : decode b_GraphSearch_closeHappens 72 = .ok (.aload_n 0, 1) := by decide +kernel
theorem d_GraphSearch_closeHappens_73 : decode b_GraphSearch_closeHappens 73 = .ok (.getfield 190, 3) := by decide +kernel
theorem d_GraphSearch_closeHappens_76 : decode b_GraphSearch_closeHappens 76 = .ok (.aload_n 0, 1) := by decide +kernel
theorem d_GraphSearch_closeHappens_77 : decode b_GraphSearch_closeHappens 77 = .ok (.getfield 48, 3) := by decide +kernel
theorem d_GraphSearch_closeHappens_80 : decode b_GraphSearch_closeHappens 80 = .ok (.getfield 181, 3) := by decide +kernel
theorem d_GraphSearch_closeHappens_83 : decode b_GraphSearch_closeHappens 83 = .ok (.iconst 4, 1) := by decide +kernel
theorem d_GraphSearch_closeHappens_84 : decode b_GraphSearch_closeHappens 84 = .ok (.iaload, 1) := by decide +kernel
theorem d_GraphSearch_closeHappens_85 : decode b_GraphSearch_closeHappens 85 = .ok (.iand, 1) := by decide +kernel
theorem d_GraphSearch_closeHappens_86 : decode b_GraphSearch_closeHappens 86 = .ok (.iload_n 2, 1) := by decide +kernel
theorem d_GraphSearch_closeHappens_87 : decode b_GraphSearch_closeHappens 87 = .ok (.iconst (-1), 1) := by decide +kernel
theorem d_GraphSearch_closeHappens_88 : decode b_GraphSearch_closeHappens 88 = .ok (.ixor, 1) := by decide +kernel
theorem d_GraphSearch_closeHappens_89 : decode b_GraphSearch_closeHappens 89 = .ok (.iand, 1) := by decide +kernel
theorem d_GraphSearch_closeHappens_90 : decode b_GraphSearch_closeHappens 90 = .ok (.ior, 1) := by decide +kernel
theorem d_GraphSearch_closeHappens_91 : decode b_GraphSearch_closeHappens 91 = .ok (.iastore, 1) := by decide +kernel
theorem d_GraphSearch_closeHappens_92 : decode b_GraphSearch_closeHappens 92 = .ok (.iinc 1 1, 3) := by decide +kernel
theorem d_GraphSearch_closeHappens_95 : decode b_GraphSearch_closeHappens 95 = .ok (.goto (-93), 3) := by decide +kernel
theorem d_GraphSearch_closeHappens_98 : decode b_GraphSearch_closeHappens 98 = .ok (.iconst 0, 1) := by decide +kernel
theorem d_GraphSearch_closeHappens_99 : decode b_GraphSearch_closeHappens 99 = .ok (.istore_n 1, 1) := by decide +kernel
theorem d_GraphSearch_closeHappens_100 : decode b_GraphSearch_closeHappens 100 = .ok (.iload_n 1, 1) := by decide +kernel
theorem d_GraphSearch_closeHappens_101 : decode b_GraphSearch_closeHappens 101 = .ok (.aload_n 0, 1) := by decide +kernel
theorem d_GraphSearch_closeHappens_102 : decode b_GraphSearch_closeHappens 102 = .ok (.getfield 48, 3) := by decide +kernel
theorem d_GraphSearch_closeHappens_105 : decode b_GraphSearch_closeHappens 105 = .ok (.getfield 78, 3) := by decide +kernel
theorem d_GraphSearch_closeHappens_108 : decode b_GraphSearch_closeHappens 108 = .ok (.if_icmp .ge 56, 3) := by decide +kernel
theorem d_GraphSearch_closeHappens_111 : decode b_GraphSearch_closeHappens 111 = .ok (.iconst 0, 1) := by decide +kernel
theorem d_GraphSearch_closeHappens_112 : decode b_GraphSearch_closeHappens 112 = .ok (.istore_n 2, 1) := by decide +kernel
theorem d_GraphSearch_closeHappens_113 : decode b_GraphSearch_closeHappens 113 = .ok (.iload_n 2, 1) := by decide +kernel
theorem d_GraphSearch_closeHappens_114 : decode b_GraphSearch_closeHappens 114 = .ok (.aload_n 0, 1) := by decide +kernel
theorem d_GraphSearch_closeHappens_115 : decode b_GraphSearch_closeHappens 115 = .ok (.getfield 48, 3) := by decide +kernel
theorem d_GraphSearch_closeHappens_118 : decode b_GraphSearch_closeHappens 118 = .ok (.getfield 78, 3) := by decide +kernel
theorem d_GraphSearch_closeHappens_121 : decode b_GraphSearch_closeHappens 121 = .ok (.if_icmp .ge 37, 3) := by decide +kernel
theorem d_GraphSearch_closeHappens_124 : decode b_GraphSearch_closeHappens 124 = .ok (.aload_n 0, 1) := by decide +kernel
theorem d_GraphSearch_closeHappens_125 : decode b_GraphSearch_closeHappens 125 = .ok (.getfield 45, 3) := by decide +kernel
theorem d_GraphSearch_closeHappens_128 : decode b_GraphSearch_closeHappens 128 = .ok (.iload_n 2, 1) := by decide +kernel
theorem d_GraphSearch_closeHappens_129 : decode b_GraphSearch_closeHappens 129 = .ok (.iaload, 1) := by decide +kernel
theorem d_GraphSearch_closeHappens_130 : decode b_GraphSearch_closeHappens 130 = .ok (.iload_n 1, 1) := by decide +kernel
theorem d_GraphSearch_closeHappens_131 : decode b_GraphSearch_closeHappens 131 = .ok (.invokestatic 166, 3) := by decide +kernel
theorem d_GraphSearch_closeHappens_134 : decode b_GraphSearch_closeHappens 134 = .ok (.ifCond .eq 18, 3) := by decide +kernel
theorem d_GraphSearch_closeHappens_137 : decode b_GraphSearch_closeHappens 137 = .ok (.aload_n 0, 1) := by decide +kernel
theorem d_GraphSearch_closeHappens_138 : decode b_GraphSearch_closeHappens 138 = .ok (.getfield 45, 3) := by decide +kernel
theorem d_GraphSearch_closeHappens_141 : decode b_GraphSearch_closeHappens 141 = .ok (.iload_n 2, 1) := by decide +kernel
theorem d_GraphSearch_closeHappens_142 : decode b_GraphSearch_closeHappens 142 = .ok (.dup2, 1) := by decide +kernel
theorem d_GraphSearch_closeHappens_143 : decode b_GraphSearch_closeHappens 143 = .ok (.iaload, 1) := by decide +kernel
theorem d_GraphSearch_closeHappens_144 : decode b_GraphSearch_closeHappens 144 = .ok (.aload_n 0, 1) := by decide +kernel
theorem d_GraphSearch_closeHappens_145 : decode b_GraphSearch_closeHappens 145 = .ok (.getfield 45, 3) := by decide +kernel
theorem d_GraphSearch_closeHappens_148 : decode b_GraphSearch_closeHappens 148 = .ok (.iload_n 1, 1) := by decide +kernel
theorem d_GraphSearch_closeHappens_149 : decode b_GraphSearch_closeHappens 149 = .ok (.iaload, 1) := by decide +kernel
theorem d_GraphSearch_closeHappens_150 : decode b_GraphSearch_closeHappens 150 = .ok (.ior, 1) := by decide +kernel
theorem d_GraphSearch_closeHappens_151 : decode b_GraphSearch_closeHappens 151 = .ok (.iastore, 1) := by decide +kernel
theorem d_GraphSearch_closeHappens_152 : decode b_GraphSearch_closeHappens 152 = .ok (.iinc 2 1, 3) := by decide +kernel
theorem d_GraphSearch_closeHappens_155 : decode b_GraphSearch_closeHappens 155 = .ok (.goto (-42), 3) := by decide +kernel
theorem d_GraphSearch_closeHappens_158 : decode b_GraphSearch_closeHappens 158 = .ok (.iinc 1 1, 3) := by decide +kernel
theorem d_GraphSearch_closeHappens_161 : decode b_GraphSearch_closeHappens 161 = .ok (.goto (-61), 3) := by decide +kernel
theorem d_GraphSearch_closeHappens_164 : decode b_GraphSearch_closeHappens 164 = .ok (.return_, 1) := by decide +kernel
theorem d_GraphSearch_isKnownInOrder_0 : decode b_GraphSearch_isKnownInOrder 0 = .ok (.iconst 0, 1) := by decide +kernel
theorem d_GraphSearch_isKnownInOrder_1 : decode b_GraphSearch_isKnownInOrder 1 = .ok (.istore_n 1, 1) := by decide +kernel
theorem d_GraphSearch_isKnownInOrder_2 : decode b_GraphSearch_isKnownInOrder 2 = .ok (.iload_n 1, 1) := by decide +kernel
theorem d_GraphSearch_isKnownInOrder_3 : decode b_GraphSearch_isKnownInOrder 3 = .ok (.aload_n 0, 1) := by decide +kernel
theorem d_GraphSearch_isKnownInOrder_4 : decode b_GraphSearch_isKnownInOrder 4 = .ok (.getfield 48, 3) := by decide +kernel
theorem d_GraphSearch_isKnownInOrder_7 : decode b_GraphSearch_isKnownInOrder 7 = .ok (.getfield 78, 3) := by decide +kernel
theorem d_GraphSearch_isKnownInOrder_10 : decode b_GraphSearch_isKnownInOrder 10 = .ok (.if_icmp .ge 38, 3) := by decide +kernel
theorem d_GraphSearch_isKnownInOrder_13 : decode b_GraphSearch_isKnownInOrder 13 = .ok (.aload_n 0, 1) := by decide +kernel
theorem d_GraphSearch_isKnownInOrder_14 : decode b_GraphSearch_isKnownInOrder 14 = .ok (.getfield 190, 3) := by decide +kernel
theorem d_GraphSearch_isKnownInOrder_17 : decode b_GraphSearch_isKnownInOrder 17 = .ok (.iload_n 1, 1) := by decide +kernel
theorem d_GraphSearch_isKnownInOrder_18 : decode b_GraphSearch_isKnownInOrder 18 = .ok (.invokestatic 166, 3) := by decide +kernel
theorem d_GraphSearch_isKnownInOrder_21 : decode b_GraphSearch_isKnownInOrder 21 = .ok (.ifCond .eq 21, 3) := by decide +kernel
theorem d_GraphSearch_isKnownInOrder_24 : decode b_GraphSearch_isKnownInOrder 24 = .ok (.aload_n 0, 1) := by decide +kernel
theorem d_GraphSearch_isKnownInOrder_25 : decode b_GraphSearch_isKnownInOrder 25 = .ok (.getfield 39, 3) := by decide +kernel
theorem d_GraphSearch_isKnownInOrder_28 : decode b_GraphSearch_isKnownInOrder 28 = .ok (.iload_n 1, 1) := by decide +kernel
theorem d_GraphSearch_isKnownInOrder_29 : decode b_GraphSearch_isKnownInOrder 29 = .ok (.iaload, 1) := by decide +kernel
theorem d_GraphSearch_isKnownInOrder_30 : decode b_GraphSearch_isKnownInOrder 30 = .ok (.aload_n 0, 1) := by decide +kernel
theorem d_GraphSearch_isKnownInOrder_31 : decode b_GraphSearch_isKnownInOrder 31 = .ok (.getfield 45, 3) := by decide +kernel
theorem d_GraphSearch_isKnownInOrder_34 : decode b_GraphSearch_isKnownInOrder 34 = .ok (.iload_n 1, 1) := by decide +kernel
theorem d_GraphSearch_isKnownInOrder_35 : decode b_GraphSearch_isKnownInOrder 35 = .ok (.iaload, 1) := by decide +kernel
theorem d_GraphSearch_isKnownInOrder_36 : decode b_GraphSearch_isKnownInOrder 36 = .ok (.iand, 1) := by decide +kernel
theorem d_GraphSearch_isKnownInOrder_37 : decode b_GraphSearch_isKnownInOrder 37 = .ok (.ifCond .eq 5, 3) := by decide +kernel
theorem d_GraphSearch_isKnownInOrder_40 : decode b_GraphSearch_isKnownInOrder 40 = .ok (.iconst 0, 1) := by decide +kernel
theorem d_GraphSearch_isKnownInOrder_41 : decode b_GraphSearch_isKnownInOrder 41 = .ok (.ireturn, 1) := by decide +kernel
theorem d_GraphSearch_isKnownInOrder_42 : decode b_GraphSearch_isKnownInOrder 42 = .ok (.iinc 1 1, 3) := by decide +kernel
theorem d_GraphSearch_isKnownInOrder_45 : decode b_GraphSearch_isKnownInOrder 45 = .ok (.goto (-43), 3) := by decide +kernel
theorem d_GraphSearch_isKnownInOrder_48 : decode b_GraphSearch_isKnownInOrder 48 = .ok (.iconst 1, 1) := by decide +kernel
theorem d_GraphSearch_isKnownInOrder_49 : decode b_GraphSearch_isKnownInOrder 49 = .ok (.ireturn, 1) := by decide +kernel
theorem d_KnowledgeWalk_init_0 : decode b_KnowledgeWalk_init 0 = .ok (.aload_n 0, 1) := by decide +kernel
theorem d_KnowledgeWalk_init_1 : decode b_KnowledgeWalk_init 1 = .ok (.invokespecial 3, 3) := by decide +kernel
theorem d_KnowledgeWalk_init_4 : decode b_KnowledgeWalk_init 4 = .ok (.aload_n 0, 1) := by decide +kernel
theorem d_KnowledgeWalk_init_5 : decode b_KnowledgeWalk_init 5 = .ok (.bipush 14, 2) := by decide +kernel
theorem d_KnowledgeWalk_init_7 : decode b_KnowledgeWalk_init 7 = .ok (.newarray .int, 2) := by decide +kernel
theorem d_KnowledgeWalk_init_9 : decode b_KnowledgeWalk_init 9 = .ok (.putfield 9, 3) := by decide +kernel
theorem d_KnowledgeWalk_init_12 : decode b_KnowledgeWalk_init 12 = .ok (.aload_n 0, 1) := by decide +kernel
theorem d_KnowledgeWalk_init_13 : decode b_KnowledgeWalk_init 13 = .ok (.iconst 4, 1) := by decide +kernel
theorem d_KnowledgeWalk_init_14 : decode b_KnowledgeWalk_init 14 = .ok (.newarray .int, 2) := by decide +kernel
theorem d_KnowledgeWalk_init_16 : decode b_KnowledgeWalk_init 16 = .ok (.putfield 15, 3) := by decide +kernel
theorem d_KnowledgeWalk_init_19 : decode b_KnowledgeWalk_init 19 = .ok (.aload_n 0, 1) := by decide +kernel
theorem d_KnowledgeWalk_init_20 : decode b_KnowledgeWalk_init 20 = .ok (.iconst 4, 1) := by decide +kernel
theorem d_KnowledgeWalk_init_21 : decode b_KnowledgeWalk_init 21 = .ok (.newarray .int, 2) := by decide +kernel
theorem d_KnowledgeWalk_init_23 : decode b_KnowledgeWalk_init 23 = .ok (.putfield 18, 3) := by decide +kernel
theorem d_KnowledgeWalk_init_26 : decode b_KnowledgeWalk_init 26 = .ok (.aload_n 0, 1) := by decide +kernel
theorem d_KnowledgeWalk_init_27 : decode b_KnowledgeWalk_init 27 = .ok (.iconst 4, 1) := by decide +kernel
theorem d_KnowledgeWalk_init_28 : decode b_KnowledgeWalk_init 28 = .ok (.newarray .int, 2) := by decide +kernel
theorem d_KnowledgeWalk_init_30 : decode b_KnowledgeWalk_init 30 = .ok (.putfield 21, 3) := by decide +kernel
theorem d_KnowledgeWalk_init_33 : decode b_KnowledgeWalk_init 33 = .ok (.aload_n 0, 1) := by decide +kernel
theorem d_KnowledgeWalk_init_34 : decode b_KnowledgeWalk_init 34 = .ok (.bipush 8, 2) := by decide +kernel
theorem d_KnowledgeWalk_init_36 : decode b_KnowledgeWalk_init 36 = .ok (.newarray .int, 2) := by decide +kernel
theorem d_KnowledgeWalk_init_38 : decode b_KnowledgeWalk_init 38 = .ok (.putfield 24, 3) := by decide +kernel
theorem d_KnowledgeWalk_init_41 : decode b_KnowledgeWalk_init 41 = .ok (.aload_n 0, 1) := by decide +kernel
theorem d_KnowledgeWalk_init_42 : decode b_KnowledgeWalk_init 42 = .ok (.aload_n 1, 1) := by decide +kernel
theorem d_KnowledgeWalk_init_43 : decode b_KnowledgeWalk_init 43 = .ok (.putfield 27, 3) := by decide +kernel
theorem d_KnowledgeWalk_init_46 : decode b_KnowledgeWalk_init 46 = .ok (.aload_n 0, 1) := by decide +kernel
theorem d_KnowledgeWalk_init_47 : decode b_KnowledgeWalk_init 47 = .ok (.aload_n 2, 1) := by decide +kernel
theorem d_KnowledgeWalk_init_48 : decode b_KnowledgeWalk_init 48 = .ok (.putfield 31, 3) := by decide +kernel
theorem d_KnowledgeWalk_init_51 : decode b_KnowledgeWalk_init 51 = .ok (.aload_n 0, 1) := by decide +kernel
theorem d_KnowledgeWalk_init_52 : decode b_KnowledgeWalk_init 52 = .ok (.aload_n 3, 1) := by decide +kernel
theorem d_KnowledgeWalk_init_53 : decode b_KnowledgeWalk_init 53 = .ok (.putfield 35, 3) := by decide +kernel
theorem d_KnowledgeWalk_init_56 : decode b_KnowledgeWalk_init 56 = .ok (.return_, 1) := by decide +kernel
theorem d_KnowledgeWalk_walk_0 : decode b_KnowledgeWalk_walk 0 = .ok (.aload_n 0, 1) := by decide +kernel
theorem d_KnowledgeWalk_walk_1 : decode b_KnowledgeWalk_walk 1 = .ok (.aload_n 1, 1) := by decide +kernel
theorem d_KnowledgeWalk_walk_2 : decode b_KnowledgeWalk_walk 2 = .ok (.putfield 39, 3) := by decide +kernel
theorem d_KnowledgeWalk_walk_5 : decode b_KnowledgeWalk_walk 5 = .ok (.aload_n 0, 1) := by decide +kernel
theorem d_KnowledgeWalk_walk_6 : decode b_KnowledgeWalk_walk 6 = .ok (.getfield 39, 3) := by decide +kernel
theorem d_KnowledgeWalk_walk_9 : decode b_KnowledgeWalk_walk 9 = .ok (.invokevirtual 43, 3) := by decide +kernel
theorem d_KnowledgeWalk_walk_12 : decode b_KnowledgeWalk_walk 12 = .ok (.aload_n 0, 1) := by decide +kernel
theorem d_KnowledgeWalk_walk_13 : decode b_KnowledgeWalk_walk 13 = .ok (.getfield 35, 3) := by decide +kernel
theorem d_KnowledgeWalk_walk_16 : decode b_KnowledgeWalk_walk 16 = .ok (.invokevirtual 48, 3) := by decide +kernel
theorem d_KnowledgeWalk_walk_19 : decode b_KnowledgeWalk_walk 19 = .ok (.aload_n 0, 1) := by decide +kernel
theorem d_KnowledgeWalk_walk_20 : decode b_KnowledgeWalk_walk 20 = .ok (.getfield 31, 3) := by decide +kernel
theorem d_KnowledgeWalk_walk_23 : decode b_KnowledgeWalk_walk 23 = .ok (.invokevirtual 53, 3) := by decide +kernel
theorem d_KnowledgeWalk_walk_26 : decode b_KnowledgeWalk_walk 26 = .ok (.aload_n 0, 1) := by decide +kernel
theorem d_KnowledgeWalk_walk_27 : decode b_KnowledgeWalk_walk 27 = .ok (.getfield 15, 3) := by decide +kernel
theorem d_KnowledgeWalk_walk_30 : decode b_KnowledgeWalk_walk 30 = .ok (.iconst 0, 1) := by decide +kernel
theorem d_KnowledgeWalk_walk_31 : decode b_KnowledgeWalk_walk 31 = .ok (.invokestatic 56, 3) := by decide +kernel
theorem d_KnowledgeWalk_walk_34 : decode b_KnowledgeWalk_walk 34 = .ok (.aload_n 0, 1) := by decide +kernel
theorem d_KnowledgeWalk_walk_35 : decode b_KnowledgeWalk_walk 35 = .ok (.getfield 18, 3) := by decide +kernel
theorem d_KnowledgeWalk_walk_38 : decode b_KnowledgeWalk_walk 38 = .ok (.iconst 0, 1) := by decide +kernel
theorem d_KnowledgeWalk_walk_39 : decode b_KnowledgeWalk_walk 39 = .ok (.invokestatic 56, 3) := by decide +kernel
theorem d_KnowledgeWalk_walk_42 : decode b_KnowledgeWalk_walk 42 = .ok (.aload_n 0, 1) := by decide +kernel
theorem d_KnowledgeWalk_walk_43 : decode b_KnowledgeWalk_walk 43 = .ok (.getfield 21, 3) := by decide +kernel
theorem d_KnowledgeWalk_walk_46 : decode b_KnowledgeWalk_walk 46 = .ok (.iconst 0, 1) := by decide +kernel
theorem d_KnowledgeWalk_walk_47 : decode b_KnowledgeWalk_walk 47 = .ok (.invokestatic 56, 3) := by decide +kernel
theorem d_KnowledgeWalk_walk_50 : decode b_KnowledgeWalk_walk 50 = .ok (.aload_n 0, 1) := by decide +kernel
theorem d_KnowledgeWalk_walk_51 : decode b_KnowledgeWalk_walk 51 = .ok (.iconst 0, 1) := by decide +kernel
theorem d_KnowledgeWalk_walk_52 : decode b_KnowledgeWalk_walk 52 = .ok (.invokevirtual 62, 3) := by decide +kernel
theorem d_KnowledgeWalk_walk_55 : decode b_KnowledgeWalk_walk 55 = .ok (.return_, 1) := by decide +kernel
theorem d_KnowledgeWalk_spread_0 : decode b_KnowledgeWalk_spread 0 = .ok (.aload_n 0, 1) := by decide +kernel
theorem d_KnowledgeWalk_spread_1 : decode b_KnowledgeWalk_spread 1 = .ok (.getfield 35, 3) := by decide +kernel
theorem d_KnowledgeWalk_spread_4 : decode b_KnowledgeWalk_spread 4 = .ok (.aload_n 0, 1) := by decide +kernel
theorem d_KnowledgeWalk_spread_5 : decode b_KnowledgeWalk_spread 5 = .ok (.getfield 31, 3) := by decide +kernel
theorem d_KnowledgeWalk_spread_8 : decode b_KnowledgeWalk_spread 8 = .ok (.invokevirtual 66, 3) := by decide +kernel
theorem d_KnowledgeWalk_spread_11 : decode b_KnowledgeWalk_spread 11 = .ok (.bipush 21, 2) := by decide +kernel
theorem d_KnowledgeWalk_spread_13 : decode b_KnowledgeWalk_spread 13 = .ok (.lshl, 1) := by decide +kernel
theorem d_KnowledgeWalk_spread_14 : decode b_KnowledgeWalk_spread 14 = .ok (.aload_n 0, 1) := by decide +kernel
theorem d_KnowledgeWalk_spread_15 : decode b_KnowledgeWalk_spread 15 = .ok (.invokevirtual 70, 3) := by decide +kernel
theorem d_KnowledgeWalk_spread_18 : decode b_KnowledgeWalk_spread 18 = .ok (.lor, 1) := by decide +kernel
theorem d_KnowledgeWalk_spread_19 : decode b_KnowledgeWalk_spread 19 = .ok (.invokevirtual 73, 3) := by decide +kernel
theorem d_KnowledgeWalk_spread_22 : decode b_KnowledgeWalk_spread 22 = .ok (.ifCond .ne 4, 3) := by decide +kernel
theorem d_KnowledgeWalk_spread_25 : decode b_KnowledgeWalk_spread 25 = .ok (.return_, 1) := by decide +kernel
theorem d_KnowledgeWalk_spread_26 : decode b_KnowledgeWalk_spread 26 = .ok (.iconst 1, 1) := by decide +kernel
theorem d_KnowledgeWalk_spread_27 : decode b_KnowledgeWalk_spread 27 = .ok (.istore_n 2, 1) := by decide +kernel
theorem d_KnowledgeWalk_spread_28 : decode b_KnowledgeWalk_spread 28 = .ok (.iconst 0, 1) := by decide +kernel
theorem d_KnowledgeWalk_spread_29 : decode b_KnowledgeWalk_spread 29 = .ok (.istore_n 3, 1) := by decide +kernel
theorem d_KnowledgeWalk_spread_30 : decode b_KnowledgeWalk_spread 30 = .ok (.iload_n 3, 1) := by decide +kernel
theorem d_KnowledgeWalk_spread_31 : decode b_KnowledgeWalk_spread 31 = .ok (.aload_n 0, 1) := by decide +kernel
theorem d_KnowledgeWalk_spread_32 : decode b_KnowledgeWalk_spread 32 = .ok (.getfield 27, 3) := by decide +kernel
theorem d_KnowledgeWalk_spread_35 : decode b_KnowledgeWalk_spread 35 = .ok (.getfield 77, 3) := by decide +kernel
theorem d_KnowledgeWalk_spread_38 : decode b_KnowledgeWalk_spread 38 = .ok (.if_icmp .ge 34, 3) := by decide +kernel
theorem d_KnowledgeWalk_spread_41 : decode b_KnowledgeWalk_spread 41 = .ok (.aload_n 0, 1) := by decide +kernel
theorem d_KnowledgeWalk_spread_42 : decode b_KnowledgeWalk_spread 42 = .ok (.getfield 31, 3) := by decide +kernel
theorem d_KnowledgeWalk_spread_45 : decode b_KnowledgeWalk_spread 45 = .ok (.iload_n 3, 1) := by decide +kernel
theorem d_KnowledgeWalk_spread_46 : decode b_KnowledgeWalk_spread 46 = .ok (.invokevirtual 83, 3) := by decide +kernel
theorem d_KnowledgeWalk_spread_49 : decode b_KnowledgeWalk_spread 49 = .ok (.istore 4, 2) := by decide +kernel
theorem d_KnowledgeWalk_spread_51 : decode b_KnowledgeWalk_spread 51 = .ok (.iload 4, 2) := by decide +kernel
theorem d_KnowledgeWalk_spread_53 : decode b_KnowledgeWalk_spread 53 = .ok (.iconst (-1), 1) := by decide +kernel
theorem d_KnowledgeWalk_spread_54 : decode b_KnowledgeWalk_spread 54 = .ok (.if_icmp .eq 12, 3) := by decide +kernel
theorem d_KnowledgeWalk_spread_57 : decode b_KnowledgeWalk_spread 57 = .ok (.iconst 0, 1) := by decide +kernel
theorem d_KnowledgeWalk_spread_58 : decode b_KnowledgeWalk_spread 58 = .ok (.istore_n 2, 1) := by decide +kernel
theorem d_KnowledgeWalk_spread_59 : decode b_KnowledgeWalk_spread 59 = .ok (.aload_n 0, 1) := by decide +kernel
theorem d_KnowledgeWalk_spread_60 : decode b_KnowledgeWalk_spread 60 = .ok (.iload 4, 2) := by decide +kernel
theorem d_KnowledgeWalk_spread_62 : decode b_KnowledgeWalk_spread 62 = .ok (.iload_n 1, 1) := by decide +kernel
theorem d_KnowledgeWalk_spread_63 : decode b_KnowledgeWalk_spread 63 = .ok (.invokevirtual 87, 3) := by decide +kernel
theorem d_KnowledgeWalk_spread_66 : decode b_KnowledgeWalk_spread 66 = .ok (.iinc 3 1, 3) := by decide +kernel
theorem d_KnowledgeWalk_spread_69 : decode b_KnowledgeWalk_spread 69 = .ok (.goto (-39), 3) := by decide +kernel
theorem d_KnowledgeWalk_spread_72 : decode b_KnowledgeWalk_spread 72 = .ok (.iload_n 2, 1) := by decide +kernel
theorem d_KnowledgeWalk_spread_73 : decode b_KnowledgeWalk_spread 73 = .ok (.ifCond .eq 46, 3) := by decide +kernel
theorem d_KnowledgeWalk_spread_76 : decode b_KnowledgeWalk_spread 76 = .ok (.aload_n 0, 1) := by decide +kernel
theorem d_KnowledgeWalk_spread_77 : decode b_KnowledgeWalk_spread 77 = .ok (.getfield 31, 3) := by decide +kernel
theorem d_KnowledgeWalk_spread_80 : decode b_KnowledgeWalk_spread 80 = .ok (.aload_n 0, 1) := by decide +kernel
theorem d_KnowledgeWalk_spread_81 : decode b_KnowledgeWalk_spread 81 = .ok (.iconst 0, 1) := by decide +kernel
theorem d_KnowledgeWalk_spread_82 : decode b_KnowledgeWalk_spread 82 = .ok (.invokevirtual 91, 3) := by decide +kernel
theorem d_KnowledgeWalk_spread_85 : decode b_KnowledgeWalk_spread 85 = .ok (.aload_n 0, 1) := by decide +kernel
theorem d_KnowledgeWalk_spread_86 : decode b_KnowledgeWalk_spread 86 = .ok (.iconst 1, 1) := by decide +kernel
theorem d_KnowledgeWalk_spread_87 : decode b_KnowledgeWalk_spread 87 = .ok (.invokevirtual 91, 3) := by decide +kernel
theorem d_KnowledgeWalk_spread_90 : decode b_KnowledgeWalk_spread 90 = .ok (.aload_n 0, 1) := by decide +kernel
theorem d_KnowledgeWalk_spread_91 : decode b_KnowledgeWalk_spread 91 = .ok (.iconst 2, 1) := by decide +kernel
theorem d_KnowledgeWalk_spread_92 : decode b_KnowledgeWalk_spread 92 = .ok (.invokevirtual 91, 3) := by decide +kernel
theorem d_KnowledgeWalk_spread_95 : decode b_KnowledgeWalk_spread 95 = .ok (.invokevirtual 94, 3) := by decide +kernel
theorem d_KnowledgeWalk_spread_98 : decode b_KnowledgeWalk_spread 98 = .ok (.istore_n 3, 1) := by decide +kernel
theorem d_KnowledgeWalk_spread_99 : decode b_KnowledgeWalk_spread 99 = .ok (.aload_n 0, 1) := by decide +kernel
theorem d_KnowledgeWalk_spread_100 : decode b_KnowledgeWalk_spread 100 = .ok (.getfield 39, 3) := by decide +kernel
theorem d_KnowledgeWalk_spread_103 : decode b_KnowledgeWalk_spread 103 = .ok (.aload_n 0, 1) := by decide +kernel
theorem d_KnowledgeWalk_spread_104 : decode b_KnowledgeWalk_spread 104 = .ok (.getfield 31, 3) := by decide +kernel
theorem d_KnowledgeWalk_spread_107 : decode b_KnowledgeWalk_spread 107 = .ok (.invokevirtual 98, 3) := by decide +kernel
theorem d_KnowledgeWalk_spread_110 : decode b_KnowledgeWalk_spread 110 = .ok (.iload_n 3, 1) := by decide +kernel
theorem d_KnowledgeWalk_spread_111 : decode b_KnowledgeWalk_spread 111 = .ok (.aload_n 0, 1) := by decide +kernel
theorem d_KnowledgeWalk_spread_112 : decode b_KnowledgeWalk_spread 112 = .ok (.getfield 9, 3) := by decide +kernel
theorem d_KnowledgeWalk_spread_115 : decode b_KnowledgeWalk_spread 115 = .ok (.iload_n 1, 1) := by decide +kernel
theorem d_KnowledgeWalk_spread_116 : decode b_KnowledgeWalk_spread 116 = .ok (.invokevirtual 101, 3) := by decide +kernel
theorem d_KnowledgeWalk_spread_119 : decode b_KnowledgeWalk_spread 119 = .ok (.return_, 1) := by decide +kernel
theorem d_KnowledgeWalk_rowsKey_0 : decode b_KnowledgeWalk_rowsKey 0 = .ok (.lconst 0, 1) := by decide +kernel
theorem d_KnowledgeWalk_rowsKey_1 : decode b_KnowledgeWalk_rowsKey 1 = .ok (.lstore_n 1, 1) := by decide +kernel
theorem d_KnowledgeWalk_rowsKey_2 : decode b_KnowledgeWalk_rowsKey 2 = .ok (.iconst 0, 1) := by decide +kernel
theorem d_KnowledgeWalk_rowsKey_3 : decode b_KnowledgeWalk_rowsKey 3 = .ok (.istore_n 3, 1) := by decide +kernel
theorem d_KnowledgeWalk_rowsKey_4 : decode b_KnowledgeWalk_rowsKey 4 = .ok (.iload_n 3, 1) := by decide +kernel
theorem d_KnowledgeWalk_rowsKey_5 : decode b_KnowledgeWalk_rowsKey 5 = .ok (.iconst 4, 1) := by decide +kernel
theorem d_KnowledgeWalk_rowsKey_6 : decode b_KnowledgeWalk_rowsKey 6 = .ok (.if_icmp .ge 28, 3) := by decide +kernel
theorem d_KnowledgeWalk_rowsKey_9 : decode b_KnowledgeWalk_rowsKey 9 = .ok (.lload_n 1, 1) := by decide +kernel
theorem d_KnowledgeWalk_rowsKey_10 : decode b_KnowledgeWalk_rowsKey 10 = .ok (.iconst 3, 1) := by decide +kernel
theorem d_KnowledgeWalk_rowsKey_11 : decode b_KnowledgeWalk_rowsKey 11 = .ok (.aload_n 0, 1) := by decide +kernel
theorem d_KnowledgeWalk_rowsKey_12 : decode b_KnowledgeWalk_rowsKey 12 = .ok (.getfield 18, 3) := by decide +kernel
theorem d_KnowledgeWalk_rowsKey_15 : decode b_KnowledgeWalk_rowsKey 15 = .ok (.iload_n 3, 1) := by decide +kernel
theorem d_KnowledgeWalk_rowsKey_16 : decode b_KnowledgeWalk_rowsKey 16 = .ok (.iaload, 1) := by decide +kernel
theorem d_KnowledgeWalk_rowsKey_17 : decode b_KnowledgeWalk_rowsKey 17 = .ok (.imul, 1) := by decide +kernel
theorem d_KnowledgeWalk_rowsKey_18 : decode b_KnowledgeWalk_rowsKey 18 = .ok (.lshl, 1) := by decide +kernel
theorem d_KnowledgeWalk_rowsKey_19 : decode b_KnowledgeWalk_rowsKey 19 = .ok (.aload_n 0, 1) := by decide +kernel
theorem d_KnowledgeWalk_rowsKey_20 : decode b_KnowledgeWalk_rowsKey 20 = .ok (.getfield 15, 3) := by decide +kernel
theorem d_KnowledgeWalk_rowsKey_23 : decode b_KnowledgeWalk_rowsKey 23 = .ok (.iload_n 3, 1) := by decide +kernel
theorem d_KnowledgeWalk_rowsKey_24 : decode b_KnowledgeWalk_rowsKey 24 = .ok (.iaload, 1) := by decide +kernel
theorem d_KnowledgeWalk_rowsKey_25 : decode b_KnowledgeWalk_rowsKey 25 = .ok (.i2l, 1) := by decide +kernel
theorem d_KnowledgeWalk_rowsKey_26 : decode b_KnowledgeWalk_rowsKey 26 = .ok (.lor, 1) := by decide +kernel
theorem d_KnowledgeWalk_rowsKey_27 : decode b_KnowledgeWalk_rowsKey 27 = .ok (.lstore_n 1, 1) := by decide +kernel
theorem d_KnowledgeWalk_rowsKey_28 : decode b_KnowledgeWalk_rowsKey 28 = .ok (.iinc 3 1, 3) := by decide +kernel
theorem d_KnowledgeWalk_rowsKey_31 : decode b_KnowledgeWalk_rowsKey 31 = .ok (.goto (-27), 3) := by decide +kernel
theorem d_KnowledgeWalk_rowsKey_34 : decode b_KnowledgeWalk_rowsKey 34 = .ok (.lload_n 1, 1) := by decide +kernel
theorem d_KnowledgeWalk_rowsKey_35 : decode b_KnowledgeWalk_rowsKey 35 = .ok (.lreturn, 1) := by decide +kernel
theorem d_KnowledgeWalk_sourceAt_0 : decode b_KnowledgeWalk_sourceAt 0 = .ok (.iload_n 2, 1) := by decide +kernel
theorem d_KnowledgeWalk_sourceAt_1 : decode b_KnowledgeWalk_sourceAt 1 = .ok (.iconst 1, 1) := by decide +kernel
theorem d_KnowledgeWalk_sourceAt_2 : decode b_KnowledgeWalk_sourceAt 2 = .ok (.if_icmp .lt 13, 3) := by decide +kernel
theorem d_KnowledgeWalk_sourceAt_5 : decode b_KnowledgeWalk_sourceAt 5 = .ok (.iload_n 2, 1) := by decide +kernel
theorem d_KnowledgeWalk_sourceAt_6 : decode b_KnowledgeWalk_sourceAt 6 = .ok (.aload_n 0, 1) := by decide +kernel
theorem d_KnowledgeWalk_sourceAt_7 : decode b_KnowledgeWalk_sourceAt 7 = .ok (.getfield 18, 3) := by decide +kernel
theorem d_KnowledgeWalk_sourceAt_10 : decode b_KnowledgeWalk_sourceAt 10 = .ok (.iload_n 1, 1) := by decide +kernel
theorem d_KnowledgeWalk_sourceAt_11 : decode b_KnowledgeWalk_sourceAt 11 = .ok (.iaload, 1) := by decide +kernel
theorem d_KnowledgeWalk_sourceAt_12 : decode b_KnowledgeWalk_sourceAt 12 = .ok (.if_icmp .le 5, 3) := by decide +kernel
theorem d_KnowledgeWalk_sourceAt_15 : decode b_KnowledgeWalk_sourceAt 15 = .ok (.iconst 0, 1) := by decide +kernel
theorem d_KnowledgeWalk_sourceAt_16 : decode b_KnowledgeWalk_sourceAt 16 = .ok (.ireturn, 1) := by decide +kernel
theorem d_KnowledgeWalk_sourceAt_17 : decode b_KnowledgeWalk_sourceAt 17 = .ok (.aload_n 0, 1) := by decide +kernel
theorem d_KnowledgeWalk_sourceAt_18 : decode b_KnowledgeWalk_sourceAt 18 = .ok (.getfield 15, 3) := by decide +kernel
theorem d_KnowledgeWalk_sourceAt_21 : decode b_KnowledgeWalk_sourceAt 21 = .ok (.iload_n 1, 1) := by decide +kernel
theorem d_KnowledgeWalk_sourceAt_22 : decode b_KnowledgeWalk_sourceAt 22 = .ok (.iaload, 1) := by decide +kernel
theorem d_KnowledgeWalk_sourceAt_23 : decode b_KnowledgeWalk_sourceAt 23 = .ok (.iconst 3, 1) := by decide +kernel
theorem d_KnowledgeWalk_sourceAt_24 : decode b_KnowledgeWalk_sourceAt 24 = .ok (.iload_n 2, 1) := by decide +kernel
theorem d_KnowledgeWalk_sourceAt_25 : decode b_KnowledgeWalk_sourceAt 25 = .ok (.iconst 1, 1) := by decide +kernel
theorem d_KnowledgeWalk_sourceAt_26 : decode b_KnowledgeWalk_sourceAt 26 = .ok (.isub, 1) := by decide +kernel
theorem d_KnowledgeWalk_sourceAt_27 : decode b_KnowledgeWalk_sourceAt 27 = .ok (.imul, 1) := by decide +kernel
theorem d_KnowledgeWalk_sourceAt_28 : decode b_KnowledgeWalk_sourceAt 28 = .ok (.ishr, 1) := by decide +kernel
theorem d_KnowledgeWalk_sourceAt_29 : decode b_KnowledgeWalk_sourceAt 29 = .ok (.bipush 7, 2) := by decide +kernel
theorem d_KnowledgeWalk_sourceAt_31 : decode b_KnowledgeWalk_sourceAt 31 = .ok (.iand, 1) := by decide +kernel
theorem d_KnowledgeWalk_sourceAt_32 : decode b_KnowledgeWalk_sourceAt 32 = .ok (.ireturn, 1) := by decide +kernel
theorem d_KnowledgeWalk_lastIn_0 : decode b_KnowledgeWalk_lastIn 0 = .ok (.aload_n 0, 1) := by decide +kernel
theorem d_KnowledgeWalk_lastIn_1 : decode b_KnowledgeWalk_lastIn 1 = .ok (.iload_n 1, 1) := by decide +kernel
theorem d_KnowledgeWalk_lastIn_2 : decode b_KnowledgeWalk_lastIn 2 = .ok (.aload_n 0, 1) := by decide +kernel
theorem d_KnowledgeWalk_lastIn_3 : decode b_KnowledgeWalk_lastIn 3 = .ok (.getfield 18, 3) := by decide +kernel
theorem d_KnowledgeWalk_lastIn_6 : decode b_KnowledgeWalk_lastIn 6 = .ok (.iload_n 1, 1) := by decide +kernel
theorem d_KnowledgeWalk_lastIn_7 : decode b_KnowledgeWalk_lastIn 7 = .ok (.iaload, 1) := by decide +kernel
theorem d_KnowledgeWalk_lastIn_8 : decode b_KnowledgeWalk_lastIn 8 = .ok (.invokevirtual 127, 3) := by decide +kernel
theorem d_KnowledgeWalk_lastIn_11 : decode b_KnowledgeWalk_lastIn 11 = .ok (.ireturn, 1) := by decide +kernel
theorem d_OutcomeSet_init_0 : decode b_OutcomeSet_init 0 = .ok (.aload_n 0, 1) := by decide +kernel
theorem d_OutcomeSet_init_1 : decode b_OutcomeSet_init 1 = .ok (.invokespecial 3, 3) := by decide +kernel
theorem d_OutcomeSet_init_4 : decode b_OutcomeSet_init 4 = .ok (.aload_n 0, 1) := by decide +kernel
theorem d_OutcomeSet_init_5 : decode b_OutcomeSet_init 5 = .ok (.iconst 0, 1) := by decide +kernel
theorem d_OutcomeSet_init_6 : decode b_OutcomeSet_init 6 = .ok (.newarray .long, 2) := by decide +kernel
theorem d_OutcomeSet_init_8 : decode b_OutcomeSet_init 8 = .ok (.putfield 9, 3) := by decide +kernel
theorem d_OutcomeSet_init_11 : decode b_OutcomeSet_init 11 = .ok (.aload_n 0, 1) := by decide +kernel
theorem d_OutcomeSet_init_12 : decode b_OutcomeSet_init 12 = .ok (.iconst 0, 1) := by decide +kernel
theorem d_OutcomeSet_init_13 : decode b_OutcomeSet_init 13 = .ok (.newarray .int, 2) := by decide +kernel
theorem d_OutcomeSet_init_15 : decode b_OutcomeSet_init 15 = .ok (.putfield 15, 3) := by decide +kernel
theorem d_OutcomeSet_init_18 : decode b_OutcomeSet_init 18 = .ok (.aload_n 0, 1) := by decide +kernel
theorem d_OutcomeSet_init_19 : decode b_OutcomeSet_init 19 = .ok (.iconst 0, 1) := by decide +kernel
theorem d_OutcomeSet_init_20 : decode b_OutcomeSet_init 20 = .ok (.newarray .int, 2) := by decide +kernel
theorem d_OutcomeSet_init_22 : decode b_OutcomeSet_init 22 = .ok (.putfield 19, 3) := by decide +kernel
theorem d_OutcomeSet_init_25 : decode b_OutcomeSet_init 25 = .ok (.aload_n 0, 1) := by decide +kernel
theorem d_OutcomeSet_init_26 : decode b_OutcomeSet_init 26 = .ok (.iconst 0, 1) := by decide +kernel
theorem d_OutcomeSet_init_27 : decode b_OutcomeSet_init 27 = .ok (.newarray .int, 2) := by decide +kernel
theorem d_OutcomeSet_init_29 : decode b_OutcomeSet_init 29 = .ok (.putfield 22, 3) := by decide +kernel
theorem d_OutcomeSet_init_32 : decode b_OutcomeSet_init 32 = .ok (.aload_n 0, 1) := by decide +kernel
theorem d_OutcomeSet_init_33 : decode b_OutcomeSet_init 33 = .ok (.iconst 0, 1) := by decide +kernel
theorem d_OutcomeSet_init_34 : decode b_OutcomeSet_init 34 = .ok (.newarray .int, 2) := by decide +kernel
theorem d_OutcomeSet_init_36 : decode b_OutcomeSet_init 36 = .ok (.putfield 25, 3) := by decide +kernel
theorem d_OutcomeSet_init_39 : decode b_OutcomeSet_init 39 = .ok (.aload_n 0, 1) := by decide +kernel
theorem d_OutcomeSet_init_40 : decode b_OutcomeSet_init 40 = .ok (.iload_n 1, 1) := by decide +kernel
theorem d_OutcomeSet_init_41 : decode b_OutcomeSet_init 41 = .ok (.putfield 28, 3) := by decide +kernel
theorem d_OutcomeSet_init_44 : decode b_OutcomeSet_init 44 = .ok (.return_, 1) := by decide +kernel
theorem d_OutcomeSet_begin_0 : decode b_OutcomeSet_begin 0 = .ok (.aload_n 0, 1) := by decide +kernel
theorem d_OutcomeSet_begin_1 : decode b_OutcomeSet_begin 1 = .ok (.iconst 0, 1) := by decide +kernel
theorem d_OutcomeSet_begin_2 : decode b_OutcomeSet_begin 2 = .ok (.putfield 32, 3) := by decide +kernel
theorem d_OutcomeSet_begin_5 : decode b_OutcomeSet_begin 5 = .ok (.aload_n 0, 1) := by decide +kernel
theorem d_OutcomeSet_begin_6 : decode b_OutcomeSet_begin 6 = .ok (.iconst 0, 1) := by decide +kernel
theorem d_OutcomeSet_begin_7 : decode b_OutcomeSet_begin 7 = .ok (.putfield 35, 3) := by decide +kernel
theorem d_OutcomeSet_begin_10 : decode b_OutcomeSet_begin 10 = .ok (.return_, 1) := by decide +kernel
theorem d_OutcomeSet_addGraph_0 : decode b_OutcomeSet_addGraph 0 = .ok (.aload_n 0, 1) := by decide +kernel
theorem d_OutcomeSet_addGraph_1 : decode b_OutcomeSet_addGraph 1 = .ok (.dup, 1) := by decide +kernel
theorem d_OutcomeSet_addGraph_2 : decode b_OutcomeSet_addGraph 2 = .ok (.getfield 35, 3) := by decide +kernel
theorem d_OutcomeSet_addGraph_5 : decode b_OutcomeSet_addGraph 5 = .ok (.iconst 1, 1) := by decide +kernel
theorem d_OutcomeSet_addGraph_6 : decode b_OutcomeSet_addGraph 6 = .ok (.iadd, 1) := by decide +kernel
theorem d_OutcomeSet_addGraph_7 : decode b_OutcomeSet_addGraph 7 = .ok (.putfield 35, 3) := by decide +kernel
theorem d_OutcomeSet_addGraph_10 : decode b_OutcomeSet_addGraph 10 = .ok (.aload_n 0, 1) := by decide +kernel
theorem d_OutcomeSet_addGraph_11 : decode b_OutcomeSet_addGraph 11 = .ok (.lload_n 1, 1) := by decide +kernel
theorem d_OutcomeSet_addGraph_12 : decode b_OutcomeSet_addGraph 12 = .ok (.iload_n 3, 1) := by decide +kernel
theorem d_OutcomeSet_addGraph_13 : decode b_OutcomeSet_addGraph 13 = .ok (.invokevirtual 38, 3) := by decide +kernel
theorem d_OutcomeSet_addGraph_16 : decode b_OutcomeSet_addGraph 16 = .ok (.pop, 1) := by decide +kernel
theorem d_OutcomeSet_addGraph_17 : decode b_OutcomeSet_addGraph 17 = .ok (.return_, 1) := by decide +kernel
theorem d_OutcomeSet_addRun_0 : decode b_OutcomeSet_addRun 0 = .ok (.aload_n 0, 1) := by decide +kernel
theorem d_OutcomeSet_addRun_1 : decode b_OutcomeSet_addRun 1 = .ok (.lload_n 1, 1) := by decide +kernel
theorem d_OutcomeSet_addRun_2 : decode b_OutcomeSet_addRun 2 = .ok (.iload_n 3, 1) := by decide +kernel
theorem d_OutcomeSet_addRun_3 : decode b_OutcomeSet_addRun 3 = .ok (.invokevirtual 38, 3) := by decide +kernel
theorem d_OutcomeSet_addRun_6 : decode b_OutcomeSet_addRun 6 = .ok (.ifCond .ne 4, 3) := by decide +kernel
theorem d_OutcomeSet_addRun_9 : decode b_OutcomeSet_addRun 9 = .ok (.return_, 1) := by decide +kernel
theorem d_OutcomeSet_addRun_10 : decode b_OutcomeSet_addRun 10 = .ok (.aload_n 0, 1) := by decide +kernel
theorem d_OutcomeSet_addRun_11 : decode b_OutcomeSet_addRun 11 = .ok (.getfield 32, 3) := by decide +kernel
theorem d_OutcomeSet_addRun_14 : decode b_OutcomeSet_addRun 14 = .ok (.iconst 1, 1) := by decide +kernel
theorem d_OutcomeSet_addRun_15 : decode b_OutcomeSet_addRun 15 = .ok (.isub, 1) := by decide +kernel
theorem d_OutcomeSet_addRun_16 : decode b_OutcomeSet_addRun 16 = .ok (.istore 6, 2) := by decide +kernel
theorem d_OutcomeSet_addRun_18 : decode b_OutcomeSet_addRun 18 = .ok (.aload_n 0, 1) := by decide +kernel
theorem d_OutcomeSet_addRun_19 : decode b_OutcomeSet_addRun 19 = .ok (.getfield 19, 3) := by decide +kernel
theorem d_OutcomeSet_addRun_22 : decode b_OutcomeSet_addRun 22 = .ok (.iload 6, 2) := by decide +kernel
theorem d_OutcomeSet_addRun_24 : decode b_OutcomeSet_addRun 24 = .ok (.iload 5, 2) := by decide +kernel
theorem d_OutcomeSet_addRun_26 : decode b_OutcomeSet_addRun 26 = .ok (.aload 4, 2) := by decide +kernel
theorem d_OutcomeSet_addRun_28 : decode b_OutcomeSet_addRun 28 = .ok (.arraylength, 1) := by decide +kernel
theorem d_OutcomeSet_addRun_29 : decode b_OutcomeSet_addRun 29 = .ok (.invokestatic 42, 3) := by decide +kernel
theorem d_OutcomeSet_addRun_32 : decode b_OutcomeSet_addRun 32 = .ok (.aload_n 0, 1) := by decide +kernel
theorem d_OutcomeSet_addRun_33 : decode b_OutcomeSet_addRun 33 = .ok (.getfield 28, 3) := by decide +kernel
theorem d_OutcomeSet_addRun_36 : decode b_OutcomeSet_addRun 36 = .ok (.invokestatic 42, 3) := by decide +kernel
theorem d_OutcomeSet_addRun_39 : decode b_OutcomeSet_addRun 39 = .ok (.iastore, 1) := by decide +kernel
theorem d_OutcomeSet_addRun_40 : decode b_OutcomeSet_addRun 40 = .ok (.iconst 0, 1) := by decide +kernel
theorem d_OutcomeSet_addRun_41 : decode b_OutcomeSet_addRun 41 = .ok (.istore 7, 2) := by decide +kernel
theorem d_OutcomeSet_addRun_43 : decode b_OutcomeSet_addRun 43 = .ok (.iload 7, 2) := by decide +kernel
theorem d_OutcomeSet_addRun_45 : decode b_OutcomeSet_addRun 45 = .ok (.aload_n 0, 1) := by decide +kernel
theorem d_OutcomeSet_addRun_46 : decode b_OutcomeSet_addRun 46 = .ok (.getfield 19, 3) := by decide +kernel
theorem d_OutcomeSet_addRun_49 : decode b_OutcomeSet_addRun 49 = .ok (.iload 6, 2) := by decide +kernel
theorem d_OutcomeSet_addRun_51 : decode b_OutcomeSet_addRun 51 = .ok (.iaload, 1) := by decide +kernel
theorem d_OutcomeSet_addRun_52 : decode b_OutcomeSet_addRun 52 = .ok (.if_icmp .ge 29, 3) := by decide +kernel
theorem d_OutcomeSet_addRun_55 : decode b_OutcomeSet_addRun 55 = .ok (.aload_n 0, 1) := by decide +kernel
theorem d_OutcomeSet_addRun_56 : decode b_OutcomeSet_addRun 56 = .ok (.getfield 22, 3) := by decide +kernel
theorem d_OutcomeSet_addRun_59 : decode b_OutcomeSet_addRun 59 = .ok (.iload 6, 2) := by decide +kernel
theorem d_OutcomeSet_addRun_61 : decode b_OutcomeSet_addRun 61 = .ok (.aload_n 0, 1) := by decide +kernel
theorem d_OutcomeSet_addRun_62 : decode b_OutcomeSet_addRun 62 = .ok (.getfield 28, 3) := by decide +kernel
theorem d_OutcomeSet_addRun_65 : decode b_OutcomeSet_addRun 65 = .ok (.imul, 1) := by decide +kernel
theorem d_OutcomeSet_addRun_66 : decode b_OutcomeSet_addRun 66 = .ok (.iload 7, 2) := by decide +kernel
theorem d_OutcomeSet_addRun_68 : decode b_OutcomeSet_addRun 68 = .ok (.iadd, 1) := by decide +kernel
theorem d_OutcomeSet_addRun_69 : decode b_OutcomeSet_addRun 69 = .ok (.aload 4, 2) := by decide +kernel
theorem d_OutcomeSet_addRun_71 : decode b_OutcomeSet_addRun 71 = .ok (.iload 7, 2) := by decide +kernel
theorem d_OutcomeSet_addRun_73 : decode b_OutcomeSet_addRun 73 = .ok (.iaload, 1) := by decide +kernel
theorem d_OutcomeSet_addRun_74 : decode b_OutcomeSet_addRun 74 = .ok (.iastore, 1) := by decide +kernel
theorem d_OutcomeSet_addRun_75 : decode b_OutcomeSet_addRun 75 = .ok (.iinc 7 1, 3) := by decide +kernel
theorem d_OutcomeSet_addRun_78 : decode b_OutcomeSet_addRun 78 = .ok (.goto (-35), 3) := by decide +kernel
theorem d_OutcomeSet_addRun_81 : decode b_OutcomeSet_addRun 81 = .ok (.return_, 1) := by decide +kernel
theorem d_OutcomeSet_add_0 : decode b_OutcomeSet_add 0 = .ok (.aload_n 0, 1) := by decide +kernel
theorem d_OutcomeSet_add_1 : decode b_OutcomeSet_add 1 = .ok (.lload_n 1, 1) := by decide +kernel
theorem d_OutcomeSet_add_2 : decode b_OutcomeSet_add 2 = .ok (.iload_n 3, 1) := by decide +kernel
theorem d_OutcomeSet_add_3 : decode b_OutcomeSet_add 3 = .ok (.invokevirtual 48, 3) := by decide +kernel
theorem d_OutcomeSet_add_6 : decode b_OutcomeSet_add 6 = .ok (.istore 4, 2) := by decide +kernel
theorem d_OutcomeSet_add_8 : decode b_OutcomeSet_add 8 = .ok (.aload_n 0, 1) := by decide +kernel
theorem d_OutcomeSet_add_9 : decode b_OutcomeSet_add 9 = .ok (.iload 4, 2) := by decide +kernel
theorem d_OutcomeSet_add_11 : decode b_OutcomeSet_add 11 = .ok (.lload_n 1, 1) := by decide +kernel
theorem d_OutcomeSet_add_12 : decode b_OutcomeSet_add 12 = .ok (.iload_n 3, 1) := by decide +kernel
theorem d_OutcomeSet_add_13 : decode b_OutcomeSet_add 13 = .ok (.invokevirtual 52, 3) := by decide +kernel
theorem d_OutcomeSet_add_16 : decode b_OutcomeSet_add 16 = .ok (.ifCond .eq 5, 3) := by decide +kernel
theorem d_OutcomeSet_add_19 : decode b_OutcomeSet_add 19 = .ok (.iconst 0, 1) := by decide +kernel
theorem d_OutcomeSet_add_20 : decode b_OutcomeSet_add 20 = .ok (.ireturn, 1) := by decide +kernel
theorem d_OutcomeSet_add_21 : decode b_OutcomeSet_add 21 = .ok (.aload_n 0, 1) := by decide +kernel
theorem d_OutcomeSet_add_22 : decode b_OutcomeSet_add 22 = .ok (.getfield 32, 3) := by decide +kernel
theorem d_OutcomeSet_add_25 : decode b_OutcomeSet_add 25 = .ok (.aload_n 0, 1) := by decide +kernel
theorem d_OutcomeSet_add_26 : decode b_OutcomeSet_add 26 = .ok (.getfield 25, 3) := by decide +kernel
theorem d_OutcomeSet_add_29 : decode b_OutcomeSet_add 29 = .ok (.arraylength, 1) := by decide +kernel
theorem d_OutcomeSet_add_30 : decode b_OutcomeSet_add 30 = .ok (.if_icmp .lt 7, 3) := by decide +kernel
theorem d_OutcomeSet_add_33 : decode b_OutcomeSet_add 33 = .ok (.aload_n 0, 1) := by decide +kernel
theorem d_OutcomeSet_add_34 : decode b_OutcomeSet_add 34 = .ok (.invokevirtual 56, 3) := by decide +kernel
theorem d_OutcomeSet_add_37 : decode b_OutcomeSet_add 37 = .ok (.aload_n 0, 1) := by decide +kernel
theorem d_OutcomeSet_add_38 : decode b_OutcomeSet_add 38 = .ok (.getfield 9, 3) := by decide +kernel
theorem d_OutcomeSet_add_41 : decode b_OutcomeSet_add 41 = .ok (.aload_n 0, 1) := by decide +kernel
theorem d_OutcomeSet_add_42 : decode b_OutcomeSet_add 42 = .ok (.getfield 32, 3) := by decide +kernel
theorem d_OutcomeSet_add_45 : decode b_OutcomeSet_add 45 = .ok (.lload_n 1, 1) := by decide +kernel
theorem d_OutcomeSet_add_46 : decode b_OutcomeSet_add 46 = .ok (.lastore, 1) := by decide +kernel
theorem d_OutcomeSet_add_47 : decode b_OutcomeSet_add 47 = .ok (.aload_n 0, 1) := by decide +kernel
theorem d_OutcomeSet_add_48 : decode b_OutcomeSet_add 48 = .ok (.getfield 15, 3) := by decide +kernel
theorem d_OutcomeSet_add_51 : decode b_OutcomeSet_add 51 = .ok (.aload_n 0, 1) := by decide +kernel
theorem d_OutcomeSet_add_52 : decode b_OutcomeSet_add 52 = .ok (.getfield 32, 3) := by decide +kernel
theorem d_OutcomeSet_add_55 : decode b_OutcomeSet_add 55 = .ok (.iload_n 3, 1) := by decide +kernel
theorem d_OutcomeSet_add_56 : decode b_OutcomeSet_add 56 = .ok (.iastore, 1) := by decide +kernel
theorem d_OutcomeSet_add_57 : decode b_OutcomeSet_add 57 = .ok (.aload_n 0, 1) := by decide +kernel
theorem d_OutcomeSet_add_58 : decode b_OutcomeSet_add 58 = .ok (.getfield 19, 3) := by decide +kernel
theorem d_OutcomeSet_add_61 : decode b_OutcomeSet_add 61 = .ok (.aload_n 0, 1) := by decide +kernel
theorem d_OutcomeSet_add_62 : decode b_OutcomeSet_add 62 = .ok (.getfield 32, 3) := by decide +kernel
theorem d_OutcomeSet_add_65 : decode b_OutcomeSet_add 65 = .ok (.iconst 0, 1) := by decide +kernel
theorem d_OutcomeSet_add_66 : decode b_OutcomeSet_add 66 = .ok (.iastore, 1) := by decide +kernel
theorem d_OutcomeSet_add_67 : decode b_OutcomeSet_add 67 = .ok (.aload_n 0, 1) := by decide +kernel
theorem d_OutcomeSet_add_68 : decode b_OutcomeSet_add 68 = .ok (.getfield 25, 3) := by decide +kernel
theorem d_OutcomeSet_add_71 : decode b_OutcomeSet_add 71 = .ok (.iload 4, 2) := by decide +kernel
theorem d_OutcomeSet_add_73 : decode b_OutcomeSet_add 73 = .ok (.aload_n 0, 1) := by decide +kernel
theorem d_OutcomeSet_add_74 : decode b_OutcomeSet_add 74 = .ok (.getfield 25, 3) := by decide +kernel
theorem d_OutcomeSet_add_77 : decode b_OutcomeSet_add 77 = .ok (.iload 4, 2) := by decide +kernel
theorem d_OutcomeSet_add_79 : decode b_OutcomeSet_add 79 = .ok (.iconst 1, 1) := by decide +kernel
theorem d_OutcomeSet_add_80 : decode b_OutcomeSet_add 80 = .ok (.iadd, 1) := by decide +kernel
theorem d_OutcomeSet_add_81 : decode b_OutcomeSet_add 81 = .ok (.aload_n 0, 1) := by decide +kernel
theorem d_OutcomeSet_add_82 : decode b_OutcomeSet_add 82 = .ok (.getfield 32, 3) := by decide +kernel
theorem d_OutcomeSet_add_85 : decode b_OutcomeSet_add 85 = .ok (.iload 4, 2) := by decide +kernel
theorem d_OutcomeSet_add_87 : decode b_OutcomeSet_add 87 = .ok (.isub, 1) := by decide +kernel
theorem d_OutcomeSet_add_88 : decode b_OutcomeSet_add 88 = .ok (.invokestatic 59, 3) := by decide +kernel
theorem d_OutcomeSet_add_91 : decode b_OutcomeSet_add 91 = .ok (.aload_n 0, 1) := by decide +kernel
theorem d_OutcomeSet_add_92 : decode b_OutcomeSet_add 92 = .ok (.getfield 25, 3) := by decide +kernel
theorem d_OutcomeSet_add_95 : decode b_OutcomeSet_add 95 = .ok (.iload 4, 2) := by decide +kernel
theorem d_OutcomeSet_add_97 : decode b_OutcomeSet_add 97 = .ok (.aload_n 0, 1) := by decide +kernel
theorem d_OutcomeSet_add_98 : decode b_OutcomeSet_add 98 = .ok (.getfield 32, 3) := by decide +kernel
theorem d_OutcomeSet_add_101 : decode b_OutcomeSet_add 101 = .ok (.iastore, 1) := by decide +kernel
theorem d_OutcomeSet_add_102 : decode b_OutcomeSet_add 102 = .ok (.aload_n 0, 1) := by decide +kernel
theorem d_OutcomeSet_add_103 : decode b_OutcomeSet_add 103 = .ok (.dup, 1) := by decide +kernel
theorem d_OutcomeSet_add_104 : decode b_OutcomeSet_add 104 = .ok (.getfield 32, 3) := by decide +kernel
theorem d_OutcomeSet_add_107 : decode b_OutcomeSet_add 107 = .ok (.iconst 1, 1) := by decide +kernel
theorem d_OutcomeSet_add_108 : decode b_OutcomeSet_add 108 = .ok (.iadd, 1) := by decide +kernel
theorem d_OutcomeSet_add_109 : decode b_OutcomeSet_add 109 = .ok (.putfield 32, 3) := by decide +kernel
theorem d_OutcomeSet_add_112 : decode b_OutcomeSet_add 112 = .ok (.iconst 1, 1) := by decide +kernel
theorem d_OutcomeSet_add_113 : decode b_OutcomeSet_add 113 = .ok (.ireturn, 1) := by decide +kernel
theorem d_OutcomeSet_grow_0 : decode b_OutcomeSet_grow 0 = .ok (.bipush 8, 2) := by decide +kernel
theorem d_OutcomeSet_grow_2 : decode b_OutcomeSet_grow 2 = .ok (.iconst 2, 1) := by decide +kernel
theorem d_OutcomeSet_grow_3 : decode b_OutcomeSet_grow 3 = .ok (.aload_n 0, 1) := by decide +kernel
theorem d_OutcomeSet_grow_4 : decode b_OutcomeSet_grow 4 = .ok (.getfield 32, 3) := by decide +kernel
theorem d_OutcomeSet_grow_7 : decode b_OutcomeSet_grow 7 = .ok (.imul, 1) := by decide +kernel
theorem d_OutcomeSet_grow_8 : decode b_OutcomeSet_grow 8 = .ok (.invokestatic 65, 3) := by decide +kernel
theorem d_OutcomeSet_grow_11 : decode b_OutcomeSet_grow 11 = .ok (.istore_n 1, 1) := by decide +kernel
theorem d_OutcomeSet_grow_12 : decode b_OutcomeSet_grow 12 = .ok (.aload_n 0, 1) := by decide +kernel
theorem d_OutcomeSet_grow_13 : decode b_OutcomeSet_grow 13 = .ok (.aload_n 0, 1) := by decide +kernel
theorem d_OutcomeSet_grow_14 : decode b_OutcomeSet_grow 14 = .ok (.getfield 9, 3) := by decide +kernel
theorem d_OutcomeSet_grow_17 : decode b_OutcomeSet_grow 17 = .ok (.iload_n 1, 1) := by decide +kernel
theorem d_OutcomeSet_grow_18 : decode b_OutcomeSet_grow 18 = .ok (.invokestatic 68, 3) := by decide +kernel
theorem d_OutcomeSet_grow_21 : decode b_OutcomeSet_grow 21 = .ok (.putfield 9, 3) := by decide +kernel
theorem d_OutcomeSet_grow_24 : decode b_OutcomeSet_grow 24 = .ok (.aload_n 0, 1) := by decide +kernel
theorem d_OutcomeSet_grow_25 : decode b_OutcomeSet_grow 25 = .ok (.aload_n 0, 1) := by decide +kernel
theorem d_OutcomeSet_grow_26 : decode b_OutcomeSet_grow 26 = .ok (.getfield 15, 3) := by decide +kernel
theorem d_OutcomeSet_grow_29 : decode b_OutcomeSet_grow 29 = .ok (.iload_n 1, 1) := by decide +kernel
theorem d_OutcomeSet_grow_30 : decode b_OutcomeSet_grow 30 = .ok (.invokestatic 74, 3) := by decide +kernel
theorem d_OutcomeSet_grow_33 : decode b_OutcomeSet_grow 33 = .ok (.putfield 15, 3) := by decide +kernel
theorem d_OutcomeSet_grow_36 : decode b_OutcomeSet_grow 36 = .ok (.aload_n 0, 1) := by decide +kernel
theorem d_OutcomeSet_grow_37 : decode b_OutcomeSet_grow 37 = .ok (.aload_n 0, 1) := by decide +kernel
theorem d_OutcomeSet_grow_38 : decode b_OutcomeSet_grow 38 = .ok (.getfield 19, 3) := by decide +kernel
theorem d_OutcomeSet_grow_41 : decode b_OutcomeSet_grow 41 = .ok (.iload_n 1, 1) := by decide +kernel
theorem d_OutcomeSet_grow_42 : decode b_OutcomeSet_grow 42 = .ok (.invokestatic 74, 3) := by decide +kernel
theorem d_OutcomeSet_grow_45 : decode b_OutcomeSet_grow 45 = .ok (.putfield 19, 3) := by decide +kernel
theorem d_OutcomeSet_grow_48 : decode b_OutcomeSet_grow 48 = .ok (.aload_n 0, 1) := by decide +kernel
theorem d_OutcomeSet_grow_49 : decode b_OutcomeSet_grow 49 = .ok (.aload_n 0, 1) := by decide +kernel
theorem d_OutcomeSet_grow_50 : decode b_OutcomeSet_grow 50 = .ok (.getfield 25, 3) := by decide +kernel
theorem d_OutcomeSet_grow_53 : decode b_OutcomeSet_grow 53 = .ok (.iload_n 1, 1) := by decide +kernel
theorem d_OutcomeSet_grow_54 : decode b_OutcomeSet_grow 54 = .ok (.invokestatic 74, 3) := by decide +kernel
theorem d_OutcomeSet_grow_57 : decode b_OutcomeSet_grow 57 = .ok (.putfield 25, 3) := by decide +kernel
theorem d_OutcomeSet_grow_60 : decode b_OutcomeSet_grow 60 = .ok (.aload_n 0, 1) := by decide +kernel
theorem d_OutcomeSet_grow_61 : decode b_OutcomeSet_grow 61 = .ok (.aload_n 0, 1) := by decide +kernel
theorem d_OutcomeSet_grow_62 : decode b_OutcomeSet_grow 62 = .ok (.getfield 22, 3) := by decide +kernel
theorem d_OutcomeSet_grow_65 : decode b_OutcomeSet_grow 65 = .ok (.iload_n 1, 1) := by decide +kernel
theorem d_OutcomeSet_grow_66 : decode b_OutcomeSet_grow 66 = .ok (.aload_n 0, 1) := by decide +kernel
theorem d_OutcomeSet_grow_67 : decode b_OutcomeSet_grow 67 = .ok (.getfield 28, 3) := by decide +kernel
theorem d_OutcomeSet_grow_70 : decode b_OutcomeSet_grow 70 = .ok (.imul, 1) := by decide +kernel
theorem d_OutcomeSet_grow_71 : decode b_OutcomeSet_grow 71 = .ok (.invokestatic 74, 3) := by decide +kernel
theorem d_OutcomeSet_grow_74 : decode b_OutcomeSet_grow 74 = .ok (.putfield 22, 3) := by decide +kernel
theorem d_OutcomeSet_grow_77 : decode b_OutcomeSet_grow 77 = .ok (.return_, 1) := by decide +kernel
theorem d_OutcomeSet_firstNotLess_0 : decode b_OutcomeSet_firstNotLess 0 = .ok (.iconst 0, 1) := by decide +kernel
theorem d_OutcomeSet_firstNotLess_1 : decode b_OutcomeSet_firstNotLess 1 = .ok (.istore 4, 2) := by decide +kernel
theorem d_OutcomeSet_firstNotLess_3 : decode b_OutcomeSet_firstNotLess 3 = .ok (.aload_n 0, 1) := by decide +kernel
theorem d_OutcomeSet_firstNotLess_4 : decode b_OutcomeSet_firstNotLess 4 = .ok (.getfield 32, 3) := by decide +kernel
theorem d_OutcomeSet_firstNotLess_7 : decode b_OutcomeSet_firstNotLess 7 = .ok (.istore 5, 2) := by decide +kernel
theorem d_OutcomeSet_firstNotLess_9 : decode b_OutcomeSet_firstNotLess 9 = .ok (.iconst 0, 1) := by decide +kernel
theorem d_OutcomeSet_firstNotLess_10 : decode b_OutcomeSet_firstNotLess 10 = .ok (.istore 6, 2) := by decide +kernel
theorem d_OutcomeSet_firstNotLess_12 : decode b_OutcomeSet_firstNotLess 12 = .ok (.iload 6, 2) := by decide +kernel
theorem d_OutcomeSet_firstNotLess_14 : decode b_OutcomeSet_firstNotLess 14 = .ok (.bipush 32, 2) := by decide +kernel
theorem d_OutcomeSet_firstNotLess_16 : decode b_OutcomeSet_firstNotLess 16 = .ok (.if_icmp .ge 94, 3) := by decide +kernel
theorem d_OutcomeSet_firstNotLess_19 : decode b_OutcomeSet_firstNotLess 19 = .ok (.iload 4, 2) := by decide +kernel
theorem d_OutcomeSet_firstNotLess_21 : decode b_OutcomeSet_firstNotLess 21 = .ok (.iload 5, 2) := by decide +kernel
theorem d_OutcomeSet_firstNotLess_23 : decode b_OutcomeSet_firstNotLess 23 = .ok (.if_icmp .ge 87, 3) := by decide +kernel
theorem d_OutcomeSet_firstNotLess_26 : decode b_OutcomeSet_firstNotLess 26 = .ok (.iload 4, 2) := by decide +kernel
theorem d_OutcomeSet_firstNotLess_28 : decode b_OutcomeSet_firstNotLess 28 = .ok (.iload 5, 2) := by decide +kernel
theorem d_OutcomeSet_firstNotLess_30 : decode b_OutcomeSet_firstNotLess 30 = .ok (.iadd, 1) := by decide +kernel
theorem d_OutcomeSet_firstNotLess_31 : decode b_OutcomeSet_firstNotLess 31 = .ok (.iconst 1, 1) := by decide +kernel
theorem d_OutcomeSet_firstNotLess_32 : decode b_OutcomeSet_firstNotLess 32 = .ok (.ishr, 1) := by decide +kernel
theorem d_OutcomeSet_firstNotLess_33 : decode b_OutcomeSet_firstNotLess 33 = .ok (.istore 7, 2) := by decide +kernel
theorem d_OutcomeSet_firstNotLess_35 : decode b_OutcomeSet_firstNotLess 35 = .ok (.aload_n 0, 1) := by decide +kernel
theorem d_OutcomeSet_firstNotLess_36 : decode b_OutcomeSet_firstNotLess 36 = .ok (.getfield 25, 3) := by decide +kernel
theorem d_OutcomeSet_firstNotLess_39 : decode b_OutcomeSet_firstNotLess 39 = .ok (.iload 7, 2) := by decide +kernel
theorem d_OutcomeSet_firstNotLess_41 : decode b_OutcomeSet_firstNotLess 41 = .ok (.iaload, 1) := by decide +kernel
theorem d_OutcomeSet_firstNotLess_42 : decode b_OutcomeSet_firstNotLess 42 = .ok (.istore 8, 2) := by decide +kernel
theorem d_OutcomeSet_firstNotLess_44 : decode b_OutcomeSet_firstNotLess 44 = .ok (.aload_n 0, 1) := by decide +kernel
theorem d_OutcomeSet_firstNotLess_45 : decode b_OutcomeSet_firstNotLess 45 = .ok (.getfield 9, 3) := by decide +kernel
theorem d_OutcomeSet_firstNotLess_48 : decode b_OutcomeSet_firstNotLess 48 = .ok (.iload 8, 2) := by decide +kernel
theorem d_OutcomeSet_firstNotLess_50 : decode b_OutcomeSet_firstNotLess 50 = .ok (.laload, 1) := by decide +kernel
theorem d_OutcomeSet_firstNotLess_51 : decode b_OutcomeSet_firstNotLess 51 = .ok (.lload_n 1, 1) := by decide +kernel
theorem d_OutcomeSet_firstNotLess_52 : decode b_OutcomeSet_firstNotLess 52 = .ok (.lcmp, 1) := by decide +kernel
theorem d_OutcomeSet_firstNotLess_53 : decode b_OutcomeSet_firstNotLess 53 = .ok (.ifCond .lt 26, 3) := by decide +kernel
theorem d_OutcomeSet_firstNotLess_56 : decode b_OutcomeSet_firstNotLess 56 = .ok (.aload_n 0, 1) := by decide +kernel
theorem d_OutcomeSet_firstNotLess_57 : decode b_OutcomeSet_firstNotLess 57 = .ok (.getfield 9, 3) := by decide +kernel
theorem d_OutcomeSet_firstNotLess_60 : decode b_OutcomeSet_firstNotLess 60 = .ok (.iload 8, 2) := by decide +kernel
theorem d_OutcomeSet_firstNotLess_62 : decode b_OutcomeSet_firstNotLess 62 = .ok (.laload, 1) := by decide +kernel
theorem d_OutcomeSet_firstNotLess_63 : decode b_OutcomeSet_firstNotLess 63 = .ok (.lload_n 1, 1) := by decide +kernel
theorem d_OutcomeSet_firstNotLess_64 : decode b_OutcomeSet_firstNotLess 64 = .ok (.lcmp, 1) := by decide +kernel
theorem d_OutcomeSet_firstNotLess_65 : decode b_OutcomeSet_firstNotLess 65 = .ok (.ifCond .ne 18, 3) := by decide +kernel
theorem d_OutcomeSet_firstNotLess_68 : decode b_OutcomeSet_firstNotLess 68 = .ok (.aload_n 0, 1) := by decide +kernel
theorem d_OutcomeSet_firstNotLess_69 : decode b_OutcomeSet_firstNotLess 69 = .ok (.getfield 15, 3) := by decide +kernel
theorem d_OutcomeSet_firstNotLess_72 : decode b_OutcomeSet_firstNotLess 72 = .ok (.iload 8, 2) := by decide +kernel
theorem d_OutcomeSet_firstNotLess_74 : decode b_OutcomeSet_firstNotLess 74 = .ok (.iaload, 1) := by decide +kernel
theorem d_OutcomeSet_firstNotLess_75 : decode b_OutcomeSet_firstNotLess 75 = .ok (.iload_n 3, 1) := by decide +kernel
theorem d_OutcomeSet_firstNotLess_76 : decode b_OutcomeSet_firstNotLess 76 = .ok (.if_icmp .ge 7, 3) := by decide +kernel
theorem d_OutcomeSet_firstNotLess_79 : decode b_OutcomeSet_firstNotLess 79 = .ok (.iconst 1, 1) := by decide +kernel
theorem d_OutcomeSet_firstNotLess_80 : decode b_OutcomeSet_firstNotLess 80 = .ok (.goto 4, 3) := by decide +kernel
theorem d_OutcomeSet_firstNotLess_83 : decode b_OutcomeSet_firstNotLess 83 = .ok (.iconst 0, 1) := by decide +kernel
theorem d_OutcomeSet_firstNotLess_84 : decode b_OutcomeSet_firstNotLess 84 = .ok (.istore 9, 2) := by decide +kernel
theorem d_OutcomeSet_firstNotLess_86 : decode b_OutcomeSet_firstNotLess 86 = .ok (.iload 9, 2) := by decide +kernel
theorem d_OutcomeSet_firstNotLess_88 : decode b_OutcomeSet_firstNotLess 88 = .ok (.ifCond .eq 12, 3) := by decide +kernel
theorem d_OutcomeSet_firstNotLess_91 : decode b_OutcomeSet_firstNotLess 91 = .ok (.iload 7, 2) := by decide +kernel
theorem d_OutcomeSet_firstNotLess_93 : decode b_OutcomeSet_firstNotLess 93 = .ok (.iconst 1, 1) := by decide +kernel
theorem d_OutcomeSet_firstNotLess_94 : decode b_OutcomeSet_firstNotLess 94 = .ok (.iadd, 1) := by decide +kernel
theorem d_OutcomeSet_firstNotLess_95 : decode b_OutcomeSet_firstNotLess 95 = .ok (.istore 4, 2) := by decide +kernel
theorem d_OutcomeSet_firstNotLess_97 : decode b_OutcomeSet_firstNotLess 97 = .ok (.goto 7, 3) := by decide +kernel
theorem d_OutcomeSet_firstNotLess_100 : decode b_OutcomeSet_firstNotLess 100 = .ok (.iload 7, 2) := by decide +kernel
theorem d_OutcomeSet_firstNotLess_102 : decode b_OutcomeSet_firstNotLess 102 = .ok (.istore 5, 2) := by decide +kernel
theorem d_OutcomeSet_firstNotLess_104 : decode b_OutcomeSet_firstNotLess 104 = .ok (.iinc 6 1, 3) := by decide +kernel
theorem d_OutcomeSet_firstNotLess_107 : decode b_OutcomeSet_firstNotLess 107 = .ok (.goto (-95), 3) := by decide +kernel
theorem d_OutcomeSet_firstNotLess_110 : decode b_OutcomeSet_firstNotLess 110 = .ok (.iload 4, 2) := by decide +kernel
theorem d_OutcomeSet_firstNotLess_112 : decode b_OutcomeSet_firstNotLess 112 = .ok (.ireturn, 1) := by decide +kernel
theorem d_OutcomeSet_isAt_0 : decode b_OutcomeSet_isAt 0 = .ok (.iload_n 1, 1) := by decide +kernel
theorem d_OutcomeSet_isAt_1 : decode b_OutcomeSet_isAt 1 = .ok (.aload_n 0, 1) := by decide +kernel
theorem d_OutcomeSet_isAt_2 : decode b_OutcomeSet_isAt 2 = .ok (.getfield 32, 3) := by decide +kernel
theorem d_OutcomeSet_isAt_5 : decode b_OutcomeSet_isAt 5 = .ok (.if_icmp .lt 5, 3) := by decide +kernel
theorem d_OutcomeSet_isAt_8 : decode b_OutcomeSet_isAt 8 = .ok (.iconst 0, 1) := by decide +kernel
theorem d_OutcomeSet_isAt_9 : decode b_OutcomeSet_isAt 9 = .ok (.ireturn, 1) := by decide +kernel
theorem d_OutcomeSet_isAt_10 : decode b_OutcomeSet_isAt 10 = .ok (.aload_n 0, 1) := by decide +kernel
theorem d_OutcomeSet_isAt_11 : decode b_OutcomeSet_isAt 11 = .ok (.getfield 25, 3) := by decide +kernel
theorem d_OutcomeSet_isAt_14 : decode b_OutcomeSet_isAt 14 = .ok (.iload_n 1, 1) := by decide +kernel
theorem d_OutcomeSet_isAt_15 : decode b_OutcomeSet_isAt 15 = .ok (.iaload, 1) := by decide +kernel
theorem d_OutcomeSet_isAt_16 : decode b_OutcomeSet_isAt 16 = .ok (.istore 5, 2) := by decide +kernel
theorem d_OutcomeSet_isAt_18 : decode b_OutcomeSet_isAt 18 = .ok (.aload_n 0, 1) := by decide +kernel
theorem d_OutcomeSet_isAt_19 : decode b_OutcomeSet_isAt 19 = .ok (.getfield 9, 3) := by decide +kernel
theorem d_OutcomeSet_isAt_22 : decode b_OutcomeSet_isAt 22 = .ok (.iload 5, 2) := by decide +kernel
theorem d_OutcomeSet_isAt_24 : decode b_OutcomeSet_isAt 24 = .ok (.laload, 1) := by decide +kernel
theorem d_OutcomeSet_isAt_25 : decode b_OutcomeSet_isAt 25 = .ok (.lload_n 2, 1) := by decide +kernel
theorem d_OutcomeSet_isAt_26 : decode b_OutcomeSet_isAt 26 = .ok (.lcmp, 1) := by decide +kernel
theorem d_OutcomeSet_isAt_27 : decode b_OutcomeSet_isAt 27 = .ok (.ifCond .ne 19, 3) := by decide +kernel
theorem d_OutcomeSet_isAt_30 : decode b_OutcomeSet_isAt 30 = .ok (.aload_n 0, 1) := by decide +kernel
theorem d_OutcomeSet_isAt_31 : decode b_OutcomeSet_isAt 31 = .ok (.getfield 15, 3) := by decide +kernel
theorem d_OutcomeSet_isAt_34 : decode b_OutcomeSet_isAt 34 = .ok (.iload 5, 2) := by decide +kernel
theorem d_OutcomeSet_isAt_36 : decode b_OutcomeSet_isAt 36 = .ok (.iaload, 1) := by decide +kernel
theorem d_OutcomeSet_isAt_37 : decode b_OutcomeSet_isAt 37 = .ok (.iload 4, 2) := by decide +kernel
theorem d_OutcomeSet_isAt_39 : decode b_OutcomeSet_isAt 39 = .ok (.if_icmp .ne 7, 3) := by decide +kernel
theorem d_OutcomeSet_isAt_42 : decode b_OutcomeSet_isAt 42 = .ok (.iconst 1, 1) := by decide +kernel
theorem d_OutcomeSet_isAt_43 : decode b_OutcomeSet_isAt 43 = .ok (.goto 4, 3) := by decide +kernel
theorem d_OutcomeSet_isAt_46 : decode b_OutcomeSet_isAt 46 = .ok (.iconst 0, 1) := by decide +kernel
theorem d_OutcomeSet_isAt_47 : decode b_OutcomeSet_isAt 47 = .ok (.ireturn, 1) := by decide +kernel
theorem d_OutcomeSet_countMissingIn_0 : decode b_OutcomeSet_countMissingIn 0 = .ok (.iconst 0, 1) := by decide +kernel
theorem d_OutcomeSet_countMissingIn_1 : decode b_OutcomeSet_countMissingIn 1 = .ok (.istore_n 2, 1) := by decide +kernel
theorem d_OutcomeSet_countMissingIn_2 : decode b_OutcomeSet_countMissingIn 2 = .ok (.iconst 0, 1) := by decide +kernel
theorem d_OutcomeSet_countMissingIn_3 : decode b_OutcomeSet_countMissingIn 3 = .ok (.istore_n 3, 1) := by decide +kernel
theorem d_OutcomeSet_countMissingIn_4 : decode b_OutcomeSet_countMissingIn 4 = .ok (.iload_n 3, 1) := by decide +kernel
theorem d_OutcomeSet_countMissingIn_5 : decode b_OutcomeSet_countMissingIn 5 = .ok (.aload_n 0, 1) := by decide +kernel
theorem d_OutcomeSet_countMissingIn_6 : decode b_OutcomeSet_countMissingIn 6 = .ok (.getfield 32, 3) := by decide +kernel
theorem d_OutcomeSet_countMissingIn_9 : decode b_OutcomeSet_countMissingIn 9 = .ok (.if_icmp .ge 51, 3) := by decide +kernel
theorem d_OutcomeSet_countMissingIn_12 : decode b_OutcomeSet_countMissingIn 12 = .ok (.aload_n 1, 1) := by decide +kernel
theorem d_OutcomeSet_countMissingIn_13 : decode b_OutcomeSet_countMissingIn 13 = .ok (.aload_n 0, 1) := by decide +kernel
theorem d_OutcomeSet_countMissingIn_14 : decode b_OutcomeSet_countMissingIn 14 = .ok (.getfield 9, 3) := by decide +kernel
theorem d_OutcomeSet_countMissingIn_17 : decode b_OutcomeSet_countMissingIn 17 = .ok (.iload_n 3, 1) := by decide +kernel
theorem d_OutcomeSet_countMissingIn_18 : decode b_OutcomeSet_countMissingIn 18 = .ok (.laload, 1) := by decide +kernel
theorem d_OutcomeSet_countMissingIn_19 : decode b_OutcomeSet_countMissingIn 19 = .ok (.aload_n 0, 1) := by decide +kernel
theorem d_OutcomeSet_countMissingIn_20 : decode b_OutcomeSet_countMissingIn 20 = .ok (.getfield 15, 3) := by decide +kernel
theorem d_OutcomeSet_countMissingIn_23 : decode b_OutcomeSet_countMissingIn 23 = .ok (.iload_n 3, 1) := by decide +kernel
theorem d_OutcomeSet_countMissingIn_24 : decode b_OutcomeSet_countMissingIn 24 = .ok (.iaload, 1) := by decide +kernel
theorem d_OutcomeSet_countMissingIn_25 : decode b_OutcomeSet_countMissingIn 25 = .ok (.invokevirtual 48, 3) := by decide +kernel
theorem d_OutcomeSet_countMissingIn_28 : decode b_OutcomeSet_countMissingIn 28 = .ok (.istore 4, 2) := by decide +kernel
theorem d_OutcomeSet_countMissingIn_30 : decode b_OutcomeSet_countMissingIn 30 = .ok (.aload_n 1, 1) := by decide +kernel
theorem d_OutcomeSet_countMissingIn_31 : decode b_OutcomeSet_countMissingIn 31 = .ok (.iload 4, 2) := by decide +kernel
theorem d_OutcomeSet_countMissingIn_33 : decode b_OutcomeSet_countMissingIn 33 = .ok (.aload_n 0, 1) := by decide +kernel
theorem d_OutcomeSet_countMissingIn_34 : decode b_OutcomeSet_countMissingIn 34 = .ok (.getfield 9, 3) := by decide +kernel
theorem d_OutcomeSet_countMissingIn_37 : decode b_OutcomeSet_countMissingIn 37 = .ok (.iload_n 3, 1) := by decide +kernel
theorem d_OutcomeSet_countMissingIn_38 : decode b_OutcomeSet_countMissingIn 38 = .ok (.laload, 1) := by decide +kernel
theorem d_OutcomeSet_countMissingIn_39 : decode b_OutcomeSet_countMissingIn 39 = .ok (.aload_n 0, 1) := by decide +kernel
theorem d_OutcomeSet_countMissingIn_40 : decode b_OutcomeSet_countMissingIn 40 = .ok (.getfield 15, 3) := by decide +kernel
theorem d_OutcomeSet_countMissingIn_43 : decode b_OutcomeSet_countMissingIn 43 = .ok (.iload_n 3, 1) := by decide +kernel
theorem d_OutcomeSet_countMissingIn_44 : decode b_OutcomeSet_countMissingIn 44 = .ok (.iaload, 1) := by decide +kernel
theorem d_OutcomeSet_countMissingIn_45 : decode b_OutcomeSet_countMissingIn 45 = .ok (.invokevirtual 52, 3) := by decide +kernel
theorem d_OutcomeSet_countMissingIn_48 : decode b_OutcomeSet_countMissingIn 48 = .ok (.ifCond .ne 6, 3) := by decide +kernel
theorem d_OutcomeSet_countMissingIn_51 : decode b_OutcomeSet_countMissingIn 51 = .ok (.iinc 2 1, 3) := by decide +kernel
theorem d_OutcomeSet_countMissingIn_54 : decode b_OutcomeSet_countMissingIn 54 = .ok (.iinc 3 1, 3) := by decide +kernel
theorem d_OutcomeSet_countMissingIn_57 : decode b_OutcomeSet_countMissingIn 57 = .ok (.goto (-53), 3) := by decide +kernel
theorem d_OutcomeSet_countMissingIn_60 : decode b_OutcomeSet_countMissingIn 60 = .ok (.iload_n 2, 1) := by decide +kernel
theorem d_OutcomeSet_countMissingIn_61 : decode b_OutcomeSet_countMissingIn 61 = .ok (.ireturn, 1) := by decide +kernel
theorem d_OutcomeSet_valueOf_0 : decode b_OutcomeSet_valueOf 0 = .ok (.iload_n 1, 1) := by decide +kernel
theorem d_OutcomeSet_valueOf_1 : decode b_OutcomeSet_valueOf 1 = .ok (.ifCond .lt 21, 3) := by decide +kernel
theorem d_OutcomeSet_valueOf_4 : decode b_OutcomeSet_valueOf 4 = .ok (.iload_n 1, 1) := by decide +kernel
theorem d_OutcomeSet_valueOf_5 : decode b_OutcomeSet_valueOf 5 = .ok (.aload_n 0, 1) := by decide +kernel
theorem d_OutcomeSet_valueOf_6 : decode b_OutcomeSet_valueOf 6 = .ok (.getfield 32, 3) := by decide +kernel
theorem d_OutcomeSet_valueOf_9 : decode b_OutcomeSet_valueOf 9 = .ok (.if_icmp .ge 13, 3) := by decide +kernel
theorem d_OutcomeSet_valueOf_12 : decode b_OutcomeSet_valueOf 12 = .ok (.iload_n 2, 1) := by decide +kernel
theorem d_OutcomeSet_valueOf_13 : decode b_OutcomeSet_valueOf 13 = .ok (.ifCond .lt 9, 3) := by decide +kernel
theorem d_OutcomeSet_valueOf_16 : decode b_OutcomeSet_valueOf 16 = .ok (.iload_n 2, 1) := by decide +kernel
theorem d_OutcomeSet_valueOf_17 : decode b_OutcomeSet_valueOf 17 = .ok (.bipush 11, 2) := by decide +kernel
theorem d_OutcomeSet_valueOf_19 : decode b_OutcomeSet_valueOf 19 = .ok (.if_icmp .lt 7, 3) := by decide +kernel
theorem d_OutcomeSet_valueOf_22 : decode b_OutcomeSet_valueOf 22 = .ok (.sipush (-1000), 3) := by decide +kernel
theorem d_OutcomeSet_valueOf_25 : decode b_OutcomeSet_valueOf 25 = .ok (.ireturn, 1) := by decide +kernel
theorem d_OutcomeSet_valueOf_26 : decode b_OutcomeSet_valueOf 26 = .ok (.aload_n 0, 1) := by decide +kernel
theorem d_OutcomeSet_valueOf_27 : decode b_OutcomeSet_valueOf 27 = .ok (.getfield 25, 3) := by decide +kernel
theorem d_OutcomeSet_valueOf_30 : decode b_OutcomeSet_valueOf 30 = .ok (.iload_n 1, 1) := by decide +kernel
theorem d_OutcomeSet_valueOf_31 : decode b_OutcomeSet_valueOf 31 = .ok (.iaload, 1) := by decide +kernel
theorem d_OutcomeSet_valueOf_32 : decode b_OutcomeSet_valueOf 32 = .ok (.istore_n 3, 1) := by decide +kernel
theorem d_OutcomeSet_valueOf_33 : decode b_OutcomeSet_valueOf 33 = .ok (.iload_n 2, 1) := by decide +kernel
theorem d_OutcomeSet_valueOf_34 : decode b_OutcomeSet_valueOf 34 = .ok (.bipush 8, 2) := by decide +kernel
theorem d_OutcomeSet_valueOf_36 : decode b_OutcomeSet_valueOf 36 = .ok (.if_icmp .ge 12, 3) := by decide +kernel
theorem d_OutcomeSet_valueOf_39 : decode b_OutcomeSet_valueOf 39 = .ok (.aload_n 0, 1) := by decide +kernel
theorem d_OutcomeSet_valueOf_40 : decode b_OutcomeSet_valueOf 40 = .ok (.getfield 9, 3) := by decide +kernel
theorem d_OutcomeSet_valueOf_43 : decode b_OutcomeSet_valueOf 43 = .ok (.iload_n 3, 1) := by decide +kernel
theorem d_OutcomeSet_valueOf_44 : decode b_OutcomeSet_valueOf 44 = .ok (.laload, 1) := by decide +kernel
theorem d_OutcomeSet_valueOf_45 : decode b_OutcomeSet_valueOf 45 = .ok (.goto 10, 3) := by decide +kernel
theorem d_OutcomeSet_valueOf_48 : decode b_OutcomeSet_valueOf 48 = .ok (.aload_n 0, 1) := by decide +kernel
theorem d_OutcomeSet_valueOf_49 : decode b_OutcomeSet_valueOf 49 = .ok (.getfield 15, 3) := by decide +kernel
theorem d_OutcomeSet_valueOf_52 : decode b_OutcomeSet_valueOf 52 = .ok (.iload_n 3, 1) := by decide +kernel
theorem d_OutcomeSet_valueOf_53 : decode b_OutcomeSet_valueOf 53 = .ok (.iaload, 1) := by decide +kernel
theorem d_OutcomeSet_valueOf_54 : decode b_OutcomeSet_valueOf 54 = .ok (.i2l, 1) := by decide +kernel
theorem d_OutcomeSet_valueOf_55 : decode b_OutcomeSet_valueOf 55 = .ok (.lstore 4, 2) := by decide +kernel
theorem d_OutcomeSet_valueOf_57 : decode b_OutcomeSet_valueOf 57 = .ok (.iload_n 2, 1) := by decide +kernel
theorem d_OutcomeSet_valueOf_58 : decode b_OutcomeSet_valueOf 58 = .ok (.bipush 8, 2) := by decide +kernel
theorem d_OutcomeSet_valueOf_60 : decode b_OutcomeSet_valueOf 60 = .ok (.if_icmp .ge 8, 3) := by decide +kernel
theorem d_OutcomeSet_valueOf_63 : decode b_OutcomeSet_valueOf 63 = .ok (.bipush 8, 2) := by decide +kernel
theorem d_OutcomeSet_valueOf_65 : decode b_OutcomeSet_valueOf 65 = .ok (.goto 5, 3) := by decide +kernel
theorem d_OutcomeSet_valueOf_68 : decode b_OutcomeSet_valueOf 68 = .ok (.bipush 11, 2) := by decide +kernel
theorem d_OutcomeSet_valueOf_70 : decode b_OutcomeSet_valueOf 70 = .ok (.iconst 1, 1) := by decide +kernel
theorem d_OutcomeSet_valueOf_71 : decode b_OutcomeSet_valueOf 71 = .ok (.isub, 1) := by decide +kernel
theorem d_OutcomeSet_valueOf_72 : decode b_OutcomeSet_valueOf 72 = .ok (.iload_n 2, 1) := by decide +kernel
theorem d_OutcomeSet_valueOf_73 : decode b_OutcomeSet_valueOf 73 = .ok (.isub, 1) := by decide +kernel
theorem d_OutcomeSet_valueOf_74 : decode b_OutcomeSet_valueOf 74 = .ok (.istore 6, 2) := by decide +kernel
theorem d_OutcomeSet_valueOf_76 : decode b_OutcomeSet_valueOf 76 = .ok (.lload 4, 2) := by decide +kernel
theorem d_OutcomeSet_valueOf_78 : decode b_OutcomeSet_valueOf 78 = .ok (.bipush 7, 2) := by decide +kernel
theorem d_OutcomeSet_valueOf_80 : decode b_OutcomeSet_valueOf 80 = .ok (.iload 6, 2) := by decide +kernel
theorem d_OutcomeSet_valueOf_82 : decode b_OutcomeSet_valueOf 82 = .ok (.imul, 1) := by decide +kernel
theorem d_OutcomeSet_valueOf_83 : decode b_OutcomeSet_valueOf 83 = .ok (.lshr, 1) := by decide +kernel
theorem d_OutcomeSet_valueOf_84 : decode b_OutcomeSet_valueOf 84 = .ok (.ldc2_w 77, 3) := by decide +kernel
theorem d_OutcomeSet_valueOf_87 : decode b_OutcomeSet_valueOf 87 = .ok (.land, 1) := by decide +kernel
theorem d_OutcomeSet_valueOf_88 : decode b_OutcomeSet_valueOf 88 = .ok (.l2i, 1) := by decide +kernel
theorem d_OutcomeSet_valueOf_89 : decode b_OutcomeSet_valueOf 89 = .ok (.bipush 64, 2) := by decide +kernel
theorem d_OutcomeSet_valueOf_91 : decode b_OutcomeSet_valueOf 91 = .ok (.isub, 1) := by decide +kernel
theorem d_OutcomeSet_valueOf_92 : decode b_OutcomeSet_valueOf 92 = .ok (.ireturn, 1) := by decide +kernel
theorem d_OutcomeSet_stepOf_0 : decode b_OutcomeSet_stepOf 0 = .ok (.iload_n 1, 1) := by decide +kernel
theorem d_OutcomeSet_stepOf_1 : decode b_OutcomeSet_stepOf 1 = .ok (.ifCond .lt 11, 3) := by decide +kernel
theorem d_OutcomeSet_stepOf_4 : decode b_OutcomeSet_stepOf 4 = .ok (.iload_n 1, 1) := by decide +kernel
theorem d_OutcomeSet_stepOf_5 : decode b_OutcomeSet_stepOf 5 = .ok (.aload_n 0, 1) := by decide +kernel
theorem d_OutcomeSet_stepOf_6 : decode b_OutcomeSet_stepOf 6 = .ok (.getfield 32, 3) := by decide +kernel
theorem d_OutcomeSet_stepOf_9 : decode b_OutcomeSet_stepOf 9 = .ok (.if_icmp .lt 5, 3) := by decide +kernel
theorem d_OutcomeSet_stepOf_12 : decode b_OutcomeSet_stepOf 12 = .ok (.iconst (-1), 1) := by decide +kernel
theorem d_OutcomeSet_stepOf_13 : decode b_OutcomeSet_stepOf 13 = .ok (.ireturn, 1) := by decide +kernel
theorem d_OutcomeSet_stepOf_14 : decode b_OutcomeSet_stepOf 14 = .ok (.aload_n 0, 1) := by decide +kernel
theorem d_OutcomeSet_stepOf_15 : decode b_OutcomeSet_stepOf 15 = .ok (.getfield 25, 3) := by decide +kernel
theorem d_OutcomeSet_stepOf_18 : decode b_OutcomeSet_stepOf 18 = .ok (.iload_n 1, 1) := by decide +kernel
theorem d_OutcomeSet_stepOf_19 : decode b_OutcomeSet_stepOf 19 = .ok (.iaload, 1) := by decide +kernel
theorem d_OutcomeSet_stepOf_20 : decode b_OutcomeSet_stepOf 20 = .ok (.istore_n 3, 1) := by decide +kernel
theorem d_OutcomeSet_stepOf_21 : decode b_OutcomeSet_stepOf 21 = .ok (.iload_n 2, 1) := by decide +kernel
theorem d_OutcomeSet_stepOf_22 : decode b_OutcomeSet_stepOf 22 = .ok (.ifCond .lt 13, 3) := by decide +kernel
theorem d_OutcomeSet_stepOf_25 : decode b_OutcomeSet_stepOf 25 = .ok (.iload_n 2, 1) := by decide +kernel
theorem d_OutcomeSet_stepOf_26 : decode b_OutcomeSet_stepOf 26 = .ok (.aload_n 0, 1) := by decide +kernel
theorem d_OutcomeSet_stepOf_27 : decode b_OutcomeSet_stepOf 27 = .ok (.getfield 19, 3) := by decide +kernel
theorem d_OutcomeSet_stepOf_30 : decode b_OutcomeSet_stepOf 30 = .ok (.iload_n 3, 1) := by decide +kernel
theorem d_OutcomeSet_stepOf_31 : decode b_OutcomeSet_stepOf 31 = .ok (.iaload, 1) := by decide +kernel
theorem d_OutcomeSet_stepOf_32 : decode b_OutcomeSet_stepOf 32 = .ok (.if_icmp .lt 5, 3) := by decide +kernel
theorem d_OutcomeSet_stepOf_35 : decode b_OutcomeSet_stepOf 35 = .ok (.iconst (-1), 1) := by decide +kernel
theorem d_OutcomeSet_stepOf_36 : decode b_OutcomeSet_stepOf 36 = .ok (.ireturn, 1) := by decide +kernel
theorem d_OutcomeSet_stepOf_37 : decode b_OutcomeSet_stepOf 37 = .ok (.aload_n 0, 1) := by decide +kernel
theorem d_OutcomeSet_stepOf_38 : decode b_OutcomeSet_stepOf 38 = .ok (.getfield 22, 3) := by decide +kernel
theorem d_OutcomeSet_stepOf_41 : decode b_OutcomeSet_stepOf 41 = .ok (.iload_n 3, 1) := by decide +kernel
theorem d_OutcomeSet_stepOf_42 : decode b_OutcomeSet_stepOf 42 = .ok (.aload_n 0, 1) := by decide +kernel
theorem d_OutcomeSet_stepOf_43 : decode b_OutcomeSet_stepOf 43 = .ok (.getfield 28, 3) := by decide +kernel
theorem d_OutcomeSet_stepOf_46 : decode b_OutcomeSet_stepOf 46 = .ok (.imul, 1) := by decide +kernel
theorem d_OutcomeSet_stepOf_47 : decode b_OutcomeSet_stepOf 47 = .ok (.iload_n 2, 1) := by decide +kernel
theorem d_OutcomeSet_stepOf_48 : decode b_OutcomeSet_stepOf 48 = .ok (.iadd, 1) := by decide +kernel
theorem d_OutcomeSet_stepOf_49 : decode b_OutcomeSet_stepOf 49 = .ok (.iaload, 1) := by decide +kernel
theorem d_OutcomeSet_stepOf_50 : decode b_OutcomeSet_stepOf 50 = .ok (.ireturn, 1) := by decide +kernel
theorem d_Program_init_0 : decode b_Program_init 0 = .ok (.aload_n 0, 1) := by decide +kernel
theorem d_Program_init_1 : decode b_Program_init 1 = .ok (.invokespecial 3, 3) := by decide +kernel
theorem d_Program_init_4 : decode b_Program_init 4 = .ok (.aload_n 0, 1) := by decide +kernel
theorem d_Program_init_5 : decode b_Program_init 5 = .ok (.iconst 4, 1) := by decide +kernel
theorem d_Program_init_6 : decode b_Program_init 6 = .ok (.newarray .int, 2) := by decide +kernel
theorem d_Program_init_8 : decode b_Program_init 8 = .ok (.putfield 9, 3) := by decide +kernel
theorem d_Program_init_11 : decode b_Program_init 11 = .ok (.aload_n 0, 1) := by decide +kernel
theorem d_Program_init_12 : decode b_Program_init 12 = .ok (.bipush 28, 2) := by decide +kernel
theorem d_Program_init_14 : decode b_Program_init 14 = .ok (.newarray .int, 2) := by decide +kernel
theorem d_Program_init_16 : decode b_Program_init 16 = .ok (.putfield 15, 3) := by decide +kernel
theorem d_Program_init_19 : decode b_Program_init 19 = .ok (.aload_n 0, 1) := by decide +kernel
theorem d_Program_init_20 : decode b_Program_init 20 = .ok (.bipush 7, 2) := by decide +kernel
theorem d_Program_init_22 : decode b_Program_init 22 = .ok (.newarray .int, 2) := by decide +kernel
theorem d_Program_init_24 : decode b_Program_init 24 = .ok (.putfield 18, 3) := by decide +kernel
theorem d_Program_init_27 : decode b_Program_init 27 = .ok (.aload_n 0, 1) := by decide +kernel
theorem d_Program_init_28 : decode b_Program_init 28 = .ok (.bipush 7, 2) := by decide +kernel
theorem d_Program_init_30 : decode b_Program_init 30 = .ok (.newarray .int, 2) := by decide +kernel
theorem d_Program_init_32 : decode b_Program_init 32 = .ok (.putfield 21, 3) := by decide +kernel
theorem d_Program_init_35 : decode b_Program_init 35 = .ok (.aload_n 0, 1) := by decide +kernel
theorem d_Program_init_36 : decode b_Program_init 36 = .ok (.bipush 7, 2) := by decide +kernel
theorem d_Program_init_38 : decode b_Program_init 38 = .ok (.newarray .int, 2) := by decide +kernel
theorem d_Program_init_40 : decode b_Program_init 40 = .ok (.putfield 24, 3) := by decide +kernel
theorem d_Program_init_43 : decode b_Program_init 43 = .ok (.aload_n 0, 1) := by decide +kernel
theorem d_Program_init_44 : decode b_Program_init 44 = .ok (.bipush 7, 2) := by decide +kernel
theorem d_Program_init_46 : decode b_Program_init 46 = .ok (.newarray .int, 2) := by decide +kernel
theorem d_Program_init_48 : decode b_Program_init 48 = .ok (.putfield 27, 3) := by decide +kernel
theorem d_Program_init_51 : decode b_Program_init 51 = .ok (.aload_n 0, 1) := by decide +kernel
theorem d_Program_init_52 : decode b_Program_init 52 = .ok (.bipush 7, 2) := by decide +kernel
theorem d_Program_init_54 : decode b_Program_init 54 = .ok (.newarray .int, 2) := by decide +kernel
theorem d_Program_init_56 : decode b_Program_init 56 = .ok (.putfield 30, 3) := by decide +kernel
theorem d_Program_init_59 : decode b_Program_init 59 = .ok (.aload_n 0, 1) := by decide +kernel
theorem d_Program_init_60 : decode b_Program_init 60 = .ok (.bipush 7, 2) := by decide +kernel
theorem d_Program_init_62 : decode b_Program_init 62 = .ok (.newarray .int, 2) := by decide +kernel
theorem d_Program_init_64 : decode b_Program_init 64 = .ok (.putfield 33, 3) := by decide +kernel
theorem d_Program_init_67 : decode b_Program_init 67 = .ok (.aload_n 0, 1) := by decide +kernel
theorem d_Program_init_68 : decode b_Program_init 68 = .ok (.iconst 4, 1) := by decide +kernel
theorem d_Program_init_69 : decode b_Program_init 69 = .ok (.newarray .int, 2) := by decide +kernel
theorem d_Program_init_71 : decode b_Program_init 71 = .ok (.putfield 36, 3) := by decide +kernel
theorem d_Program_init_74 : decode b_Program_init 74 = .ok (.aload_n 0, 1) := by decide +kernel
theorem d_Program_init_75 : decode b_Program_init 75 = .ok (.bipush 6, 2) := by decide +kernel
theorem d_Program_init_77 : decode b_Program_init 77 = .ok (.newarray .int, 2) := by decide +kernel
theorem d_Program_init_79 : decode b_Program_init 79 = .ok (.putfield 39, 3) := by decide +kernel
theorem d_Program_init_82 : decode b_Program_init 82 = .ok (.aload_n 0, 1) := by decide +kernel
theorem d_Program_init_83 : decode b_Program_init 83 = .ok (.iconst 3, 1) := by decide +kernel
theorem d_Program_init_84 : decode b_Program_init 84 = .ok (.newarray .int, 2) := by decide +kernel
theorem d_Program_init_86 : decode b_Program_init 86 = .ok (.putfield 42, 3) := by decide +kernel
theorem d_Program_init_89 : decode b_Program_init 89 = .ok (.return_, 1) := by decide +kernel
theorem d_Program_empty_0 : decode b_Program_empty 0 = .ok (.aload_n 0, 1) := by decide +kernel
theorem d_Program_empty_1 : decode b_Program_empty 1 = .ok (.iconst 0, 1) := by decide +kernel
theorem d_Program_empty_2 : decode b_Program_empty 2 = .ok (.putfield 45, 3) := by decide +kernel
theorem d_Program_empty_5 : decode b_Program_empty 5 = .ok (.aload_n 0, 1) := by decide +kernel
theorem d_Program_empty_6 : decode b_Program_empty 6 = .ok (.iconst 0, 1) := by decide +kernel
theorem d_Program_empty_7 : decode b_Program_empty 7 = .ok (.putfield 49, 3) := by decide +kernel
theorem d_Program_empty_10 : decode b_Program_empty 10 = .ok (.aload_n 0, 1) := by decide +kernel
theorem d_Program_empty_11 : decode b_Program_empty 11 = .ok (.getfield 9, 3) := by decide +kernel
theorem d_Program_empty_14 : decode b_Program_empty 14 = .ok (.iconst 0, 1) := by decide +kernel
theorem d_Program_empty_15 : decode b_Program_empty 15 = .ok (.invokestatic 52, 3) := by decide +kernel
theorem d_Program_empty_18 : decode b_Program_empty 18 = .ok (.aload_n 0, 1) := by decide +kernel
theorem d_Program_empty_19 : decode b_Program_empty 19 = .ok (.getfield 36, 3) := by decide +kernel
theorem d_Program_empty_22 : decode b_Program_empty 22 = .ok (.iconst 0, 1) := by decide +kernel
theorem d_Program_empty_23 : decode b_Program_empty 23 = .ok (.invokestatic 52, 3) := by decide +kernel
theorem d_Program_empty_26 : decode b_Program_empty 26 = .ok (.aload_n 0, 1) := by decide +kernel
theorem d_Program_empty_27 : decode b_Program_empty 27 = .ok (.getfield 39, 3) := by decide +kernel
theorem d_Program_empty_30 : decode b_Program_empty 30 = .ok (.iconst 0, 1) := by decide +kernel
theorem d_Program_empty_31 : decode b_Program_empty 31 = .ok (.invokestatic 52, 3) := by decide +kernel
theorem d_Program_empty_34 : decode b_Program_empty 34 = .ok (.aload_n 0, 1) := by decide +kernel
theorem d_Program_empty_35 : decode b_Program_empty 35 = .ok (.getfield 42, 3) := by decide +kernel
theorem d_Program_empty_38 : decode b_Program_empty 38 = .ok (.iconst 0, 1) := by decide +kernel
theorem d_Program_empty_39 : decode b_Program_empty 39 = .ok (.invokestatic 52, 3) := by decide +kernel
theorem d_Program_empty_42 : decode b_Program_empty 42 = .ok (.return_, 1) := by decide +kernel
theorem d_Program_addThread_0 : decode b_Program_addThread 0 = .ok (.aload_n 0, 1) := by decide +kernel
theorem d_Program_addThread_1 : decode b_Program_addThread 1 = .ok (.getfield 45, 3) := by decide +kernel
theorem d_Program_addThread_4 : decode b_Program_addThread 4 = .ok (.iconst 4, 1) := by decide +kernel
theorem d_Program_addThread_5 : decode b_Program_addThread 5 = .ok (.if_icmp .lt 5, 3) := by decide +kernel
theorem d_Program_addThread_8 : decode b_Program_addThread 8 = .ok (.iconst (-1), 1) := by decide +kernel
theorem d_Program_addThread_9 : decode b_Program_addThread 9 = .ok (.ireturn, 1) := by decide +kernel
theorem d_Program_addThread_10 : decode b_Program_addThread 10 = .ok (.aload_n 0, 1) := by decide +kernel
theorem d_Program_addThread_11 : decode b_Program_addThread 11 = .ok (.dup, 1) := by decide +kernel
theorem d_Program_addThread_12 : decode b_Program_addThread 12 = .ok (.getfield 45, 3) := by decide +kernel
theorem d_Program_addThread_15 : decode b_Program_addThread 15 = .ok (.iconst 1, 1) := by decide +kernel
theorem d_Program_addThread_16 : decode b_Program_addThread 16 = .ok (.iadd, 1) := by decide +kernel
theorem d_Program_addThread_17 : decode b_Program_addThread 17 = .ok (.putfield 45, 3) := by decide +kernel
theorem d_Program_addThread_20 : decode b_Program_addThread 20 = .ok (.aload_n 0, 1) := by decide +kernel
theorem d_Program_addThread_21 : decode b_Program_addThread 21 = .ok (.getfield 45, 3) := by decide +kernel
theorem d_Program_addThread_24 : decode b_Program_addThread 24 = .ok (.iconst 1, 1) := by decide +kernel
theorem d_Program_addThread_25 : decode b_Program_addThread 25 = .ok (.isub, 1) := by decide +kernel
theorem d_Program_addThread_26 : decode b_Program_addThread 26 = .ok (.ireturn, 1) := by decide +kernel
theorem d_Program_addAction_0 : decode b_Program_addAction 0 = .ok (.iload_n 1, 1) := by decide +kernel
theorem d_Program_addAction_1 : decode b_Program_addAction 1 = .ok (.ifCond .lt 20, 3) := by decide +kernel
theorem d_Program_addAction_4 : decode b_Program_addAction 4 = .ok (.iload_n 1, 1) := by decide +kernel
theorem d_Program_addAction_5 : decode b_Program_addAction 5 = .ok (.aload_n 0, 1) := by decide +kernel
theorem d_Program_addAction_6 : decode b_Program_addAction 6 = .ok (.getfield 45, 3) := by decide +kernel
theorem d_Program_addAction_9 : decode b_Program_addAction 9 = .ok (.if_icmp .ge 12, 3) := by decide +kernel
theorem d_Program_addAction_12 : decode b_Program_addAction 12 = .ok (.aload_n 0, 1) := by decide +kernel
theorem d_Program_addAction_13 : decode b_Program_addAction 13 = .ok (.getfield 49, 3) := by decide +kernel
theorem d_Program_addAction_16 : decode b_Program_addAction 16 = .ok (.bipush 7, 2) := by decide +kernel
theorem d_Program_addAction_18 : decode b_Program_addAction 18 = .ok (.if_icmp .lt 5, 3) := by decide +kernel
theorem d_Program_addAction_21 : decode b_Program_addAction 21 = .ok (.iconst (-1), 1) := by decide +kernel
theorem d_Program_addAction_22 : decode b_Program_addAction 22 = .ok (.ireturn, 1) := by decide +kernel
theorem d_Program_addAction_23 : decode b_Program_addAction 23 = .ok (.aload_n 0, 1) := by decide +kernel
theorem d_Program_addAction_24 : decode b_Program_addAction 24 = .ok (.getfield 49, 3) := by decide +kernel
theorem d_Program_addAction_27 : decode b_Program_addAction 27 = .ok (.istore 6, 2) := by decide +kernel
theorem d_Program_addAction_29 : decode b_Program_addAction 29 = .ok (.iconst 1, 1) := by decide +kernel
theorem d_Program_addAction_30 : decode b_Program_addAction 30 = .ok (.iload 6, 2) := by decide +kernel
theorem d_Program_addAction_32 : decode b_Program_addAction 32 = .ok (.ishl, 1) := by decide +kernel
theorem d_Program_addAction_33 : decode b_Program_addAction 33 = .ok (.istore 7, 2) := by decide +kernel
theorem d_Program_addAction_35 : decode b_Program_addAction 35 = .ok (.aload_n 0, 1) := by decide +kernel
theorem d_Program_addAction_36 : decode b_Program_addAction 36 = .ok (.getfield 15, 3) := by decide +kernel
theorem d_Program_addAction_39 : decode b_Program_addAction 39 = .ok (.iload_n 1, 1) := by decide +kernel
theorem d_Program_addAction_40 : decode b_Program_addAction 40 = .ok (.bipush 7, 2) := by decide +kernel
theorem d_Program_addAction_42 : decode b_Program_addAction 42 = .ok (.imul, 1) := by decide +kernel
theorem d_Program_addAction_43 : decode b_Program_addAction 43 = .ok (.aload_n 0, 1) := by decide +kernel
theorem d_Program_addAction_44 : decode b_Program_addAction 44 = .ok (.getfield 9, 3) := by decide +kernel
theorem d_Program_addAction_47 : decode b_Program_addAction 47 = .ok (.iload_n 1, 1) := by decide +kernel
theorem d_Program_addAction_48 : decode b_Program_addAction 48 = .ok (.iaload, 1) := by decide +kernel
theorem d_Program_addAction_49 : decode b_Program_addAction 49 = .ok (.iadd, 1) := by decide +kernel
theorem d_Program_addAction_50 : decode b_Program_addAction 50 = .ok (.iload 6, 2) := by decide +kernel
theorem d_Program_addAction_52 : decode b_Program_addAction 52 = .ok (.iastore, 1) := by decide +kernel
theorem d_Program_addAction_53 : decode b_Program_addAction 53 = .ok (.aload_n 0, 1) := by decide +kernel
theorem d_Program_addAction_54 : decode b_Program_addAction 54 = .ok (.getfield 18, 3) := by decide +kernel
theorem d_Program_addAction_57 : decode b_Program_addAction 57 = .ok (.iload 6, 2) := by decide +kernel
theorem d_Program_addAction_59 : decode b_Program_addAction 59 = .ok (.iload_n 1, 1) := by decide +kernel
theorem d_Program_addAction_60 : decode b_Program_addAction 60 = .ok (.iastore, 1) := by decide +kernel
theorem d_Program_addAction_61 : decode b_Program_addAction 61 = .ok (.aload_n 0, 1) := by decide +kernel
theorem d_Program_addAction_62 : decode b_Program_addAction 62 = .ok (.getfield 21, 3) := by decide +kernel
theorem d_Program_addAction_65 : decode b_Program_addAction 65 = .ok (.iload 6, 2) := by decide +kernel
theorem d_Program_addAction_67 : decode b_Program_addAction 67 = .ok (.aload_n 0, 1) := by decide +kernel
theorem d_Program_addAction_68 : decode b_Program_addAction 68 = .ok (.getfield 9, 3) := by decide +kernel
theorem d_Program_addAction_71 : decode b_Program_addAction 71 = .ok (.iload_n 1, 1) := by decide +kernel
theorem d_Program_addAction_72 : decode b_Program_addAction 72 = .ok (.iaload, 1) := by decide +kernel
theorem d_Program_addAction_73 : decode b_Program_addAction 73 = .ok (.iastore, 1) := by decide +kernel
theorem d_Program_addAction_74 : decode b_Program_addAction 74 = .ok (.aload_n 0, 1) := by decide +kernel
theorem d_Program_addAction_75 : decode b_Program_addAction 75 = .ok (.getfield 24, 3) := by decide +kernel
theorem d_Program_addAction_78 : decode b_Program_addAction 78 = .ok (.iload 6, 2) := by decide +kernel
theorem d_Program_addAction_80 : decode b_Program_addAction 80 = .ok (.iload_n 2, 1) := by decide +kernel
theorem d_Program_addAction_81 : decode b_Program_addAction 81 = .ok (.iastore, 1) := by decide +kernel
theorem d_Program_addAction_82 : decode b_Program_addAction 82 = .ok (.aload_n 0, 1) := by decide +kernel
theorem d_Program_addAction_83 : decode b_Program_addAction 83 = .ok (.getfield 27, 3) := by decide +kernel
theorem d_Program_addAction_86 : decode b_Program_addAction 86 = .ok (.iload 6, 2) := by decide +kernel
theorem d_Program_addAction_88 : decode b_Program_addAction 88 = .ok (.iload_n 3, 1) := by decide +kernel
theorem d_Program_addAction_89 : decode b_Program_addAction 89 = .ok (.iastore, 1) := by decide +kernel
theorem d_Program_addAction_90 : decode b_Program_addAction 90 = .ok (.aload_n 0, 1) := by decide +kernel
theorem d_Program_addAction_91 : decode b_Program_addAction 91 = .ok (.getfield 30, 3) := by decide +kernel
theorem d_Program_addAction_94 : decode b_Program_addAction 94 = .ok (.iload 6, 2) := by decide +kernel
theorem d_Program_addAction_96 : decode b_Program_addAction 96 = .ok (.iload_n 1, 1) := by decide +kernel
theorem d_Program_addAction_97 : decode b_Program_addAction 97 = .ok (.iconst 2, 1) := by decide +kernel
theorem d_Program_addAction_98 : decode b_Program_addAction 98 = .ok (.imul, 1) := by decide +kernel
theorem d_Program_addAction_99 : decode b_Program_addAction 99 = .ok (.iload 4, 2) := by decide +kernel
theorem d_Program_addAction_101 : decode b_Program_addAction 101 = .ok (.iadd, 1) := by decide +kernel
theorem d_Program_addAction_102 : decode b_Program_addAction 102 = .ok (.iastore, 1) := by decide +kernel
theorem d_Program_addAction_103 : decode b_Program_addAction 103 = .ok (.aload_n 0, 1) := by decide +kernel
theorem d_Program_addAction_104 : decode b_Program_addAction 104 = .ok (.getfield 33, 3) := by decide +kernel
theorem d_Program_addAction_107 : decode b_Program_addAction 107 = .ok (.iload 6, 2) := by decide +kernel
theorem d_Program_addAction_109 : decode b_Program_addAction 109 = .ok (.iload 5, 2) := by decide +kernel
theorem d_Program_addAction_111 : decode b_Program_addAction 111 = .ok (.iastore, 1) := by decide +kernel
theorem d_Program_addAction_112 : decode b_Program_addAction 112 = .ok (.aload_n 0, 1) := by decide +kernel
theorem d_Program_addAction_113 : decode b_Program_addAction 113 = .ok (.getfield 36, 3) := by decide +kernel
theorem d_Program_addAction_116 : decode b_Program_addAction 116 = .ok (.iload_n 1, 1) := by decide +kernel
theorem d_Program_addAction_117 : decode b_Program_addAction 117 = .ok (.dup2, 1) := by decide +kernel
theorem d_Program_addAction_118 : decode b_Program_addAction 118 = .ok (.iaload, 1) := by decide +kernel
theorem d_Program_addAction_119 : decode b_Program_addAction 119 = .ok (.iload 7, 2) := by decide +kernel
theorem d_Program_addAction_121 : decode b_Program_addAction 121 = .ok (.ior, 1) := by decide +kernel
theorem d_Program_addAction_122 : decode b_Program_addAction 122 = .ok (.iastore, 1) := by decide +kernel
theorem d_Program_addAction_123 : decode b_Program_addAction 123 = .ok (.aload_n 0, 1) := by decide +kernel
theorem d_Program_addAction_124 : decode b_Program_addAction 124 = .ok (.getfield 39, 3) := by decide +kernel
theorem d_Program_addAction_127 : decode b_Program_addAction 127 = .ok (.iload_n 2, 1) := by decide +kernel
theorem d_Program_addAction_128 : decode b_Program_addAction 128 = .ok (.dup2, 1) := by decide +kernel
theorem d_Program_addAction_129 : decode b_Program_addAction 129 = .ok (.iaload, 1) := by decide +kernel
theorem d_Program_addAction_130 : decode b_Program_addAction 130 = .ok (.iload 7, 2) := by decide +kernel
theorem d_Program_addAction_132 : decode b_Program_addAction 132 = .ok (.ior, 1) := by decide +kernel
theorem d_Program_addAction_133 : decode b_Program_addAction 133 = .ok (.iastore, 1) := by decide +kernel
theorem d_Program_addAction_134 : decode b_Program_addAction 134 = .ok (.iload_n 2, 1) := by decide +kernel
theorem d_Program_addAction_135 : decode b_Program_addAction 135 = .ok (.iconst 4, 1) := by decide +kernel
theorem d_Program_addAction_136 : decode b_Program_addAction 136 = .ok (.if_icmp .ge 14, 3) := by decide +kernel
theorem d_Program_addAction_139 : decode b_Program_addAction 139 = .ok (.aload_n 0, 1) := by decide +kernel
theorem d_Program_addAction_140 : decode b_Program_addAction 140 = .ok (.getfield 42, 3) := by decide +kernel
theorem d_Program_addAction_143 : decode b_Program_addAction 143 = .ok (.iload_n 3, 1) := by decide +kernel
theorem d_Program_addAction_144 : decode b_Program_addAction 144 = .ok (.dup2, 1) := by decide +kernel
theorem d_Program_addAction_145 : decode b_Program_addAction 145 = .ok (.iaload, 1) := by decide +kernel
theorem d_Program_addAction_146 : decode b_Program_addAction 146 = .ok (.iload 7, 2) := by decide +kernel
theorem d_Program_addAction_148 : decode b_Program_addAction 148 = .ok (.ior, 1) := by decide +kernel
theorem d_Program_addAction_149 : decode b_Program_addAction 149 = .ok (.iastore, 1) := by decide +kernel
theorem d_Program_addAction_150 : decode b_Program_addAction 150 = .ok (.aload_n 0, 1) := by decide +kernel
theorem d_Program_addAction_151 : decode b_Program_addAction 151 = .ok (.dup, 1) := by decide +kernel
theorem d_Program_addAction_152 : decode b_Program_addAction 152 = .ok (.getfield 49, 3) := by decide +kernel
theorem d_Program_addAction_155 : decode b_Program_addAction 155 = .ok (.iconst 1, 1) := by decide +kernel
theorem d_Program_addAction_156 : decode b_Program_addAction 156 = .ok (.iadd, 1) := by decide +kernel
theorem d_Program_addAction_157 : decode b_Program_addAction 157 = .ok (.putfield 49, 3) := by decide +kernel
theorem d_Program_addAction_160 : decode b_Program_addAction 160 = .ok (.aload_n 0, 1) := by decide +kernel
theorem d_Program_addAction_161 : decode b_Program_addAction 161 = .ok (.getfield 9, 3) := by decide +kernel
theorem d_Program_addAction_164 : decode b_Program_addAction 164 = .ok (.iload_n 1, 1) := by decide +kernel
theorem d_Program_addAction_165 : decode b_Program_addAction 165 = .ok (.dup2, 1) := by decide +kernel
theorem d_Program_addAction_166 : decode b_Program_addAction 166 = .ok (.iaload, 1) := by decide +kernel
theorem d_Program_addAction_167 : decode b_Program_addAction 167 = .ok (.iconst 1, 1) := by decide +kernel
theorem d_Program_addAction_168 : decode b_Program_addAction 168 = .ok (.iadd, 1) := by decide +kernel
theorem d_Program_addAction_169 : decode b_Program_addAction 169 = .ok (.iastore, 1) := by decide +kernel
theorem d_Program_addAction_170 : decode b_Program_addAction 170 = .ok (.aload_n 0, 1) := by decide +kernel
theorem d_Program_addAction_171 : decode b_Program_addAction 171 = .ok (.getfield 9, 3) := by decide +kernel
theorem d_Program_addAction_174 : decode b_Program_addAction 174 = .ok (.iload_n 1, 1) := by decide +kernel
theorem d_Program_addAction_175 : decode b_Program_addAction 175 = .ok (.iaload, 1) := by decide +kernel
theorem d_Program_addAction_176 : decode b_Program_addAction 176 = .ok (.ireturn, 1) := by decide +kernel
theorem d_Program_idAt_0 : decode b_Program_idAt 0 = .ok (.iload_n 1, 1) := by decide +kernel
theorem d_Program_idAt_1 : decode b_Program_idAt 1 = .ok (.ifCond .lt 25, 3) := by decide +kernel
theorem d_Program_idAt_4 : decode b_Program_idAt 4 = .ok (.iload_n 1, 1) := by decide +kernel
theorem d_Program_idAt_5 : decode b_Program_idAt 5 = .ok (.aload_n 0, 1) := by decide +kernel
theorem d_Program_idAt_6 : decode b_Program_idAt 6 = .ok (.getfield 45, 3) := by decide +kernel
theorem d_Program_idAt_9 : decode b_Program_idAt 9 = .ok (.if_icmp .ge 17, 3) := by decide +kernel
theorem d_Program_idAt_12 : decode b_Program_idAt 12 = .ok (.iload_n 2, 1) := by decide +kernel
theorem d_Program_idAt_13 : decode b_Program_idAt 13 = .ok (.ifCond .lt 13, 3) := by decide +kernel
theorem d_Program_idAt_16 : decode b_Program_idAt 16 = .ok (.iload_n 2, 1) := by decide +kernel
theorem d_Program_idAt_17 : decode b_Program_idAt 17 = .ok (.aload_n 0, 1) := by decide +kernel
theorem d_Program_idAt_18 : decode b_Program_idAt 18 = .ok (.getfield 9, 3) := by decide +kernel
theorem d_Program_idAt_21 : decode b_Program_idAt 21 = .ok (.iload_n 1, 1) := by decide +kernel
theorem d_Program_idAt_22 : decode b_Program_idAt 22 = .ok (.iaload, 1) := by decide +kernel
theorem d_Program_idAt_23 : decode b_Program_idAt 23 = .ok (.if_icmp .lt 5, 3) := by decide +kernel
theorem d_Program_idAt_26 : decode b_Program_idAt 26 = .ok (.iconst (-1), 1) := by decide +kernel
theorem d_Program_idAt_27 : decode b_Program_idAt 27 = .ok (.ireturn, 1) := by decide +kernel
theorem d_Program_idAt_28 : decode b_Program_idAt 28 = .ok (.aload_n 0, 1) := by decide +kernel
theorem d_Program_idAt_29 : decode b_Program_idAt 29 = .ok (.getfield 15, 3) := by decide +kernel
theorem d_Program_idAt_32 : decode b_Program_idAt 32 = .ok (.iload_n 1, 1) := by decide +kernel
theorem d_Program_idAt_33 : decode b_Program_idAt 33 = .ok (.bipush 7, 2) := by decide +kernel
theorem d_Program_idAt_35 : decode b_Program_idAt 35 = .ok (.imul, 1) := by decide +kernel
theorem d_Program_idAt_36 : decode b_Program_idAt 36 = .ok (.iload_n 2, 1) := by decide +kernel
theorem d_Program_idAt_37 : decode b_Program_idAt 37 = .ok (.iadd, 1) := by decide +kernel
theorem d_Program_idAt_38 : decode b_Program_idAt 38 = .ok (.iaload, 1) := by decide +kernel
theorem d_Program_idAt_39 : decode b_Program_idAt 39 = .ok (.ireturn, 1) := by decide +kernel
theorem d_Program_writersOf_0 : decode b_Program_writersOf 0 = .ok (.iload_n 1, 1) := by decide +kernel
theorem d_Program_writersOf_1 : decode b_Program_writersOf 1 = .ok (.iconst 3, 1) := by decide +kernel
theorem d_Program_writersOf_2 : decode b_Program_writersOf 2 = .ok (.if_icmp .ne 12, 3) := by decide +kernel
theorem d_Program_writersOf_5 : decode b_Program_writersOf 5 = .ok (.aload_n 0, 1) := by decide +kernel
theorem d_Program_writersOf_6 : decode b_Program_writersOf 6 = .ok (.getfield 39, 3) := by decide +kernel
theorem d_Program_writersOf_9 : decode b_Program_writersOf 9 = .ok (.iconst 4, 1) := by decide +kernel
theorem d_Program_writersOf_10 : decode b_Program_writersOf 10 = .ok (.iaload, 1) := by decide +kernel
theorem d_Program_writersOf_11 : decode b_Program_writersOf 11 = .ok (.goto 18, 3) := by decide +kernel
theorem d_Program_writersOf_14 : decode b_Program_writersOf 14 = .ok (.aload_n 0, 1) := by decide +kernel
theorem d_Program_writersOf_15 : decode b_Program_writersOf 15 = .ok (.getfield 42, 3) := by decide +kernel
theorem d_Program_writersOf_18 : decode b_Program_writersOf 18 = .ok (.iload_n 1, 1) := by decide +kernel
theorem d_Program_writersOf_19 : decode b_Program_writersOf 19 = .ok (.iaload, 1) := by decide +kernel
theorem d_Program_writersOf_20 : decode b_Program_writersOf 20 = .ok (.aload_n 0, 1) := by decide +kernel
theorem d_Program_writersOf_21 : decode b_Program_writersOf 21 = .ok (.getfield 39, 3) := by decide +kernel
theorem d_Program_writersOf_24 : decode b_Program_writersOf 24 = .ok (.iconst 0, 1) := by decide +kernel
theorem d_Program_writersOf_25 : decode b_Program_writersOf 25 = .ok (.iaload, 1) := by decide +kernel
theorem d_Program_writersOf_26 : decode b_Program_writersOf 26 = .ok (.iconst (-1), 1) := by decide +kernel
theorem d_Program_writersOf_27 : decode b_Program_writersOf 27 = .ok (.ixor, 1) := by decide +kernel
theorem d_Program_writersOf_28 : decode b_Program_writersOf 28 = .ok (.iand, 1) := by decide +kernel
theorem d_Program_writersOf_29 : decode b_Program_writersOf 29 = .ok (.ireturn, 1) := by decide +kernel
theorem d_Progress_init_0 : decode b_Progress_init 0 = .ok (.aload_n 0, 1) := by decide +kernel
theorem d_Progress_init_1 : decode b_Progress_init 1 = .ok (.invokespecial 3, 3) := by decide +kernel
theorem d_Progress_init_4 : decode b_Progress_init 4 = .ok (.aload_n 0, 1) := by decide +kernel
theorem d_Progress_init_5 : decode b_Progress_init 5 = .ok (.iconst 4, 1) := by decide +kernel
theorem d_Progress_init_6 : decode b_Progress_init 6 = .ok (.newarray .int, 2) := by decide +kernel
theorem d_Progress_init_8 : decode b_Progress_init 8 = .ok (.putfield 9, 3) := by decide +kernel
theorem d_Progress_init_11 : decode b_Progress_init 11 = .ok (.aload_n 0, 1) := by decide +kernel
theorem d_Progress_init_12 : decode b_Progress_init 12 = .ok (.bipush 8, 2) := by decide +kernel
theorem d_Progress_init_14 : decode b_Progress_init 14 = .ok (.newarray .int, 2) := by decide +kernel
theorem d_Progress_init_16 : decode b_Progress_init 16 = .ok (.putfield 15, 3) := by decide +kernel
theorem d_Progress_init_19 : decode b_Progress_init 19 = .ok (.aload_n 0, 1) := by decide +kernel
theorem d_Progress_init_20 : decode b_Progress_init 20 = .ok (.bipush 8, 2) := by decide +kernel
theorem d_Progress_init_22 : decode b_Progress_init 22 = .ok (.newarray .int, 2) := by decide +kernel
theorem d_Progress_init_24 : decode b_Progress_init 24 = .ok (.putfield 18, 3) := by decide +kernel
theorem d_Progress_init_27 : decode b_Progress_init 27 = .ok (.aload_n 0, 1) := by decide +kernel
theorem d_Progress_init_28 : decode b_Progress_init 28 = .ok (.aload_n 1, 1) := by decide +kernel
theorem d_Progress_init_29 : decode b_Progress_init 29 = .ok (.putfield 21, 3) := by decide +kernel
theorem d_Progress_init_32 : decode b_Progress_init 32 = .ok (.return_, 1) := by decide +kernel
theorem d_Progress_begin_0 : decode b_Progress_begin 0 = .ok (.aload_n 0, 1) := by decide +kernel
theorem d_Progress_begin_1 : decode b_Progress_begin 1 = .ok (.getfield 9, 3) := by decide +kernel
theorem d_Progress_begin_4 : decode b_Progress_begin 4 = .ok (.iconst 0, 1) := by decide +kernel
theorem d_Progress_begin_5 : decode b_Progress_begin 5 = .ok (.invokestatic 25, 3) := by decide +kernel
theorem d_Progress_begin_8 : decode b_Progress_begin 8 = .ok (.aload_n 0, 1) := by decide +kernel
theorem d_Progress_begin_9 : decode b_Progress_begin 9 = .ok (.getfield 15, 3) := by decide +kernel
theorem d_Progress_begin_12 : decode b_Progress_begin 12 = .ok (.iconst 0, 1) := by decide +kernel
theorem d_Progress_begin_13 : decode b_Progress_begin 13 = .ok (.invokestatic 25, 3) := by decide +kernel
theorem d_Progress_begin_16 : decode b_Progress_begin 16 = .ok (.aload_n 0, 1) := by decide +kernel
theorem d_Progress_begin_17 : decode b_Progress_begin 17 = .ok (.iconst 0, 1) := by decide +kernel
theorem d_Progress_begin_18 : decode b_Progress_begin 18 = .ok (.putfield 31, 3) := by decide +kernel
theorem d_Progress_begin_21 : decode b_Progress_begin 21 = .ok (.aload_n 0, 1) := by decide +kernel
theorem d_Progress_begin_22 : decode b_Progress_begin 22 = .ok (.lconst 0, 1) := by decide +kernel
theorem d_Progress_begin_23 : decode b_Progress_begin 23 = .ok (.putfield 35, 3) := by decide +kernel
theorem d_Progress_begin_26 : decode b_Progress_begin 26 = .ok (.return_, 1) := by decide +kernel
theorem d_Progress_key_0 : decode b_Progress_key 0 = .ok (.aload_n 0, 1) := by decide +kernel
theorem d_Progress_key_1 : decode b_Progress_key 1 = .ok (.getfield 35, 3) := by decide +kernel
theorem d_Progress_key_4 : decode b_Progress_key 4 = .ok (.bipush 7, 2) := by decide +kernel
theorem d_Progress_key_6 : decode b_Progress_key 6 = .ok (.lshl, 1) := by decide +kernel
theorem d_Progress_key_7 : decode b_Progress_key 7 = .ok (.aload_n 0, 1) := by decide +kernel
theorem d_Progress_key_8 : decode b_Progress_key 8 = .ok (.getfield 31, 3) := by decide +kernel
theorem d_Progress_key_11 : decode b_Progress_key 11 = .ok (.i2l, 1) := by decide +kernel
theorem d_Progress_key_12 : decode b_Progress_key 12 = .ok (.lor, 1) := by decide +kernel
theorem d_Progress_key_13 : decode b_Progress_key 13 = .ok (.lreturn, 1) := by decide +kernel
theorem d_Progress_registersKey_0 : decode b_Progress_registersKey 0 = .ok (.lconst 0, 1) := by decide +kernel
theorem d_Progress_registersKey_1 : decode b_Progress_registersKey 1 = .ok (.lstore_n 1, 1) := by decide +kernel
theorem d_Progress_registersKey_2 : decode b_Progress_registersKey 2 = .ok (.iconst 0, 1) := by decide +kernel
theorem d_Progress_registersKey_3 : decode b_Progress_registersKey 3 = .ok (.istore_n 3, 1) := by decide +kernel
theorem d_Progress_registersKey_4 : decode b_Progress_registersKey 4 = .ok (.iload_n 3, 1) := by decide +kernel
theorem d_Progress_registersKey_5 : decode b_Progress_registersKey 5 = .ok (.bipush 8, 2) := by decide +kernel
theorem d_Progress_registersKey_7 : decode b_Progress_registersKey 7 = .ok (.if_icmp .ge 25, 3) := by decide +kernel
theorem d_Progress_registersKey_10 : decode b_Progress_registersKey 10 = .ok (.lload_n 1, 1) := by decide +kernel
theorem d_Progress_registersKey_11 : decode b_Progress_registersKey 11 = .ok (.bipush 7, 2) := by decide +kernel
theorem d_Progress_registersKey_13 : decode b_Progress_registersKey 13 = .ok (.lshl, 1) := by decide +kernel
theorem d_Progress_registersKey_14 : decode b_Progress_registersKey 14 = .ok (.aload_n 0, 1) := by decide +kernel
theorem d_Progress_registersKey_15 : decode b_Progress_registersKey 15 = .ok (.getfield 15, 3) := by decide +kernel
theorem d_Progress_registersKey_18 : decode b_Progress_registersKey 18 = .ok (.iload_n 3, 1) := by decide +kernel
theorem d_Progress_registersKey_19 : decode b_Progress_registersKey 19 = .ok (.iaload, 1) := by decide +kernel
theorem d_Progress_registersKey_20 : decode b_Progress_registersKey 20 = .ok (.bipush 64, 2) := by decide +kernel
theorem d_Progress_registersKey_22 : decode b_Progress_registersKey 22 = .ok (.iadd, 1) := by decide +kernel
theorem d_Progress_registersKey_23 : decode b_Progress_registersKey 23 = .ok (.i2l, 1) := by decide +kernel
theorem d_Progress_registersKey_24 : decode b_Progress_registersKey 24 = .ok (.lor, 1) := by decide +kernel
theorem d_Progress_registersKey_25 : decode b_Progress_registersKey 25 = .ok (.lstore_n 1, 1) := by decide +kernel
theorem d_Progress_registersKey_26 : decode b_Progress_registersKey 26 = .ok (.iinc 3 1, 3) := by decide +kernel
theorem d_Progress_registersKey_29 : decode b_Progress_registersKey 29 = .ok (.goto (-25), 3) := by decide +kernel
theorem d_Progress_registersKey_32 : decode b_Progress_registersKey 32 = .ok (.lload_n 1, 1) := by decide +kernel
theorem d_Progress_registersKey_33 : decode b_Progress_registersKey 33 = .ok (.lreturn, 1) := by decide +kernel
theorem d_Progress_variablesKey_0 : decode b_Progress_variablesKey 0 = .ok (.aload_n 0, 1) := by decide +kernel
theorem d_Progress_variablesKey_1 : decode b_Progress_variablesKey 1 = .ok (.getfield 18, 3) := by decide +kernel
theorem d_Progress_variablesKey_4 : decode b_Progress_variablesKey 4 = .ok (.iload_n 1, 1) := by decide +kernel
theorem d_Progress_variablesKey_5 : decode b_Progress_variablesKey 5 = .ok (.iaload, 1) := by decide +kernel
theorem d_Progress_variablesKey_6 : decode b_Progress_variablesKey 6 = .ok (.bipush 64, 2) := by decide +kernel
theorem d_Progress_variablesKey_8 : decode b_Progress_variablesKey 8 = .ok (.iadd, 1) := by decide +kernel
theorem d_Progress_variablesKey_9 : decode b_Progress_variablesKey 9 = .ok (.istore 4, 2) := by decide +kernel
theorem d_Progress_variablesKey_11 : decode b_Progress_variablesKey 11 = .ok (.iload 4, 2) := by decide +kernel
theorem d_Progress_variablesKey_13 : decode b_Progress_variablesKey 13 = .ok (.bipush 7, 2) := by decide +kernel
theorem d_Progress_variablesKey_15 : decode b_Progress_variablesKey 15 = .ok (.ishl, 1) := by decide +kernel
theorem d_Progress_variablesKey_16 : decode b_Progress_variablesKey 16 = .ok (.aload_n 0, 1) := by decide +kernel
theorem d_Progress_variablesKey_17 : decode b_Progress_variablesKey 17 = .ok (.getfield 18, 3) := by decide +kernel
theorem d_Progress_variablesKey_20 : decode b_Progress_variablesKey 20 = .ok (.iload_n 2, 1) := by decide +kernel
theorem d_Progress_variablesKey_21 : decode b_Progress_variablesKey 21 = .ok (.iaload, 1) := by decide +kernel
theorem d_Progress_variablesKey_22 : decode b_Progress_variablesKey 22 = .ok (.bipush 64, 2) := by decide +kernel
theorem d_Progress_variablesKey_24 : decode b_Progress_variablesKey 24 = .ok (.iadd, 1) := by decide +kernel
theorem d_Progress_variablesKey_25 : decode b_Progress_variablesKey 25 = .ok (.ior, 1) := by decide +kernel
theorem d_Progress_variablesKey_26 : decode b_Progress_variablesKey 26 = .ok (.istore 4, 2) := by decide +kernel
theorem d_Progress_variablesKey_28 : decode b_Progress_variablesKey 28 = .ok (.iload 4, 2) := by decide +kernel
theorem d_Progress_variablesKey_30 : decode b_Progress_variablesKey 30 = .ok (.bipush 7, 2) := by decide +kernel
theorem d_Progress_variablesKey_32 : decode b_Progress_variablesKey 32 = .ok (.ishl, 1) := by decide +kernel
theorem d_Progress_variablesKey_33 : decode b_Progress_variablesKey 33 = .ok (.aload_n 0, 1) := by decide +kernel
theorem d_Progress_variablesKey_34 : decode b_Progress_variablesKey 34 = .ok (.getfield 18, 3) := by decide +kernel
theorem d_Progress_variablesKey_37 : decode b_Progress_variablesKey 37 = .ok (.iload_n 3, 1) := by decide +kernel
theorem d_Progress_variablesKey_38 : decode b_Progress_variablesKey 38 = .ok (.iaload, 1) := by decide +kernel
theorem d_Progress_variablesKey_39 : decode b_Progress_variablesKey 39 = .ok (.bipush 64, 2) := by decide +kernel
theorem d_Progress_variablesKey_41 : decode b_Progress_variablesKey 41 = .ok (.iadd, 1) := by decide +kernel
theorem d_Progress_variablesKey_42 : decode b_Progress_variablesKey 42 = .ok (.ior, 1) := by decide +kernel
theorem d_Progress_variablesKey_43 : decode b_Progress_variablesKey 43 = .ok (.ireturn, 1) := by decide +kernel
theorem d_StateSet_init_0 : decode b_StateSet_init 0 = .ok (.aload_n 0, 1) := by decide +kernel
theorem d_StateSet_init_1 : decode b_StateSet_init 1 = .ok (.invokespecial 1, 3) := by decide +kernel
theorem d_StateSet_init_4 : decode b_StateSet_init 4 = .ok (.aload_n 0, 1) := by decide +kernel
theorem d_StateSet_init_5 : decode b_StateSet_init 5 = .ok (.iconst 0, 1) := by decide +kernel
theorem d_StateSet_init_6 : decode b_StateSet_init 6 = .ok (.newarray .long, 2) := by decide +kernel
theorem d_StateSet_init_8 : decode b_StateSet_init 8 = .ok (.putfield 7, 3) := by decide +kernel
theorem d_StateSet_init_11 : decode b_StateSet_init 11 = .ok (.aload_n 0, 1) := by decide +kernel
theorem d_StateSet_init_12 : decode b_StateSet_init 12 = .ok (.iconst 0, 1) := by decide +kernel
theorem d_StateSet_init_13 : decode b_StateSet_init 13 = .ok (.newarray .int, 2) := by decide +kernel
theorem d_StateSet_init_15 : decode b_StateSet_init 15 = .ok (.putfield 13, 3) := by decide +kernel
theorem d_StateSet_init_18 : decode b_StateSet_init 18 = .ok (.return_, 1) := by decide +kernel
theorem d_StateSet_empty_0 : decode b_StateSet_empty 0 = .ok (.aload_n 0, 1) := by decide +kernel
theorem d_StateSet_empty_1 : decode b_StateSet_empty 1 = .ok (.iconst 0, 1) := by decide +kernel
theorem d_StateSet_empty_2 : decode b_StateSet_empty 2 = .ok (.putfield 17, 3) := by decide +kernel
theorem d_StateSet_empty_5 : decode b_StateSet_empty 5 = .ok (.aload_n 0, 1) := by decide +kernel
theorem d_StateSet_empty_6 : decode b_StateSet_empty 6 = .ok (.sipush 256, 3) := by decide +kernel
theorem d_StateSet_empty_9 : decode b_StateSet_empty 9 = .ok (.invokevirtual 21, 3) := by decide +kernel
theorem d_StateSet_empty_12 : decode b_StateSet_empty 12 = .ok (.return_, 1) := by decide +kernel
theorem d_StateSet_add_0 : decode b_StateSet_add 0 = .ok (.aload_n 0, 1) := by decide +kernel
theorem d_StateSet_add_1 : decode b_StateSet_add 1 = .ok (.lload_n 1, 1) := by decide +kernel
theorem d_StateSet_add_2 : decode b_StateSet_add 2 = .ok (.invokevirtual 25, 3) := by decide +kernel
theorem d_StateSet_add_5 : decode b_StateSet_add 5 = .ok (.istore_n 3, 1) := by decide +kernel
theorem d_StateSet_add_6 : decode b_StateSet_add 6 = .ok (.aload_n 0, 1) := by decide +kernel
theorem d_StateSet_add_7 : decode b_StateSet_add 7 = .ok (.getfield 13, 3) := by decide +kernel
theorem d_StateSet_add_10 : decode b_StateSet_add 10 = .ok (.iload_n 3, 1) := by decide +kernel
theorem d_StateSet_add_11 : decode b_StateSet_add 11 = .ok (.iaload, 1) := by decide +kernel
theorem d_StateSet_add_12 : decode b_StateSet_add 12 = .ok (.ifCond .ne 12, 3) := by decide +kernel
theorem d_StateSet_add_15 : decode b_StateSet_add 15 = .ok (.aload_n 0, 1) := by decide +kernel
theorem d_StateSet_add_16 : decode b_StateSet_add 16 = .ok (.getfield 17, 3) := by decide +kernel
theorem d_StateSet_add_19 : decode b_StateSet_add 19 = .ok (.ldc 29, 2) := by decide +kernel
theorem d_StateSet_add_21 : decode b_StateSet_add 21 = .ok (.if_icmp .lt 5, 3) := by decide +kernel
theorem d_StateSet_add_24 : decode b_StateSet_add 24 = .ok (.iconst 0, 1) := by decide +kernel
theorem d_StateSet_add_25 : decode b_StateSet_add 25 = .ok (.ireturn, 1) := by decide +kernel
theorem d_StateSet_add_26 : decode b_StateSet_add 26 = .ok (.aload_n 0, 1) := by decide +kernel
theorem d_StateSet_add_27 : decode b_StateSet_add 27 = .ok (.getfield 17, 3) := by decide +kernel
theorem d_StateSet_add_30 : decode b_StateSet_add 30 = .ok (.aload_n 0, 1) := by decide +kernel
theorem d_StateSet_add_31 : decode b_StateSet_add 31 = .ok (.getfield 7, 3) := by decide +kernel
theorem d_StateSet_add_34 : decode b_StateSet_add 34 = .ok (.arraylength, 1) := by decide +kernel
theorem d_StateSet_add_35 : decode b_StateSet_add 35 = .ok (.if_icmp .lt 26, 3) := by decide +kernel
theorem d_StateSet_add_38 : decode b_StateSet_add 38 = .ok (.aload_n 0, 1) := by decide +kernel
theorem d_StateSet_add_39 : decode b_StateSet_add 39 = .ok (.aload_n 0, 1) := by decide +kernel
theorem d_StateSet_add_40 : decode b_StateSet_add 40 = .ok (.getfield 7, 3) := by decide +kernel
theorem d_StateSet_add_43 : decode b_StateSet_add 43 = .ok (.sipush 256, 3) := by decide +kernel
theorem d_StateSet_add_46 : decode b_StateSet_add 46 = .ok (.iconst 2, 1) := by decide +kernel
theorem d_StateSet_add_47 : decode b_StateSet_add 47 = .ok (.aload_n 0, 1) := by decide +kernel
theorem d_StateSet_add_48 : decode b_StateSet_add 48 = .ok (.getfield 17, 3) := by decide +kernel
theorem d_StateSet_add_51 : decode b_StateSet_add 51 = .ok (.imul, 1) := by decide +kernel
theorem d_StateSet_add_52 : decode b_StateSet_add 52 = .ok (.invokestatic 30, 3) := by decide +kernel
theorem d_StateSet_add_55 : decode b_StateSet_add 55 = .ok (.invokestatic 36, 3) := by decide +kernel
theorem d_StateSet_add_58 : decode b_StateSet_add 58 = .ok (.putfield 7, 3) := by decide +kernel
theorem d_StateSet_add_61 : decode b_StateSet_add 61 = .ok (.aload_n 0, 1) := by decide +kernel
theorem d_StateSet_add_62 : decode b_StateSet_add 62 = .ok (.getfield 7, 3) := by decide +kernel
theorem d_StateSet_add_65 : decode b_StateSet_add 65 = .ok (.aload_n 0, 1) := by decide +kernel
theorem d_StateSet_add_66 : decode b_StateSet_add 66 = .ok (.getfield 17, 3) := by decide +kernel
theorem d_StateSet_add_69 : decode b_StateSet_add 69 = .ok (.lload_n 1, 1) := by decide +kernel
theorem d_StateSet_add_70 : decode b_StateSet_add 70 = .ok (.lastore, 1) := by decide +kernel
theorem d_StateSet_add_71 : decode b_StateSet_add 71 = .ok (.aload_n 0, 1) := by decide +kernel
theorem d_StateSet_add_72 : decode b_StateSet_add 72 = .ok (.dup, 1) := by decide +kernel
theorem d_StateSet_add_73 : decode b_StateSet_add 73 = .ok (.getfield 17, 3) := by decide +kernel
theorem d_StateSet_add_76 : decode b_StateSet_add 76 = .ok (.iconst 1, 1) := by decide +kernel
theorem d_StateSet_add_77 : decode b_StateSet_add 77 = .ok (.iadd, 1) := by decide +kernel
theorem d_StateSet_add_78 : decode b_StateSet_add 78 = .ok (.putfield 17, 3) := by decide +kernel
theorem d_StateSet_add_81 : decode b_StateSet_add 81 = .ok (.aload_n 0, 1) := by decide +kernel
theorem d_StateSet_add_82 : decode b_StateSet_add 82 = .ok (.getfield 13, 3) := by decide +kernel
theorem d_StateSet_add_85 : decode b_StateSet_add 85 = .ok (.iload_n 3, 1) := by decide +kernel
theorem d_StateSet_add_86 : decode b_StateSet_add 86 = .ok (.aload_n 0, 1) := by decide +kernel
theorem d_StateSet_add_87 : decode b_StateSet_add 87 = .ok (.getfield 17, 3) := by decide +kernel
theorem d_StateSet_add_90 : decode b_StateSet_add 90 = .ok (.iastore, 1) := by decide +kernel
theorem d_StateSet_add_91 : decode b_StateSet_add 91 = .ok (.iconst 2, 1) := by decide +kernel
theorem d_StateSet_add_92 : decode b_StateSet_add 92 = .ok (.aload_n 0, 1) := by decide +kernel
theorem d_StateSet_add_93 : decode b_StateSet_add 93 = .ok (.getfield 17, 3) := by decide +kernel
theorem d_StateSet_add_96 : decode b_StateSet_add 96 = .ok (.imul, 1) := by decide +kernel
theorem d_StateSet_add_97 : decode b_StateSet_add 97 = .ok (.aload_n 0, 1) := by decide +kernel
theorem d_StateSet_add_98 : decode b_StateSet_add 98 = .ok (.getfield 42, 3) := by decide +kernel
theorem d_StateSet_add_101 : decode b_StateSet_add 101 = .ok (.if_icmp .le 13, 3) := by decide +kernel
theorem d_StateSet_add_104 : decode b_StateSet_add 104 = .ok (.aload_n 0, 1) := by decide +kernel
theorem d_StateSet_add_105 : decode b_StateSet_add 105 = .ok (.iconst 2, 1) := by decide +kernel
theorem d_StateSet_add_106 : decode b_StateSet_add 106 = .ok (.aload_n 0, 1) := by decide +kernel
theorem d_StateSet_add_107 : decode b_StateSet_add 107 = .ok (.getfield 42, 3) := by decide +kernel
theorem d_StateSet_add_110 : decode b_StateSet_add 110 = .ok (.imul, 1) := by decide +kernel
theorem d_StateSet_add_111 : decode b_StateSet_add 111 = .ok (.invokevirtual 21, 3) := by decide +kernel
theorem d_StateSet_add_114 : decode b_StateSet_add 114 = .ok (.iconst 1, 1) := by decide +kernel
theorem d_StateSet_add_115 : decode b_StateSet_add 115 = .ok (.ireturn, 1) := by decide +kernel
theorem d_StateSet_makeRoom_0 : decode b_StateSet_makeRoom 0 = .ok (.aload_n 0, 1) := by decide +kernel
theorem d_StateSet_makeRoom_1 : decode b_StateSet_makeRoom 1 = .ok (.iload_n 1, 1) := by decide +kernel
theorem d_StateSet_makeRoom_2 : decode b_StateSet_makeRoom 2 = .ok (.putfield 42, 3) := by decide +kernel
theorem d_StateSet_makeRoom_5 : decode b_StateSet_makeRoom 5 = .ok (.aload_n 0, 1) := by decide +kernel
theorem d_StateSet_makeRoom_6 : decode b_StateSet_makeRoom 6 = .ok (.getfield 13, 3) := by decide +kernel
theorem d_StateSet_makeRoom_9 : decode b_StateSet_makeRoom 9 = .ok (.arraylength, 1) := by decide +kernel
theorem d_StateSet_makeRoom_10 : decode b_StateSet_makeRoom 10 = .ok (.aload_n 0, 1) := by decide +kernel
theorem d_StateSet_makeRoom_11 : decode b_StateSet_makeRoom 11 = .ok (.getfield 42, 3) := by decide +kernel
theorem d_StateSet_makeRoom_14 : decode b_StateSet_makeRoom 14 = .ok (.if_icmp .ge 16, 3) := by decide +kernel
theorem d_StateSet_makeRoom_17 : decode b_StateSet_makeRoom 17 = .ok (.aload_n 0, 1) := by decide +kernel
theorem d_StateSet_makeRoom_18 : decode b_StateSet_makeRoom 18 = .ok (.aload_n 0, 1) := by decide +kernel
theorem d_StateSet_makeRoom_19 : decode b_StateSet_makeRoom 19 = .ok (.getfield 42, 3) := by decide +kernel
theorem d_StateSet_makeRoom_22 : decode b_StateSet_makeRoom 22 = .ok (.newarray .int, 2) := by decide +kernel
theorem d_StateSet_makeRoom_24 : decode b_StateSet_makeRoom 24 = .ok (.putfield 13, 3) := by decide +kernel
theorem d_StateSet_makeRoom_27 : decode b_StateSet_makeRoom 27 = .ok (.goto 26, 3) := by decide +kernel
theorem d_StateSet_makeRoom_30 : decode b_StateSet_makeRoom 30 = .ok (.iconst 0, 1) := by decide +kernel
theorem d_StateSet_makeRoom_31 : decode b_StateSet_makeRoom 31 = .ok (.istore_n 2, 1) := by decide +kernel
theorem d_StateSet_makeRoom_32 : decode b_StateSet_makeRoom 32 = .ok (.iload_n 2, 1) := by decide +kernel
theorem d_StateSet_makeRoom_33 : decode b_StateSet_makeRoom 33 = .ok (.aload_n 0, 1) := by decide +kernel
theorem d_StateSet_makeRoom_34 : decode b_StateSet_makeRoom 34 = .ok (.getfield 42, 3) := by decide +kernel
theorem d_StateSet_makeRoom_37 : decode b_StateSet_makeRoom 37 = .ok (.if_icmp .ge 16, 3) := by decide +kernel
theorem d_StateSet_makeRoom_40 : decode b_StateSet_makeRoom 40 = .ok (.aload_n 0, 1) := by decide +kernel
theorem d_StateSet_makeRoom_41 : decode b_StateSet_makeRoom 41 = .ok (.getfield 13, 3) := by decide +kernel
theorem d_StateSet_makeRoom_44 : decode b_StateSet_makeRoom 44 = .ok (.iload_n 2, 1) := by decide +kernel
theorem d_StateSet_makeRoom_45 : decode b_StateSet_makeRoom 45 = .ok (.iconst 0, 1) := by decide +kernel
theorem d_StateSet_makeRoom_46 : decode b_StateSet_makeRoom 46 = .ok (.iastore, 1) := by decide +kernel
theorem d_StateSet_makeRoom_47 : decode b_StateSet_makeRoom 47 = .ok (.iinc 2 1, 3) := by decide +kernel
theorem d_StateSet_makeRoom_50 : decode b_StateSet_makeRoom 50 = .ok (.goto (-18), 3) := by decide +kernel
theorem d_StateSet_makeRoom_53 : decode b_StateSet_makeRoom 53 = .ok (.iconst 0, 1) := by decide +kernel
theorem d_StateSet_makeRoom_54 : decode b_StateSet_makeRoom 54 = .ok (.istore_n 2, 1) := by decide +kernel
theorem d_StateSet_makeRoom_55 : decode b_StateSet_makeRoom 55 = .ok (.iload_n 2, 1) := by decide +kernel
theorem d_StateSet_makeRoom_56 : decode b_StateSet_makeRoom 56 = .ok (.aload_n 0, 1) := by decide +kernel
theorem d_StateSet_makeRoom_57 : decode b_StateSet_makeRoom 57 = .ok (.getfield 17, 3) := by decide +kernel
theorem d_StateSet_makeRoom_60 : decode b_StateSet_makeRoom 60 = .ok (.if_icmp .ge 27, 3) := by decide +kernel
theorem d_StateSet_makeRoom_63 : decode b_StateSet_makeRoom 63 = .ok (.aload_n 0, 1) := by decide +kernel
theorem d_StateSet_makeRoom_64 : decode b_StateSet_makeRoom 64 = .ok (.getfield 13, 3) := by decide +kernel
theorem d_StateSet_makeRoom_67 : decode b_StateSet_makeRoom 67 = .ok (.aload_n 0, 1) := by decide +kernel
theorem d_StateSet_makeRoom_68 : decode b_StateSet_makeRoom 68 = .ok (.aload_n 0, 1) := by decide +kernel
theorem d_StateSet_makeRoom_69 : decode b_StateSet_makeRoom 69 = .ok (.getfield 7, 3) := by decide +kernel
theorem d_StateSet_makeRoom_72 : decode b_StateSet_makeRoom 72 = .ok (.iload_n 2, 1) := by decide +kernel
theorem d_StateSet_makeRoom_73 : decode b_StateSet_makeRoom 73 = .ok (.laload, 1) := by decide +kernel
theorem d_StateSet_makeRoom_74 : decode b_StateSet_makeRoom 74 = .ok (.invokevirtual 25, 3) := by decide +kernel
theorem d_StateSet_makeRoom_77 : decode b_StateSet_makeRoom 77 = .ok (.iload_n 2, 1) := by decide +kernel
theorem d_StateSet_makeRoom_78 : decode b_StateSet_makeRoom 78 = .ok (.iconst 1, 1) := by decide +kernel
theorem d_StateSet_makeRoom_79 : decode b_StateSet_makeRoom 79 = .ok (.iadd, 1) := by decide +kernel
theorem d_StateSet_makeRoom_80 : decode b_StateSet_makeRoom 80 = .ok (.iastore, 1) := by decide +kernel
theorem d_StateSet_makeRoom_81 : decode b_StateSet_makeRoom 81 = .ok (.iinc 2 1, 3) := by decide +kernel
theorem d_StateSet_makeRoom_84 : decode b_StateSet_makeRoom 84 = .ok (.goto (-29), 3) := by decide +kernel
theorem d_StateSet_makeRoom_87 : decode b_StateSet_makeRoom 87 = .ok (.return_, 1) := by decide +kernel
theorem d_StateSet_slotOf_0 : decode b_StateSet_slotOf 0 = .ok (.lload_n 1, 1) := by decide +kernel
theorem d_StateSet_slotOf_1 : decode b_StateSet_slotOf 1 = .ok (.ldc2_w 45, 3) := by decide +kernel
theorem d_StateSet_slotOf_4 : decode b_StateSet_slotOf 4 = .ok (.lmul, 1) := by decide +kernel
theorem d_StateSet_slotOf_5 : decode b_StateSet_slotOf 5 = .ok (.bipush 40, 2) := by decide +kernel
theorem d_StateSet_slotOf_7 : decode b_StateSet_slotOf 7 = .ok (.lushr, 1) := by decide +kernel
theorem d_StateSet_slotOf_8 : decode b_StateSet_slotOf 8 = .ok (.l2i, 1) := by decide +kernel
theorem d_StateSet_slotOf_9 : decode b_StateSet_slotOf 9 = .ok (.aload_n 0, 1) := by decide +kernel
theorem d_StateSet_slotOf_10 : decode b_StateSet_slotOf 10 = .ok (.getfield 42, 3) := by decide +kernel
theorem d_StateSet_slotOf_13 : decode b_StateSet_slotOf 13 = .ok (.iconst 1, 1) := by decide +kernel
theorem d_StateSet_slotOf_14 : decode b_StateSet_slotOf 14 = .ok (.isub, 1) := by decide +kernel
theorem d_StateSet_slotOf_15 : decode b_StateSet_slotOf 15 = .ok (.iand, 1) := by decide +kernel
theorem d_StateSet_slotOf_16 : decode b_StateSet_slotOf 16 = .ok (.istore_n 3, 1) := by decide +kernel
theorem d_StateSet_slotOf_17 : decode b_StateSet_slotOf 17 = .ok (.iconst 0, 1) := by decide +kernel
theorem d_StateSet_slotOf_18 : decode b_StateSet_slotOf 18 = .ok (.istore 4, 2) := by decide +kernel
theorem d_StateSet_slotOf_20 : decode b_StateSet_slotOf 20 = .ok (.iload 4, 2) := by decide +kernel
theorem d_StateSet_slotOf_22 : decode b_StateSet_slotOf 22 = .ok (.aload_n 0, 1) := by decide +kernel
theorem d_StateSet_slotOf_23 : decode b_StateSet_slotOf 23 = .ok (.getfield 42, 3) := by decide +kernel
theorem d_StateSet_slotOf_26 : decode b_StateSet_slotOf 26 = .ok (.if_icmp .ge 49, 3) := by decide +kernel
theorem d_StateSet_slotOf_29 : decode b_StateSet_slotOf 29 = .ok (.aload_n 0, 1) := by decide +kernel
theorem d_StateSet_slotOf_30 : decode b_StateSet_slotOf 30 = .ok (.getfield 13, 3) := by decide +kernel
theorem d_StateSet_slotOf_33 : decode b_StateSet_slotOf 33 = .ok (.iload_n 3, 1) := by decide +kernel
theorem d_StateSet_slotOf_34 : decode b_StateSet_slotOf 34 = .ok (.iaload, 1) := by decide +kernel
theorem d_StateSet_slotOf_35 : decode b_StateSet_slotOf 35 = .ok (.istore 5, 2) := by decide +kernel
theorem d_StateSet_slotOf_37 : decode b_StateSet_slotOf 37 = .ok (.iload 5, 2) := by decide +kernel
theorem d_StateSet_slotOf_39 : decode b_StateSet_slotOf 39 = .ok (.ifCond .eq 17, 3) := by decide +kernel
theorem d_StateSet_slotOf_42 : decode b_StateSet_slotOf 42 = .ok (.aload_n 0, 1) := by decide +kernel
theorem d_StateSet_slotOf_43 : decode b_StateSet_slotOf 43 = .ok (.getfield 7, 3) := by decide +kernel
theorem d_StateSet_slotOf_46 : decode b_StateSet_slotOf 46 = .ok (.iload 5, 2) := by decide +kernel
theorem d_StateSet_slotOf_48 : decode b_StateSet_slotOf 48 = .ok (.iconst 1, 1) := by decide +kernel
theorem d_StateSet_slotOf_49 : decode b_StateSet_slotOf 49 = .ok (.isub, 1) := by decide +kernel
theorem d_StateSet_slotOf_50 : decode b_StateSet_slotOf 50 = .ok (.laload, 1) := by decide +kernel
theorem d_StateSet_slotOf_51 : decode b_StateSet_slotOf 51 = .ok (.lload_n 1, 1) := by decide +kernel
theorem d_StateSet_slotOf_52 : decode b_StateSet_slotOf 52 = .ok (.lcmp, 1) := by decide +kernel
theorem d_StateSet_slotOf_53 : decode b_StateSet_slotOf 53 = .ok (.ifCond .ne 5, 3) := by decide +kernel
theorem d_StateSet_slotOf_56 : decode b_StateSet_slotOf 56 = .ok (.iload_n 3, 1) := by decide +kernel
theorem d_StateSet_slotOf_57 : decode b_StateSet_slotOf 57 = .ok (.ireturn, 1) := by decide +kernel
theorem d_StateSet_slotOf_58 : decode b_StateSet_slotOf 58 = .ok (.iload_n 3, 1) := by decide +kernel
theorem d_StateSet_slotOf_59 : decode b_StateSet_slotOf 59 = .ok (.iconst 1, 1) := by decide +kernel
theorem d_StateSet_slotOf_60 : decode b_StateSet_slotOf 60 = .ok (.iadd, 1) := by decide +kernel
theorem d_StateSet_slotOf_61 : decode b_StateSet_slotOf 61 = .ok (.aload_n 0, 1) := by decide +kernel
theorem d_StateSet_slotOf_62 : decode b_StateSet_slotOf 62 = .ok (.getfield 42, 3) := by decide +kernel
theorem d_StateSet_slotOf_65 : decode b_StateSet_slotOf 65 = .ok (.iconst 1, 1) := by decide +kernel
theorem d_StateSet_slotOf_66 : decode b_StateSet_slotOf 66 = .ok (.isub, 1) := by decide +kernel
theorem d_StateSet_slotOf_67 : decode b_StateSet_slotOf 67 = .ok (.iand, 1) := by decide +kernel
theorem d_StateSet_slotOf_68 : decode b_StateSet_slotOf 68 = .ok (.istore_n 3, 1) := by decide +kernel
theorem d_StateSet_slotOf_69 : decode b_StateSet_slotOf 69 = .ok (.iinc 4 1, 3) := by decide +kernel
theorem d_StateSet_slotOf_72 : decode b_StateSet_slotOf 72 = .ok (.goto (-52), 3) := by decide +kernel
theorem d_StateSet_slotOf_75 : decode b_StateSet_slotOf 75 = .ok (.iload_n 3, 1) := by decide +kernel
theorem d_StateSet_slotOf_76 : decode b_StateSet_slotOf 76 = .ok (.ireturn, 1) := by decide +kernel
theorem d_Math_max_0 : decode b_Math_max 0 = .ok (.iload_n 0, 1) := by decide +kernel
theorem d_Math_max_1 : decode b_Math_max 1 = .ok (.iload_n 1, 1) := by decide +kernel
theorem d_Math_max_2 : decode b_Math_max 2 = .ok (.if_icmp .lt 7, 3) := by decide +kernel
theorem d_Math_max_5 : decode b_Math_max 5 = .ok (.iload_n 0, 1) := by decide +kernel
theorem d_Math_max_6 : decode b_Math_max 6 = .ok (.goto 4, 3) := by decide +kernel
theorem d_Math_max_9 : decode b_Math_max 9 = .ok (.iload_n 1, 1) := by decide +kernel
theorem d_Math_max_10 : decode b_Math_max 10 = .ok (.ireturn, 1) := by decide +kernel
theorem d_Math_min_0 : decode b_Math_min 0 = .ok (.iload_n 0, 1) := by decide +kernel
theorem d_Math_min_1 : decode b_Math_min 1 = .ok (.iload_n 1, 1) := by decide +kernel
theorem d_Math_min_2 : decode b_Math_min 2 = .ok (.if_icmp .gt 7, 3) := by decide +kernel
theorem d_Math_min_5 : decode b_Math_min 5 = .ok (.iload_n 0, 1) := by decide +kernel
theorem d_Math_min_6 : decode b_Math_min 6 = .ok (.goto 4, 3) := by decide +kernel
theorem d_Math_min_9 : decode b_Math_min 9 = .ok (.iload_n 1, 1) := by decide +kernel
theorem d_Math_min_10 : decode b_Math_min 10 = .ok (.ireturn, 1) := by decide +kernel
theorem d_Arrays_copyOf_0 : decode b_Arrays_copyOf 0 = .ok (.iload_n 1, 1) := by decide +kernel
theorem d_Arrays_copyOf_1 : decode b_Arrays_copyOf 1 = .ok (.aload_n 0, 1) := by decide +kernel
theorem d_Arrays_copyOf_2 : decode b_Arrays_copyOf 2 = .ok (.arraylength, 1) := by decide +kernel
theorem d_Arrays_copyOf_3 : decode b_Arrays_copyOf 3 = .ok (.if_icmp .ne 11, 3) := by decide +kernel
theorem d_Arrays_copyOf_6 : decode b_Arrays_copyOf 6 = .ok (.aload_n 0, 1) := by decide +kernel
theorem d_Arrays_copyOf_7 : decode b_Arrays_copyOf 7 = .ok (.invokevirtual 316, 3) := by decide +kernel
theorem d_Arrays_copyOf_10 : decode b_Arrays_copyOf 10 = .ok (.checkcast 317, 3) := by decide +kernel
theorem d_Arrays_copyOf_13 : decode b_Arrays_copyOf 13 = .ok (.areturn, 1) := by decide +kernel
theorem d_Arrays_copyOf_14 : decode b_Arrays_copyOf 14 = .ok (.iload_n 1, 1) := by decide +kernel
theorem d_Arrays_copyOf_15 : decode b_Arrays_copyOf 15 = .ok (.newarray .int, 2) := by decide +kernel
theorem d_Arrays_copyOf_17 : decode b_Arrays_copyOf 17 = .ok (.astore_n 2, 1) := by decide +kernel
theorem d_Arrays_copyOf_18 : decode b_Arrays_copyOf 18 = .ok (.aload_n 0, 1) := by decide +kernel
theorem d_Arrays_copyOf_19 : decode b_Arrays_copyOf 19 = .ok (.iconst 0, 1) := by decide +kernel
theorem d_Arrays_copyOf_20 : decode b_Arrays_copyOf 20 = .ok (.aload_n 2, 1) := by decide +kernel
theorem d_Arrays_copyOf_21 : decode b_Arrays_copyOf 21 = .ok (.iconst 0, 1) := by decide +kernel
theorem d_Arrays_copyOf_22 : decode b_Arrays_copyOf 22 = .ok (.aload_n 0, 1) := by decide +kernel
theorem d_Arrays_copyOf_23 : decode b_Arrays_copyOf 23 = .ok (.arraylength, 1) := by decide +kernel
theorem d_Arrays_copyOf_24 : decode b_Arrays_copyOf 24 = .ok (.iload_n 1, 1) := by decide +kernel
theorem d_Arrays_copyOf_25 : decode b_Arrays_copyOf 25 = .ok (.invokestatic 304, 3) := by decide +kernel
theorem d_Arrays_copyOf_28 : decode b_Arrays_copyOf 28 = .ok (.invokestatic 150, 3) := by decide +kernel
theorem d_Arrays_copyOf_31 : decode b_Arrays_copyOf 31 = .ok (.aload_n 2, 1) := by decide +kernel
theorem d_Arrays_copyOf_32 : decode b_Arrays_copyOf 32 = .ok (.areturn, 1) := by decide +kernel
theorem d_Arrays_copyOf2_0 : decode b_Arrays_copyOf2 0 = .ok (.iload_n 1, 1) := by decide +kernel
theorem d_Arrays_copyOf2_1 : decode b_Arrays_copyOf2 1 = .ok (.aload_n 0, 1) := by decide +kernel
theorem d_Arrays_copyOf2_2 : decode b_Arrays_copyOf2 2 = .ok (.arraylength, 1) := by decide +kernel
theorem d_Arrays_copyOf2_3 : decode b_Arrays_copyOf2 3 = .ok (.if_icmp .ne 11, 3) := by decide +kernel
theorem d_Arrays_copyOf2_6 : decode b_Arrays_copyOf2 6 = .ok (.aload_n 0, 1) := by decide +kernel
theorem d_Arrays_copyOf2_7 : decode b_Arrays_copyOf2 7 = .ok (.invokevirtual 319, 3) := by decide +kernel
theorem d_Arrays_copyOf2_10 : decode b_Arrays_copyOf2 10 = .ok (.checkcast 320, 3) := by decide +kernel
theorem d_Arrays_copyOf2_13 : decode b_Arrays_copyOf2 13 = .ok (.areturn, 1) := by decide +kernel
theorem d_Arrays_copyOf2_14 : decode b_Arrays_copyOf2 14 = .ok (.iload_n 1, 1) := by decide +kernel
theorem d_Arrays_copyOf2_15 : decode b_Arrays_copyOf2 15 = .ok (.newarray .long, 2) := by decide +kernel
theorem d_Arrays_copyOf2_17 : decode b_Arrays_copyOf2 17 = .ok (.astore_n 2, 1) := by decide +kernel
theorem d_Arrays_copyOf2_18 : decode b_Arrays_copyOf2 18 = .ok (.aload_n 0, 1) := by decide +kernel
theorem d_Arrays_copyOf2_19 : decode b_Arrays_copyOf2 19 = .ok (.iconst 0, 1) := by decide +kernel
theorem d_Arrays_copyOf2_20 : decode b_Arrays_copyOf2 20 = .ok (.aload_n 2, 1) := by decide +kernel
theorem d_Arrays_copyOf2_21 : decode b_Arrays_copyOf2 21 = .ok (.iconst 0, 1) := by decide +kernel
theorem d_Arrays_copyOf2_22 : decode b_Arrays_copyOf2 22 = .ok (.aload_n 0, 1) := by decide +kernel
theorem d_Arrays_copyOf2_23 : decode b_Arrays_copyOf2 23 = .ok (.arraylength, 1) := by decide +kernel
theorem d_Arrays_copyOf2_24 : decode b_Arrays_copyOf2 24 = .ok (.iload_n 1, 1) := by decide +kernel
theorem d_Arrays_copyOf2_25 : decode b_Arrays_copyOf2 25 = .ok (.invokestatic 304, 3) := by decide +kernel
theorem d_Arrays_copyOf2_28 : decode b_Arrays_copyOf2 28 = .ok (.invokestatic 150, 3) := by decide +kernel
theorem d_Arrays_copyOf2_31 : decode b_Arrays_copyOf2 31 = .ok (.aload_n 2, 1) := by decide +kernel
theorem d_Arrays_copyOf2_32 : decode b_Arrays_copyOf2 32 = .ok (.areturn, 1) := by decide +kernel
theorem d_Arrays_fill_0 : decode b_Arrays_fill 0 = .ok (.iconst 0, 1) := by decide +kernel
theorem d_Arrays_fill_1 : decode b_Arrays_fill 1 = .ok (.istore_n 2, 1) := by decide +kernel
theorem d_Arrays_fill_2 : decode b_Arrays_fill 2 = .ok (.aload_n 0, 1) := by decide +kernel
theorem d_Arrays_fill_3 : decode b_Arrays_fill 3 = .ok (.arraylength, 1) := by decide +kernel
theorem d_Arrays_fill_4 : decode b_Arrays_fill 4 = .ok (.istore_n 3, 1) := by decide +kernel
theorem d_Arrays_fill_5 : decode b_Arrays_fill 5 = .ok (.iload_n 2, 1) := by decide +kernel
theorem d_Arrays_fill_6 : decode b_Arrays_fill 6 = .ok (.iload_n 3, 1) := by decide +kernel
theorem d_Arrays_fill_7 : decode b_Arrays_fill 7 = .ok (.if_icmp .ge 13, 3) := by decide +kernel
theorem d_Arrays_fill_10 : decode b_Arrays_fill 10 = .ok (.aload_n 0, 1) := by decide +kernel
theorem d_Arrays_fill_11 : decode b_Arrays_fill 11 = .ok (.iload_n 2, 1) := by decide +kernel
theorem d_Arrays_fill_12 : decode b_Arrays_fill 12 = .ok (.iload_n 1, 1) := by decide +kernel
theorem d_Arrays_fill_13 : decode b_Arrays_fill 13 = .ok (.iastore, 1) := by decide +kernel
theorem d_Arrays_fill_14 : decode b_Arrays_fill 14 = .ok (.iinc 2 1, 3) := by decide +kernel
theorem d_Arrays_fill_17 : decode b_Arrays_fill 17 = .ok (.goto (-12), 3) := by decide +kernel
theorem d_Arrays_fill_20 : decode b_Arrays_fill 20 = .ok (.return_, 1) := by decide +kernel

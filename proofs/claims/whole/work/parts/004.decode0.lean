theorem d_OM_init_0 : decode b_OM_init 0 = .ok (.aload_n 0, 1) := by decide +kernel
theorem d_OM_init_1 : decode b_OM_init 1 = .ok (.invokespecial 3, 3) := by decide +kernel
theorem d_OM_init_4 : decode b_OM_init 4 = .ok (.aload_n 0, 1) := by decide +kernel
theorem d_OM_init_5 : decode b_OM_init 5 = .ok (.new 9, 3) := by decide +kernel
theorem d_OM_init_8 : decode b_OM_init 8 = .ok (.dup, 1) := by decide +kernel
theorem d_OM_init_9 : decode b_OM_init 9 = .ok (.invokespecial 11, 3) := by decide +kernel
theorem d_OM_init_12 : decode b_OM_init 12 = .ok (.putfield 12, 3) := by decide +kernel
theorem d_OM_init_15 : decode b_OM_init 15 = .ok (.new 16, 3) := by decide +kernel
theorem d_OM_init_18 : decode b_OM_init 18 = .ok (.dup, 1) := by decide +kernel
theorem d_OM_init_19 : decode b_OM_init 19 = .ok (.aload_n 0, 1) := by decide +kernel
theorem d_OM_init_20 : decode b_OM_init 20 = .ok (.getfield 12, 3) := by decide +kernel
theorem d_OM_init_23 : decode b_OM_init 23 = .ok (.invokespecial 18, 3) := by decide +kernel
theorem d_OM_init_26 : decode b_OM_init 26 = .ok (.astore_n 1, 1) := by decide +kernel
theorem d_OM_init_27 : decode b_OM_init 27 = .ok (.new 21, 3) := by decide +kernel
theorem d_OM_init_30 : decode b_OM_init 30 = .ok (.dup, 1) := by decide +kernel
theorem d_OM_init_31 : decode b_OM_init 31 = .ok (.invokespecial 23, 3) := by decide +kernel
theorem d_OM_init_34 : decode b_OM_init 34 = .ok (.astore_n 2, 1) := by decide +kernel
theorem d_OM_init_35 : decode b_OM_init 35 = .ok (.aload_n 0, 1) := by decide +kernel
theorem d_OM_init_36 : decode b_OM_init 36 = .ok (.new 24, 3) := by decide +kernel
theorem d_OM_init_39 : decode b_OM_init 39 = .ok (.dup, 1) := by decide +kernel
theorem d_OM_init_40 : decode b_OM_init 40 = .ok (.aload_n 0, 1) := by decide +kernel
theorem d_OM_init_41 : decode b_OM_init 41 = .ok (.getfield 12, 3) := by decide +kernel
theorem d_OM_init_44 : decode b_OM_init 44 = .ok (.aload_n 1, 1) := by decide +kernel
theorem d_OM_init_45 : decode b_OM_init 45 = .ok (.aload_n 2, 1) := by decide +kernel
theorem d_OM_init_46 : decode b_OM_init 46 = .ok (.invokespecial 26, 3) := by decide +kernel
theorem d_OM_init_49 : decode b_OM_init 49 = .ok (.putfield 29, 3) := by decide +kernel
theorem d_OM_init_52 : decode b_OM_init 52 = .ok (.aload_n 0, 1) := by decide +kernel
theorem d_OM_init_53 : decode b_OM_init 53 = .ok (.new 33, 3) := by decide +kernel
theorem d_OM_init_56 : decode b_OM_init 56 = .ok (.dup, 1) := by decide +kernel
theorem d_OM_init_57 : decode b_OM_init 57 = .ok (.aload_n 0, 1) := by decide +kernel
theorem d_OM_init_58 : decode b_OM_init 58 = .ok (.getfield 12, 3) := by decide +kernel
theorem d_OM_init_61 : decode b_OM_init 61 = .ok (.aload_n 1, 1) := by decide +kernel
theorem d_OM_init_62 : decode b_OM_init 62 = .ok (.aload_n 2, 1) := by decide +kernel
theorem d_OM_init_63 : decode b_OM_init 63 = .ok (.invokespecial 35, 3) := by decide +kernel
theorem d_OM_init_66 : decode b_OM_init 66 = .ok (.putfield 36, 3) := by decide +kernel
theorem d_OM_init_69 : decode b_OM_init 69 = .ok (.aload_n 0, 1) := by decide +kernel
theorem d_OM_init_70 : decode b_OM_init 70 = .ok (.new 40, 3) := by decide +kernel
theorem d_OM_init_73 : decode b_OM_init 73 = .ok (.dup, 1) := by decide +kernel
theorem d_OM_init_74 : decode b_OM_init 74 = .ok (.aload_n 0, 1) := by decide +kernel
theorem d_OM_init_75 : decode b_OM_init 75 = .ok (.getfield 12, 3) := by decide +kernel
theorem d_OM_init_78 : decode b_OM_init 78 = .ok (.aload_n 1, 1) := by decide +kernel
theorem d_OM_init_79 : decode b_OM_init 79 = .ok (.invokespecial 42, 3) := by decide +kernel
theorem d_OM_init_82 : decode b_OM_init 82 = .ok (.putfield 45, 3) := by decide +kernel
theorem d_OM_init_85 : decode b_OM_init 85 = .ok (.aload_n 0, 1) := by decide +kernel
theorem d_OM_init_86 : decode b_OM_init 86 = .ok (.iconst 4, 1) := by decide +kernel
theorem d_OM_init_87 : decode b_OM_init 87 = .ok (.anewarray 49, 3) := by decide +kernel
theorem d_OM_init_90 : decode b_OM_init 90 = .ok (.putfield 51, 3) := by decide +kernel
theorem d_OM_init_93 : decode b_OM_init 93 = .ok (.aload_n 0, 1) := by decide +kernel
theorem d_OM_init_94 : decode b_OM_init 94 = .ok (.iconst 4, 1) := by decide +kernel
theorem d_OM_init_95 : decode b_OM_init 95 = .ok (.anewarray 49, 3) := by decide +kernel
theorem d_OM_init_98 : decode b_OM_init 98 = .ok (.putfield 55, 3) := by decide +kernel
theorem d_OM_init_101 : decode b_OM_init 101 = .ok (.iconst 0, 1) := by decide +kernel
theorem d_OM_init_102 : decode b_OM_init 102 = .ok (.istore_n 3, 1) := by decide +kernel
theorem d_OM_init_103 : decode b_OM_init 103 = .ok (.iload_n 3, 1) := by decide +kernel
theorem d_OM_init_104 : decode b_OM_init 104 = .ok (.iconst 4, 1) := by decide +kernel
theorem d_OM_init_105 : decode b_OM_init 105 = .ok (.if_icmp .ge 65, 3) := by decide +kernel
theorem d_OM_init_108 : decode b_OM_init 108 = .ok (.iload_n 3, 1) := by decide +kernel
theorem d_OM_init_109 : decode b_OM_init 109 = .ok (.iconst 1, 1) := by decide +kernel
theorem d_OM_init_110 : decode b_OM_init 110 = .ok (.if_icmp .eq 8, 3) := by decide +kernel
theorem d_OM_init_113 : decode b_OM_init 113 = .ok (.iload_n 3, 1) := by decide +kernel
theorem d_OM_init_114 : decode b_OM_init 114 = .ok (.iconst 2, 1) := by decide +kernel
theorem d_OM_init_115 : decode b_OM_init 115 = .ok (.if_icmp .ne 7, 3) := by decide +kernel
theorem d_OM_init_118 : decode b_OM_init 118 = .ok (.iconst 1, 1) := by decide +kernel
theorem d_OM_init_119 : decode b_OM_init 119 = .ok (.goto 4, 3) := by decide +kernel
theorem d_OM_init_122 : decode b_OM_init 122 = .ok (.iconst 0, 1) := by decide +kernel
theorem d_OM_init_123 : decode b_OM_init 123 = .ok (.istore 4, 2) := by decide +kernel
theorem d_OM_init_125 : decode b_OM_init 125 = .ok (.aload_n 0, 1) := by decide +kernel
theorem d_OM_init_126 : decode b_OM_init 126 = .ok (.getfield 51, 3) := by decide +kernel
theorem d_OM_init_129 : decode b_OM_init 129 = .ok (.iload_n 3, 1) := by decide +kernel
theorem d_OM_init_130 : decode b_OM_init 130 = .ok (.new 49, 3) := by decide +kernel
theorem d_OM_init_133 : decode b_OM_init 133 = .ok (.dup, 1) := by decide +kernel
theorem d_OM_init_134 : decode b_OM_init 134 = .ok (.iload 4, 2) := by decide +kernel
theorem d_OM_init_136 : decode b_OM_init 136 = .ok (.ifCond .eq 8, 3) := by decide +kernel
theorem d_OM_init_139 : decode b_OM_init 139 = .ok (.bipush 14, 2) := by decide +kernel
theorem d_OM_init_141 : decode b_OM_init 141 = .ok (.goto 5, 3) := by decide +kernel
theorem d_OM_init_144 : decode b_OM_init 144 = .ok (.bipush 7, 2) := by decide +kernel
theorem d_OM_init_146 : decode b_OM_init 146 = .ok (.invokespecial 58, 3) := by decide +kernel
theorem d_OM_init_149 : decode b_OM_init 149 = .ok (.aastore, 1) := by decide +kernel
theorem d_OM_init_150 : decode b_OM_init 150 = .ok (.aload_n 0, 1) := by decide +kernel
theorem d_OM_init_151 : decode b_OM_init 151 = .ok (.getfield 55, 3) := by decide +kernel
theorem d_OM_init_154 : decode b_OM_init 154 = .ok (.iload_n 3, 1) := by decide +kernel
theorem d_OM_init_155 : decode b_OM_init 155 = .ok (.new 49, 3) := by decide +kernel
theorem d_OM_init_158 : decode b_OM_init 158 = .ok (.dup, 1) := by decide +kernel
theorem d_OM_init_159 : decode b_OM_init 159 = .ok (.iconst 0, 1) := by decide +kernel
theorem d_OM_init_160 : decode b_OM_init 160 = .ok (.invokespecial 58, 3) := by decide +kernel
theorem d_OM_init_163 : decode b_OM_init 163 = .ok (.aastore, 1) := by decide +kernel
theorem d_OM_init_164 : decode b_OM_init 164 = .ok (.iinc 3 1, 3) := by decide +kernel
theorem d_OM_init_167 : decode b_OM_init 167 = .ok (.goto (-64), 3) := by decide +kernel
theorem d_OM_init_170 : decode b_OM_init 170 = .ok (.return_, 1) := by decide +kernel
theorem d_OM_thread_0 : decode b_OM_thread 0 = .ok (.aload_n 0, 1) := by decide +kernel
theorem d_OM_thread_1 : decode b_OM_thread 1 = .ok (.getfield 12, 3) := by decide +kernel
theorem d_OM_thread_4 : decode b_OM_thread 4 = .ok (.invokevirtual 61, 3) := by decide +kernel
theorem d_OM_thread_7 : decode b_OM_thread 7 = .ok (.istore_n 1, 1) := by decide +kernel
theorem d_OM_thread_8 : decode b_OM_thread 8 = .ok (.iload_n 1, 1) := by decide +kernel
theorem d_OM_thread_9 : decode b_OM_thread 9 = .ok (.iconst (-1), 1) := by decide +kernel
theorem d_OM_thread_10 : decode b_OM_thread 10 = .ok (.if_icmp .eq 7, 3) := by decide +kernel
theorem d_OM_thread_13 : decode b_OM_thread 13 = .ok (.aload_n 0, 1) := by decide +kernel
theorem d_OM_thread_14 : decode b_OM_thread 14 = .ok (.invokevirtual 65, 3) := by decide +kernel
theorem d_OM_thread_17 : decode b_OM_thread 17 = .ok (.iload_n 1, 1) := by decide +kernel
theorem d_OM_thread_18 : decode b_OM_thread 18 = .ok (.ireturn, 1) := by decide +kernel
theorem d_OM_action_0 : decode b_OM_action 0 = .ok (.iload_n 2, 1) := by decide +kernel
theorem d_OM_action_1 : decode b_OM_action 1 = .ok (.iload_n 3, 1) := by decide +kernel
theorem d_OM_action_2 : decode b_OM_action 2 = .ok (.iload 4, 2) := by decide +kernel
theorem d_OM_action_4 : decode b_OM_action 4 = .ok (.iload 5, 2) := by decide +kernel
theorem d_OM_action_6 : decode b_OM_action 6 = .ok (.invokestatic 68, 3) := by decide +kernel
theorem d_OM_action_9 : decode b_OM_action 9 = .ok (.ifCond .ne 5, 3) := by decide +kernel
theorem d_OM_action_12 : decode b_OM_action 12 = .ok (.iconst (-1), 1) := by decide +kernel
theorem d_OM_action_13 : decode b_OM_action 13 = .ok (.ireturn, 1) := by decide +kernel
theorem d_OM_action_14 : decode b_OM_action 14 = .ok (.aload_n 0, 1) := by decide +kernel
theorem d_OM_action_15 : decode b_OM_action 15 = .ok (.getfield 12, 3) := by decide +kernel
theorem d_OM_action_18 : decode b_OM_action 18 = .ok (.iload_n 1, 1) := by decide +kernel
theorem d_OM_action_19 : decode b_OM_action 19 = .ok (.iload_n 2, 1) := by decide +kernel
theorem d_OM_action_20 : decode b_OM_action 20 = .ok (.iload_n 3, 1) := by decide +kernel
theorem d_OM_action_21 : decode b_OM_action 21 = .ok (.iload 4, 2) := by decide +kernel
theorem d_OM_action_23 : decode b_OM_action 23 = .ok (.iload 5, 2) := by decide +kernel
theorem d_OM_action_25 : decode b_OM_action 25 = .ok (.invokevirtual 72, 3) := by decide +kernel
theorem d_OM_action_28 : decode b_OM_action 28 = .ok (.istore 6, 2) := by decide +kernel
theorem d_OM_action_30 : decode b_OM_action 30 = .ok (.iload 6, 2) := by decide +kernel
theorem d_OM_action_32 : decode b_OM_action 32 = .ok (.iconst (-1), 1) := by decide +kernel
theorem d_OM_action_33 : decode b_OM_action 33 = .ok (.if_icmp .eq 7, 3) := by decide +kernel
theorem d_OM_action_36 : decode b_OM_action 36 = .ok (.aload_n 0, 1) := by decide +kernel
theorem d_OM_action_37 : decode b_OM_action 37 = .ok (.invokevirtual 65, 3) := by decide +kernel
theorem d_OM_action_40 : decode b_OM_action 40 = .ok (.iload 6, 2) := by decide +kernel
theorem d_OM_action_42 : decode b_OM_action 42 = .ok (.ireturn, 1) := by decide +kernel
theorem d_OM_clear_0 : decode b_OM_clear 0 = .ok (.aload_n 0, 1) := by decide +kernel
theorem d_OM_clear_1 : decode b_OM_clear 1 = .ok (.getfield 12, 3) := by decide +kernel
theorem d_OM_clear_4 : decode b_OM_clear 4 = .ok (.getfield 76, 3) := by decide +kernel
theorem d_OM_clear_7 : decode b_OM_clear 7 = .ok (.istore_n 1, 1) := by decide +kernel
theorem d_OM_clear_8 : decode b_OM_clear 8 = .ok (.aload_n 0, 1) := by decide +kernel
theorem d_OM_clear_9 : decode b_OM_clear 9 = .ok (.getfield 12, 3) := by decide +kernel
theorem d_OM_clear_12 : decode b_OM_clear 12 = .ok (.invokevirtual 80, 3) := by decide +kernel
theorem d_OM_clear_15 : decode b_OM_clear 15 = .ok (.aload_n 0, 1) := by decide +kernel
theorem d_OM_clear_16 : decode b_OM_clear 16 = .ok (.invokevirtual 65, 3) := by decide +kernel
theorem d_OM_clear_19 : decode b_OM_clear 19 = .ok (.iload_n 1, 1) := by decide +kernel
theorem d_OM_clear_20 : decode b_OM_clear 20 = .ok (.ireturn, 1) := by decide +kernel
theorem d_OM_runs_0 : decode b_OM_runs 0 = .ok (.iload_n 1, 1) := by decide +kernel
theorem d_OM_runs_1 : decode b_OM_runs 1 = .ok (.invokestatic 83, 3) := by decide +kernel
theorem d_OM_runs_4 : decode b_OM_runs 4 = .ok (.ifCond .eq 14, 3) := by decide +kernel
theorem d_OM_runs_7 : decode b_OM_runs 7 = .ok (.aload_n 0, 1) := by decide +kernel
theorem d_OM_runs_8 : decode b_OM_runs 8 = .ok (.iload_n 1, 1) := by decide +kernel
theorem d_OM_runs_9 : decode b_OM_runs 9 = .ok (.invokevirtual 87, 3) := by decide +kernel
theorem d_OM_runs_12 : decode b_OM_runs 12 = .ok (.getfield 91, 3) := by decide +kernel
theorem d_OM_runs_15 : decode b_OM_runs 15 = .ok (.goto 4, 3) := by decide +kernel
theorem d_OM_runs_18 : decode b_OM_runs 18 = .ok (.iconst (-1), 1) := by decide +kernel
theorem d_OM_runs_19 : decode b_OM_runs 19 = .ok (.ireturn, 1) := by decide +kernel
theorem d_OM_outcome_0 : decode b_OM_outcome 0 = .ok (.iload_n 1, 1) := by decide +kernel
theorem d_OM_outcome_1 : decode b_OM_outcome 1 = .ok (.invokestatic 83, 3) := by decide +kernel
theorem d_OM_outcome_4 : decode b_OM_outcome 4 = .ok (.ifCond .eq 16, 3) := by decide +kernel
theorem d_OM_outcome_7 : decode b_OM_outcome 7 = .ok (.aload_n 0, 1) := by decide +kernel
theorem d_OM_outcome_8 : decode b_OM_outcome 8 = .ok (.iload_n 1, 1) := by decide +kernel
theorem d_OM_outcome_9 : decode b_OM_outcome 9 = .ok (.invokevirtual 87, 3) := by decide +kernel
theorem d_OM_outcome_12 : decode b_OM_outcome 12 = .ok (.iload_n 2, 1) := by decide +kernel
theorem d_OM_outcome_13 : decode b_OM_outcome 13 = .ok (.iload_n 3, 1) := by decide +kernel
theorem d_OM_outcome_14 : decode b_OM_outcome 14 = .ok (.invokevirtual 94, 3) := by decide +kernel
theorem d_OM_outcome_17 : decode b_OM_outcome 17 = .ok (.goto 6, 3) := by decide +kernel
theorem d_OM_outcome_20 : decode b_OM_outcome 20 = .ok (.sipush (-1000), 3) := by decide +kernel
theorem d_OM_outcome_23 : decode b_OM_outcome 23 = .ok (.ireturn, 1) := by decide +kernel
theorem d_OM_witness_0 : decode b_OM_witness 0 = .ok (.iload_n 1, 1) := by decide +kernel
theorem d_OM_witness_1 : decode b_OM_witness 1 = .ok (.invokestatic 83, 3) := by decide +kernel
theorem d_OM_witness_4 : decode b_OM_witness 4 = .ok (.ifCond .eq 16, 3) := by decide +kernel
theorem d_OM_witness_7 : decode b_OM_witness 7 = .ok (.aload_n 0, 1) := by decide +kernel
theorem d_OM_witness_8 : decode b_OM_witness 8 = .ok (.iload_n 1, 1) := by decide +kernel
theorem d_OM_witness_9 : decode b_OM_witness 9 = .ok (.invokevirtual 87, 3) := by decide +kernel
theorem d_OM_witness_12 : decode b_OM_witness 12 = .ok (.iload_n 2, 1) := by decide +kernel
theorem d_OM_witness_13 : decode b_OM_witness 13 = .ok (.iload_n 3, 1) := by decide +kernel
theorem d_OM_witness_14 : decode b_OM_witness 14 = .ok (.invokevirtual 98, 3) := by decide +kernel
theorem d_OM_witness_17 : decode b_OM_witness 17 = .ok (.goto 4, 3) := by decide +kernel
theorem d_OM_witness_20 : decode b_OM_witness 20 = .ok (.iconst (-1), 1) := by decide +kernel
theorem d_OM_witness_21 : decode b_OM_witness 21 = .ok (.ireturn, 1) := by decide +kernel
theorem d_OM_orders_0 : decode b_OM_orders 0 = .ok (.iload_n 1, 1) := by decide +kernel
theorem d_OM_orders_1 : decode b_OM_orders 1 = .ok (.invokestatic 83, 3) := by decide +kernel
theorem d_OM_orders_4 : decode b_OM_orders 4 = .ok (.ifCond .eq 14, 3) := by decide +kernel
theorem d_OM_orders_7 : decode b_OM_orders 7 = .ok (.aload_n 0, 1) := by decide +kernel
theorem d_OM_orders_8 : decode b_OM_orders 8 = .ok (.iload_n 1, 1) := by decide +kernel
theorem d_OM_orders_9 : decode b_OM_orders 9 = .ok (.invokevirtual 101, 3) := by decide +kernel
theorem d_OM_orders_12 : decode b_OM_orders 12 = .ok (.getfield 91, 3) := by decide +kernel
theorem d_OM_orders_15 : decode b_OM_orders 15 = .ok (.goto 4, 3) := by decide +kernel
theorem d_OM_orders_18 : decode b_OM_orders 18 = .ok (.iconst (-1), 1) := by decide +kernel
theorem d_OM_orders_19 : decode b_OM_orders 19 = .ok (.ireturn, 1) := by decide +kernel
theorem d_OM_ordered_0 : decode b_OM_ordered 0 = .ok (.iload_n 1, 1) := by decide +kernel
theorem d_OM_ordered_1 : decode b_OM_ordered 1 = .ok (.invokestatic 83, 3) := by decide +kernel
theorem d_OM_ordered_4 : decode b_OM_ordered 4 = .ok (.ifCond .eq 16, 3) := by decide +kernel
theorem d_OM_ordered_7 : decode b_OM_ordered 7 = .ok (.aload_n 0, 1) := by decide +kernel
theorem d_OM_ordered_8 : decode b_OM_ordered 8 = .ok (.iload_n 1, 1) := by decide +kernel
theorem d_OM_ordered_9 : decode b_OM_ordered 9 = .ok (.invokevirtual 101, 3) := by decide +kernel
theorem d_OM_ordered_12 : decode b_OM_ordered 12 = .ok (.iload_n 2, 1) := by decide +kernel
theorem d_OM_ordered_13 : decode b_OM_ordered 13 = .ok (.iload_n 3, 1) := by decide +kernel
theorem d_OM_ordered_14 : decode b_OM_ordered 14 = .ok (.invokevirtual 94, 3) := by decide +kernel
theorem d_OM_ordered_17 : decode b_OM_ordered 17 = .ok (.goto 6, 3) := by decide +kernel
theorem d_OM_ordered_20 : decode b_OM_ordered 20 = .ok (.sipush (-1000), 3) := by decide +kernel
theorem d_OM_ordered_23 : decode b_OM_ordered 23 = .ok (.ireturn, 1) := by decide +kernel
theorem d_OM_graphs_0 : decode b_OM_graphs 0 = .ok (.iload_n 1, 1) := by decide +kernel
theorem d_OM_graphs_1 : decode b_OM_graphs 1 = .ok (.invokestatic 83, 3) := by decide +kernel
theorem d_OM_graphs_4 : decode b_OM_graphs 4 = .ok (.ifCond .eq 14, 3) := by decide +kernel
theorem d_OM_graphs_7 : decode b_OM_graphs 7 = .ok (.aload_n 0, 1) := by decide +kernel
theorem d_OM_graphs_8 : decode b_OM_graphs 8 = .ok (.iload_n 1, 1) := by decide +kernel
theorem d_OM_graphs_9 : decode b_OM_graphs 9 = .ok (.invokevirtual 101, 3) := by decide +kernel
theorem d_OM_graphs_12 : decode b_OM_graphs 12 = .ok (.getfield 104, 3) := by decide +kernel
theorem d_OM_graphs_15 : decode b_OM_graphs 15 = .ok (.goto 4, 3) := by decide +kernel
theorem d_OM_graphs_18 : decode b_OM_graphs 18 = .ok (.iconst (-1), 1) := by decide +kernel
theorem d_OM_graphs_19 : decode b_OM_graphs 19 = .ok (.ireturn, 1) := by decide +kernel
theorem d_OM_beyond_0 : decode b_OM_beyond 0 = .ok (.iload_n 1, 1) := by decide +kernel
theorem d_OM_beyond_1 : decode b_OM_beyond 1 = .ok (.invokestatic 83, 3) := by decide +kernel
theorem d_OM_beyond_4 : decode b_OM_beyond 4 = .ok (.ifCond .eq 10, 3) := by decide +kernel
theorem d_OM_beyond_7 : decode b_OM_beyond 7 = .ok (.iload_n 2, 1) := by decide +kernel
theorem d_OM_beyond_8 : decode b_OM_beyond 8 = .ok (.invokestatic 83, 3) := by decide +kernel
theorem d_OM_beyond_11 : decode b_OM_beyond 11 = .ok (.ifCond .ne 5, 3) := by decide +kernel
theorem d_OM_beyond_14 : decode b_OM_beyond 14 = .ok (.iconst (-1), 1) := by decide +kernel
theorem d_OM_beyond_15 : decode b_OM_beyond 15 = .ok (.ireturn, 1) := by decide +kernel
theorem d_OM_beyond_16 : decode b_OM_beyond 16 = .ok (.iload_n 1, 1) := by decide +kernel
theorem d_OM_beyond_17 : decode b_OM_beyond 17 = .ok (.iload_n 2, 1) := by decide +kernel
theorem d_OM_beyond_18 : decode b_OM_beyond 18 = .ok (.if_icmp .ne 7, 3) := by decide +kernel
theorem d_OM_beyond_21 : decode b_OM_beyond 21 = .ok (.iconst 0, 1) := by decide +kernel
theorem d_OM_beyond_22 : decode b_OM_beyond 22 = .ok (.goto 16, 3) := by decide +kernel
theorem d_OM_beyond_25 : decode b_OM_beyond 25 = .ok (.aload_n 0, 1) := by decide +kernel
theorem d_OM_beyond_26 : decode b_OM_beyond 26 = .ok (.iload_n 1, 1) := by decide +kernel
theorem d_OM_beyond_27 : decode b_OM_beyond 27 = .ok (.invokevirtual 87, 3) := by decide +kernel
theorem d_OM_beyond_30 : decode b_OM_beyond 30 = .ok (.aload_n 0, 1) := by decide +kernel
theorem d_OM_beyond_31 : decode b_OM_beyond 31 = .ok (.iload_n 2, 1) := by decide +kernel
theorem d_OM_beyond_32 : decode b_OM_beyond 32 = .ok (.invokevirtual 87, 3) := by decide +kernel
theorem d_OM_beyond_35 : decode b_OM_beyond 35 = .ok (.invokevirtual 107, 3) := by decide +kernel
theorem d_OM_beyond_38 : decode b_OM_beyond 38 = .ok (.ireturn, 1) := by decide +kernel
theorem d_OM_races_0 : decode b_OM_races 0 = .ok (.aload_n 0, 1) := by decide +kernel
theorem d_OM_races_1 : decode b_OM_races 1 = .ok (.iconst 0, 1) := by decide +kernel
theorem d_OM_races_2 : decode b_OM_races 2 = .ok (.invokevirtual 87, 3) := by decide +kernel
theorem d_OM_races_5 : decode b_OM_races 5 = .ok (.pop, 1) := by decide +kernel
theorem d_OM_races_6 : decode b_OM_races 6 = .ok (.iconst 0, 1) := by decide +kernel
theorem d_OM_races_7 : decode b_OM_races 7 = .ok (.istore_n 1, 1) := by decide +kernel
theorem d_OM_races_8 : decode b_OM_races 8 = .ok (.iconst 0, 1) := by decide +kernel
theorem d_OM_races_9 : decode b_OM_races 9 = .ok (.istore_n 2, 1) := by decide +kernel
theorem d_OM_races_10 : decode b_OM_races 10 = .ok (.iload_n 2, 1) := by decide +kernel
theorem d_OM_races_11 : decode b_OM_races 11 = .ok (.aload_n 0, 1) := by decide +kernel
theorem d_OM_races_12 : decode b_OM_races 12 = .ok (.getfield 12, 3) := by decide +kernel
theorem d_OM_races_15 : decode b_OM_races 15 = .ok (.getfield 111, 3) := by decide +kernel
theorem d_OM_races_18 : decode b_OM_races 18 = .ok (.if_icmp .ge 24, 3) := by decide +kernel
theorem d_OM_races_21 : decode b_OM_races 21 = .ok (.iload_n 1, 1) := by decide +kernel
theorem d_OM_races_22 : decode b_OM_races 22 = .ok (.aload_n 0, 1) := by decide +kernel
theorem d_OM_races_23 : decode b_OM_races 23 = .ok (.getfield 29, 3) := by decide +kernel
theorem d_OM_races_26 : decode b_OM_races 26 = .ok (.getfield 114, 3) := by decide +kernel
theorem d_OM_races_29 : decode b_OM_races 29 = .ok (.iload_n 2, 1) := by decide +kernel
theorem d_OM_races_30 : decode b_OM_races 30 = .ok (.iaload, 1) := by decide +kernel
theorem d_OM_races_31 : decode b_OM_races 31 = .ok (.invokestatic 118, 3) := by decide +kernel
theorem d_OM_races_34 : decode b_OM_races 34 = .ok (.iadd, 1) := by decide +kernel
theorem d_OM_races_35 : decode b_OM_races 35 = .ok (.istore_n 1, 1) := by decide +kernel
theorem d_OM_races_36 : decode b_OM_races 36 = .ok (.iinc 2 1, 3) := by decide +kernel
theorem d_OM_races_39 : decode b_OM_races 39 = .ok (.goto (-29), 3) := by decide +kernel
theorem d_OM_races_42 : decode b_OM_races 42 = .ok (.iload_n 1, 1) := by decide +kernel
theorem d_OM_races_43 : decode b_OM_races 43 = .ok (.iconst 1, 1) := by decide +kernel
theorem d_OM_races_44 : decode b_OM_races 44 = .ok (.ishr, 1) := by decide +kernel
theorem d_OM_races_45 : decode b_OM_races 45 = .ok (.ireturn, 1) := by decide +kernel
theorem d_OM_race_0 : decode b_OM_race 0 = .ok (.aload_n 0, 1) := by decide +kernel
theorem d_OM_race_1 : decode b_OM_race 1 = .ok (.getfield 12, 3) := by decide +kernel
theorem d_OM_race_4 : decode b_OM_race 4 = .ok (.iload_n 1, 1) := by decide +kernel
theorem d_OM_race_5 : decode b_OM_race 5 = .ok (.iload_n 2, 1) := by decide +kernel
theorem d_OM_race_6 : decode b_OM_race 6 = .ok (.invokevirtual 124, 3) := by decide +kernel
theorem d_OM_race_9 : decode b_OM_race 9 = .ok (.istore 5, 2) := by decide +kernel
theorem d_OM_race_11 : decode b_OM_race 11 = .ok (.aload_n 0, 1) := by decide +kernel
theorem d_OM_race_12 : decode b_OM_race 12 = .ok (.getfield 12, 3) := by decide +kernel
theorem d_OM_race_15 : decode b_OM_race 15 = .ok (.iload_n 3, 1) := by decide +kernel
theorem d_OM_race_16 : decode b_OM_race 16 = .ok (.iload 4, 2) := by decide +kernel
theorem d_OM_race_18 : decode b_OM_race 18 = .ok (.invokevirtual 124, 3) := by decide +kernel
theorem d_OM_race_21 : decode b_OM_race 21 = .ok (.istore 6, 2) := by decide +kernel
theorem d_OM_race_23 : decode b_OM_race 23 = .ok (.iload 5, 2) := by decide +kernel
theorem d_OM_race_25 : decode b_OM_race 25 = .ok (.iconst (-1), 1) := by decide +kernel
theorem d_OM_race_26 : decode b_OM_race 26 = .ok (.if_icmp .eq 14, 3) := by decide +kernel
theorem d_OM_race_29 : decode b_OM_race 29 = .ok (.iload 6, 2) := by decide +kernel
theorem d_OM_race_31 : decode b_OM_race 31 = .ok (.iconst (-1), 1) := by decide +kernel
theorem d_OM_race_32 : decode b_OM_race 32 = .ok (.if_icmp .eq 8, 3) := by decide +kernel
theorem d_OM_race_35 : decode b_OM_race 35 = .ok (.iload_n 1, 1) := by decide +kernel
theorem d_OM_race_36 : decode b_OM_race 36 = .ok (.iload_n 3, 1) := by decide +kernel
theorem d_OM_race_37 : decode b_OM_race 37 = .ok (.if_icmp .ne 5, 3) := by decide +kernel
theorem d_OM_race_40 : decode b_OM_race 40 = .ok (.iconst (-1), 1) := by decide +kernel
theorem d_OM_race_41 : decode b_OM_race 41 = .ok (.ireturn, 1) := by decide +kernel
theorem d_OM_race_42 : decode b_OM_race 42 = .ok (.aload_n 0, 1) := by decide +kernel
theorem d_OM_race_43 : decode b_OM_race 43 = .ok (.iconst 0, 1) := by decide +kernel
theorem d_OM_race_44 : decode b_OM_race 44 = .ok (.invokevirtual 87, 3) := by decide +kernel
theorem d_OM_race_47 : decode b_OM_race 47 = .ok (.pop, 1) := by decide +kernel
theorem d_OM_race_48 : decode b_OM_race 48 = .ok (.aload_n 0, 1) := by decide +kernel
theorem d_OM_race_49 : decode b_OM_race 49 = .ok (.getfield 29, 3) := by decide +kernel
theorem d_OM_race_52 : decode b_OM_race 52 = .ok (.getfield 114, 3) := by decide +kernel
theorem d_OM_race_55 : decode b_OM_race 55 = .ok (.iload 5, 2) := by decide +kernel
theorem d_OM_race_57 : decode b_OM_race 57 = .ok (.iaload, 1) := by decide +kernel
theorem d_OM_race_58 : decode b_OM_race 58 = .ok (.iload 6, 2) := by decide +kernel
theorem d_OM_race_60 : decode b_OM_race 60 = .ok (.invokestatic 127, 3) := by decide +kernel
theorem d_OM_race_63 : decode b_OM_race 63 = .ok (.ifCond .eq 7, 3) := by decide +kernel
theorem d_OM_race_66 : decode b_OM_race 66 = .ok (.iconst 1, 1) := by decide +kernel
theorem d_OM_race_67 : decode b_OM_race 67 = .ok (.goto 4, 3) := by decide +kernel
theorem d_OM_race_70 : decode b_OM_race 70 = .ok (.iconst 0, 1) := by decide +kernel
theorem d_OM_race_71 : decode b_OM_race 71 = .ok (.ireturn, 1) := by decide +kernel
theorem d_OM_isModel_0 : decode b_OM_isModel 0 = .ok (.iload_n 0, 1) := by decide +kernel
theorem d_OM_isModel_1 : decode b_OM_isModel 1 = .ok (.ifCond .lt 12, 3) := by decide +kernel
theorem d_OM_isModel_4 : decode b_OM_isModel 4 = .ok (.iload_n 0, 1) := by decide +kernel
theorem d_OM_isModel_5 : decode b_OM_isModel 5 = .ok (.iconst 4, 1) := by decide +kernel
theorem d_OM_isModel_6 : decode b_OM_isModel 6 = .ok (.if_icmp .ge 7, 3) := by decide +kernel
theorem d_OM_isModel_9 : decode b_OM_isModel 9 = .ok (.iconst 1, 1) := by decide +kernel
theorem d_OM_isModel_10 : decode b_OM_isModel 10 = .ok (.goto 4, 3) := by decide +kernel
theorem d_OM_isModel_13 : decode b_OM_isModel 13 = .ok (.iconst 0, 1) := by decide +kernel
theorem d_OM_isModel_14 : decode b_OM_isModel 14 = .ok (.ireturn, 1) := by decide +kernel
theorem d_OM_isIn_0 : decode b_OM_isIn 0 = .ok (.iload_n 0, 1) := by decide +kernel
theorem d_OM_isIn_1 : decode b_OM_isIn 1 = .ok (.iload_n 1, 1) := by decide +kernel
theorem d_OM_isIn_2 : decode b_OM_isIn 2 = .ok (.ishr, 1) := by decide +kernel
theorem d_OM_isIn_3 : decode b_OM_isIn 3 = .ok (.iconst 1, 1) := by decide +kernel
theorem d_OM_isIn_4 : decode b_OM_isIn 4 = .ok (.iand, 1) := by decide +kernel
theorem d_OM_isIn_5 : decode b_OM_isIn 5 = .ok (.ifCond .eq 7, 3) := by decide +kernel
theorem d_OM_isIn_8 : decode b_OM_isIn 8 = .ok (.iconst 1, 1) := by decide +kernel
theorem d_OM_isIn_9 : decode b_OM_isIn 9 = .ok (.goto 4, 3) := by decide +kernel
theorem d_OM_isIn_12 : decode b_OM_isIn 12 = .ok (.iconst 0, 1) := by decide +kernel
theorem d_OM_isIn_13 : decode b_OM_isIn 13 = .ok (.ireturn, 1) := by decide +kernel
theorem d_OM_isAction_0 : decode b_OM_isAction 0 = .ok (.iload_n 1, 1) := by decide +kernel
theorem d_OM_isAction_1 : decode b_OM_isAction 1 = .ok (.ifCond .lt 12, 3) := by decide +kernel
theorem d_OM_isAction_4 : decode b_OM_isAction 4 = .ok (.iload_n 1, 1) := by decide +kernel
theorem d_OM_isAction_5 : decode b_OM_isAction 5 = .ok (.iconst 3, 1) := by decide +kernel
theorem d_OM_isAction_6 : decode b_OM_isAction 6 = .ok (.if_icmp .ge 7, 3) := by decide +kernel
theorem d_OM_isAction_9 : decode b_OM_isAction 9 = .ok (.iconst 1, 1) := by decide +kernel
theorem d_OM_isAction_10 : decode b_OM_isAction 10 = .ok (.goto 4, 3) := by decide +kernel
theorem d_OM_isAction_13 : decode b_OM_isAction 13 = .ok (.iconst 0, 1) := by decide +kernel
theorem d_OM_isAction_14 : decode b_OM_isAction 14 = .ok (.istore 4, 2) := by decide +kernel
theorem d_OM_isAction_16 : decode b_OM_isAction 16 = .ok (.iload_n 2, 1) := by decide +kernel
theorem d_OM_isAction_17 : decode b_OM_isAction 17 = .ok (.ifCond .lt 12, 3) := by decide +kernel
theorem d_OM_isAction_20 : decode b_OM_isAction 20 = .ok (.iload_n 2, 1) := by decide +kernel
theorem d_OM_isAction_21 : decode b_OM_isAction 21 = .ok (.iconst 2, 1) := by decide +kernel
theorem d_OM_isAction_22 : decode b_OM_isAction 22 = .ok (.if_icmp .ge 7, 3) := by decide +kernel
theorem d_OM_isAction_25 : decode b_OM_isAction 25 = .ok (.iconst 1, 1) := by decide +kernel
theorem d_OM_isAction_26 : decode b_OM_isAction 26 = .ok (.goto 4, 3) := by decide +kernel
theorem d_OM_isAction_29 : decode b_OM_isAction 29 = .ok (.iconst 0, 1) := by decide +kernel
theorem d_OM_isAction_30 : decode b_OM_isAction 30 = .ok (.istore 5, 2) := by decide +kernel
theorem d_OM_isAction_32 : decode b_OM_isAction 32 = .ok (.iload_n 3, 1) := by decide +kernel
theorem d_OM_isAction_33 : decode b_OM_isAction 33 = .ok (.bipush (-9), 2) := by decide +kernel
theorem d_OM_isAction_35 : decode b_OM_isAction 35 = .ok (.if_icmp .lt 13, 3) := by decide +kernel
theorem d_OM_isAction_38 : decode b_OM_isAction 38 = .ok (.iload_n 3, 1) := by decide +kernel
theorem d_OM_isAction_39 : decode b_OM_isAction 39 = .ok (.bipush 9, 2) := by decide +kernel
theorem d_OM_isAction_41 : decode b_OM_isAction 41 = .ok (.if_icmp .gt 7, 3) := by decide +kernel
theorem d_OM_isAction_44 : decode b_OM_isAction 44 = .ok (.iconst 1, 1) := by decide +kernel
theorem d_OM_isAction_45 : decode b_OM_isAction 45 = .ok (.goto 4, 3) := by decide +kernel
theorem d_OM_isAction_48 : decode b_OM_isAction 48 = .ok (.iconst 0, 1) := by decide +kernel
theorem d_OM_isAction_49 : decode b_OM_isAction 49 = .ok (.istore 6, 2) := by decide +kernel
theorem d_OM_isAction_51 : decode b_OM_isAction 51 = .ok (.iload_n 0, 1) := by decide +kernel
theorem d_OM_isAction_52 : decode b_OM_isAction 52 = .ok (.tableswitch 145 0 5 #[40, 60, 80, 80, 101, 119], 40) := by decide +kernel
theorem d_OM_isAction_92 : decode b_OM_isAction 92 = .ok (.iload 4, 2) := by decide +kernel
theorem d_OM_isAction_94 : decode b_OM_isAction 94 = .ok (.ifCond .eq 16, 3) := by decide +kernel
theorem d_OM_isAction_97 : decode b_OM_isAction 97 = .ok (.iload 5, 2) := by decide +kernel
theorem d_OM_isAction_99 : decode b_OM_isAction 99 = .ok (.ifCond .eq 11, 3) := by decide +kernel
theorem d_OM_isAction_102 : decode b_OM_isAction 102 = .ok (.iload_n 3, 1) := by decide +kernel
theorem d_OM_isAction_103 : decode b_OM_isAction 103 = .ok (.ifCond .ne 7, 3) := by decide +kernel
theorem d_OM_isAction_106 : decode b_OM_isAction 106 = .ok (.iconst 1, 1) := by decide +kernel
theorem d_OM_isAction_107 : decode b_OM_isAction 107 = .ok (.goto 4, 3) := by decide +kernel
theorem d_OM_isAction_110 : decode b_OM_isAction 110 = .ok (.iconst 0, 1) := by decide +kernel
theorem d_OM_isAction_111 : decode b_OM_isAction 111 = .ok (.ireturn, 1) := by decide +kernel
theorem d_OM_isAction_112 : decode b_OM_isAction 112 = .ok (.iload 4, 2) := by decide +kernel
theorem d_OM_isAction_114 : decode b_OM_isAction 114 = .ok (.ifCond .eq 16, 3) := by decide +kernel
theorem d_OM_isAction_117 : decode b_OM_isAction 117 = .ok (.iload_n 2, 1) := by decide +kernel
theorem d_OM_isAction_118 : decode b_OM_isAction 118 = .ok (.ifCond .ne 12, 3) := by decide +kernel
theorem d_OM_isAction_121 : decode b_OM_isAction 121 = .ok (.iload 6, 2) := by decide +kernel
theorem d_OM_isAction_123 : decode b_OM_isAction 123 = .ok (.ifCond .eq 7, 3) := by decide +kernel
theorem d_OM_isAction_126 : decode b_OM_isAction 126 = .ok (.iconst 1, 1) := by decide +kernel
theorem d_OM_isAction_127 : decode b_OM_isAction 127 = .ok (.goto 4, 3) := by decide +kernel
theorem d_OM_isAction_130 : decode b_OM_isAction 130 = .ok (.iconst 0, 1) := by decide +kernel
theorem d_OM_isAction_131 : decode b_OM_isAction 131 = .ok (.ireturn, 1) := by decide +kernel
theorem d_OM_isAction_132 : decode b_OM_isAction 132 = .ok (.iload 4, 2) := by decide +kernel
theorem d_OM_isAction_134 : decode b_OM_isAction 134 = .ok (.ifCond .eq 17, 3) := by decide +kernel
theorem d_OM_isAction_137 : decode b_OM_isAction 137 = .ok (.iload 5, 2) := by decide +kernel
theorem d_OM_isAction_139 : decode b_OM_isAction 139 = .ok (.ifCond .eq 12, 3) := by decide +kernel
theorem d_OM_isAction_142 : decode b_OM_isAction 142 = .ok (.iload 6, 2) := by decide +kernel
theorem d_OM_isAction_144 : decode b_OM_isAction 144 = .ok (.ifCond .eq 7, 3) := by decide +kernel
theorem d_OM_isAction_147 : decode b_OM_isAction 147 = .ok (.iconst 1, 1) := by decide +kernel
theorem d_OM_isAction_148 : decode b_OM_isAction 148 = .ok (.goto 4, 3) := by decide +kernel
theorem d_OM_isAction_151 : decode b_OM_isAction 151 = .ok (.iconst 0, 1) := by decide +kernel
theorem d_OM_isAction_152 : decode b_OM_isAction 152 = .ok (.ireturn, 1) := by decide +kernel
theorem d_OM_isAction_153 : decode b_OM_isAction 153 = .ok (.iload_n 1, 1) := by decide +kernel
theorem d_OM_isAction_154 : decode b_OM_isAction 154 = .ok (.ifCond .ne 15, 3) := by decide +kernel
theorem d_OM_isAction_157 : decode b_OM_isAction 157 = .ok (.iload_n 2, 1) := by decide +kernel
theorem d_OM_isAction_158 : decode b_OM_isAction 158 = .ok (.ifCond .ne 11, 3) := by decide +kernel
theorem d_OM_isAction_161 : decode b_OM_isAction 161 = .ok (.iload_n 3, 1) := by decide +kernel
theorem d_OM_isAction_162 : decode b_OM_isAction 162 = .ok (.ifCond .ne 7, 3) := by decide +kernel
theorem d_OM_isAction_165 : decode b_OM_isAction 165 = .ok (.iconst 1, 1) := by decide +kernel
theorem d_OM_isAction_166 : decode b_OM_isAction 166 = .ok (.goto 4, 3) := by decide +kernel
theorem d_OM_isAction_169 : decode b_OM_isAction 169 = .ok (.iconst 0, 1) := by decide +kernel
theorem d_OM_isAction_170 : decode b_OM_isAction 170 = .ok (.ireturn, 1) := by decide +kernel
theorem d_OM_isAction_171 : decode b_OM_isAction 171 = .ok (.iload_n 1, 1) := by decide +kernel
theorem d_OM_isAction_172 : decode b_OM_isAction 172 = .ok (.iconst 1, 1) := by decide +kernel
theorem d_OM_isAction_173 : decode b_OM_isAction 173 = .ok (.if_icmp .lt 22, 3) := by decide +kernel
theorem d_OM_isAction_176 : decode b_OM_isAction 176 = .ok (.iload_n 1, 1) := by decide +kernel
theorem d_OM_isAction_177 : decode b_OM_isAction 177 = .ok (.iconst 3, 1) := by decide +kernel
theorem d_OM_isAction_178 : decode b_OM_isAction 178 = .ok (.if_icmp .gt 17, 3) := by decide +kernel
theorem d_OM_isAction_181 : decode b_OM_isAction 181 = .ok (.iload 5, 2) := by decide +kernel
theorem d_OM_isAction_183 : decode b_OM_isAction 183 = .ok (.ifCond .eq 12, 3) := by decide +kernel
theorem d_OM_isAction_186 : decode b_OM_isAction 186 = .ok (.iload 6, 2) := by decide +kernel
theorem d_OM_isAction_188 : decode b_OM_isAction 188 = .ok (.ifCond .eq 7, 3) := by decide +kernel
theorem d_OM_isAction_191 : decode b_OM_isAction 191 = .ok (.iconst 1, 1) := by decide +kernel
theorem d_OM_isAction_192 : decode b_OM_isAction 192 = .ok (.goto 4, 3) := by decide +kernel
theorem d_OM_isAction_195 : decode b_OM_isAction 195 = .ok (.iconst 0, 1) := by decide +kernel
theorem d_OM_isAction_196 : decode b_OM_isAction 196 = .ok (.ireturn, 1) := by decide +kernel
theorem d_OM_isAction_197 : decode b_OM_isAction 197 = .ok (.iconst 0, 1) := by decide +kernel
theorem d_OM_isAction_198 : decode b_OM_isAction 198 = .ok (.ireturn, 1) := by decide +kernel
theorem d_OM_forget_0 : decode b_OM_forget 0 = .ok (.iconst 0, 1) := by decide +kernel
theorem d_OM_forget_1 : decode b_OM_forget 1 = .ok (.istore_n 1, 1) := by decide +kernel
theorem d_OM_forget_2 : decode b_OM_forget 2 = .ok (.iload_n 1, 1) := by decide +kernel
theorem d_OM_forget_3 : decode b_OM_forget 3 = .ok (.iconst 4, 1) := by decide +kernel
theorem d_OM_forget_4 : decode b_OM_forget 4 = .ok (.if_icmp .ge 29, 3) := by decide +kernel
theorem d_OM_forget_7 : decode b_OM_forget 7 = .ok (.aload_n 0, 1) := by decide +kernel
theorem d_OM_forget_8 : decode b_OM_forget 8 = .ok (.getfield 51, 3) := by decide +kernel
theorem d_OM_forget_11 : decode b_OM_forget 11 = .ok (.iload_n 1, 1) := by decide +kernel
theorem d_OM_forget_12 : decode b_OM_forget 12 = .ok (.aaload, 1) := by decide +kernel
theorem d_OM_forget_13 : decode b_OM_forget 13 = .ok (.iconst 0, 1) := by decide +kernel
theorem d_OM_forget_14 : decode b_OM_forget 14 = .ok (.putfield 131, 3) := by decide +kernel
theorem d_OM_forget_17 : decode b_OM_forget 17 = .ok (.aload_n 0, 1) := by decide +kernel
theorem d_OM_forget_18 : decode b_OM_forget 18 = .ok (.getfield 55, 3) := by decide +kernel
theorem d_OM_forget_21 : decode b_OM_forget 21 = .ok (.iload_n 1, 1) := by decide +kernel
theorem d_OM_forget_22 : decode b_OM_forget 22 = .ok (.aaload, 1) := by decide +kernel
theorem d_OM_forget_23 : decode b_OM_forget 23 = .ok (.iconst 0, 1) := by decide +kernel
theorem d_OM_forget_24 : decode b_OM_forget 24 = .ok (.putfield 131, 3) := by decide +kernel
theorem d_OM_forget_27 : decode b_OM_forget 27 = .ok (.iinc 1 1, 3) := by decide +kernel
theorem d_OM_forget_30 : decode b_OM_forget 30 = .ok (.goto (-28), 3) := by decide +kernel
theorem d_OM_forget_33 : decode b_OM_forget 33 = .ok (.return_, 1) := by decide +kernel
theorem d_OM_foundByRuns_0 : decode b_OM_foundByRuns 0 = .ok (.aload_n 0, 1) := by decide +kernel
theorem d_OM_foundByRuns_1 : decode b_OM_foundByRuns 1 = .ok (.getfield 51, 3) := by decide +kernel
theorem d_OM_foundByRuns_4 : decode b_OM_foundByRuns 4 = .ok (.iload_n 1, 1) := by decide +kernel
theorem d_OM_foundByRuns_5 : decode b_OM_foundByRuns 5 = .ok (.aaload, 1) := by decide +kernel
theorem d_OM_foundByRuns_6 : decode b_OM_foundByRuns 6 = .ok (.astore_n 2, 1) := by decide +kernel
theorem d_OM_foundByRuns_7 : decode b_OM_foundByRuns 7 = .ok (.aload_n 2, 1) := by decide +kernel
theorem d_OM_foundByRuns_8 : decode b_OM_foundByRuns 8 = .ok (.getfield 131, 3) := by decide +kernel
theorem d_OM_foundByRuns_11 : decode b_OM_foundByRuns 11 = .ok (.ifCond .ne 33, 3) := by decide +kernel
theorem d_OM_foundByRuns_14 : decode b_OM_foundByRuns 14 = .ok (.iload_n 1, 1) := by decide +kernel
theorem d_OM_foundByRuns_15 : decode b_OM_foundByRuns 15 = .ok (.iconst 3, 1) := by decide +kernel
theorem d_OM_foundByRuns_16 : decode b_OM_foundByRuns 16 = .ok (.if_icmp .ne 14, 3) := by decide +kernel
theorem d_OM_foundByRuns_19 : decode b_OM_foundByRuns 19 = .ok (.aload_n 0, 1) := by decide +kernel
theorem d_OM_foundByRuns_20 : decode b_OM_foundByRuns 20 = .ok (.getfield 36, 3) := by decide +kernel
theorem d_OM_foundByRuns_23 : decode b_OM_foundByRuns 23 = .ok (.aload_n 2, 1) := by decide +kernel
theorem d_OM_foundByRuns_24 : decode b_OM_foundByRuns 24 = .ok (.invokevirtual 135, 3) := by decide +kernel
theorem d_OM_foundByRuns_27 : decode b_OM_foundByRuns 27 = .ok (.goto 12, 3) := by decide +kernel
theorem d_OM_foundByRuns_30 : decode b_OM_foundByRuns 30 = .ok (.aload_n 0, 1) := by decide +kernel
theorem d_OM_foundByRuns_31 : decode b_OM_foundByRuns 31 = .ok (.getfield 29, 3) := by decide +kernel
theorem d_OM_foundByRuns_34 : decode b_OM_foundByRuns 34 = .ok (.iload_n 1, 1) := by decide +kernel
theorem d_OM_foundByRuns_35 : decode b_OM_foundByRuns 35 = .ok (.aload_n 2, 1) := by decide +kernel
theorem d_OM_foundByRuns_36 : decode b_OM_foundByRuns 36 = .ok (.invokevirtual 139, 3) := by decide +kernel
theorem d_OM_foundByRuns_39 : decode b_OM_foundByRuns 39 = .ok (.aload_n 2, 1) := by decide +kernel
theorem d_OM_foundByRuns_40 : decode b_OM_foundByRuns 40 = .ok (.iconst 1, 1) := by decide +kernel
theorem d_OM_foundByRuns_41 : decode b_OM_foundByRuns 41 = .ok (.putfield 131, 3) := by decide +kernel
theorem d_OM_foundByRuns_44 : decode b_OM_foundByRuns 44 = .ok (.aload_n 2, 1) := by decide +kernel
theorem d_OM_foundByRuns_45 : decode b_OM_foundByRuns 45 = .ok (.areturn, 1) := by decide +kernel
theorem d_OM_foundByGraphs_0 : decode b_OM_foundByGraphs 0 = .ok (.aload_n 0, 1) := by decide +kernel
theorem d_OM_foundByGraphs_1 : decode b_OM_foundByGraphs 1 = .ok (.getfield 55, 3) := by decide +kernel
theorem d_OM_foundByGraphs_4 : decode b_OM_foundByGraphs 4 = .ok (.iload_n 1, 1) := by decide +kernel
theorem d_OM_foundByGraphs_5 : decode b_OM_foundByGraphs 5 = .ok (.aaload, 1) := by decide +kernel
theorem d_OM_foundByGraphs_6 : decode b_OM_foundByGraphs 6 = .ok (.astore_n 2, 1) := by decide +kernel
theorem d_OM_foundByGraphs_7 : decode b_OM_foundByGraphs 7 = .ok (.aload_n 2, 1) := by decide +kernel
theorem d_OM_foundByGraphs_8 : decode b_OM_foundByGraphs 8 = .ok (.getfield 131, 3) := by decide +kernel
theorem d_OM_foundByGraphs_11 : decode b_OM_foundByGraphs 11 = .ok (.ifCond .ne 17, 3) := by decide +kernel
theorem d_OM_foundByGraphs_14 : decode b_OM_foundByGraphs 14 = .ok (.aload_n 0, 1) := by decide +kernel
theorem d_OM_foundByGraphs_15 : decode b_OM_foundByGraphs 15 = .ok (.getfield 45, 3) := by decide +kernel
theorem d_OM_foundByGraphs_18 : decode b_OM_foundByGraphs 18 = .ok (.iload_n 1, 1) := by decide +kernel
theorem d_OM_foundByGraphs_19 : decode b_OM_foundByGraphs 19 = .ok (.aload_n 2, 1) := by decide +kernel
theorem d_OM_foundByGraphs_20 : decode b_OM_foundByGraphs 20 = .ok (.invokevirtual 142, 3) := by decide +kernel
theorem d_OM_foundByGraphs_23 : decode b_OM_foundByGraphs 23 = .ok (.aload_n 2, 1) := by decide +kernel
theorem d_OM_foundByGraphs_24 : decode b_OM_foundByGraphs 24 = .ok (.iconst 1, 1) := by decide +kernel
theorem d_OM_foundByGraphs_25 : decode b_OM_foundByGraphs 25 = .ok (.putfield 131, 3) := by decide +kernel
theorem d_OM_foundByGraphs_28 : decode b_OM_foundByGraphs 28 = .ok (.aload_n 2, 1) := by decide +kernel
theorem d_OM_foundByGraphs_29 : decode b_OM_foundByGraphs 29 = .ok (.areturn, 1) := by decide +kernel
theorem d_Ref_init_0 : decode b_Ref_init 0 = .ok (.aload_n 0, 1) := by decide +kernel
theorem d_Ref_init_1 : decode b_Ref_init 1 = .ok (.invokespecial 1, 3) := by decide +kernel
theorem d_Ref_init_4 : decode b_Ref_init 4 = .ok (.aload_n 0, 1) := by decide +kernel
theorem d_Ref_init_5 : decode b_Ref_init 5 = .ok (.iconst 4, 1) := by decide +kernel
theorem d_Ref_init_6 : decode b_Ref_init 6 = .ok (.newarray .int, 2) := by decide +kernel
theorem d_Ref_init_8 : decode b_Ref_init 8 = .ok (.putfield 7, 3) := by decide +kernel
theorem d_Ref_init_11 : decode b_Ref_init 11 = .ok (.aload_n 0, 1) := by decide +kernel
theorem d_Ref_init_12 : decode b_Ref_init 12 = .ok (.bipush 28, 2) := by decide +kernel
theorem d_Ref_init_14 : decode b_Ref_init 14 = .ok (.newarray .int, 2) := by decide +kernel
theorem d_Ref_init_16 : decode b_Ref_init 16 = .ok (.putfield 13, 3) := by decide +kernel
theorem d_Ref_init_19 : decode b_Ref_init 19 = .ok (.aload_n 0, 1) := by decide +kernel
theorem d_Ref_init_20 : decode b_Ref_init 20 = .ok (.bipush 28, 2) := by decide +kernel
theorem d_Ref_init_22 : decode b_Ref_init 22 = .ok (.newarray .int, 2) := by decide +kernel
theorem d_Ref_init_24 : decode b_Ref_init 24 = .ok (.putfield 16, 3) := by decide +kernel
theorem d_Ref_init_27 : decode b_Ref_init 27 = .ok (.aload_n 0, 1) := by decide +kernel
theorem d_Ref_init_28 : decode b_Ref_init 28 = .ok (.bipush 28, 2) := by decide +kernel
theorem d_Ref_init_30 : decode b_Ref_init 30 = .ok (.newarray .int, 2) := by decide +kernel
theorem d_Ref_init_32 : decode b_Ref_init 32 = .ok (.putfield 19, 3) := by decide +kernel
theorem d_Ref_init_35 : decode b_Ref_init 35 = .ok (.aload_n 0, 1) := by decide +kernel
theorem d_Ref_init_36 : decode b_Ref_init 36 = .ok (.bipush 28, 2) := by decide +kernel
theorem d_Ref_init_38 : decode b_Ref_init 38 = .ok (.newarray .int, 2) := by decide +kernel
theorem d_Ref_init_40 : decode b_Ref_init 40 = .ok (.putfield 22, 3) := by decide +kernel
theorem d_Ref_init_43 : decode b_Ref_init 43 = .ok (.aload_n 0, 1) := by decide +kernel
theorem d_Ref_init_44 : decode b_Ref_init 44 = .ok (.bipush 8, 2) := by decide +kernel
theorem d_Ref_init_46 : decode b_Ref_init 46 = .ok (.newarray .boolean, 2) := by decide +kernel
theorem d_Ref_init_48 : decode b_Ref_init 48 = .ok (.putfield 25, 3) := by decide +kernel
theorem d_Ref_init_51 : decode b_Ref_init 51 = .ok (.aload_n 0, 1) := by decide +kernel
theorem d_Ref_init_52 : decode b_Ref_init 52 = .ok (.bipush 8, 2) := by decide +kernel
theorem d_Ref_init_54 : decode b_Ref_init 54 = .ok (.newarray .int, 2) := by decide +kernel
theorem d_Ref_init_56 : decode b_Ref_init 56 = .ok (.putfield 29, 3) := by decide +kernel
theorem d_Ref_init_59 : decode b_Ref_init 59 = .ok (.aload_n 0, 1) := by decide +kernel
theorem d_Ref_init_60 : decode b_Ref_init 60 = .ok (.ldc 32, 2) := by decide +kernel
theorem d_Ref_init_62 : decode b_Ref_init 62 = .ok (.newarray .short, 2) := by decide +kernel
theorem d_Ref_init_64 : decode b_Ref_init 64 = .ok (.putfield 33, 3) := by decide +kernel
theorem d_Ref_init_67 : decode b_Ref_init 67 = .ok (.aload_n 0, 1) := by decide +kernel
theorem d_Ref_init_68 : decode b_Ref_init 68 = .ok (.ldc 37, 2) := by decide +kernel
theorem d_Ref_init_70 : decode b_Ref_init 70 = .ok (.newarray .short, 2) := by decide +kernel
theorem d_Ref_init_72 : decode b_Ref_init 72 = .ok (.putfield 38, 3) := by decide +kernel
theorem d_Ref_init_75 : decode b_Ref_init 75 = .ok (.aload_n 0, 1) := by decide +kernel
theorem d_Ref_init_76 : decode b_Ref_init 76 = .ok (.sipush 16000, 3) := by decide +kernel
theorem d_Ref_init_79 : decode b_Ref_init 79 = .ok (.newarray .int, 2) := by decide +kernel
theorem d_Ref_init_81 : decode b_Ref_init 81 = .ok (.putfield 41, 3) := by decide +kernel
theorem d_Ref_init_84 : decode b_Ref_init 84 = .ok (.aload_n 0, 1) := by decide +kernel
theorem d_Ref_init_85 : decode b_Ref_init 85 = .ok (.sipush 32000, 3) := by decide +kernel
theorem d_Ref_init_88 : decode b_Ref_init 88 = .ok (.newarray .int, 2) := by decide +kernel
theorem d_Ref_init_90 : decode b_Ref_init 90 = .ok (.putfield 44, 3) := by decide +kernel
theorem d_Ref_init_93 : decode b_Ref_init 93 = .ok (.aload_n 0, 1) := by decide +kernel
theorem d_Ref_init_94 : decode b_Ref_init 94 = .ok (.iconst 4, 1) := by decide +kernel
theorem d_Ref_init_95 : decode b_Ref_init 95 = .ok (.newarray .int, 2) := by decide +kernel
theorem d_Ref_init_97 : decode b_Ref_init 97 = .ok (.putfield 47, 3) := by decide +kernel
theorem d_Ref_init_100 : decode b_Ref_init 100 = .ok (.aload_n 0, 1) := by decide +kernel
theorem d_Ref_init_101 : decode b_Ref_init 101 = .ok (.sipush 784, 3) := by decide +kernel
theorem d_Ref_init_104 : decode b_Ref_init 104 = .ok (.newarray .boolean, 2) := by decide +kernel
theorem d_Ref_init_106 : decode b_Ref_init 106 = .ok (.putfield 50, 3) := by decide +kernel
theorem d_Ref_init_109 : decode b_Ref_init 109 = .ok (.aload_n 0, 1) := by decide +kernel
theorem d_Ref_init_110 : decode b_Ref_init 110 = .ok (.sipush 155, 3) := by decide +kernel
theorem d_Ref_init_113 : decode b_Ref_init 113 = .ok (.newarray .int, 2) := by decide +kernel
theorem d_Ref_init_115 : decode b_Ref_init 115 = .ok (.putfield 53, 3) := by decide +kernel
theorem d_Ref_init_118 : decode b_Ref_init 118 = .ok (.aload_n 0, 1) := by decide +kernel
theorem d_Ref_init_119 : decode b_Ref_init 119 = .ok (.sipush 2635, 3) := by decide +kernel
theorem d_Ref_init_122 : decode b_Ref_init 122 = .ok (.newarray .int, 2) := by decide +kernel
theorem d_Ref_init_124 : decode b_Ref_init 124 = .ok (.putfield 56, 3) := by decide +kernel
theorem d_Ref_init_127 : decode b_Ref_init 127 = .ok (.aload_n 0, 1) := by decide +kernel
theorem d_Ref_init_128 : decode b_Ref_init 128 = .ok (.bipush 17, 2) := by decide +kernel
theorem d_Ref_init_130 : decode b_Ref_init 130 = .ok (.newarray .int, 2) := by decide +kernel
theorem d_Ref_init_132 : decode b_Ref_init 132 = .ok (.putfield 59, 3) := by decide +kernel
theorem d_Ref_init_135 : decode b_Ref_init 135 = .ok (.aload_n 0, 1) := by decide +kernel
theorem d_Ref_init_136 : decode b_Ref_init 136 = .ok (.ldc 62, 2) := by decide +kernel
theorem d_Ref_init_138 : decode b_Ref_init 138 = .ok (.newarray .long, 2) := by decide +kernel
theorem d_Ref_init_140 : decode b_Ref_init 140 = .ok (.putfield 63, 3) := by decide +kernel
theorem d_Ref_init_143 : decode b_Ref_init 143 = .ok (.aload_n 0, 1) := by decide +kernel
theorem d_Ref_init_144 : decode b_Ref_init 144 = .ok (.ldc 67, 2) := by decide +kernel
theorem d_Ref_init_146 : decode b_Ref_init 146 = .ok (.newarray .int, 2) := by decide +kernel
theorem d_Ref_init_148 : decode b_Ref_init 148 = .ok (.putfield 68, 3) := by decide +kernel
theorem d_Ref_init_151 : decode b_Ref_init 151 = .ok (.aload_n 0, 1) := by decide +kernel
theorem d_Ref_init_152 : decode b_Ref_init 152 = .ok (.ldc 71, 2) := by decide +kernel
theorem d_Ref_init_154 : decode b_Ref_init 154 = .ok (.newarray .int, 2) := by decide +kernel
theorem d_Ref_init_156 : decode b_Ref_init 156 = .ok (.putfield 72, 3) := by decide +kernel
theorem d_Ref_init_159 : decode b_Ref_init 159 = .ok (.aload_n 0, 1) := by decide +kernel
theorem d_Ref_init_160 : decode b_Ref_init 160 = .ok (.iconst 5, 1) := by decide +kernel
theorem d_Ref_init_161 : decode b_Ref_init 161 = .ok (.newarray .long, 2) := by decide +kernel
theorem d_Ref_init_163 : decode b_Ref_init 163 = .ok (.putfield 75, 3) := by decide +kernel
theorem d_Ref_init_166 : decode b_Ref_init 166 = .ok (.aload_n 0, 1) := by decide +kernel
theorem d_Ref_init_167 : decode b_Ref_init 167 = .ok (.bipush 11, 2) := by decide +kernel
theorem d_Ref_init_169 : decode b_Ref_init 169 = .ok (.newarray .int, 2) := by decide +kernel
theorem d_Ref_init_171 : decode b_Ref_init 171 = .ok (.putfield 78, 3) := by decide +kernel
theorem d_Ref_init_174 : decode b_Ref_init 174 = .ok (.aload_n 0, 1) := by decide +kernel
theorem d_Ref_init_175 : decode b_Ref_init 175 = .ok (.bipush 28, 2) := by decide +kernel
theorem d_Ref_init_177 : decode b_Ref_init 177 = .ok (.newarray .int, 2) := by decide +kernel
theorem d_Ref_init_179 : decode b_Ref_init 179 = .ok (.putfield 81, 3) := by decide +kernel
theorem d_Ref_init_182 : decode b_Ref_init 182 = .ok (.aload_n 0, 1) := by decide +kernel
theorem d_Ref_init_183 : decode b_Ref_init 183 = .ok (.bipush 28, 2) := by decide +kernel
theorem d_Ref_init_185 : decode b_Ref_init 185 = .ok (.newarray .boolean, 2) := by decide +kernel
theorem d_Ref_init_187 : decode b_Ref_init 187 = .ok (.putfield 84, 3) := by decide +kernel
theorem d_Ref_init_190 : decode b_Ref_init 190 = .ok (.aload_n 0, 1) := by decide +kernel
theorem d_Ref_init_191 : decode b_Ref_init 191 = .ok (.bipush 28, 2) := by decide +kernel
theorem d_Ref_init_193 : decode b_Ref_init 193 = .ok (.newarray .boolean, 2) := by decide +kernel
theorem d_Ref_init_195 : decode b_Ref_init 195 = .ok (.putfield 87, 3) := by decide +kernel
theorem d_Ref_init_198 : decode b_Ref_init 198 = .ok (.aload_n 0, 1) := by decide +kernel
theorem d_Ref_init_199 : decode b_Ref_init 199 = .ok (.bipush 28, 2) := by decide +kernel
theorem d_Ref_init_201 : decode b_Ref_init 201 = .ok (.newarray .int, 2) := by decide +kernel
theorem d_Ref_init_203 : decode b_Ref_init 203 = .ok (.putfield 90, 3) := by decide +kernel
theorem d_Ref_init_206 : decode b_Ref_init 206 = .ok (.aload_n 0, 1) := by decide +kernel
theorem d_Ref_init_207 : decode b_Ref_init 207 = .ok (.iconst 4, 1) := by decide +kernel
theorem d_Ref_init_208 : decode b_Ref_init 208 = .ok (.newarray .int, 2) := by decide +kernel
theorem d_Ref_init_210 : decode b_Ref_init 210 = .ok (.putfield 93, 3) := by decide +kernel
theorem d_Ref_init_213 : decode b_Ref_init 213 = .ok (.aload_n 0, 1) := by decide +kernel
theorem d_Ref_init_214 : decode b_Ref_init 214 = .ok (.bipush 8, 2) := by decide +kernel
theorem d_Ref_init_216 : decode b_Ref_init 216 = .ok (.newarray .int, 2) := by decide +kernel
theorem d_Ref_init_218 : decode b_Ref_init 218 = .ok (.putfield 96, 3) := by decide +kernel
theorem d_Ref_init_221 : decode b_Ref_init 221 = .ok (.aload_n 0, 1) := by decide +kernel
theorem d_Ref_init_222 : decode b_Ref_init 222 = .ok (.bipush 7, 2) := by decide +kernel
theorem d_Ref_init_224 : decode b_Ref_init 224 = .ok (.newarray .int, 2) := by decide +kernel
theorem d_Ref_init_226 : decode b_Ref_init 226 = .ok (.putfield 99, 3) := by decide +kernel
theorem d_Ref_init_229 : decode b_Ref_init 229 = .ok (.aload_n 0, 1) := by decide +kernel
theorem d_Ref_init_230 : decode b_Ref_init 230 = .ok (.bipush 28, 2) := by decide +kernel
theorem d_Ref_init_232 : decode b_Ref_init 232 = .ok (.newarray .int, 2) := by decide +kernel
theorem d_Ref_init_234 : decode b_Ref_init 234 = .ok (.putfield 102, 3) := by decide +kernel
theorem d_Ref_init_237 : decode b_Ref_init 237 = .ok (.aload_n 0, 1) := by decide +kernel
theorem d_Ref_init_238 : decode b_Ref_init 238 = .ok (.iconst 4, 1) := by decide +kernel
theorem d_Ref_init_239 : decode b_Ref_init 239 = .ok (.newarray .int, 2) := by decide +kernel
theorem d_Ref_init_241 : decode b_Ref_init 241 = .ok (.putfield 105, 3) := by decide +kernel
theorem d_Ref_init_244 : decode b_Ref_init 244 = .ok (.aload_n 0, 1) := by decide +kernel
theorem d_Ref_init_245 : decode b_Ref_init 245 = .ok (.bipush 28, 2) := by decide +kernel
theorem d_Ref_init_247 : decode b_Ref_init 247 = .ok (.newarray .int, 2) := by decide +kernel
theorem d_Ref_init_249 : decode b_Ref_init 249 = .ok (.putfield 108, 3) := by decide +kernel
theorem d_Ref_init_252 : decode b_Ref_init 252 = .ok (.aload_n 0, 1) := by decide +kernel
theorem d_Ref_init_253 : decode b_Ref_init 253 = .ok (.bipush 7, 2) := by decide +kernel
theorem d_Ref_init_255 : decode b_Ref_init 255 = .ok (.newarray .int, 2) := by decide +kernel
theorem d_Ref_init_257 : decode b_Ref_init 257 = .ok (.putfield 111, 3) := by decide +kernel
theorem d_Ref_init_260 : decode b_Ref_init 260 = .ok (.aload_n 0, 1) := by decide +kernel
theorem d_Ref_init_261 : decode b_Ref_init 261 = .ok (.bipush 7, 2) := by decide +kernel
theorem d_Ref_init_263 : decode b_Ref_init 263 = .ok (.newarray .int, 2) := by decide +kernel
theorem d_Ref_init_265 : decode b_Ref_init 265 = .ok (.putfield 114, 3) := by decide +kernel
theorem d_Ref_init_268 : decode b_Ref_init 268 = .ok (.aload_n 0, 1) := by decide +kernel
theorem d_Ref_init_269 : decode b_Ref_init 269 = .ok (.bipush 7, 2) := by decide +kernel
theorem d_Ref_init_271 : decode b_Ref_init 271 = .ok (.newarray .int, 2) := by decide +kernel
theorem d_Ref_init_273 : decode b_Ref_init 273 = .ok (.putfield 117, 3) := by decide +kernel
theorem d_Ref_init_276 : decode b_Ref_init 276 = .ok (.aload_n 0, 1) := by decide +kernel
theorem d_Ref_init_277 : decode b_Ref_init 277 = .ok (.bipush 7, 2) := by decide +kernel
theorem d_Ref_init_279 : decode b_Ref_init 279 = .ok (.newarray .int, 2) := by decide +kernel
theorem d_Ref_init_281 : decode b_Ref_init 281 = .ok (.putfield 120, 3) := by decide +kernel
theorem d_Ref_init_284 : decode b_Ref_init 284 = .ok (.aload_n 0, 1) := by decide +kernel
theorem d_Ref_init_285 : decode b_Ref_init 285 = .ok (.bipush 7, 2) := by decide +kernel
theorem d_Ref_init_287 : decode b_Ref_init 287 = .ok (.newarray .int, 2) := by decide +kernel
theorem d_Ref_init_289 : decode b_Ref_init 289 = .ok (.putfield 123, 3) := by decide +kernel
theorem d_Ref_init_292 : decode b_Ref_init 292 = .ok (.aload_n 0, 1) := by decide +kernel
theorem d_Ref_init_293 : decode b_Ref_init 293 = .ok (.bipush 7, 2) := by decide +kernel
theorem d_Ref_init_295 : decode b_Ref_init 295 = .ok (.newarray .int, 2) := by decide +kernel
theorem d_Ref_init_297 : decode b_Ref_init 297 = .ok (.putfield 126, 3) := by decide +kernel
theorem d_Ref_init_300 : decode b_Ref_init 300 = .ok (.return_, 1) := by decide +kernel
theorem d_Ref_anew_0 : decode b_Ref_anew 0 = .ok (.iconst 0, 1) := by decide +kernel
theorem d_Ref_anew_1 : decode b_Ref_anew 1 = .ok (.istore_n 1, 1) := by decide +kernel
theorem d_Ref_anew_2 : decode b_Ref_anew 2 = .ok (.iload_n 1, 1) := by decide +kernel
theorem d_Ref_anew_3 : decode b_Ref_anew 3 = .ok (.bipush 8, 2) := by decide +kernel
theorem d_Ref_anew_5 : decode b_Ref_anew 5 = .ok (.if_icmp .ge 16, 3) := by decide +kernel
theorem d_Ref_anew_8 : decode b_Ref_anew 8 = .ok (.aload_n 0, 1) := by decide +kernel
theorem d_Ref_anew_9 : decode b_Ref_anew 9 = .ok (.getfield 25, 3) := by decide +kernel
theorem d_Ref_anew_12 : decode b_Ref_anew 12 = .ok (.iload_n 1, 1) := by decide +kernel
theorem d_Ref_anew_13 : decode b_Ref_anew 13 = .ok (.iconst 0, 1) := by decide +kernel
theorem d_Ref_anew_14 : decode b_Ref_anew 14 = .ok (.bastore, 1) := by decide +kernel
theorem d_Ref_anew_15 : decode b_Ref_anew 15 = .ok (.iinc 1 1, 3) := by decide +kernel
theorem d_Ref_anew_18 : decode b_Ref_anew 18 = .ok (.goto (-16), 3) := by decide +kernel
theorem d_Ref_anew_21 : decode b_Ref_anew 21 = .ok (.aload_n 0, 1) := by decide +kernel
theorem d_Ref_anew_22 : decode b_Ref_anew 22 = .ok (.iconst 0, 1) := by decide +kernel
theorem d_Ref_anew_23 : decode b_Ref_anew 23 = .ok (.putfield 129, 3) := by decide +kernel
theorem d_Ref_anew_26 : decode b_Ref_anew 26 = .ok (.return_, 1) := by decide +kernel
theorem d_Ref_thread_0 : decode b_Ref_thread 0 = .ok (.aload_n 0, 1) := by decide +kernel
theorem d_Ref_thread_1 : decode b_Ref_thread 1 = .ok (.getfield 133, 3) := by decide +kernel
theorem d_Ref_thread_4 : decode b_Ref_thread 4 = .ok (.iconst 4, 1) := by decide +kernel
theorem d_Ref_thread_5 : decode b_Ref_thread 5 = .ok (.if_icmp .ne 5, 3) := by decide +kernel
theorem d_Ref_thread_8 : decode b_Ref_thread 8 = .ok (.iconst (-1), 1) := by decide +kernel
theorem d_Ref_thread_9 : decode b_Ref_thread 9 = .ok (.ireturn, 1) := by decide +kernel
theorem d_Ref_thread_10 : decode b_Ref_thread 10 = .ok (.aload_n 0, 1) := by decide +kernel
theorem d_Ref_thread_11 : decode b_Ref_thread 11 = .ok (.getfield 7, 3) := by decide +kernel
theorem d_Ref_thread_14 : decode b_Ref_thread 14 = .ok (.aload_n 0, 1) := by decide +kernel
theorem d_Ref_thread_15 : decode b_Ref_thread 15 = .ok (.getfield 133, 3) := by decide +kernel
theorem d_Ref_thread_18 : decode b_Ref_thread 18 = .ok (.iconst 0, 1) := by decide +kernel
theorem d_Ref_thread_19 : decode b_Ref_thread 19 = .ok (.iastore, 1) := by decide +kernel
theorem d_Ref_thread_20 : decode b_Ref_thread 20 = .ok (.aload_n 0, 1) := by decide +kernel
theorem d_Ref_thread_21 : decode b_Ref_thread 21 = .ok (.dup, 1) := by decide +kernel
theorem d_Ref_thread_22 : decode b_Ref_thread 22 = .ok (.getfield 133, 3) := by decide +kernel
theorem d_Ref_thread_25 : decode b_Ref_thread 25 = .ok (.iconst 1, 1) := by decide +kernel
theorem d_Ref_thread_26 : decode b_Ref_thread 26 = .ok (.iadd, 1) := by decide +kernel
theorem d_Ref_thread_27 : decode b_Ref_thread 27 = .ok (.putfield 133, 3) := by decide +kernel
theorem d_Ref_thread_30 : decode b_Ref_thread 30 = .ok (.aload_n 0, 1) := by decide +kernel
theorem d_Ref_thread_31 : decode b_Ref_thread 31 = .ok (.invokevirtual 137, 3) := by decide +kernel
theorem d_Ref_thread_34 : decode b_Ref_thread 34 = .ok (.aload_n 0, 1) := by decide +kernel
theorem d_Ref_thread_35 : decode b_Ref_thread 35 = .ok (.getfield 133, 3) := by decide +kernel
theorem d_Ref_thread_38 : decode b_Ref_thread 38 = .ok (.iconst 1, 1) := by decide +kernel
theorem d_Ref_thread_39 : decode b_Ref_thread 39 = .ok (.isub, 1) := by decide +kernel
theorem d_Ref_thread_40 : decode b_Ref_thread 40 = .ok (.ireturn, 1) := by decide +kernel
theorem d_Ref_action_0 : decode b_Ref_action 0 = .ok (.iload_n 1, 1) := by decide +kernel
theorem d_Ref_action_1 : decode b_Ref_action 1 = .ok (.ifCond .lt 29, 3) := by decide +kernel
theorem d_Ref_action_4 : decode b_Ref_action 4 = .ok (.iload_n 1, 1) := by decide +kernel
theorem d_Ref_action_5 : decode b_Ref_action 5 = .ok (.aload_n 0, 1) := by decide +kernel
theorem d_Ref_action_6 : decode b_Ref_action 6 = .ok (.getfield 133, 3) := by decide +kernel
theorem d_Ref_action_9 : decode b_Ref_action 9 = .ok (.if_icmp .ge 21, 3) := by decide +kernel
theorem d_Ref_action_12 : decode b_Ref_action 12 = .ok (.iload_n 2, 1) := by decide +kernel
theorem d_Ref_action_13 : decode b_Ref_action 13 = .ok (.ifCond .lt 17, 3) := by decide +kernel
theorem d_Ref_action_16 : decode b_Ref_action 16 = .ok (.iload_n 2, 1) := by decide +kernel
theorem d_Ref_action_17 : decode b_Ref_action 17 = .ok (.iconst 5, 1) := by decide +kernel
theorem d_Ref_action_18 : decode b_Ref_action 18 = .ok (.if_icmp .gt 12, 3) := by decide +kernel
theorem d_Ref_action_21 : decode b_Ref_action 21 = .ok (.aload_n 0, 1) := by decide +kernel
theorem d_Ref_action_22 : decode b_Ref_action 22 = .ok (.getfield 140, 3) := by decide +kernel
theorem d_Ref_action_25 : decode b_Ref_action 25 = .ok (.bipush 7, 2) := by decide +kernel
theorem d_Ref_action_27 : decode b_Ref_action 27 = .ok (.if_icmp .ne 5, 3) := by decide +kernel
theorem d_Ref_action_30 : decode b_Ref_action 30 = .ok (.iconst (-1), 1) := by decide +kernel
theorem d_Ref_action_31 : decode b_Ref_action 31 = .ok (.ireturn, 1) := by decide +kernel
theorem d_Ref_action_32 : decode b_Ref_action 32 = .ok (.iload 5, 2) := by decide +kernel
theorem d_Ref_action_34 : decode b_Ref_action 34 = .ok (.bipush (-9), 2) := by decide +kernel
theorem d_Ref_action_36 : decode b_Ref_action 36 = .ok (.if_icmp .lt 25, 3) := by decide +kernel
theorem d_Ref_action_39 : decode b_Ref_action 39 = .ok (.iload 5, 2) := by decide +kernel
theorem d_Ref_action_41 : decode b_Ref_action 41 = .ok (.bipush 9, 2) := by decide +kernel
theorem d_Ref_action_43 : decode b_Ref_action 43 = .ok (.if_icmp .gt 18, 3) := by decide +kernel
theorem d_Ref_action_46 : decode b_Ref_action 46 = .ok (.iload 4, 2) := by decide +kernel
theorem d_Ref_action_48 : decode b_Ref_action 48 = .ok (.ifCond .lt 13, 3) := by decide +kernel
theorem d_Ref_action_51 : decode b_Ref_action 51 = .ok (.iload 4, 2) := by decide +kernel
theorem d_Ref_action_53 : decode b_Ref_action 53 = .ok (.iconst 1, 1) := by decide +kernel
theorem d_Ref_action_54 : decode b_Ref_action 54 = .ok (.if_icmp .gt 7, 3) := by decide +kernel
theorem d_Ref_action_57 : decode b_Ref_action 57 = .ok (.iconst 1, 1) := by decide +kernel
theorem d_Ref_action_58 : decode b_Ref_action 58 = .ok (.goto 4, 3) := by decide +kernel
theorem d_Ref_action_61 : decode b_Ref_action 61 = .ok (.iconst 0, 1) := by decide +kernel
theorem d_Ref_action_62 : decode b_Ref_action 62 = .ok (.istore 6, 2) := by decide +kernel
theorem d_Ref_action_64 : decode b_Ref_action 64 = .ok (.iload 6, 2) := by decide +kernel
theorem d_Ref_action_66 : decode b_Ref_action 66 = .ok (.ifCond .eq 46, 3) := by decide +kernel
theorem d_Ref_action_69 : decode b_Ref_action 69 = .ok (.iload_n 2, 1) := by decide +kernel
theorem d_Ref_action_70 : decode b_Ref_action 70 = .ok (.iconst 5, 1) := by decide +kernel
theorem d_Ref_action_71 : decode b_Ref_action 71 = .ok (.if_icmp .ne 16, 3) := by decide +kernel
theorem d_Ref_action_74 : decode b_Ref_action 74 = .ok (.iload_n 3, 1) := by decide +kernel
theorem d_Ref_action_75 : decode b_Ref_action 75 = .ok (.iconst 1, 1) := by decide +kernel
theorem d_Ref_action_76 : decode b_Ref_action 76 = .ok (.if_icmp .lt 36, 3) := by decide +kernel
theorem d_Ref_action_79 : decode b_Ref_action 79 = .ok (.iload_n 3, 1) := by decide +kernel
theorem d_Ref_action_80 : decode b_Ref_action 80 = .ok (.iconst 3, 1) := by decide +kernel
theorem d_Ref_action_81 : decode b_Ref_action 81 = .ok (.if_icmp .gt 31, 3) := by decide +kernel
theorem d_Ref_action_84 : decode b_Ref_action 84 = .ok (.goto 24, 3) := by decide +kernel
theorem d_Ref_action_87 : decode b_Ref_action 87 = .ok (.iload_n 2, 1) := by decide +kernel
theorem d_Ref_action_88 : decode b_Ref_action 88 = .ok (.iconst 4, 1) := by decide +kernel
theorem d_Ref_action_89 : decode b_Ref_action 89 = .ok (.if_icmp .ne 10, 3) := by decide +kernel
theorem d_Ref_action_92 : decode b_Ref_action 92 = .ok (.iload_n 3, 1) := by decide +kernel
theorem d_Ref_action_93 : decode b_Ref_action 93 = .ok (.ifCond .ne 19, 3) := by decide +kernel
theorem d_Ref_action_96 : decode b_Ref_action 96 = .ok (.goto 12, 3) := by decide +kernel
theorem d_Ref_action_99 : decode b_Ref_action 99 = .ok (.iload_n 3, 1) := by decide +kernel
theorem d_Ref_action_100 : decode b_Ref_action 100 = .ok (.ifCond .lt 12, 3) := by decide +kernel
theorem d_Ref_action_103 : decode b_Ref_action 103 = .ok (.iload_n 3, 1) := by decide +kernel
theorem d_Ref_action_104 : decode b_Ref_action 104 = .ok (.iconst 2, 1) := by decide +kernel
theorem d_Ref_action_105 : decode b_Ref_action 105 = .ok (.if_icmp .gt 7, 3) := by decide +kernel
theorem d_Ref_action_108 : decode b_Ref_action 108 = .ok (.iconst 1, 1) := by decide +kernel
theorem d_Ref_action_109 : decode b_Ref_action 109 = .ok (.goto 4, 3) := by decide +kernel
theorem d_Ref_action_112 : decode b_Ref_action 112 = .ok (.iconst 0, 1) := by decide +kernel
theorem d_Ref_action_113 : decode b_Ref_action 113 = .ok (.istore 6, 2) := by decide +kernel
theorem d_Ref_action_115 : decode b_Ref_action 115 = .ok (.iload 6, 2) := by decide +kernel
theorem d_Ref_action_117 : decode b_Ref_action 117 = .ok (.ifCond .eq 36, 3) := by decide +kernel
theorem d_Ref_action_120 : decode b_Ref_action 120 = .ok (.iload_n 2, 1) := by decide +kernel
theorem d_Ref_action_121 : decode b_Ref_action 121 = .ok (.iconst 1, 1) := by decide +kernel
theorem d_Ref_action_122 : decode b_Ref_action 122 = .ok (.if_icmp .eq 8, 3) := by decide +kernel
theorem d_Ref_action_125 : decode b_Ref_action 125 = .ok (.iload_n 2, 1) := by decide +kernel
theorem d_Ref_action_126 : decode b_Ref_action 126 = .ok (.iconst 4, 1) := by decide +kernel
theorem d_Ref_action_127 : decode b_Ref_action 127 = .ok (.if_icmp .ne 8, 3) := by decide +kernel
theorem d_Ref_action_130 : decode b_Ref_action 130 = .ok (.iload 4, 2) := by decide +kernel
theorem d_Ref_action_132 : decode b_Ref_action 132 = .ok (.ifCond .ne 21, 3) := by decide +kernel
theorem d_Ref_action_135 : decode b_Ref_action 135 = .ok (.iload_n 2, 1) := by decide +kernel
theorem d_Ref_action_136 : decode b_Ref_action 136 = .ok (.ifCond .eq 8, 3) := by decide +kernel
theorem d_Ref_action_139 : decode b_Ref_action 139 = .ok (.iload_n 2, 1) := by decide +kernel
theorem d_Ref_action_140 : decode b_Ref_action 140 = .ok (.iconst 4, 1) := by decide +kernel
theorem d_Ref_action_141 : decode b_Ref_action 141 = .ok (.if_icmp .ne 8, 3) := by decide +kernel
theorem d_Ref_action_144 : decode b_Ref_action 144 = .ok (.iload 5, 2) := by decide +kernel
theorem d_Ref_action_146 : decode b_Ref_action 146 = .ok (.ifCond .ne 7, 3) := by decide +kernel
theorem d_Ref_action_149 : decode b_Ref_action 149 = .ok (.iconst 1, 1) := by decide +kernel
theorem d_Ref_action_150 : decode b_Ref_action 150 = .ok (.goto 4, 3) := by decide +kernel
theorem d_Ref_action_153 : decode b_Ref_action 153 = .ok (.iconst 0, 1) := by decide +kernel
theorem d_Ref_action_154 : decode b_Ref_action 154 = .ok (.istore 6, 2) := by decide +kernel
theorem d_Ref_action_156 : decode b_Ref_action 156 = .ok (.iload 6, 2) := by decide +kernel
theorem d_Ref_action_158 : decode b_Ref_action 158 = .ok (.ifCond .ne 5, 3) := by decide +kernel
theorem d_Ref_action_161 : decode b_Ref_action 161 = .ok (.iconst (-1), 1) := by decide +kernel
theorem d_Ref_action_162 : decode b_Ref_action 162 = .ok (.ireturn, 1) := by decide +kernel
theorem d_Ref_action_163 : decode b_Ref_action 163 = .ok (.bipush 7, 2) := by decide +kernel
theorem d_Ref_action_165 : decode b_Ref_action 165 = .ok (.iload_n 1, 1) := by decide +kernel
theorem d_Ref_action_166 : decode b_Ref_action 166 = .ok (.imul, 1) := by decide +kernel
theorem d_Ref_action_167 : decode b_Ref_action 167 = .ok (.aload_n 0, 1) := by decide +kernel
theorem d_Ref_action_168 : decode b_Ref_action 168 = .ok (.getfield 7, 3) := by decide +kernel
theorem d_Ref_action_171 : decode b_Ref_action 171 = .ok (.iload_n 1, 1) := by decide +kernel
theorem d_Ref_action_172 : decode b_Ref_action 172 = .ok (.iaload, 1) := by decide +kernel
theorem d_Ref_action_173 : decode b_Ref_action 173 = .ok (.iadd, 1) := by decide +kernel
theorem d_Ref_action_174 : decode b_Ref_action 174 = .ok (.istore 7, 2) := by decide +kernel
theorem d_Ref_action_176 : decode b_Ref_action 176 = .ok (.aload_n 0, 1) := by decide +kernel
theorem d_Ref_action_177 : decode b_Ref_action 177 = .ok (.getfield 13, 3) := by decide +kernel
theorem d_Ref_action_180 : decode b_Ref_action 180 = .ok (.iload 7, 2) := by decide +kernel
theorem d_Ref_action_182 : decode b_Ref_action 182 = .ok (.iload_n 2, 1) := by decide +kernel
theorem d_Ref_action_183 : decode b_Ref_action 183 = .ok (.iastore, 1) := by decide +kernel
theorem d_Ref_action_184 : decode b_Ref_action 184 = .ok (.aload_n 0, 1) := by decide +kernel
theorem d_Ref_action_185 : decode b_Ref_action 185 = .ok (.getfield 16, 3) := by decide +kernel
theorem d_Ref_action_188 : decode b_Ref_action 188 = .ok (.iload 7, 2) := by decide +kernel
theorem d_Ref_action_190 : decode b_Ref_action 190 = .ok (.iload_n 3, 1) := by decide +kernel
theorem d_Ref_action_191 : decode b_Ref_action 191 = .ok (.iastore, 1) := by decide +kernel
theorem d_Ref_action_192 : decode b_Ref_action 192 = .ok (.aload_n 0, 1) := by decide +kernel
theorem d_Ref_action_193 : decode b_Ref_action 193 = .ok (.getfield 19, 3) := by decide +kernel
theorem d_Ref_action_196 : decode b_Ref_action 196 = .ok (.iload 7, 2) := by decide +kernel
theorem d_Ref_action_198 : decode b_Ref_action 198 = .ok (.iload 4, 2) := by decide +kernel
theorem d_Ref_action_200 : decode b_Ref_action 200 = .ok (.iastore, 1) := by decide +kernel
theorem d_Ref_action_201 : decode b_Ref_action 201 = .ok (.aload_n 0, 1) := by decide +kernel
theorem d_Ref_action_202 : decode b_Ref_action 202 = .ok (.getfield 22, 3) := by decide +kernel
theorem d_Ref_action_205 : decode b_Ref_action 205 = .ok (.iload 7, 2) := by decide +kernel
theorem d_Ref_action_207 : decode b_Ref_action 207 = .ok (.iload 5, 2) := by decide +kernel
theorem d_Ref_action_209 : decode b_Ref_action 209 = .ok (.iastore, 1) := by decide +kernel
theorem d_Ref_action_210 : decode b_Ref_action 210 = .ok (.aload_n 0, 1) := by decide +kernel
theorem d_Ref_action_211 : decode b_Ref_action 211 = .ok (.getfield 7, 3) := by decide +kernel
theorem d_Ref_action_214 : decode b_Ref_action 214 = .ok (.iload_n 1, 1) := by decide +kernel
theorem d_Ref_action_215 : decode b_Ref_action 215 = .ok (.dup2, 1) := by decide +kernel
theorem d_Ref_action_216 : decode b_Ref_action 216 = .ok (.iaload, 1) := by decide +kernel
theorem d_Ref_action_217 : decode b_Ref_action 217 = .ok (.iconst 1, 1) := by decide +kernel
theorem d_Ref_action_218 : decode b_Ref_action 218 = .ok (.iadd, 1) := by decide +kernel
theorem d_Ref_action_219 : decode b_Ref_action 219 = .ok (.iastore, 1) := by decide +kernel
theorem d_Ref_action_220 : decode b_Ref_action 220 = .ok (.aload_n 0, 1) := by decide +kernel
theorem d_Ref_action_221 : decode b_Ref_action 221 = .ok (.dup, 1) := by decide +kernel
theorem d_Ref_action_222 : decode b_Ref_action 222 = .ok (.getfield 140, 3) := by decide +kernel
theorem d_Ref_action_225 : decode b_Ref_action 225 = .ok (.iconst 1, 1) := by decide +kernel
theorem d_Ref_action_226 : decode b_Ref_action 226 = .ok (.iadd, 1) := by decide +kernel
theorem d_Ref_action_227 : decode b_Ref_action 227 = .ok (.putfield 140, 3) := by decide +kernel
theorem d_Ref_action_230 : decode b_Ref_action 230 = .ok (.aload_n 0, 1) := by decide +kernel
theorem d_Ref_action_231 : decode b_Ref_action 231 = .ok (.invokevirtual 137, 3) := by decide +kernel
theorem d_Ref_action_234 : decode b_Ref_action 234 = .ok (.aload_n 0, 1) := by decide +kernel
theorem d_Ref_action_235 : decode b_Ref_action 235 = .ok (.getfield 7, 3) := by decide +kernel
theorem d_Ref_action_238 : decode b_Ref_action 238 = .ok (.iload_n 1, 1) := by decide +kernel
theorem d_Ref_action_239 : decode b_Ref_action 239 = .ok (.iaload, 1) := by decide +kernel
theorem d_Ref_action_240 : decode b_Ref_action 240 = .ok (.ireturn, 1) := by decide +kernel
theorem d_Ref_clear_0 : decode b_Ref_clear 0 = .ok (.aload_n 0, 1) := by decide +kernel
theorem d_Ref_clear_1 : decode b_Ref_clear 1 = .ok (.getfield 133, 3) := by decide +kernel
theorem d_Ref_clear_4 : decode b_Ref_clear 4 = .ok (.istore_n 1, 1) := by decide +kernel
theorem d_Ref_clear_5 : decode b_Ref_clear 5 = .ok (.aload_n 0, 1) := by decide +kernel
theorem d_Ref_clear_6 : decode b_Ref_clear 6 = .ok (.iconst 0, 1) := by decide +kernel
theorem d_Ref_clear_7 : decode b_Ref_clear 7 = .ok (.putfield 133, 3) := by decide +kernel
theorem d_Ref_clear_10 : decode b_Ref_clear 10 = .ok (.aload_n 0, 1) := by decide +kernel
theorem d_Ref_clear_11 : decode b_Ref_clear 11 = .ok (.iconst 0, 1) := by decide +kernel
theorem d_Ref_clear_12 : decode b_Ref_clear 12 = .ok (.putfield 140, 3) := by decide +kernel
theorem d_Ref_clear_15 : decode b_Ref_clear 15 = .ok (.aload_n 0, 1) := by decide +kernel
theorem d_Ref_clear_16 : decode b_Ref_clear 16 = .ok (.invokevirtual 137, 3) := by decide +kernel
theorem d_Ref_clear_19 : decode b_Ref_clear 19 = .ok (.iload_n 1, 1) := by decide +kernel
theorem d_Ref_clear_20 : decode b_Ref_clear 20 = .ok (.ireturn, 1) := by decide +kernel
theorem d_Ref_beginState_0 : decode b_Ref_beginState 0 = .ok (.iconst 0, 1) := by decide +kernel
theorem d_Ref_beginState_1 : decode b_Ref_beginState 1 = .ok (.istore_n 1, 1) := by decide +kernel
theorem d_Ref_beginState_2 : decode b_Ref_beginState 2 = .ok (.iload_n 1, 1) := by decide +kernel
theorem d_Ref_beginState_3 : decode b_Ref_beginState 3 = .ok (.sipush 155, 3) := by decide +kernel
theorem d_Ref_beginState_6 : decode b_Ref_beginState 6 = .ok (.if_icmp .ge 16, 3) := by decide +kernel
theorem d_Ref_beginState_9 : decode b_Ref_beginState 9 = .ok (.aload_n 0, 1) := by decide +kernel
theorem d_Ref_beginState_10 : decode b_Ref_beginState 10 = .ok (.getfield 53, 3) := by decide +kernel
theorem d_Ref_beginState_13 : decode b_Ref_beginState 13 = .ok (.iload_n 1, 1) := by decide +kernel
theorem d_Ref_beginState_14 : decode b_Ref_beginState 14 = .ok (.iconst 0, 1) := by decide +kernel
theorem d_Ref_beginState_15 : decode b_Ref_beginState 15 = .ok (.iastore, 1) := by decide +kernel
theorem d_Ref_beginState_16 : decode b_Ref_beginState 16 = .ok (.iinc 1 1, 3) := by decide +kernel
theorem d_Ref_beginState_19 : decode b_Ref_beginState 19 = .ok (.goto (-17), 3) := by decide +kernel
theorem d_Ref_beginState_22 : decode b_Ref_beginState 22 = .ok (.aload_n 0, 1) := by decide +kernel
theorem d_Ref_beginState_23 : decode b_Ref_beginState 23 = .ok (.getfield 143, 3) := by decide +kernel
theorem d_Ref_beginState_26 : decode b_Ref_beginState 26 = .ok (.iconst 3, 1) := by decide +kernel
theorem d_Ref_beginState_27 : decode b_Ref_beginState 27 = .ok (.if_icmp .ne 89, 3) := by decide +kernel
theorem d_Ref_beginState_30 : decode b_Ref_beginState 30 = .ok (.iconst 0, 1) := by decide +kernel
theorem d_Ref_beginState_31 : decode b_Ref_beginState 31 = .ok (.istore_n 1, 1) := by decide +kernel
theorem d_Ref_beginState_32 : decode b_Ref_beginState 32 = .ok (.iload_n 1, 1) := by decide +kernel
theorem d_Ref_beginState_33 : decode b_Ref_beginState 33 = .ok (.iconst 4, 1) := by decide +kernel
theorem d_Ref_beginState_34 : decode b_Ref_beginState 34 = .ok (.if_icmp .ge 74, 3) := by decide +kernel
theorem d_Ref_beginState_37 : decode b_Ref_beginState 37 = .ok (.aload_n 0, 1) := by decide +kernel
theorem d_Ref_beginState_38 : decode b_Ref_beginState 38 = .ok (.getfield 53, 3) := by decide +kernel
theorem d_Ref_beginState_41 : decode b_Ref_beginState 41 = .ok (.bipush 37, 2) := by decide +kernel
theorem d_Ref_beginState_43 : decode b_Ref_beginState 43 = .ok (.iload_n 1, 1) := by decide +kernel
theorem d_Ref_beginState_44 : decode b_Ref_beginState 44 = .ok (.iadd, 1) := by decide +kernel
theorem d_Ref_beginState_45 : decode b_Ref_beginState 45 = .ok (.iconst 1, 1) := by decide +kernel
theorem d_Ref_beginState_46 : decode b_Ref_beginState 46 = .ok (.iastore, 1) := by decide +kernel
theorem d_Ref_beginState_47 : decode b_Ref_beginState 47 = .ok (.aload_n 0, 1) := by decide +kernel
theorem d_Ref_beginState_48 : decode b_Ref_beginState 48 = .ok (.getfield 53, 3) := by decide +kernel
theorem d_Ref_beginState_51 : decode b_Ref_beginState 51 = .ok (.bipush 41, 2) := by decide +kernel
theorem d_Ref_beginState_53 : decode b_Ref_beginState 53 = .ok (.bipush 8, 2) := by decide +kernel
theorem d_Ref_beginState_55 : decode b_Ref_beginState 55 = .ok (.iload_n 1, 1) := by decide +kernel
theorem d_Ref_beginState_56 : decode b_Ref_beginState 56 = .ok (.imul, 1) := by decide +kernel
theorem d_Ref_beginState_57 : decode b_Ref_beginState 57 = .ok (.iadd, 1) := by decide +kernel
theorem d_Ref_beginState_58 : decode b_Ref_beginState 58 = .ok (.iload_n 1, 1) := by decide +kernel
theorem d_Ref_beginState_59 : decode b_Ref_beginState 59 = .ok (.iastore, 1) := by decide +kernel
theorem d_Ref_beginState_60 : decode b_Ref_beginState 60 = .ok (.iconst 0, 1) := by decide +kernel
theorem d_Ref_beginState_61 : decode b_Ref_beginState 61 = .ok (.istore_n 2, 1) := by decide +kernel
theorem d_Ref_beginState_62 : decode b_Ref_beginState 62 = .ok (.iload_n 2, 1) := by decide +kernel
theorem d_Ref_beginState_63 : decode b_Ref_beginState 63 = .ok (.iconst 4, 1) := by decide +kernel
theorem d_Ref_beginState_64 : decode b_Ref_beginState 64 = .ok (.if_icmp .ge 38, 3) := by decide +kernel
theorem d_Ref_beginState_67 : decode b_Ref_beginState 67 = .ok (.aload_n 0, 1) := by decide +kernel
theorem d_Ref_beginState_68 : decode b_Ref_beginState 68 = .ok (.getfield 53, 3) := by decide +kernel
theorem d_Ref_beginState_71 : decode b_Ref_beginState 71 = .ok (.bipush 95, 2) := by decide +kernel
theorem d_Ref_beginState_73 : decode b_Ref_beginState 73 = .ok (.iconst 4, 1) := by decide +kernel
theorem d_Ref_beginState_74 : decode b_Ref_beginState 74 = .ok (.iload_n 1, 1) := by decide +kernel
theorem d_Ref_beginState_75 : decode b_Ref_beginState 75 = .ok (.imul, 1) := by decide +kernel
theorem d_Ref_beginState_76 : decode b_Ref_beginState 76 = .ok (.iadd, 1) := by decide +kernel
theorem d_Ref_beginState_77 : decode b_Ref_beginState 77 = .ok (.iload_n 2, 1) := by decide +kernel
theorem d_Ref_beginState_78 : decode b_Ref_beginState 78 = .ok (.iadd, 1) := by decide +kernel
theorem d_Ref_beginState_79 : decode b_Ref_beginState 79 = .ok (.iload_n 2, 1) := by decide +kernel
theorem d_Ref_beginState_80 : decode b_Ref_beginState 80 = .ok (.iastore, 1) := by decide +kernel
theorem d_Ref_beginState_81 : decode b_Ref_beginState 81 = .ok (.aload_n 0, 1) := by decide +kernel
theorem d_Ref_beginState_82 : decode b_Ref_beginState 82 = .ok (.getfield 53, 3) := by decide +kernel
theorem d_Ref_beginState_85 : decode b_Ref_beginState 85 = .ok (.sipush 139, 3) := by decide +kernel
theorem d_Ref_beginState_88 : decode b_Ref_beginState 88 = .ok (.iconst 4, 1) := by decide +kernel
theorem d_Ref_beginState_89 : decode b_Ref_beginState 89 = .ok (.iload_n 2, 1) := by decide +kernel
theorem d_Ref_beginState_90 : decode b_Ref_beginState 90 = .ok (.imul, 1) := by decide +kernel
theorem d_Ref_beginState_91 : decode b_Ref_beginState 91 = .ok (.iadd, 1) := by decide +kernel
theorem d_Ref_beginState_92 : decode b_Ref_beginState 92 = .ok (.iload_n 1, 1) := by decide +kernel
theorem d_Ref_beginState_93 : decode b_Ref_beginState 93 = .ok (.iadd, 1) := by decide +kernel
theorem d_Ref_beginState_94 : decode b_Ref_beginState 94 = .ok (.iload_n 1, 1) := by decide +kernel
theorem d_Ref_beginState_95 : decode b_Ref_beginState 95 = .ok (.iastore, 1) := by decide +kernel
theorem d_Ref_beginState_96 : decode b_Ref_beginState 96 = .ok (.iinc 2 1, 3) := by decide +kernel
theorem d_Ref_beginState_99 : decode b_Ref_beginState 99 = .ok (.goto (-37), 3) := by decide +kernel
theorem d_Ref_beginState_102 : decode b_Ref_beginState 102 = .ok (.iinc 1 1, 3) := by decide +kernel
theorem d_Ref_beginState_105 : decode b_Ref_beginState 105 = .ok (.goto (-73), 3) := by decide +kernel
theorem d_Ref_beginState_108 : decode b_Ref_beginState 108 = .ok (.aload_n 0, 1) := by decide +kernel
theorem d_Ref_beginState_109 : decode b_Ref_beginState 109 = .ok (.getfield 53, 3) := by decide +kernel
theorem d_Ref_beginState_112 : decode b_Ref_beginState 112 = .ok (.bipush 15, 2) := by decide +kernel
theorem d_Ref_beginState_114 : decode b_Ref_beginState 114 = .ok (.iconst 4, 1) := by decide +kernel
theorem d_Ref_beginState_115 : decode b_Ref_beginState 115 = .ok (.iastore, 1) := by decide +kernel
theorem d_Ref_beginState_116 : decode b_Ref_beginState 116 = .ok (.return_, 1) := by decide +kernel
theorem d_Ref_keep_0 : decode b_Ref_keep 0 = .ok (.iconst 0, 1) := by decide +kernel
theorem d_Ref_keep_1 : decode b_Ref_keep 1 = .ok (.istore_n 2, 1) := by decide +kernel
theorem d_Ref_keep_2 : decode b_Ref_keep 2 = .ok (.iload_n 2, 1) := by decide +kernel
theorem d_Ref_keep_3 : decode b_Ref_keep 3 = .ok (.aload_n 0, 1) := by decide +kernel
theorem d_Ref_keep_4 : decode b_Ref_keep 4 = .ok (.getfield 146, 3) := by decide +kernel
theorem d_Ref_keep_7 : decode b_Ref_keep 7 = .ok (.if_icmp .ge 27, 3) := by decide +kernel
theorem d_Ref_keep_10 : decode b_Ref_keep 10 = .ok (.aload_n 0, 1) := by decide +kernel
theorem d_Ref_keep_11 : decode b_Ref_keep 11 = .ok (.getfield 56, 3) := by decide +kernel
theorem d_Ref_keep_14 : decode b_Ref_keep 14 = .ok (.sipush 155, 3) := by decide +kernel
theorem d_Ref_keep_17 : decode b_Ref_keep 17 = .ok (.iload_n 1, 1) := by decide +kernel
theorem d_Ref_keep_18 : decode b_Ref_keep 18 = .ok (.imul, 1) := by decide +kernel
theorem d_Ref_keep_19 : decode b_Ref_keep 19 = .ok (.iload_n 2, 1) := by decide +kernel
theorem d_Ref_keep_20 : decode b_Ref_keep 20 = .ok (.iadd, 1) := by decide +kernel
theorem d_Ref_keep_21 : decode b_Ref_keep 21 = .ok (.aload_n 0, 1) := by decide +kernel
theorem d_Ref_keep_22 : decode b_Ref_keep 22 = .ok (.getfield 53, 3) := by decide +kernel
theorem d_Ref_keep_25 : decode b_Ref_keep 25 = .ok (.iload_n 2, 1) := by decide +kernel
theorem d_Ref_keep_26 : decode b_Ref_keep 26 = .ok (.iaload, 1) := by decide +kernel
theorem d_Ref_keep_27 : decode b_Ref_keep 27 = .ok (.iastore, 1) := by decide +kernel
theorem d_Ref_keep_28 : decode b_Ref_keep 28 = .ok (.iinc 2 1, 3) := by decide +kernel
theorem d_Ref_keep_31 : decode b_Ref_keep 31 = .ok (.goto (-29), 3) := by decide +kernel
theorem d_Ref_keep_34 : decode b_Ref_keep 34 = .ok (.return_, 1) := by decide +kernel
theorem d_Ref_back_0 : decode b_Ref_back 0 = .ok (.iconst 0, 1) := by decide +kernel
theorem d_Ref_back_1 : decode b_Ref_back 1 = .ok (.istore_n 2, 1) := by decide +kernel
theorem d_Ref_back_2 : decode b_Ref_back 2 = .ok (.iload_n 2, 1) := by decide +kernel
theorem d_Ref_back_3 : decode b_Ref_back 3 = .ok (.aload_n 0, 1) := by decide +kernel
theorem d_Ref_back_4 : decode b_Ref_back 4 = .ok (.getfield 146, 3) := by decide +kernel
theorem d_Ref_back_7 : decode b_Ref_back 7 = .ok (.if_icmp .ge 27, 3) := by decide +kernel
theorem d_Ref_back_10 : decode b_Ref_back 10 = .ok (.aload_n 0, 1) := by decide +kernel
theorem d_Ref_back_11 : decode b_Ref_back 11 = .ok (.getfield 53, 3) := by decide +kernel
theorem d_Ref_back_14 : decode b_Ref_back 14 = .ok (.iload_n 2, 1) := by decide +kernel
theorem d_Ref_back_15 : decode b_Ref_back 15 = .ok (.aload_n 0, 1) := by decide +kernel
theorem d_Ref_back_16 : decode b_Ref_back 16 = .ok (.getfield 56, 3) := by decide +kernel
theorem d_Ref_back_19 : decode b_Ref_back 19 = .ok (.sipush 155, 3) := by decide +kernel
theorem d_Ref_back_22 : decode b_Ref_back 22 = .ok (.iload_n 1, 1) := by decide +kernel
theorem d_Ref_back_23 : decode b_Ref_back 23 = .ok (.imul, 1) := by decide +kernel
theorem d_Ref_back_24 : decode b_Ref_back 24 = .ok (.iload_n 2, 1) := by decide +kernel
theorem d_Ref_back_25 : decode b_Ref_back 25 = .ok (.iadd, 1) := by decide +kernel
theorem d_Ref_back_26 : decode b_Ref_back 26 = .ok (.iaload, 1) := by decide +kernel
theorem d_Ref_back_27 : decode b_Ref_back 27 = .ok (.iastore, 1) := by decide +kernel
theorem d_Ref_back_28 : decode b_Ref_back 28 = .ok (.iinc 2 1, 3) := by decide +kernel
theorem d_Ref_back_31 : decode b_Ref_back 31 = .ok (.goto (-29), 3) := by decide +kernel
theorem d_Ref_back_34 : decode b_Ref_back 34 = .ok (.return_, 1) := by decide +kernel
theorem d_Ref_bits_0 : decode b_Ref_bits 0 = .ok (.aload_n 0, 1) := by decide +kernel
theorem d_Ref_bits_1 : decode b_Ref_bits 1 = .ok (.getfield 149, 3) := by decide +kernel
theorem d_Ref_bits_4 : decode b_Ref_bits 4 = .ok (.bipush 64, 2) := by decide +kernel
theorem d_Ref_bits_6 : decode b_Ref_bits 6 = .ok (.idiv, 1) := by decide +kernel
theorem d_Ref_bits_7 : decode b_Ref_bits 7 = .ok (.istore 4, 2) := by decide +kernel
theorem d_Ref_bits_9 : decode b_Ref_bits 9 = .ok (.aload_n 0, 1) := by decide +kernel
theorem d_Ref_bits_10 : decode b_Ref_bits 10 = .ok (.getfield 149, 3) := by decide +kernel
theorem d_Ref_bits_13 : decode b_Ref_bits 13 = .ok (.bipush 64, 2) := by decide +kernel
theorem d_Ref_bits_15 : decode b_Ref_bits 15 = .ok (.irem, 1) := by decide +kernel
theorem d_Ref_bits_16 : decode b_Ref_bits 16 = .ok (.istore 5, 2) := by decide +kernel
theorem d_Ref_bits_18 : decode b_Ref_bits 18 = .ok (.aload_n 0, 1) := by decide +kernel
theorem d_Ref_bits_19 : decode b_Ref_bits 19 = .ok (.getfield 75, 3) := by decide +kernel
theorem d_Ref_bits_22 : decode b_Ref_bits 22 = .ok (.iload 4, 2) := by decide +kernel
theorem d_Ref_bits_24 : decode b_Ref_bits 24 = .ok (.dup2, 1) := by decide +kernel
theorem d_Ref_bits_25 : decode b_Ref_bits 25 = .ok (.laload, 1) := by decide +kernel
theorem d_Ref_bits_26 : decode b_Ref_bits 26 = .ok (.lload_n 1, 1) := by decide +kernel
theorem d_Ref_bits_27 : decode b_Ref_bits 27 = .ok (.iload 5, 2) := by decide +kernel
theorem d_Ref_bits_29 : decode b_Ref_bits 29 = .ok (.lshl, 1) := by decide +kernel
theorem d_Ref_bits_30 : decode b_Ref_bits 30 = .ok (.lor, 1) := by decide +kernel
theorem d_Ref_bits_31 : decode b_Ref_bits 31 = .ok (.lastore, 1) := by decide +kernel
theorem d_Ref_bits_32 : decode b_Ref_bits 32 = .ok (.iload 5, 2) := by decide +kernel
theorem d_Ref_bits_34 : decode b_Ref_bits 34 = .ok (.iload_n 3, 1) := by decide +kernel
theorem d_Ref_bits_35 : decode b_Ref_bits 35 = .ok (.iadd, 1) := by decide +kernel
theorem d_Ref_bits_36 : decode b_Ref_bits 36 = .ok (.bipush 64, 2) := by decide +kernel
theorem d_Ref_bits_38 : decode b_Ref_bits 38 = .ok (.if_icmp .le 22, 3) := by decide +kernel
theorem d_Ref_bits_41 : decode b_Ref_bits 41 = .ok (.aload_n 0, 1) := by decide +kernel
theorem d_Ref_bits_42 : decode b_Ref_bits 42 = .ok (.getfield 75, 3) := by decide +kernel
theorem d_Ref_bits_45 : decode b_Ref_bits 45 = .ok (.iload 4, 2) := by decide +kernel
theorem d_Ref_bits_47 : decode b_Ref_bits 47 = .ok (.iconst 1, 1) := by decide +kernel
theorem d_Ref_bits_48 : decode b_Ref_bits 48 = .ok (.iadd, 1) := by decide +kernel
theorem d_Ref_bits_49 : decode b_Ref_bits 49 = .ok (.dup2, 1) := by decide +kernel
theorem d_Ref_bits_50 : decode b_Ref_bits 50 = .ok (.laload, 1) := by decide +kernel
theorem d_Ref_bits_51 : decode b_Ref_bits 51 = .ok (.lload_n 1, 1) := by decide +kernel
theorem d_Ref_bits_52 : decode b_Ref_bits 52 = .ok (.bipush 64, 2) := by decide +kernel
theorem d_Ref_bits_54 : decode b_Ref_bits 54 = .ok (.iload 5, 2) := by decide +kernel
theorem d_Ref_bits_56 : decode b_Ref_bits 56 = .ok (.isub, 1) := by decide +kernel
theorem d_Ref_bits_57 : decode b_Ref_bits 57 = .ok (.lushr, 1) := by decide +kernel
theorem d_Ref_bits_58 : decode b_Ref_bits 58 = .ok (.lor, 1) := by decide +kernel
theorem d_Ref_bits_59 : decode b_Ref_bits 59 = .ok (.lastore, 1) := by decide +kernel
theorem d_Ref_bits_60 : decode b_Ref_bits 60 = .ok (.aload_n 0, 1) := by decide +kernel
theorem d_Ref_bits_61 : decode b_Ref_bits 61 = .ok (.dup, 1) := by decide +kernel
theorem d_Ref_bits_62 : decode b_Ref_bits 62 = .ok (.getfield 149, 3) := by decide +kernel
theorem d_Ref_bits_65 : decode b_Ref_bits 65 = .ok (.iload_n 3, 1) := by decide +kernel
theorem d_Ref_bits_66 : decode b_Ref_bits 66 = .ok (.iadd, 1) := by decide +kernel
theorem d_Ref_bits_67 : decode b_Ref_bits 67 = .ok (.putfield 149, 3) := by decide +kernel
theorem d_Ref_bits_70 : decode b_Ref_bits 70 = .ok (.return_, 1) := by decide +kernel
theorem d_Ref_placeOf_0 : decode b_Ref_placeOf 0 = .ok (.iconst 0, 1) := by decide +kernel
theorem d_Ref_placeOf_1 : decode b_Ref_placeOf 1 = .ok (.istore_n 3, 1) := by decide +kernel
theorem d_Ref_placeOf_2 : decode b_Ref_placeOf 2 = .ok (.aload_n 0, 1) := by decide +kernel
theorem d_Ref_placeOf_3 : decode b_Ref_placeOf 3 = .ok (.getfield 53, 3) := by decide +kernel
theorem d_Ref_placeOf_6 : decode b_Ref_placeOf 6 = .ok (.bipush 41, 2) := by decide +kernel
theorem d_Ref_placeOf_8 : decode b_Ref_placeOf 8 = .ok (.bipush 8, 2) := by decide +kernel
theorem d_Ref_placeOf_10 : decode b_Ref_placeOf 10 = .ok (.iload_n 1, 1) := by decide +kernel
theorem d_Ref_placeOf_11 : decode b_Ref_placeOf 11 = .ok (.imul, 1) := by decide +kernel
theorem d_Ref_placeOf_12 : decode b_Ref_placeOf 12 = .ok (.iadd, 1) := by decide +kernel
theorem d_Ref_placeOf_13 : decode b_Ref_placeOf 13 = .ok (.iload_n 3, 1) := by decide +kernel
theorem d_Ref_placeOf_14 : decode b_Ref_placeOf 14 = .ok (.iadd, 1) := by decide +kernel
theorem d_Ref_placeOf_15 : decode b_Ref_placeOf 15 = .ok (.iaload, 1) := by decide +kernel
theorem d_Ref_placeOf_16 : decode b_Ref_placeOf 16 = .ok (.iload_n 2, 1) := by decide +kernel
theorem d_Ref_placeOf_17 : decode b_Ref_placeOf 17 = .ok (.if_icmp .eq 9, 3) := by decide +kernel
theorem d_Ref_placeOf_20 : decode b_Ref_placeOf 20 = .ok (.iinc 3 1, 3) := by decide +kernel
theorem d_Ref_placeOf_23 : decode b_Ref_placeOf 23 = .ok (.goto (-21), 3) := by decide +kernel
theorem d_Ref_placeOf_26 : decode b_Ref_placeOf 26 = .ok (.iload_n 3, 1) := by decide +kernel
theorem d_Ref_placeOf_27 : decode b_Ref_placeOf 27 = .ok (.ireturn, 1) := by decide +kernel
theorem d_Ref_encode_0 : decode b_Ref_encode 0 = .ok (.iconst 0, 1) := by decide +kernel
theorem d_Ref_encode_1 : decode b_Ref_encode 1 = .ok (.istore_n 1, 1) := by decide +kernel
theorem d_Ref_encode_2 : decode b_Ref_encode 2 = .ok (.iload_n 1, 1) := by decide +kernel
theorem d_Ref_encode_3 : decode b_Ref_encode 3 = .ok (.iconst 5, 1) := by decide +kernel
theorem d_Ref_encode_4 : decode b_Ref_encode 4 = .ok (.if_icmp .ge 16, 3) := by decide +kernel
theorem d_Ref_encode_7 : decode b_Ref_encode 7 = .ok (.aload_n 0, 1) := by decide +kernel
theorem d_Ref_encode_8 : decode b_Ref_encode 8 = .ok (.getfield 75, 3) := by decide +kernel
theorem d_Ref_encode_11 : decode b_Ref_encode 11 = .ok (.iload_n 1, 1) := by decide +kernel
theorem d_Ref_encode_12 : decode b_Ref_encode 12 = .ok (.lconst 0, 1) := by decide +kernel
theorem d_Ref_encode_13 : decode b_Ref_encode 13 = .ok (.lastore, 1) := by decide +kernel
theorem d_Ref_encode_14 : decode b_Ref_encode 14 = .ok (.iinc 1 1, 3) := by decide +kernel
theorem d_Ref_encode_17 : decode b_Ref_encode 17 = .ok (.goto (-15), 3) := by decide +kernel
theorem d_Ref_encode_20 : decode b_Ref_encode 20 = .ok (.aload_n 0, 1) := by decide +kernel
theorem d_Ref_encode_21 : decode b_Ref_encode 21 = .ok (.iconst 0, 1) := by decide +kernel
theorem d_Ref_encode_22 : decode b_Ref_encode 22 = .ok (.putfield 149, 3) := by decide +kernel
theorem d_Ref_encode_25 : decode b_Ref_encode 25 = .ok (.iconst 0, 1) := by decide +kernel
theorem d_Ref_encode_26 : decode b_Ref_encode 26 = .ok (.istore_n 1, 1) := by decide +kernel
theorem d_Ref_encode_27 : decode b_Ref_encode 27 = .ok (.iload_n 1, 1) := by decide +kernel
theorem d_Ref_encode_28 : decode b_Ref_encode 28 = .ok (.iconst 4, 1) := by decide +kernel
theorem d_Ref_encode_29 : decode b_Ref_encode 29 = .ok (.if_icmp .ge 21, 3) := by decide +kernel
theorem d_Ref_encode_32 : decode b_Ref_encode 32 = .ok (.aload_n 0, 1) := by decide +kernel
theorem d_Ref_encode_33 : decode b_Ref_encode 33 = .ok (.aload_n 0, 1) := by decide +kernel
theorem d_Ref_encode_34 : decode b_Ref_encode 34 = .ok (.getfield 53, 3) := by decide +kernel
theorem d_Ref_encode_37 : decode b_Ref_encode 37 = .ok (.iload_n 1, 1) := by decide +kernel
theorem d_Ref_encode_38 : decode b_Ref_encode 38 = .ok (.iaload, 1) := by decide +kernel
theorem d_Ref_encode_39 : decode b_Ref_encode 39 = .ok (.i2l, 1) := by decide +kernel
theorem d_Ref_encode_40 : decode b_Ref_encode 40 = .ok (.iconst 3, 1) := by decide +kernel
theorem d_Ref_encode_41 : decode b_Ref_encode 41 = .ok (.invokevirtual 152, 3) := by decide +kernel
theorem d_Ref_encode_44 : decode b_Ref_encode 44 = .ok (.iinc 1 1, 3) := by decide +kernel
theorem d_Ref_encode_47 : decode b_Ref_encode 47 = .ok (.goto (-20), 3) := by decide +kernel
theorem d_Ref_encode_50 : decode b_Ref_encode 50 = .ok (.iconst 0, 1) := by decide +kernel
theorem d_Ref_encode_51 : decode b_Ref_encode 51 = .ok (.istore_n 1, 1) := by decide +kernel
theorem d_Ref_encode_52 : decode b_Ref_encode 52 = .ok (.iload_n 1, 1) := by decide +kernel
theorem d_Ref_encode_53 : decode b_Ref_encode 53 = .ok (.bipush 8, 2) := by decide +kernel
theorem d_Ref_encode_55 : decode b_Ref_encode 55 = .ok (.if_icmp .ge 27, 3) := by decide +kernel
theorem d_Ref_encode_58 : decode b_Ref_encode 58 = .ok (.aload_n 0, 1) := by decide +kernel
theorem d_Ref_encode_59 : decode b_Ref_encode 59 = .ok (.aload_n 0, 1) := by decide +kernel
theorem d_Ref_encode_60 : decode b_Ref_encode 60 = .ok (.getfield 53, 3) := by decide +kernel
theorem d_Ref_encode_63 : decode b_Ref_encode 63 = .ok (.iconst 4, 1) := by decide +kernel
theorem d_Ref_encode_64 : decode b_Ref_encode 64 = .ok (.iload_n 1, 1) := by decide +kernel
theorem d_Ref_encode_65 : decode b_Ref_encode 65 = .ok (.iadd, 1) := by decide +kernel
theorem d_Ref_encode_66 : decode b_Ref_encode 66 = .ok (.iaload, 1) := by decide +kernel
theorem d_Ref_encode_67 : decode b_Ref_encode 67 = .ok (.bipush 64, 2) := by decide +kernel
theorem d_Ref_encode_69 : decode b_Ref_encode 69 = .ok (.iadd, 1) := by decide +kernel
theorem d_Ref_encode_70 : decode b_Ref_encode 70 = .ok (.i2l, 1) := by decide +kernel
theorem d_Ref_encode_71 : decode b_Ref_encode 71 = .ok (.bipush 7, 2) := by decide +kernel
theorem d_Ref_encode_73 : decode b_Ref_encode 73 = .ok (.invokevirtual 152, 3) := by decide +kernel
theorem d_Ref_encode_76 : decode b_Ref_encode 76 = .ok (.iinc 1 1, 3) := by decide +kernel
theorem d_Ref_encode_79 : decode b_Ref_encode 79 = .ok (.goto (-27), 3) := by decide +kernel
theorem d_Ref_encode_82 : decode b_Ref_encode 82 = .ok (.aload_n 0, 1) := by decide +kernel
theorem d_Ref_encode_83 : decode b_Ref_encode 83 = .ok (.getfield 143, 3) := by decide +kernel
theorem d_Ref_encode_86 : decode b_Ref_encode 86 = .ok (.iconst 3, 1) := by decide +kernel
theorem d_Ref_encode_87 : decode b_Ref_encode 87 = .ok (.if_icmp .ne 8, 3) := by decide +kernel
theorem d_Ref_encode_90 : decode b_Ref_encode 90 = .ok (.aload_n 0, 1) := by decide +kernel
theorem d_Ref_encode_91 : decode b_Ref_encode 91 = .ok (.invokevirtual 156, 3) := by decide +kernel
theorem d_Ref_encode_94 : decode b_Ref_encode 94 = .ok (.return_, 1) := by decide +kernel
theorem d_Ref_encode_95 : decode b_Ref_encode 95 = .ok (.iconst 0, 1) := by decide +kernel
theorem d_Ref_encode_96 : decode b_Ref_encode 96 = .ok (.istore_n 1, 1) := by decide +kernel
theorem d_Ref_encode_97 : decode b_Ref_encode 97 = .ok (.iload_n 1, 1) := by decide +kernel
theorem d_Ref_encode_98 : decode b_Ref_encode 98 = .ok (.iconst 3, 1) := by decide +kernel
theorem d_Ref_encode_99 : decode b_Ref_encode 99 = .ok (.if_icmp .ge 28, 3) := by decide +kernel
theorem d_Ref_encode_102 : decode b_Ref_encode 102 = .ok (.aload_n 0, 1) := by decide +kernel
theorem d_Ref_encode_103 : decode b_Ref_encode 103 = .ok (.aload_n 0, 1) := by decide +kernel
theorem d_Ref_encode_104 : decode b_Ref_encode 104 = .ok (.getfield 53, 3) := by decide +kernel
theorem d_Ref_encode_107 : decode b_Ref_encode 107 = .ok (.bipush 12, 2) := by decide +kernel
theorem d_Ref_encode_109 : decode b_Ref_encode 109 = .ok (.iload_n 1, 1) := by decide +kernel
theorem d_Ref_encode_110 : decode b_Ref_encode 110 = .ok (.iadd, 1) := by decide +kernel
theorem d_Ref_encode_111 : decode b_Ref_encode 111 = .ok (.iaload, 1) := by decide +kernel
theorem d_Ref_encode_112 : decode b_Ref_encode 112 = .ok (.bipush 64, 2) := by decide +kernel
theorem d_Ref_encode_114 : decode b_Ref_encode 114 = .ok (.iadd, 1) := by decide +kernel
theorem d_Ref_encode_115 : decode b_Ref_encode 115 = .ok (.i2l, 1) := by decide +kernel
theorem d_Ref_encode_116 : decode b_Ref_encode 116 = .ok (.bipush 7, 2) := by decide +kernel
theorem d_Ref_encode_118 : decode b_Ref_encode 118 = .ok (.invokevirtual 152, 3) := by decide +kernel
theorem d_Ref_encode_121 : decode b_Ref_encode 121 = .ok (.iinc 1 1, 3) := by decide +kernel
theorem d_Ref_encode_124 : decode b_Ref_encode 124 = .ok (.goto (-27), 3) := by decide +kernel
theorem d_Ref_encode_127 : decode b_Ref_encode 127 = .ok (.iconst 0, 1) := by decide +kernel
theorem d_Ref_encode_128 : decode b_Ref_encode 128 = .ok (.istore_n 1, 1) := by decide +kernel
theorem d_Ref_encode_129 : decode b_Ref_encode 129 = .ok (.iload_n 1, 1) := by decide +kernel
theorem d_Ref_encode_130 : decode b_Ref_encode 130 = .ok (.iconst 4, 1) := by decide +kernel
theorem d_Ref_encode_131 : decode b_Ref_encode 131 = .ok (.if_icmp .ge 182, 3) := by decide +kernel
theorem d_Ref_encode_134 : decode b_Ref_encode 134 = .ok (.aload_n 0, 1) := by decide +kernel
theorem d_Ref_encode_135 : decode b_Ref_encode 135 = .ok (.getfield 143, 3) := by decide +kernel
theorem d_Ref_encode_138 : decode b_Ref_encode 138 = .ok (.ifCond .le 175, 3) := by decide +kernel
theorem d_Ref_encode_141 : decode b_Ref_encode 141 = .ok (.aload_n 0, 1) := by decide +kernel
theorem d_Ref_encode_142 : decode b_Ref_encode 142 = .ok (.getfield 143, 3) := by decide +kernel
theorem d_Ref_encode_145 : decode b_Ref_encode 145 = .ok (.iconst 1, 1) := by decide +kernel
theorem d_Ref_encode_146 : decode b_Ref_encode 146 = .ok (.if_icmp .ne 7, 3) := by decide +kernel
theorem d_Ref_encode_149 : decode b_Ref_encode 149 = .ok (.iconst (-1), 1) := by decide +kernel
theorem d_Ref_encode_150 : decode b_Ref_encode 150 = .ok (.goto 4, 3) := by decide +kernel
theorem d_Ref_encode_153 : decode b_Ref_encode 153 = .ok (.iconst 0, 1) := by decide +kernel
theorem d_Ref_encode_154 : decode b_Ref_encode 154 = .ok (.istore_n 2, 1) := by decide +kernel
theorem d_Ref_encode_155 : decode b_Ref_encode 155 = .ok (.aload_n 0, 1) := by decide +kernel
theorem d_Ref_encode_156 : decode b_Ref_encode 156 = .ok (.getfield 143, 3) := by decide +kernel
theorem d_Ref_encode_159 : decode b_Ref_encode 159 = .ok (.iconst 1, 1) := by decide +kernel
theorem d_Ref_encode_160 : decode b_Ref_encode 160 = .ok (.if_icmp .ne 7, 3) := by decide +kernel
theorem d_Ref_encode_163 : decode b_Ref_encode 163 = .ok (.iconst (-1), 1) := by decide +kernel
theorem d_Ref_encode_164 : decode b_Ref_encode 164 = .ok (.goto 4, 3) := by decide +kernel
theorem d_Ref_encode_167 : decode b_Ref_encode 167 = .ok (.iconst 2, 1) := by decide +kernel
theorem d_Ref_encode_168 : decode b_Ref_encode 168 = .ok (.istore_n 3, 1) := by decide +kernel
theorem d_Ref_encode_169 : decode b_Ref_encode 169 = .ok (.iload_n 2, 1) := by decide +kernel
theorem d_Ref_encode_170 : decode b_Ref_encode 170 = .ok (.istore 4, 2) := by decide +kernel
theorem d_Ref_encode_172 : decode b_Ref_encode 172 = .ok (.iload 4, 2) := by decide +kernel
theorem d_Ref_encode_174 : decode b_Ref_encode 174 = .ok (.iload_n 3, 1) := by decide +kernel
theorem d_Ref_encode_175 : decode b_Ref_encode 175 = .ok (.if_icmp .gt 132, 3) := by decide +kernel
theorem d_Ref_encode_178 : decode b_Ref_encode 178 = .ok (.iconst 0, 1) := by decide +kernel
theorem d_Ref_encode_179 : decode b_Ref_encode 179 = .ok (.istore 5, 2) := by decide +kernel
theorem d_Ref_encode_181 : decode b_Ref_encode 181 = .ok (.iconst 0, 1) := by decide +kernel
theorem d_Ref_encode_182 : decode b_Ref_encode 182 = .ok (.istore 6, 2) := by decide +kernel
theorem d_Ref_encode_184 : decode b_Ref_encode 184 = .ok (.iload 6, 2) := by decide +kernel
theorem d_Ref_encode_186 : decode b_Ref_encode 186 = .ok (.aload_n 0, 1) := by decide +kernel
theorem d_Ref_encode_187 : decode b_Ref_encode 187 = .ok (.getfield 53, 3) := by decide +kernel
theorem d_Ref_encode_190 : decode b_Ref_encode 190 = .ok (.bipush 15, 2) := by decide +kernel
theorem d_Ref_encode_192 : decode b_Ref_encode 192 = .ok (.iaload, 1) := by decide +kernel
theorem d_Ref_encode_193 : decode b_Ref_encode 193 = .ok (.if_icmp .ge 31, 3) := by decide +kernel
theorem d_Ref_encode_196 : decode b_Ref_encode 196 = .ok (.iload 5, 2) := by decide +kernel
theorem d_Ref_encode_198 : decode b_Ref_encode 198 = .ok (.aload_n 0, 1) := by decide +kernel
theorem d_Ref_encode_199 : decode b_Ref_encode 199 = .ok (.iload 6, 2) := by decide +kernel
theorem d_Ref_encode_201 : decode b_Ref_encode 201 = .ok (.iload_n 1, 1) := by decide +kernel
theorem d_Ref_encode_202 : decode b_Ref_encode 202 = .ok (.iload 4, 2) := by decide +kernel
theorem d_Ref_encode_204 : decode b_Ref_encode 204 = .ok (.invokevirtual 159, 3) := by decide +kernel
theorem d_Ref_encode_207 : decode b_Ref_encode 207 = .ok (.ifCond .eq 7, 3) := by decide +kernel
theorem d_Ref_encode_210 : decode b_Ref_encode 210 = .ok (.iconst 1, 1) := by decide +kernel
theorem d_Ref_encode_211 : decode b_Ref_encode 211 = .ok (.goto 4, 3) := by decide +kernel
theorem d_Ref_encode_214 : decode b_Ref_encode 214 = .ok (.iconst 0, 1) := by decide +kernel
theorem d_Ref_encode_215 : decode b_Ref_encode 215 = .ok (.iadd, 1) := by decide +kernel
theorem d_Ref_encode_216 : decode b_Ref_encode 216 = .ok (.istore 5, 2) := by decide +kernel
theorem d_Ref_encode_218 : decode b_Ref_encode 218 = .ok (.iinc 6 1, 3) := by decide +kernel
theorem d_Ref_encode_221 : decode b_Ref_encode 221 = .ok (.goto (-37), 3) := by decide +kernel
theorem d_Ref_encode_224 : decode b_Ref_encode 224 = .ok (.aload_n 0, 1) := by decide +kernel
theorem d_Ref_encode_225 : decode b_Ref_encode 225 = .ok (.iload 5, 2) := by decide +kernel
theorem d_Ref_encode_227 : decode b_Ref_encode 227 = .ok (.i2l, 1) := by decide +kernel
theorem d_Ref_encode_228 : decode b_Ref_encode 228 = .ok (.iconst 3, 1) := by decide +kernel
theorem d_Ref_encode_229 : decode b_Ref_encode 229 = .ok (.invokevirtual 152, 3) := by decide +kernel
theorem d_Ref_encode_232 : decode b_Ref_encode 232 = .ok (.iconst 0, 1) := by decide +kernel
theorem d_Ref_encode_233 : decode b_Ref_encode 233 = .ok (.istore 6, 2) := by decide +kernel
theorem d_Ref_encode_235 : decode b_Ref_encode 235 = .ok (.iload 6, 2) := by decide +kernel
theorem d_Ref_encode_237 : decode b_Ref_encode 237 = .ok (.aload_n 0, 1) := by decide +kernel
theorem d_Ref_encode_238 : decode b_Ref_encode 238 = .ok (.getfield 53, 3) := by decide +kernel
theorem d_Ref_encode_241 : decode b_Ref_encode 241 = .ok (.bipush 15, 2) := by decide +kernel
theorem d_Ref_encode_243 : decode b_Ref_encode 243 = .ok (.iaload, 1) := by decide +kernel
theorem d_Ref_encode_244 : decode b_Ref_encode 244 = .ok (.if_icmp .ge 57, 3) := by decide +kernel
theorem d_Ref_encode_247 : decode b_Ref_encode 247 = .ok (.aload_n 0, 1) := by decide +kernel
theorem d_Ref_encode_248 : decode b_Ref_encode 248 = .ok (.iload 6, 2) := by decide +kernel
theorem d_Ref_encode_250 : decode b_Ref_encode 250 = .ok (.iload_n 1, 1) := by decide +kernel
theorem d_Ref_encode_251 : decode b_Ref_encode 251 = .ok (.iload 4, 2) := by decide +kernel
theorem d_Ref_encode_253 : decode b_Ref_encode 253 = .ok (.invokevirtual 159, 3) := by decide +kernel
theorem d_Ref_encode_256 : decode b_Ref_encode 256 = .ok (.ifCond .eq 39, 3) := by decide +kernel
theorem d_Ref_encode_259 : decode b_Ref_encode 259 = .ok (.aload_n 0, 1) := by decide +kernel
theorem d_Ref_encode_260 : decode b_Ref_encode 260 = .ok (.aload_n 0, 1) := by decide +kernel
theorem d_Ref_encode_261 : decode b_Ref_encode 261 = .ok (.getfield 53, 3) := by decide +kernel
theorem d_Ref_encode_264 : decode b_Ref_encode 264 = .ok (.bipush 23, 2) := by decide +kernel
theorem d_Ref_encode_266 : decode b_Ref_encode 266 = .ok (.iload 6, 2) := by decide +kernel
theorem d_Ref_encode_268 : decode b_Ref_encode 268 = .ok (.iadd, 1) := by decide +kernel
theorem d_Ref_encode_269 : decode b_Ref_encode 269 = .ok (.iaload, 1) := by decide +kernel
theorem d_Ref_encode_270 : decode b_Ref_encode 270 = .ok (.i2l, 1) := by decide +kernel
theorem d_Ref_encode_271 : decode b_Ref_encode 271 = .ok (.iconst 2, 1) := by decide +kernel
theorem d_Ref_encode_272 : decode b_Ref_encode 272 = .ok (.invokevirtual 152, 3) := by decide +kernel
theorem d_Ref_encode_275 : decode b_Ref_encode 275 = .ok (.aload_n 0, 1) := by decide +kernel
theorem d_Ref_encode_276 : decode b_Ref_encode 276 = .ok (.aload_n 0, 1) := by decide +kernel
theorem d_Ref_encode_277 : decode b_Ref_encode 277 = .ok (.getfield 53, 3) := by decide +kernel
theorem d_Ref_encode_280 : decode b_Ref_encode 280 = .ok (.bipush 30, 2) := by decide +kernel
theorem d_Ref_encode_282 : decode b_Ref_encode 282 = .ok (.iload 6, 2) := by decide +kernel
theorem d_Ref_encode_284 : decode b_Ref_encode 284 = .ok (.iadd, 1) := by decide +kernel
theorem d_Ref_encode_285 : decode b_Ref_encode 285 = .ok (.iaload, 1) := by decide +kernel
theorem d_Ref_encode_286 : decode b_Ref_encode 286 = .ok (.bipush 64, 2) := by decide +kernel
theorem d_Ref_encode_288 : decode b_Ref_encode 288 = .ok (.iadd, 1) := by decide +kernel
theorem d_Ref_encode_289 : decode b_Ref_encode 289 = .ok (.i2l, 1) := by decide +kernel
theorem d_Ref_encode_290 : decode b_Ref_encode 290 = .ok (.bipush 7, 2) := by decide +kernel
theorem d_Ref_encode_292 : decode b_Ref_encode 292 = .ok (.invokevirtual 152, 3) := by decide +kernel
theorem d_Ref_encode_295 : decode b_Ref_encode 295 = .ok (.iinc 6 1, 3) := by decide +kernel
theorem d_Ref_encode_298 : decode b_Ref_encode 298 = .ok (.goto (-63), 3) := by decide +kernel
theorem d_Ref_encode_301 : decode b_Ref_encode 301 = .ok (.iinc 4 1, 3) := by decide +kernel
theorem d_Ref_encode_304 : decode b_Ref_encode 304 = .ok (.goto (-132), 3) := by decide +kernel
theorem d_Ref_encode_307 : decode b_Ref_encode 307 = .ok (.iinc 1 1, 3) := by decide +kernel
theorem d_Ref_encode_310 : decode b_Ref_encode 310 = .ok (.goto (-181), 3) := by decide +kernel
theorem d_Ref_encode_313 : decode b_Ref_encode 313 = .ok (.return_, 1) := by decide +kernel
theorem d_Ref_isIn_0 : decode b_Ref_isIn 0 = .ok (.aload_n 0, 1) := by decide +kernel
theorem d_Ref_isIn_1 : decode b_Ref_isIn 1 = .ok (.getfield 53, 3) := by decide +kernel
theorem d_Ref_isIn_4 : decode b_Ref_isIn 4 = .ok (.bipush 16, 2) := by decide +kernel
theorem d_Ref_isIn_6 : decode b_Ref_isIn 6 = .ok (.iload_n 1, 1) := by decide +kernel
theorem d_Ref_isIn_7 : decode b_Ref_isIn 7 = .ok (.iadd, 1) := by decide +kernel
theorem d_Ref_isIn_8 : decode b_Ref_isIn 8 = .ok (.iaload, 1) := by decide +kernel
theorem d_Ref_isIn_9 : decode b_Ref_isIn 9 = .ok (.iload_n 2, 1) := by decide +kernel
theorem d_Ref_isIn_10 : decode b_Ref_isIn 10 = .ok (.if_icmp .ne 24, 3) := by decide +kernel
theorem d_Ref_isIn_13 : decode b_Ref_isIn 13 = .ok (.iload_n 3, 1) := by decide +kernel
theorem d_Ref_isIn_14 : decode b_Ref_isIn 14 = .ok (.ifCond .lt 16, 3) := by decide +kernel
theorem d_Ref_isIn_17 : decode b_Ref_isIn 17 = .ok (.aload_n 0, 1) := by decide +kernel
theorem d_Ref_isIn_18 : decode b_Ref_isIn 18 = .ok (.getfield 53, 3) := by decide +kernel
theorem d_Ref_isIn_21 : decode b_Ref_isIn 21 = .ok (.bipush 23, 2) := by decide +kernel
theorem d_Ref_isIn_23 : decode b_Ref_isIn 23 = .ok (.iload_n 1, 1) := by decide +kernel
theorem d_Ref_isIn_24 : decode b_Ref_isIn 24 = .ok (.iadd, 1) := by decide +kernel
theorem d_Ref_isIn_25 : decode b_Ref_isIn 25 = .ok (.iaload, 1) := by decide +kernel
theorem d_Ref_isIn_26 : decode b_Ref_isIn 26 = .ok (.iload_n 3, 1) := by decide +kernel
theorem d_Ref_isIn_27 : decode b_Ref_isIn 27 = .ok (.if_icmp .ne 7, 3) := by decide +kernel
theorem d_Ref_isIn_30 : decode b_Ref_isIn 30 = .ok (.iconst 1, 1) := by decide +kernel
theorem d_Ref_isIn_31 : decode b_Ref_isIn 31 = .ok (.goto 4, 3) := by decide +kernel
theorem d_Ref_isIn_34 : decode b_Ref_isIn 34 = .ok (.iconst 0, 1) := by decide +kernel
theorem d_Ref_isIn_35 : decode b_Ref_isIn 35 = .ok (.ireturn, 1) := by decide +kernel
theorem d_Ref_encodeRows_0 : decode b_Ref_encodeRows 0 = .ok (.iconst 0, 1) := by decide +kernel
theorem d_Ref_encodeRows_1 : decode b_Ref_encodeRows 1 = .ok (.istore_n 1, 1) := by decide +kernel
theorem d_Ref_encodeRows_2 : decode b_Ref_encodeRows 2 = .ok (.iload_n 1, 1) := by decide +kernel
theorem d_Ref_encodeRows_3 : decode b_Ref_encodeRows 3 = .ok (.iconst 4, 1) := by decide +kernel
theorem d_Ref_encodeRows_4 : decode b_Ref_encodeRows 4 = .ok (.if_icmp .ge 176, 3) := by decide +kernel
theorem d_Ref_encodeRows_7 : decode b_Ref_encodeRows 7 = .ok (.aload_n 0, 1) := by decide +kernel
theorem d_Ref_encodeRows_8 : decode b_Ref_encodeRows 8 = .ok (.aload_n 0, 1) := by decide +kernel
theorem d_Ref_encodeRows_9 : decode b_Ref_encodeRows 9 = .ok (.getfield 53, 3) := by decide +kernel
theorem d_Ref_encodeRows_12 : decode b_Ref_encodeRows 12 = .ok (.bipush 37, 2) := by decide +kernel
theorem d_Ref_encodeRows_14 : decode b_Ref_encodeRows 14 = .ok (.iload_n 1, 1) := by decide +kernel
theorem d_Ref_encodeRows_15 : decode b_Ref_encodeRows 15 = .ok (.iadd, 1) := by decide +kernel
theorem d_Ref_encodeRows_16 : decode b_Ref_encodeRows 16 = .ok (.iaload, 1) := by decide +kernel
theorem d_Ref_encodeRows_17 : decode b_Ref_encodeRows 17 = .ok (.i2l, 1) := by decide +kernel
theorem d_Ref_encodeRows_18 : decode b_Ref_encodeRows 18 = .ok (.iconst 4, 1) := by decide +kernel
theorem d_Ref_encodeRows_19 : decode b_Ref_encodeRows 19 = .ok (.invokevirtual 152, 3) := by decide +kernel
theorem d_Ref_encodeRows_22 : decode b_Ref_encodeRows 22 = .ok (.iconst 1, 1) := by decide +kernel
theorem d_Ref_encodeRows_23 : decode b_Ref_encodeRows 23 = .ok (.istore_n 2, 1) := by decide +kernel
theorem d_Ref_encodeRows_24 : decode b_Ref_encodeRows 24 = .ok (.iload_n 2, 1) := by decide +kernel
theorem d_Ref_encodeRows_25 : decode b_Ref_encodeRows 25 = .ok (.aload_n 0, 1) := by decide +kernel
theorem d_Ref_encodeRows_26 : decode b_Ref_encodeRows 26 = .ok (.getfield 53, 3) := by decide +kernel
theorem d_Ref_encodeRows_29 : decode b_Ref_encodeRows 29 = .ok (.bipush 37, 2) := by decide +kernel
theorem d_Ref_encodeRows_31 : decode b_Ref_encodeRows 31 = .ok (.iload_n 1, 1) := by decide +kernel
theorem d_Ref_encodeRows_32 : decode b_Ref_encodeRows 32 = .ok (.iadd, 1) := by decide +kernel
theorem d_Ref_encodeRows_33 : decode b_Ref_encodeRows 33 = .ok (.iaload, 1) := by decide +kernel
theorem d_Ref_encodeRows_34 : decode b_Ref_encodeRows 34 = .ok (.if_icmp .ge 99, 3) := by decide +kernel
theorem d_Ref_encodeRows_37 : decode b_Ref_encodeRows 37 = .ok (.aload_n 0, 1) := by decide +kernel
theorem d_Ref_encodeRows_38 : decode b_Ref_encodeRows 38 = .ok (.getfield 53, 3) := by decide +kernel
theorem d_Ref_encodeRows_41 : decode b_Ref_encodeRows 41 = .ok (.bipush 41, 2) := by decide +kernel
theorem d_Ref_encodeRows_43 : decode b_Ref_encodeRows 43 = .ok (.bipush 8, 2) := by decide +kernel
theorem d_Ref_encodeRows_45 : decode b_Ref_encodeRows 45 = .ok (.iload_n 1, 1) := by decide +kernel
theorem d_Ref_encodeRows_46 : decode b_Ref_encodeRows 46 = .ok (.imul, 1) := by decide +kernel
theorem d_Ref_encodeRows_47 : decode b_Ref_encodeRows 47 = .ok (.iadd, 1) := by decide +kernel
theorem d_Ref_encodeRows_48 : decode b_Ref_encodeRows 48 = .ok (.iload_n 2, 1) := by decide +kernel
theorem d_Ref_encodeRows_49 : decode b_Ref_encodeRows 49 = .ok (.iadd, 1) := by decide +kernel
theorem d_Ref_encodeRows_50 : decode b_Ref_encodeRows 50 = .ok (.iaload, 1) := by decide +kernel
theorem d_Ref_encodeRows_51 : decode b_Ref_encodeRows 51 = .ok (.istore_n 3, 1) := by decide +kernel
theorem d_Ref_encodeRows_52 : decode b_Ref_encodeRows 52 = .ok (.aload_n 0, 1) := by decide +kernel
theorem d_Ref_encodeRows_53 : decode b_Ref_encodeRows 53 = .ok (.aload_n 0, 1) := by decide +kernel
theorem d_Ref_encodeRows_54 : decode b_Ref_encodeRows 54 = .ok (.getfield 53, 3) := by decide +kernel
theorem d_Ref_encodeRows_57 : decode b_Ref_encodeRows 57 = .ok (.bipush 73, 2) := by decide +kernel
theorem d_Ref_encodeRows_59 : decode b_Ref_encodeRows 59 = .ok (.iload_n 3, 1) := by decide +kernel
theorem d_Ref_encodeRows_60 : decode b_Ref_encodeRows 60 = .ok (.iadd, 1) := by decide +kernel
theorem d_Ref_encodeRows_61 : decode b_Ref_encodeRows 61 = .ok (.iaload, 1) := by decide +kernel
theorem d_Ref_encodeRows_62 : decode b_Ref_encodeRows 62 = .ok (.bipush 64, 2) := by decide +kernel
theorem d_Ref_encodeRows_64 : decode b_Ref_encodeRows 64 = .ok (.iadd, 1) := by decide +kernel
theorem d_Ref_encodeRows_65 : decode b_Ref_encodeRows 65 = .ok (.i2l, 1) := by decide +kernel
theorem d_Ref_encodeRows_66 : decode b_Ref_encodeRows 66 = .ok (.bipush 7, 2) := by decide +kernel
theorem d_Ref_encodeRows_68 : decode b_Ref_encodeRows 68 = .ok (.invokevirtual 152, 3) := by decide +kernel
theorem d_Ref_encodeRows_71 : decode b_Ref_encodeRows 71 = .ok (.aload_n 0, 1) := by decide +kernel
theorem d_Ref_encodeRows_72 : decode b_Ref_encodeRows 72 = .ok (.aload_n 0, 1) := by decide +kernel
theorem d_Ref_encodeRows_73 : decode b_Ref_encodeRows 73 = .ok (.getfield 53, 3) := by decide +kernel
theorem d_Ref_encodeRows_76 : decode b_Ref_encodeRows 76 = .ok (.bipush 84, 2) := by decide +kernel
theorem d_Ref_encodeRows_78 : decode b_Ref_encodeRows 78 = .ok (.iload_n 3, 1) := by decide +kernel
theorem d_Ref_encodeRows_79 : decode b_Ref_encodeRows 79 = .ok (.iadd, 1) := by decide +kernel
theorem d_Ref_encodeRows_80 : decode b_Ref_encodeRows 80 = .ok (.iaload, 1) := by decide +kernel
theorem d_Ref_encodeRows_81 : decode b_Ref_encodeRows 81 = .ok (.i2l, 1) := by decide +kernel
theorem d_Ref_encodeRows_82 : decode b_Ref_encodeRows 82 = .ok (.iconst 1, 1) := by decide +kernel
theorem d_Ref_encodeRows_83 : decode b_Ref_encodeRows 83 = .ok (.invokevirtual 152, 3) := by decide +kernel
theorem d_Ref_encodeRows_86 : decode b_Ref_encodeRows 86 = .ok (.iconst 0, 1) := by decide +kernel
theorem d_Ref_encodeRows_87 : decode b_Ref_encodeRows 87 = .ok (.istore 4, 2) := by decide +kernel
theorem d_Ref_encodeRows_89 : decode b_Ref_encodeRows 89 = .ok (.iload 4, 2) := by decide +kernel
theorem d_Ref_encodeRows_91 : decode b_Ref_encodeRows 91 = .ok (.iconst 4, 1) := by decide +kernel
theorem d_Ref_encodeRows_92 : decode b_Ref_encodeRows 92 = .ok (.if_icmp .ge 35, 3) := by decide +kernel
theorem d_Ref_encodeRows_95 : decode b_Ref_encodeRows 95 = .ok (.aload_n 0, 1) := by decide +kernel
theorem d_Ref_encodeRows_96 : decode b_Ref_encodeRows 96 = .ok (.aload_n 0, 1) := by decide +kernel
theorem d_Ref_encodeRows_97 : decode b_Ref_encodeRows 97 = .ok (.iload 4, 2) := by decide +kernel
theorem d_Ref_encodeRows_99 : decode b_Ref_encodeRows 99 = .ok (.aload_n 0, 1) := by decide +kernel
theorem d_Ref_encodeRows_100 : decode b_Ref_encodeRows 100 = .ok (.getfield 53, 3) := by decide +kernel
theorem d_Ref_encodeRows_103 : decode b_Ref_encodeRows 103 = .ok (.bipush 95, 2) := by decide +kernel
theorem d_Ref_encodeRows_105 : decode b_Ref_encodeRows 105 = .ok (.iconst 4, 1) := by decide +kernel
theorem d_Ref_encodeRows_106 : decode b_Ref_encodeRows 106 = .ok (.iload_n 3, 1) := by decide +kernel
theorem d_Ref_encodeRows_107 : decode b_Ref_encodeRows 107 = .ok (.imul, 1) := by decide +kernel
theorem d_Ref_encodeRows_108 : decode b_Ref_encodeRows 108 = .ok (.iadd, 1) := by decide +kernel
theorem d_Ref_encodeRows_109 : decode b_Ref_encodeRows 109 = .ok (.iload 4, 2) := by decide +kernel
theorem d_Ref_encodeRows_111 : decode b_Ref_encodeRows 111 = .ok (.iadd, 1) := by decide +kernel
theorem d_Ref_encodeRows_112 : decode b_Ref_encodeRows 112 = .ok (.iaload, 1) := by decide +kernel
theorem d_Ref_encodeRows_113 : decode b_Ref_encodeRows 113 = .ok (.invokevirtual 163, 3) := by decide +kernel
theorem d_Ref_encodeRows_116 : decode b_Ref_encodeRows 116 = .ok (.i2l, 1) := by decide +kernel
theorem d_Ref_encodeRows_117 : decode b_Ref_encodeRows 117 = .ok (.iconst 3, 1) := by decide +kernel
theorem d_Ref_encodeRows_118 : decode b_Ref_encodeRows 118 = .ok (.invokevirtual 152, 3) := by decide +kernel
theorem d_Ref_encodeRows_121 : decode b_Ref_encodeRows 121 = .ok (.iinc 4 1, 3) := by decide +kernel
theorem d_Ref_encodeRows_124 : decode b_Ref_encodeRows 124 = .ok (.goto (-35), 3) := by decide +kernel
theorem d_Ref_encodeRows_127 : decode b_Ref_encodeRows 127 = .ok (.iinc 2 1, 3) := by decide +kernel
theorem d_Ref_encodeRows_130 : decode b_Ref_encodeRows 130 = .ok (.goto (-106), 3) := by decide +kernel
theorem d_Ref_encodeRows_133 : decode b_Ref_encodeRows 133 = .ok (.iconst 0, 1) := by decide +kernel
theorem d_Ref_encodeRows_134 : decode b_Ref_encodeRows 134 = .ok (.istore_n 2, 1) := by decide +kernel
theorem d_Ref_encodeRows_135 : decode b_Ref_encodeRows 135 = .ok (.iload_n 2, 1) := by decide +kernel
theorem d_Ref_encodeRows_136 : decode b_Ref_encodeRows 136 = .ok (.aload_n 0, 1) := by decide +kernel
theorem d_Ref_encodeRows_137 : decode b_Ref_encodeRows 137 = .ok (.getfield 133, 3) := by decide +kernel
theorem d_Ref_encodeRows_140 : decode b_Ref_encodeRows 140 = .ok (.if_icmp .ge 34, 3) := by decide +kernel
theorem d_Ref_encodeRows_143 : decode b_Ref_encodeRows 143 = .ok (.aload_n 0, 1) := by decide +kernel
theorem d_Ref_encodeRows_144 : decode b_Ref_encodeRows 144 = .ok (.aload_n 0, 1) := by decide +kernel
theorem d_Ref_encodeRows_145 : decode b_Ref_encodeRows 145 = .ok (.iload_n 1, 1) := by decide +kernel
theorem d_Ref_encodeRows_146 : decode b_Ref_encodeRows 146 = .ok (.aload_n 0, 1) := by decide +kernel
theorem d_Ref_encodeRows_147 : decode b_Ref_encodeRows 147 = .ok (.getfield 53, 3) := by decide +kernel
theorem d_Ref_encodeRows_150 : decode b_Ref_encodeRows 150 = .ok (.sipush 139, 3) := by decide +kernel
theorem d_Ref_encodeRows_153 : decode b_Ref_encodeRows 153 = .ok (.iconst 4, 1) := by decide +kernel
theorem d_Ref_encodeRows_154 : decode b_Ref_encodeRows 154 = .ok (.iload_n 2, 1) := by decide +kernel
theorem d_Ref_encodeRows_155 : decode b_Ref_encodeRows 155 = .ok (.imul, 1) := by decide +kernel
theorem d_Ref_encodeRows_156 : decode b_Ref_encodeRows 156 = .ok (.iadd, 1) := by decide +kernel
theorem d_Ref_encodeRows_157 : decode b_Ref_encodeRows 157 = .ok (.iload_n 1, 1) := by decide +kernel
theorem d_Ref_encodeRows_158 : decode b_Ref_encodeRows 158 = .ok (.iadd, 1) := by decide +kernel
theorem d_Ref_encodeRows_159 : decode b_Ref_encodeRows 159 = .ok (.iaload, 1) := by decide +kernel
theorem d_Ref_encodeRows_160 : decode b_Ref_encodeRows 160 = .ok (.invokevirtual 163, 3) := by decide +kernel
theorem d_Ref_encodeRows_163 : decode b_Ref_encodeRows 163 = .ok (.i2l, 1) := by decide +kernel
theorem d_Ref_encodeRows_164 : decode b_Ref_encodeRows 164 = .ok (.iconst 3, 1) := by decide +kernel
theorem d_Ref_encodeRows_165 : decode b_Ref_encodeRows 165 = .ok (.invokevirtual 152, 3) := by decide +kernel
theorem d_Ref_encodeRows_168 : decode b_Ref_encodeRows 168 = .ok (.iinc 2 1, 3) := by decide +kernel
theorem d_Ref_encodeRows_171 : decode b_Ref_encodeRows 171 = .ok (.goto (-36), 3) := by decide +kernel
theorem d_Ref_encodeRows_174 : decode b_Ref_encodeRows 174 = .ok (.iinc 1 1, 3) := by decide +kernel
theorem d_Ref_encodeRows_177 : decode b_Ref_encodeRows 177 = .ok (.goto (-175), 3) := by decide +kernel
theorem d_Ref_encodeRows_180 : decode b_Ref_encodeRows 180 = .ok (.return_, 1) := by decide +kernel
theorem d_Ref_wasMet_0 : decode b_Ref_wasMet 0 = .ok (.aload_n 0, 1) := by decide +kernel
theorem d_Ref_wasMet_1 : decode b_Ref_wasMet 1 = .ok (.invokevirtual 167, 3) := by decide +kernel
theorem d_Ref_wasMet_4 : decode b_Ref_wasMet 4 = .ok (.lconst 0, 1) := by decide +kernel
theorem d_Ref_wasMet_5 : decode b_Ref_wasMet 5 = .ok (.lstore_n 1, 1) := by decide +kernel
theorem d_Ref_wasMet_6 : decode b_Ref_wasMet 6 = .ok (.iconst 0, 1) := by decide +kernel
theorem d_Ref_wasMet_7 : decode b_Ref_wasMet 7 = .ok (.istore_n 3, 1) := by decide +kernel
theorem d_Ref_wasMet_8 : decode b_Ref_wasMet 8 = .ok (.iload_n 3, 1) := by decide +kernel
theorem d_Ref_wasMet_9 : decode b_Ref_wasMet 9 = .ok (.iconst 5, 1) := by decide +kernel
theorem d_Ref_wasMet_10 : decode b_Ref_wasMet 10 = .ok (.if_icmp .ge 29, 3) := by decide +kernel
theorem d_Ref_wasMet_13 : decode b_Ref_wasMet 13 = .ok (.lload_n 1, 1) := by decide +kernel
theorem d_Ref_wasMet_14 : decode b_Ref_wasMet 14 = .ok (.aload_n 0, 1) := by decide +kernel
theorem d_Ref_wasMet_15 : decode b_Ref_wasMet 15 = .ok (.getfield 75, 3) := by decide +kernel
theorem d_Ref_wasMet_18 : decode b_Ref_wasMet 18 = .ok (.iload_n 3, 1) := by decide +kernel
theorem d_Ref_wasMet_19 : decode b_Ref_wasMet 19 = .ok (.laload, 1) := by decide +kernel
theorem d_Ref_wasMet_20 : decode b_Ref_wasMet 20 = .ok (.lxor, 1) := by decide +kernel
theorem d_Ref_wasMet_21 : decode b_Ref_wasMet 21 = .ok (.ldc2_w 170, 3) := by decide +kernel
theorem d_Ref_wasMet_24 : decode b_Ref_wasMet 24 = .ok (.lmul, 1) := by decide +kernel
theorem d_Ref_wasMet_25 : decode b_Ref_wasMet 25 = .ok (.lstore_n 1, 1) := by decide +kernel
theorem d_Ref_wasMet_26 : decode b_Ref_wasMet 26 = .ok (.lload_n 1, 1) := by decide +kernel
theorem d_Ref_wasMet_27 : decode b_Ref_wasMet 27 = .ok (.lload_n 1, 1) := by decide +kernel
theorem d_Ref_wasMet_28 : decode b_Ref_wasMet 28 = .ok (.bipush 29, 2) := by decide +kernel
theorem d_Ref_wasMet_30 : decode b_Ref_wasMet 30 = .ok (.lushr, 1) := by decide +kernel
theorem d_Ref_wasMet_31 : decode b_Ref_wasMet 31 = .ok (.lxor, 1) := by decide +kernel
theorem d_Ref_wasMet_32 : decode b_Ref_wasMet 32 = .ok (.lstore_n 1, 1) := by decide +kernel
theorem d_Ref_wasMet_33 : decode b_Ref_wasMet 33 = .ok (.iinc 3 1, 3) := by decide +kernel
theorem d_Ref_wasMet_36 : decode b_Ref_wasMet 36 = .ok (.goto (-28), 3) := by decide +kernel
theorem d_Ref_wasMet_39 : decode b_Ref_wasMet 39 = .ok (.lload_n 1, 1) := by decide +kernel
theorem d_Ref_wasMet_40 : decode b_Ref_wasMet 40 = .ok (.bipush 48, 2) := by decide +kernel
theorem d_Ref_wasMet_42 : decode b_Ref_wasMet 42 = .ok (.lushr, 1) := by decide +kernel
theorem d_Ref_wasMet_43 : decode b_Ref_wasMet 43 = .ok (.l2i, 1) := by decide +kernel
theorem d_Ref_wasMet_44 : decode b_Ref_wasMet 44 = .ok (.istore_n 3, 1) := by decide +kernel
theorem d_Ref_wasMet_45 : decode b_Ref_wasMet 45 = .ok (.aload_n 0, 1) := by decide +kernel
theorem d_Ref_wasMet_46 : decode b_Ref_wasMet 46 = .ok (.getfield 72, 3) := by decide +kernel
theorem d_Ref_wasMet_49 : decode b_Ref_wasMet 49 = .ok (.iload_n 3, 1) := by decide +kernel
theorem d_Ref_wasMet_50 : decode b_Ref_wasMet 50 = .ok (.iaload, 1) := by decide +kernel
theorem d_Ref_wasMet_51 : decode b_Ref_wasMet 51 = .ok (.istore 4, 2) := by decide +kernel
theorem d_Ref_wasMet_53 : decode b_Ref_wasMet 53 = .ok (.iload 4, 2) := by decide +kernel
theorem d_Ref_wasMet_55 : decode b_Ref_wasMet 55 = .ok (.ifCond .lt 75, 3) := by decide +kernel
theorem d_Ref_wasMet_58 : decode b_Ref_wasMet 58 = .ok (.iconst 1, 1) := by decide +kernel
theorem d_Ref_wasMet_59 : decode b_Ref_wasMet 59 = .ok (.istore 5, 2) := by decide +kernel
theorem d_Ref_wasMet_61 : decode b_Ref_wasMet 61 = .ok (.iconst 0, 1) := by decide +kernel
theorem d_Ref_wasMet_62 : decode b_Ref_wasMet 62 = .ok (.istore 6, 2) := by decide +kernel
theorem d_Ref_wasMet_64 : decode b_Ref_wasMet 64 = .ok (.iload 6, 2) := by decide +kernel
theorem d_Ref_wasMet_66 : decode b_Ref_wasMet 66 = .ok (.iconst 5, 1) := by decide +kernel
theorem d_Ref_wasMet_67 : decode b_Ref_wasMet 67 = .ok (.if_icmp .ge 44, 3) := by decide +kernel
theorem d_Ref_wasMet_70 : decode b_Ref_wasMet 70 = .ok (.iload 5, 2) := by decide +kernel
theorem d_Ref_wasMet_72 : decode b_Ref_wasMet 72 = .ok (.ifCond .eq 39, 3) := by decide +kernel
theorem d_Ref_wasMet_75 : decode b_Ref_wasMet 75 = .ok (.aload_n 0, 1) := by decide +kernel
theorem d_Ref_wasMet_76 : decode b_Ref_wasMet 76 = .ok (.getfield 63, 3) := by decide +kernel
theorem d_Ref_wasMet_79 : decode b_Ref_wasMet 79 = .ok (.iconst 5, 1) := by decide +kernel
theorem d_Ref_wasMet_80 : decode b_Ref_wasMet 80 = .ok (.iload 4, 2) := by decide +kernel
theorem d_Ref_wasMet_82 : decode b_Ref_wasMet 82 = .ok (.imul, 1) := by decide +kernel
theorem d_Ref_wasMet_83 : decode b_Ref_wasMet 83 = .ok (.iload 6, 2) := by decide +kernel
theorem d_Ref_wasMet_85 : decode b_Ref_wasMet 85 = .ok (.iadd, 1) := by decide +kernel
theorem d_Ref_wasMet_86 : decode b_Ref_wasMet 86 = .ok (.laload, 1) := by decide +kernel
theorem d_Ref_wasMet_87 : decode b_Ref_wasMet 87 = .ok (.aload_n 0, 1) := by decide +kernel
theorem d_Ref_wasMet_88 : decode b_Ref_wasMet 88 = .ok (.getfield 75, 3) := by decide +kernel
theorem d_Ref_wasMet_91 : decode b_Ref_wasMet 91 = .ok (.iload 6, 2) := by decide +kernel
theorem d_Ref_wasMet_93 : decode b_Ref_wasMet 93 = .ok (.laload, 1) := by decide +kernel
theorem d_Ref_wasMet_94 : decode b_Ref_wasMet 94 = .ok (.lcmp, 1) := by decide +kernel
theorem d_Ref_wasMet_95 : decode b_Ref_wasMet 95 = .ok (.ifCond .ne 7, 3) := by decide +kernel
theorem d_Ref_wasMet_98 : decode b_Ref_wasMet 98 = .ok (.iconst 1, 1) := by decide +kernel
theorem d_Ref_wasMet_99 : decode b_Ref_wasMet 99 = .ok (.goto 4, 3) := by decide +kernel
theorem d_Ref_wasMet_102 : decode b_Ref_wasMet 102 = .ok (.iconst 0, 1) := by decide +kernel
theorem d_Ref_wasMet_103 : decode b_Ref_wasMet 103 = .ok (.istore 5, 2) := by decide +kernel
theorem d_Ref_wasMet_105 : decode b_Ref_wasMet 105 = .ok (.iinc 6 1, 3) := by decide +kernel
theorem d_Ref_wasMet_108 : decode b_Ref_wasMet 108 = .ok (.goto (-44), 3) := by decide +kernel
theorem d_Ref_wasMet_111 : decode b_Ref_wasMet 111 = .ok (.iload 5, 2) := by decide +kernel
theorem d_Ref_wasMet_113 : decode b_Ref_wasMet 113 = .ok (.ifCond .eq 5, 3) := by decide +kernel
theorem d_Ref_wasMet_116 : decode b_Ref_wasMet 116 = .ok (.iconst 1, 1) := by decide +kernel
theorem d_Ref_wasMet_117 : decode b_Ref_wasMet 117 = .ok (.ireturn, 1) := by decide +kernel
theorem d_Ref_wasMet_118 : decode b_Ref_wasMet 118 = .ok (.aload_n 0, 1) := by decide +kernel
theorem d_Ref_wasMet_119 : decode b_Ref_wasMet 119 = .ok (.getfield 68, 3) := by decide +kernel
theorem d_Ref_wasMet_122 : decode b_Ref_wasMet 122 = .ok (.iload 4, 2) := by decide +kernel
theorem d_Ref_wasMet_124 : decode b_Ref_wasMet 124 = .ok (.iaload, 1) := by decide +kernel
theorem d_Ref_wasMet_125 : decode b_Ref_wasMet 125 = .ok (.istore 4, 2) := by decide +kernel
theorem d_Ref_wasMet_127 : decode b_Ref_wasMet 127 = .ok (.goto (-74), 3) := by decide +kernel
theorem d_Ref_wasMet_130 : decode b_Ref_wasMet 130 = .ok (.aload_n 0, 1) := by decide +kernel
theorem d_Ref_wasMet_131 : decode b_Ref_wasMet 131 = .ok (.getfield 172, 3) := by decide +kernel
theorem d_Ref_wasMet_134 : decode b_Ref_wasMet 134 = .ok (.ldc 67, 2) := by decide +kernel
theorem d_Ref_wasMet_136 : decode b_Ref_wasMet 136 = .ok (.if_icmp .ge 74, 3) := by decide +kernel
theorem d_Ref_wasMet_139 : decode b_Ref_wasMet 139 = .ok (.iconst 0, 1) := by decide +kernel
theorem d_Ref_wasMet_140 : decode b_Ref_wasMet 140 = .ok (.istore 4, 2) := by decide +kernel
theorem d_Ref_wasMet_142 : decode b_Ref_wasMet 142 = .ok (.iload 4, 2) := by decide +kernel
theorem d_Ref_wasMet_144 : decode b_Ref_wasMet 144 = .ok (.iconst 5, 1) := by decide +kernel
theorem d_Ref_wasMet_145 : decode b_Ref_wasMet 145 = .ok (.if_icmp .ge 30, 3) := by decide +kernel
theorem d_Ref_wasMet_148 : decode b_Ref_wasMet 148 = .ok (.aload_n 0, 1) := by decide +kernel
theorem d_Ref_wasMet_149 : decode b_Ref_wasMet 149 = .ok (.getfield 63, 3) := by decide +kernel
theorem d_Ref_wasMet_152 : decode b_Ref_wasMet 152 = .ok (.iconst 5, 1) := by decide +kernel
theorem d_Ref_wasMet_153 : decode b_Ref_wasMet 153 = .ok (.aload_n 0, 1) := by decide +kernel
theorem d_Ref_wasMet_154 : decode b_Ref_wasMet 154 = .ok (.getfield 172, 3) := by decide +kernel
theorem d_Ref_wasMet_157 : decode b_Ref_wasMet 157 = .ok (.imul, 1) := by decide +kernel
theorem d_Ref_wasMet_158 : decode b_Ref_wasMet 158 = .ok (.iload 4, 2) := by decide +kernel
theorem d_Ref_wasMet_160 : decode b_Ref_wasMet 160 = .ok (.iadd, 1) := by decide +kernel
theorem d_Ref_wasMet_161 : decode b_Ref_wasMet 161 = .ok (.aload_n 0, 1) := by decide +kernel
theorem d_Ref_wasMet_162 : decode b_Ref_wasMet 162 = .ok (.getfield 75, 3) := by decide +kernel
theorem d_Ref_wasMet_165 : decode b_Ref_wasMet 165 = .ok (.iload 4, 2) := by decide +kernel
theorem d_Ref_wasMet_167 : decode b_Ref_wasMet 167 = .ok (.laload, 1) := by decide +kernel
theorem d_Ref_wasMet_168 : decode b_Ref_wasMet 168 = .ok (.lastore, 1) := by decide +kernel
theorem d_Ref_wasMet_169 : decode b_Ref_wasMet 169 = .ok (.iinc 4 1, 3) := by decide +kernel
theorem d_Ref_wasMet_172 : decode b_Ref_wasMet 172 = .ok (.goto (-30), 3) := by decide +kernel
theorem d_Ref_wasMet_175 : decode b_Ref_wasMet 175 = .ok (.aload_n 0, 1) := by decide +kernel
theorem d_Ref_wasMet_176 : decode b_Ref_wasMet 176 = .ok (.getfield 68, 3) := by decide +kernel
theorem d_Ref_wasMet_179 : decode b_Ref_wasMet 179 = .ok (.aload_n 0, 1) := by decide +kernel
theorem d_Ref_wasMet_180 : decode b_Ref_wasMet 180 = .ok (.getfield 172, 3) := by decide +kernel
theorem d_Ref_wasMet_183 : decode b_Ref_wasMet 183 = .ok (.aload_n 0, 1) := by decide +kernel
theorem d_Ref_wasMet_184 : decode b_Ref_wasMet 184 = .ok (.getfield 72, 3) := by decide +kernel
theorem d_Ref_wasMet_187 : decode b_Ref_wasMet 187 = .ok (.iload_n 3, 1) := by decide +kernel
theorem d_Ref_wasMet_188 : decode b_Ref_wasMet 188 = .ok (.iaload, 1) := by decide +kernel
theorem d_Ref_wasMet_189 : decode b_Ref_wasMet 189 = .ok (.iastore, 1) := by decide +kernel
theorem d_Ref_wasMet_190 : decode b_Ref_wasMet 190 = .ok (.aload_n 0, 1) := by decide +kernel
theorem d_Ref_wasMet_191 : decode b_Ref_wasMet 191 = .ok (.getfield 72, 3) := by decide +kernel
theorem d_Ref_wasMet_194 : decode b_Ref_wasMet 194 = .ok (.iload_n 3, 1) := by decide +kernel
theorem d_Ref_wasMet_195 : decode b_Ref_wasMet 195 = .ok (.aload_n 0, 1) := by decide +kernel
theorem d_Ref_wasMet_196 : decode b_Ref_wasMet 196 = .ok (.getfield 172, 3) := by decide +kernel
theorem d_Ref_wasMet_199 : decode b_Ref_wasMet 199 = .ok (.iastore, 1) := by decide +kernel
theorem d_Ref_wasMet_200 : decode b_Ref_wasMet 200 = .ok (.aload_n 0, 1) := by decide +kernel
theorem d_Ref_wasMet_201 : decode b_Ref_wasMet 201 = .ok (.dup, 1) := by decide +kernel
theorem d_Ref_wasMet_202 : decode b_Ref_wasMet 202 = .ok (.getfield 172, 3) := by decide +kernel
theorem d_Ref_wasMet_205 : decode b_Ref_wasMet 205 = .ok (.iconst 1, 1) := by decide +kernel
theorem d_Ref_wasMet_206 : decode b_Ref_wasMet 206 = .ok (.iadd, 1) := by decide +kernel
theorem d_Ref_wasMet_207 : decode b_Ref_wasMet 207 = .ok (.putfield 172, 3) := by decide +kernel
theorem d_Ref_wasMet_210 : decode b_Ref_wasMet 210 = .ok (.iconst 0, 1) := by decide +kernel
theorem d_Ref_wasMet_211 : decode b_Ref_wasMet 211 = .ok (.ireturn, 1) := by decide +kernel
theorem d_Ref_search_0 : decode b_Ref_search 0 = .ok (.aload_n 0, 1) := by decide +kernel
theorem d_Ref_search_1 : decode b_Ref_search 1 = .ok (.iload_n 1, 1) := by decide +kernel
theorem d_Ref_search_2 : decode b_Ref_search 2 = .ok (.putfield 143, 3) := by decide +kernel
theorem d_Ref_search_5 : decode b_Ref_search 5 = .ok (.aload_n 0, 1) := by decide +kernel
theorem d_Ref_search_6 : decode b_Ref_search 6 = .ok (.iload_n 1, 1) := by decide +kernel
theorem d_Ref_search_7 : decode b_Ref_search 7 = .ok (.iconst 3, 1) := by decide +kernel
theorem d_Ref_search_8 : decode b_Ref_search 8 = .ok (.if_icmp .ne 9, 3) := by decide +kernel
theorem d_Ref_search_11 : decode b_Ref_search 11 = .ok (.sipush 155, 3) := by decide +kernel
theorem d_Ref_search_14 : decode b_Ref_search 14 = .ok (.goto 5, 3) := by decide +kernel
theorem d_Ref_search_17 : decode b_Ref_search 17 = .ok (.bipush 37, 2) := by decide +kernel
theorem d_Ref_search_19 : decode b_Ref_search 19 = .ok (.putfield 146, 3) := by decide +kernel
theorem d_Ref_search_22 : decode b_Ref_search 22 = .ok (.aload_n 0, 1) := by decide +kernel
theorem d_Ref_search_23 : decode b_Ref_search 23 = .ok (.iload_n 2, 1) := by decide +kernel
theorem d_Ref_search_24 : decode b_Ref_search 24 = .ok (.putfield 175, 3) := by decide +kernel
theorem d_Ref_search_27 : decode b_Ref_search 27 = .ok (.aload_n 0, 1) := by decide +kernel
theorem d_Ref_search_28 : decode b_Ref_search 28 = .ok (.iconst 0, 1) := by decide +kernel
theorem d_Ref_search_29 : decode b_Ref_search 29 = .ok (.putfield 172, 3) := by decide +kernel
theorem d_Ref_search_32 : decode b_Ref_search 32 = .ok (.iconst 0, 1) := by decide +kernel
theorem d_Ref_search_33 : decode b_Ref_search 33 = .ok (.istore_n 3, 1) := by decide +kernel
theorem d_Ref_search_34 : decode b_Ref_search 34 = .ok (.iload_n 3, 1) := by decide +kernel
theorem d_Ref_search_35 : decode b_Ref_search 35 = .ok (.ldc 71, 2) := by decide +kernel
theorem d_Ref_search_37 : decode b_Ref_search 37 = .ok (.if_icmp .ge 16, 3) := by decide +kernel
theorem d_Ref_search_40 : decode b_Ref_search 40 = .ok (.aload_n 0, 1) := by decide +kernel
theorem d_Ref_search_41 : decode b_Ref_search 41 = .ok (.getfield 72, 3) := by decide +kernel
theorem d_Ref_search_44 : decode b_Ref_search 44 = .ok (.iload_n 3, 1) := by decide +kernel
theorem d_Ref_search_45 : decode b_Ref_search 45 = .ok (.iconst (-1), 1) := by decide +kernel
theorem d_Ref_search_46 : decode b_Ref_search 46 = .ok (.iastore, 1) := by decide +kernel
theorem d_Ref_search_47 : decode b_Ref_search 47 = .ok (.iinc 3 1, 3) := by decide +kernel
theorem d_Ref_search_50 : decode b_Ref_search 50 = .ok (.goto (-16), 3) := by decide +kernel
theorem d_Ref_search_53 : decode b_Ref_search 53 = .ok (.aload_n 0, 1) := by decide +kernel
theorem d_Ref_search_54 : decode b_Ref_search 54 = .ok (.invokevirtual 178, 3) := by decide +kernel
theorem d_Ref_search_57 : decode b_Ref_search 57 = .ok (.iload_n 2, 1) := by decide +kernel
theorem d_Ref_search_58 : decode b_Ref_search 58 = .ok (.ifCond .ne 10, 3) := by decide +kernel
theorem d_Ref_search_61 : decode b_Ref_search 61 = .ok (.aload_n 0, 1) := by decide +kernel
theorem d_Ref_search_62 : decode b_Ref_search 62 = .ok (.getfield 29, 3) := by decide +kernel
theorem d_Ref_search_65 : decode b_Ref_search 65 = .ok (.iload_n 1, 1) := by decide +kernel
theorem d_Ref_search_66 : decode b_Ref_search 66 = .ok (.iconst 0, 1) := by decide +kernel
theorem d_Ref_search_67 : decode b_Ref_search 67 = .ok (.iastore, 1) := by decide +kernel
theorem d_Ref_search_68 : decode b_Ref_search 68 = .ok (.aload_n 0, 1) := by decide +kernel
theorem d_Ref_search_69 : decode b_Ref_search 69 = .ok (.iconst 0, 1) := by decide +kernel
theorem d_Ref_search_70 : decode b_Ref_search 70 = .ok (.invokevirtual 181, 3) := by decide +kernel
theorem d_Ref_search_73 : decode b_Ref_search 73 = .ok (.return_, 1) := by decide +kernel
theorem d_Ref_from_0 : decode b_Ref_from 0 = .ok (.aload_n 0, 1) := by decide +kernel
theorem d_Ref_from_1 : decode b_Ref_from 1 = .ok (.invokevirtual 184, 3) := by decide +kernel
theorem d_Ref_from_4 : decode b_Ref_from 4 = .ok (.ifCond .eq 4, 3) := by decide +kernel
theorem d_Ref_from_7 : decode b_Ref_from 7 = .ok (.return_, 1) := by decide +kernel
theorem d_Ref_from_8 : decode b_Ref_from 8 = .ok (.aload_n 0, 1) := by decide +kernel
theorem d_Ref_from_9 : decode b_Ref_from 9 = .ok (.getfield 175, 3) := by decide +kernel
theorem d_Ref_from_12 : decode b_Ref_from 12 = .ok (.ifCond .eq 7, 3) := by decide +kernel
theorem d_Ref_from_15 : decode b_Ref_from 15 = .ok (.aload_n 0, 1) := by decide +kernel
theorem d_Ref_from_16 : decode b_Ref_from 16 = .ok (.invokevirtual 188, 3) := by decide +kernel
theorem d_Ref_from_19 : decode b_Ref_from 19 = .ok (.iconst 0, 1) := by decide +kernel
theorem d_Ref_from_20 : decode b_Ref_from 20 = .ok (.istore_n 2, 1) := by decide +kernel
theorem d_Ref_from_21 : decode b_Ref_from 21 = .ok (.aload_n 0, 1) := by decide +kernel
theorem d_Ref_from_22 : decode b_Ref_from 22 = .ok (.iload_n 1, 1) := by decide +kernel
theorem d_Ref_from_23 : decode b_Ref_from 23 = .ok (.invokevirtual 191, 3) := by decide +kernel
theorem d_Ref_from_26 : decode b_Ref_from 26 = .ok (.iconst 0, 1) := by decide +kernel
theorem d_Ref_from_27 : decode b_Ref_from 27 = .ok (.istore_n 3, 1) := by decide +kernel
theorem d_Ref_from_28 : decode b_Ref_from 28 = .ok (.iload_n 3, 1) := by decide +kernel
theorem d_Ref_from_29 : decode b_Ref_from 29 = .ok (.aload_n 0, 1) := by decide +kernel
theorem d_Ref_from_30 : decode b_Ref_from 30 = .ok (.getfield 133, 3) := by decide +kernel
theorem d_Ref_from_33 : decode b_Ref_from 33 = .ok (.if_icmp .ge 62, 3) := by decide +kernel
theorem d_Ref_from_36 : decode b_Ref_from 36 = .ok (.iconst 0, 1) := by decide +kernel
theorem d_Ref_from_37 : decode b_Ref_from 37 = .ok (.istore 4, 2) := by decide +kernel
theorem d_Ref_from_39 : decode b_Ref_from 39 = .ok (.iload 4, 2) := by decide +kernel
theorem d_Ref_from_41 : decode b_Ref_from 41 = .ok (.bipush 9, 2) := by decide +kernel
theorem d_Ref_from_43 : decode b_Ref_from 43 = .ok (.if_icmp .ge 46, 3) := by decide +kernel
theorem d_Ref_from_46 : decode b_Ref_from 46 = .ok (.aload_n 0, 1) := by decide +kernel
theorem d_Ref_from_47 : decode b_Ref_from 47 = .ok (.iload_n 3, 1) := by decide +kernel
theorem d_Ref_from_48 : decode b_Ref_from 48 = .ok (.iload 4, 2) := by decide +kernel
theorem d_Ref_from_50 : decode b_Ref_from 50 = .ok (.invokevirtual 194, 3) := by decide +kernel
theorem d_Ref_from_53 : decode b_Ref_from 53 = .ok (.ifCond .eq 30, 3) := by decide +kernel
theorem d_Ref_from_56 : decode b_Ref_from 56 = .ok (.iconst 1, 1) := by decide +kernel
theorem d_Ref_from_57 : decode b_Ref_from 57 = .ok (.istore_n 2, 1) := by decide +kernel
theorem d_Ref_from_58 : decode b_Ref_from 58 = .ok (.aload_n 0, 1) := by decide +kernel
theorem d_Ref_from_59 : decode b_Ref_from 59 = .ok (.getfield 59, 3) := by decide +kernel
theorem d_Ref_from_62 : decode b_Ref_from 62 = .ok (.iload_n 1, 1) := by decide +kernel
theorem d_Ref_from_63 : decode b_Ref_from 63 = .ok (.bipush 100, 2) := by decide +kernel
theorem d_Ref_from_65 : decode b_Ref_from 65 = .ok (.iload_n 3, 1) := by decide +kernel
theorem d_Ref_from_66 : decode b_Ref_from 66 = .ok (.imul, 1) := by decide +kernel
theorem d_Ref_from_67 : decode b_Ref_from 67 = .ok (.iload 4, 2) := by decide +kernel
theorem d_Ref_from_69 : decode b_Ref_from 69 = .ok (.iadd, 1) := by decide +kernel
theorem d_Ref_from_70 : decode b_Ref_from 70 = .ok (.iastore, 1) := by decide +kernel
theorem d_Ref_from_71 : decode b_Ref_from 71 = .ok (.aload_n 0, 1) := by decide +kernel
theorem d_Ref_from_72 : decode b_Ref_from 72 = .ok (.iload_n 1, 1) := by decide +kernel
theorem d_Ref_from_73 : decode b_Ref_from 73 = .ok (.iconst 1, 1) := by decide +kernel
theorem d_Ref_from_74 : decode b_Ref_from 74 = .ok (.iadd, 1) := by decide +kernel
theorem d_Ref_from_75 : decode b_Ref_from 75 = .ok (.invokevirtual 181, 3) := by decide +kernel
theorem d_Ref_from_78 : decode b_Ref_from 78 = .ok (.aload_n 0, 1) := by decide +kernel
theorem d_Ref_from_79 : decode b_Ref_from 79 = .ok (.iload_n 1, 1) := by decide +kernel
theorem d_Ref_from_80 : decode b_Ref_from 80 = .ok (.invokevirtual 198, 3) := by decide +kernel
theorem d_Ref_from_83 : decode b_Ref_from 83 = .ok (.iinc 4 1, 3) := by decide +kernel
theorem d_Ref_from_86 : decode b_Ref_from 86 = .ok (.goto (-47), 3) := by decide +kernel
theorem d_Ref_from_89 : decode b_Ref_from 89 = .ok (.iinc 3 1, 3) := by decide +kernel
theorem d_Ref_from_92 : decode b_Ref_from 92 = .ok (.goto (-64), 3) := by decide +kernel
theorem d_Ref_from_95 : decode b_Ref_from 95 = .ok (.iload_n 2, 1) := by decide +kernel
theorem d_Ref_from_96 : decode b_Ref_from 96 = .ok (.ifCond .ne 15, 3) := by decide +kernel
theorem d_Ref_from_99 : decode b_Ref_from 99 = .ok (.aload_n 0, 1) := by decide +kernel
theorem d_Ref_from_100 : decode b_Ref_from 100 = .ok (.getfield 175, 3) := by decide +kernel
theorem d_Ref_from_103 : decode b_Ref_from 103 = .ok (.ifCond .ne 8, 3) := by decide +kernel
theorem d_Ref_from_106 : decode b_Ref_from 106 = .ok (.aload_n 0, 1) := by decide +kernel
theorem d_Ref_from_107 : decode b_Ref_from 107 = .ok (.iload_n 1, 1) := by decide +kernel
theorem d_Ref_from_108 : decode b_Ref_from 108 = .ok (.invokevirtual 201, 3) := by decide +kernel
theorem d_Ref_from_111 : decode b_Ref_from 111 = .ok (.return_, 1) := by decide +kernel
theorem d_Ref_step_0 : decode b_Ref_step 0 = .ok (.aload_n 0, 1) := by decide +kernel
theorem d_Ref_step_1 : decode b_Ref_step 1 = .ok (.getfield 53, 3) := by decide +kernel
theorem d_Ref_step_4 : decode b_Ref_step 4 = .ok (.iload_n 1, 1) := by decide +kernel
theorem d_Ref_step_5 : decode b_Ref_step 5 = .ok (.iaload, 1) := by decide +kernel
theorem d_Ref_step_6 : decode b_Ref_step 6 = .ok (.aload_n 0, 1) := by decide +kernel
theorem d_Ref_step_7 : decode b_Ref_step 7 = .ok (.getfield 7, 3) := by decide +kernel
theorem d_Ref_step_10 : decode b_Ref_step 10 = .ok (.iload_n 1, 1) := by decide +kernel
theorem d_Ref_step_11 : decode b_Ref_step 11 = .ok (.iaload, 1) := by decide +kernel
theorem d_Ref_step_12 : decode b_Ref_step 12 = .ok (.if_icmp .ge 7, 3) := by decide +kernel
theorem d_Ref_step_15 : decode b_Ref_step 15 = .ok (.iconst 1, 1) := by decide +kernel
theorem d_Ref_step_16 : decode b_Ref_step 16 = .ok (.goto 4, 3) := by decide +kernel
theorem d_Ref_step_19 : decode b_Ref_step 19 = .ok (.iconst 0, 1) := by decide +kernel
theorem d_Ref_step_20 : decode b_Ref_step 20 = .ok (.istore_n 3, 1) := by decide +kernel
theorem d_Ref_step_21 : decode b_Ref_step 21 = .ok (.bipush 7, 2) := by decide +kernel
theorem d_Ref_step_23 : decode b_Ref_step 23 = .ok (.iload_n 1, 1) := by decide +kernel
theorem d_Ref_step_24 : decode b_Ref_step 24 = .ok (.imul, 1) := by decide +kernel
theorem d_Ref_step_25 : decode b_Ref_step 25 = .ok (.aload_n 0, 1) := by decide +kernel
theorem d_Ref_step_26 : decode b_Ref_step 26 = .ok (.getfield 53, 3) := by decide +kernel
theorem d_Ref_step_29 : decode b_Ref_step 29 = .ok (.iload_n 1, 1) := by decide +kernel
theorem d_Ref_step_30 : decode b_Ref_step 30 = .ok (.iaload, 1) := by decide +kernel
theorem d_Ref_step_31 : decode b_Ref_step 31 = .ok (.iadd, 1) := by decide +kernel
theorem d_Ref_step_32 : decode b_Ref_step 32 = .ok (.istore 4, 2) := by decide +kernel
theorem d_Ref_step_34 : decode b_Ref_step 34 = .ok (.iload_n 3, 1) := by decide +kernel
theorem d_Ref_step_35 : decode b_Ref_step 35 = .ok (.ifCond .eq 140, 3) := by decide +kernel
theorem d_Ref_step_38 : decode b_Ref_step 38 = .ok (.aload_n 0, 1) := by decide +kernel
theorem d_Ref_step_39 : decode b_Ref_step 39 = .ok (.getfield 13, 3) := by decide +kernel
theorem d_Ref_step_42 : decode b_Ref_step 42 = .ok (.iload 4, 2) := by decide +kernel
theorem d_Ref_step_44 : decode b_Ref_step 44 = .ok (.iaload, 1) := by decide +kernel
theorem d_Ref_step_45 : decode b_Ref_step 45 = .ok (.iconst 5, 1) := by decide +kernel
theorem d_Ref_step_46 : decode b_Ref_step 46 = .ok (.if_icmp .ne 129, 3) := by decide +kernel
theorem d_Ref_step_49 : decode b_Ref_step 49 = .ok (.iload_n 2, 1) := by decide +kernel
theorem d_Ref_step_50 : decode b_Ref_step 50 = .ok (.ifCond .eq 33, 3) := by decide +kernel
theorem d_Ref_step_53 : decode b_Ref_step 53 = .ok (.aload_n 0, 1) := by decide +kernel
theorem d_Ref_step_54 : decode b_Ref_step 54 = .ok (.getfield 143, 3) := by decide +kernel
theorem d_Ref_step_57 : decode b_Ref_step 57 = .ok (.ifCond .le 24, 3) := by decide +kernel
theorem d_Ref_step_60 : decode b_Ref_step 60 = .ok (.aload_n 0, 1) := by decide +kernel
theorem d_Ref_step_61 : decode b_Ref_step 61 = .ok (.getfield 143, 3) := by decide +kernel
theorem d_Ref_step_64 : decode b_Ref_step 64 = .ok (.iconst 3, 1) := by decide +kernel
theorem d_Ref_step_65 : decode b_Ref_step 65 = .ok (.if_icmp .ge 16, 3) := by decide +kernel
theorem d_Ref_step_68 : decode b_Ref_step 68 = .ok (.aload_n 0, 1) := by decide +kernel
theorem d_Ref_step_69 : decode b_Ref_step 69 = .ok (.iload_n 1, 1) := by decide +kernel
theorem d_Ref_step_70 : decode b_Ref_step 70 = .ok (.iload_n 2, 1) := by decide +kernel
theorem d_Ref_step_71 : decode b_Ref_step 71 = .ok (.invokevirtual 204, 3) := by decide +kernel
theorem d_Ref_step_74 : decode b_Ref_step 74 = .ok (.ifCond .eq 7, 3) := by decide +kernel
theorem d_Ref_step_77 : decode b_Ref_step 77 = .ok (.iconst 1, 1) := by decide +kernel
theorem d_Ref_step_78 : decode b_Ref_step 78 = .ok (.goto 4, 3) := by decide +kernel
theorem d_Ref_step_81 : decode b_Ref_step 81 = .ok (.iconst 0, 1) := by decide +kernel
theorem d_Ref_step_82 : decode b_Ref_step 82 = .ok (.ireturn, 1) := by decide +kernel
theorem d_Ref_step_83 : decode b_Ref_step 83 = .ok (.aload_n 0, 1) := by decide +kernel
theorem d_Ref_step_84 : decode b_Ref_step 84 = .ok (.getfield 53, 3) := by decide +kernel
theorem d_Ref_step_87 : decode b_Ref_step 87 = .ok (.iload_n 1, 1) := by decide +kernel
theorem d_Ref_step_88 : decode b_Ref_step 88 = .ok (.dup2, 1) := by decide +kernel
theorem d_Ref_step_89 : decode b_Ref_step 89 = .ok (.iaload, 1) := by decide +kernel
theorem d_Ref_step_90 : decode b_Ref_step 90 = .ok (.iconst 1, 1) := by decide +kernel
theorem d_Ref_step_91 : decode b_Ref_step 91 = .ok (.iadd, 1) := by decide +kernel
theorem d_Ref_step_92 : decode b_Ref_step 92 = .ok (.iastore, 1) := by decide +kernel
theorem d_Ref_step_93 : decode b_Ref_step 93 = .ok (.aload_n 0, 1) := by decide +kernel
theorem d_Ref_step_94 : decode b_Ref_step 94 = .ok (.getfield 53, 3) := by decide +kernel
theorem d_Ref_step_97 : decode b_Ref_step 97 = .ok (.iconst 4, 1) := by decide +kernel
theorem d_Ref_step_98 : decode b_Ref_step 98 = .ok (.iconst 2, 1) := by decide +kernel
theorem d_Ref_step_99 : decode b_Ref_step 99 = .ok (.iload_n 1, 1) := by decide +kernel
theorem d_Ref_step_100 : decode b_Ref_step 100 = .ok (.imul, 1) := by decide +kernel
theorem d_Ref_step_101 : decode b_Ref_step 101 = .ok (.iadd, 1) := by decide +kernel
theorem d_Ref_step_102 : decode b_Ref_step 102 = .ok (.aload_n 0, 1) := by decide +kernel
theorem d_Ref_step_103 : decode b_Ref_step 103 = .ok (.getfield 19, 3) := by decide +kernel
theorem d_Ref_step_106 : decode b_Ref_step 106 = .ok (.iload 4, 2) := by decide +kernel
theorem d_Ref_step_108 : decode b_Ref_step 108 = .ok (.iaload, 1) := by decide +kernel
theorem d_Ref_step_109 : decode b_Ref_step 109 = .ok (.iadd, 1) := by decide +kernel
theorem d_Ref_step_110 : decode b_Ref_step 110 = .ok (.iaload, 1) := by decide +kernel
theorem d_Ref_step_111 : decode b_Ref_step 111 = .ok (.aload_n 0, 1) := by decide +kernel
theorem d_Ref_step_112 : decode b_Ref_step 112 = .ok (.getfield 22, 3) := by decide +kernel
theorem d_Ref_step_115 : decode b_Ref_step 115 = .ok (.iload 4, 2) := by decide +kernel
theorem d_Ref_step_117 : decode b_Ref_step 117 = .ok (.iaload, 1) := by decide +kernel
theorem d_Ref_step_118 : decode b_Ref_step 118 = .ok (.if_icmp .eq 55, 3) := by decide +kernel
theorem d_Ref_step_121 : decode b_Ref_step 121 = .ok (.aload_n 0, 1) := by decide +kernel
theorem d_Ref_step_122 : decode b_Ref_step 122 = .ok (.getfield 53, 3) := by decide +kernel
theorem d_Ref_step_125 : decode b_Ref_step 125 = .ok (.iload_n 1, 1) := by decide +kernel
theorem d_Ref_step_126 : decode b_Ref_step 126 = .ok (.aload_n 0, 1) := by decide +kernel
theorem d_Ref_step_127 : decode b_Ref_step 127 = .ok (.getfield 53, 3) := by decide +kernel
theorem d_Ref_step_130 : decode b_Ref_step 130 = .ok (.iload_n 1, 1) := by decide +kernel
theorem d_Ref_step_131 : decode b_Ref_step 131 = .ok (.iaload, 1) := by decide +kernel
theorem d_Ref_step_132 : decode b_Ref_step 132 = .ok (.aload_n 0, 1) := by decide +kernel
theorem d_Ref_step_133 : decode b_Ref_step 133 = .ok (.getfield 16, 3) := by decide +kernel
theorem d_Ref_step_136 : decode b_Ref_step 136 = .ok (.iload 4, 2) := by decide +kernel
theorem d_Ref_step_138 : decode b_Ref_step 138 = .ok (.iaload, 1) := by decide +kernel
theorem d_Ref_step_139 : decode b_Ref_step 139 = .ok (.iadd, 1) := by decide +kernel
theorem d_Ref_step_140 : decode b_Ref_step 140 = .ok (.aload_n 0, 1) := by decide +kernel
theorem d_Ref_step_141 : decode b_Ref_step 141 = .ok (.getfield 7, 3) := by decide +kernel
theorem d_Ref_step_144 : decode b_Ref_step 144 = .ok (.iload_n 1, 1) := by decide +kernel
theorem d_Ref_step_145 : decode b_Ref_step 145 = .ok (.iaload, 1) := by decide +kernel
theorem d_Ref_step_146 : decode b_Ref_step 146 = .ok (.if_icmp .le 12, 3) := by decide +kernel
theorem d_Ref_step_149 : decode b_Ref_step 149 = .ok (.aload_n 0, 1) := by decide +kernel
theorem d_Ref_step_150 : decode b_Ref_step 150 = .ok (.getfield 7, 3) := by decide +kernel
theorem d_Ref_step_153 : decode b_Ref_step 153 = .ok (.iload_n 1, 1) := by decide +kernel
theorem d_Ref_step_154 : decode b_Ref_step 154 = .ok (.iaload, 1) := by decide +kernel
theorem d_Ref_step_155 : decode b_Ref_step 155 = .ok (.goto 17, 3) := by decide +kernel
theorem d_Ref_step_158 : decode b_Ref_step 158 = .ok (.aload_n 0, 1) := by decide +kernel
theorem d_Ref_step_159 : decode b_Ref_step 159 = .ok (.getfield 53, 3) := by decide +kernel
theorem d_Ref_step_162 : decode b_Ref_step 162 = .ok (.iload_n 1, 1) := by decide +kernel
theorem d_Ref_step_163 : decode b_Ref_step 163 = .ok (.iaload, 1) := by decide +kernel
theorem d_Ref_step_164 : decode b_Ref_step 164 = .ok (.aload_n 0, 1) := by decide +kernel
theorem d_Ref_step_165 : decode b_Ref_step 165 = .ok (.getfield 16, 3) := by decide +kernel
theorem d_Ref_step_168 : decode b_Ref_step 168 = .ok (.iload 4, 2) := by decide +kernel
theorem d_Ref_step_170 : decode b_Ref_step 170 = .ok (.iaload, 1) := by decide +kernel
theorem d_Ref_step_171 : decode b_Ref_step 171 = .ok (.iadd, 1) := by decide +kernel
theorem d_Ref_step_172 : decode b_Ref_step 172 = .ok (.iastore, 1) := by decide +kernel
theorem d_Ref_step_173 : decode b_Ref_step 173 = .ok (.iconst 1, 1) := by decide +kernel
theorem d_Ref_step_174 : decode b_Ref_step 174 = .ok (.ireturn, 1) := by decide +kernel
theorem d_Ref_step_175 : decode b_Ref_step 175 = .ok (.aload_n 0, 1) := by decide +kernel
theorem d_Ref_step_176 : decode b_Ref_step 176 = .ok (.getfield 143, 3) := by decide +kernel
theorem d_Ref_step_179 : decode b_Ref_step 179 = .ok (.iconst 3, 1) := by decide +kernel
theorem d_Ref_step_180 : decode b_Ref_step 180 = .ok (.if_icmp .ne 24, 3) := by decide +kernel
theorem d_Ref_step_183 : decode b_Ref_step 183 = .ok (.iload_n 3, 1) := by decide +kernel
theorem d_Ref_step_184 : decode b_Ref_step 184 = .ok (.ifCond .eq 18, 3) := by decide +kernel
theorem d_Ref_step_187 : decode b_Ref_step 187 = .ok (.aload_n 0, 1) := by decide +kernel
theorem d_Ref_step_188 : decode b_Ref_step 188 = .ok (.iload_n 1, 1) := by decide +kernel
theorem d_Ref_step_189 : decode b_Ref_step 189 = .ok (.iload 4, 2) := by decide +kernel
theorem d_Ref_step_191 : decode b_Ref_step 191 = .ok (.iload_n 2, 1) := by decide +kernel
theorem d_Ref_step_192 : decode b_Ref_step 192 = .ok (.invokevirtual 207, 3) := by decide +kernel
theorem d_Ref_step_195 : decode b_Ref_step 195 = .ok (.ifCond .eq 7, 3) := by decide +kernel
theorem d_Ref_step_198 : decode b_Ref_step 198 = .ok (.iconst 1, 1) := by decide +kernel
theorem d_Ref_step_199 : decode b_Ref_step 199 = .ok (.goto 4, 3) := by decide +kernel
theorem d_Ref_step_202 : decode b_Ref_step 202 = .ok (.iconst 0, 1) := by decide +kernel
theorem d_Ref_step_203 : decode b_Ref_step 203 = .ok (.ireturn, 1) := by decide +kernel
theorem d_Ref_step_204 : decode b_Ref_step 204 = .ok (.iload_n 2, 1) := by decide +kernel
theorem d_Ref_step_205 : decode b_Ref_step 205 = .ok (.ifCond .le 25, 3) := by decide +kernel
theorem d_Ref_step_208 : decode b_Ref_step 208 = .ok (.aload_n 0, 1) := by decide +kernel
theorem d_Ref_step_209 : decode b_Ref_step 209 = .ok (.getfield 143, 3) := by decide +kernel
theorem d_Ref_step_212 : decode b_Ref_step 212 = .ok (.ifCond .le 16, 3) := by decide +kernel
theorem d_Ref_step_215 : decode b_Ref_step 215 = .ok (.aload_n 0, 1) := by decide +kernel
theorem d_Ref_step_216 : decode b_Ref_step 216 = .ok (.iload_n 1, 1) := by decide +kernel
theorem d_Ref_step_217 : decode b_Ref_step 217 = .ok (.iload_n 2, 1) := by decide +kernel
theorem d_Ref_step_218 : decode b_Ref_step 218 = .ok (.invokevirtual 204, 3) := by decide +kernel
theorem d_Ref_step_221 : decode b_Ref_step 221 = .ok (.ifCond .eq 7, 3) := by decide +kernel
theorem d_Ref_step_224 : decode b_Ref_step 224 = .ok (.iconst 1, 1) := by decide +kernel
theorem d_Ref_step_225 : decode b_Ref_step 225 = .ok (.goto 4, 3) := by decide +kernel
theorem d_Ref_step_228 : decode b_Ref_step 228 = .ok (.iconst 0, 1) := by decide +kernel
theorem d_Ref_step_229 : decode b_Ref_step 229 = .ok (.ireturn, 1) := by decide +kernel
theorem d_Ref_step_230 : decode b_Ref_step 230 = .ok (.iload_n 3, 1) := by decide +kernel
theorem d_Ref_step_231 : decode b_Ref_step 231 = .ok (.ifCond .ne 5, 3) := by decide +kernel
theorem d_Ref_step_234 : decode b_Ref_step 234 = .ok (.iconst 0, 1) := by decide +kernel
theorem d_Ref_step_235 : decode b_Ref_step 235 = .ok (.ireturn, 1) := by decide +kernel
theorem d_Ref_step_236 : decode b_Ref_step 236 = .ok (.aload_n 0, 1) := by decide +kernel
theorem d_Ref_step_237 : decode b_Ref_step 237 = .ok (.getfield 143, 3) := by decide +kernel
theorem d_Ref_step_240 : decode b_Ref_step 240 = .ok (.ifCond .ne 13, 3) := by decide +kernel
theorem d_Ref_step_243 : decode b_Ref_step 243 = .ok (.aload_n 0, 1) := by decide +kernel
theorem d_Ref_step_244 : decode b_Ref_step 244 = .ok (.iload_n 1, 1) := by decide +kernel
theorem d_Ref_step_245 : decode b_Ref_step 245 = .ok (.iload 4, 2) := by decide +kernel
theorem d_Ref_step_247 : decode b_Ref_step 247 = .ok (.invokevirtual 210, 3) := by decide +kernel
theorem d_Ref_step_250 : decode b_Ref_step 250 = .ok (.goto 10, 3) := by decide +kernel
theorem d_Ref_step_253 : decode b_Ref_step 253 = .ok (.aload_n 0, 1) := by decide +kernel
theorem d_Ref_step_254 : decode b_Ref_step 254 = .ok (.iload_n 1, 1) := by decide +kernel
theorem d_Ref_step_255 : decode b_Ref_step 255 = .ok (.iload 4, 2) := by decide +kernel
theorem d_Ref_step_257 : decode b_Ref_step 257 = .ok (.invokevirtual 213, 3) := by decide +kernel
theorem d_Ref_step_260 : decode b_Ref_step 260 = .ok (.ireturn, 1) := by decide +kernel
theorem d_Ref_sent_0 : decode b_Ref_sent 0 = .ok (.aload_n 0, 1) := by decide +kernel
theorem d_Ref_sent_1 : decode b_Ref_sent 1 = .ok (.getfield 13, 3) := by decide +kernel
theorem d_Ref_sent_4 : decode b_Ref_sent 4 = .ok (.iload_n 2, 1) := by decide +kernel
theorem d_Ref_sent_5 : decode b_Ref_sent 5 = .ok (.iaload, 1) := by decide +kernel
theorem d_Ref_sent_6 : decode b_Ref_sent 6 = .ok (.iconst 1, 1) := by decide +kernel
theorem d_Ref_sent_7 : decode b_Ref_sent 7 = .ok (.if_icmp .ne 12, 3) := by decide +kernel
theorem d_Ref_sent_10 : decode b_Ref_sent 10 = .ok (.aload_n 0, 1) := by decide +kernel
theorem d_Ref_sent_11 : decode b_Ref_sent 11 = .ok (.getfield 22, 3) := by decide +kernel
theorem d_Ref_sent_14 : decode b_Ref_sent 14 = .ok (.iload_n 2, 1) := by decide +kernel
theorem d_Ref_sent_15 : decode b_Ref_sent 15 = .ok (.iaload, 1) := by decide +kernel
theorem d_Ref_sent_16 : decode b_Ref_sent 16 = .ok (.goto 27, 3) := by decide +kernel
theorem d_Ref_sent_19 : decode b_Ref_sent 19 = .ok (.aload_n 0, 1) := by decide +kernel
theorem d_Ref_sent_20 : decode b_Ref_sent 20 = .ok (.getfield 53, 3) := by decide +kernel
theorem d_Ref_sent_23 : decode b_Ref_sent 23 = .ok (.iconst 4, 1) := by decide +kernel
theorem d_Ref_sent_24 : decode b_Ref_sent 24 = .ok (.iconst 2, 1) := by decide +kernel
theorem d_Ref_sent_25 : decode b_Ref_sent 25 = .ok (.iload_n 1, 1) := by decide +kernel
theorem d_Ref_sent_26 : decode b_Ref_sent 26 = .ok (.imul, 1) := by decide +kernel
theorem d_Ref_sent_27 : decode b_Ref_sent 27 = .ok (.iadd, 1) := by decide +kernel
theorem d_Ref_sent_28 : decode b_Ref_sent 28 = .ok (.aload_n 0, 1) := by decide +kernel
theorem d_Ref_sent_29 : decode b_Ref_sent 29 = .ok (.getfield 19, 3) := by decide +kernel
theorem d_Ref_sent_32 : decode b_Ref_sent 32 = .ok (.iload_n 2, 1) := by decide +kernel
theorem d_Ref_sent_33 : decode b_Ref_sent 33 = .ok (.iaload, 1) := by decide +kernel
theorem d_Ref_sent_34 : decode b_Ref_sent 34 = .ok (.iadd, 1) := by decide +kernel
theorem d_Ref_sent_35 : decode b_Ref_sent 35 = .ok (.iaload, 1) := by decide +kernel
theorem d_Ref_sent_36 : decode b_Ref_sent 36 = .ok (.aload_n 0, 1) := by decide +kernel
theorem d_Ref_sent_37 : decode b_Ref_sent 37 = .ok (.getfield 22, 3) := by decide +kernel
theorem d_Ref_sent_40 : decode b_Ref_sent 40 = .ok (.iload_n 2, 1) := by decide +kernel
theorem d_Ref_sent_41 : decode b_Ref_sent 41 = .ok (.iaload, 1) := by decide +kernel
theorem d_Ref_sent_42 : decode b_Ref_sent 42 = .ok (.iadd, 1) := by decide +kernel
theorem d_Ref_sent_43 : decode b_Ref_sent 43 = .ok (.ireturn, 1) := by decide +kernel
theorem d_Ref_inTurn_0 : decode b_Ref_inTurn 0 = .ok (.aload_n 0, 1) := by decide +kernel
theorem d_Ref_inTurn_1 : decode b_Ref_inTurn 1 = .ok (.getfield 16, 3) := by decide +kernel
theorem d_Ref_inTurn_4 : decode b_Ref_inTurn 4 = .ok (.iload_n 2, 1) := by decide +kernel
theorem d_Ref_inTurn_5 : decode b_Ref_inTurn 5 = .ok (.iaload, 1) := by decide +kernel
theorem d_Ref_inTurn_6 : decode b_Ref_inTurn 6 = .ok (.istore_n 3, 1) := by decide +kernel
theorem d_Ref_inTurn_7 : decode b_Ref_inTurn 7 = .ok (.iconst 4, 1) := by decide +kernel
theorem d_Ref_inTurn_8 : decode b_Ref_inTurn 8 = .ok (.iconst 2, 1) := by decide +kernel
theorem d_Ref_inTurn_9 : decode b_Ref_inTurn 9 = .ok (.iload_n 1, 1) := by decide +kernel
theorem d_Ref_inTurn_10 : decode b_Ref_inTurn 10 = .ok (.imul, 1) := by decide +kernel
theorem d_Ref_inTurn_11 : decode b_Ref_inTurn 11 = .ok (.iadd, 1) := by decide +kernel
theorem d_Ref_inTurn_12 : decode b_Ref_inTurn 12 = .ok (.aload_n 0, 1) := by decide +kernel
theorem d_Ref_inTurn_13 : decode b_Ref_inTurn 13 = .ok (.getfield 19, 3) := by decide +kernel
theorem d_Ref_inTurn_16 : decode b_Ref_inTurn 16 = .ok (.iload_n 2, 1) := by decide +kernel
theorem d_Ref_inTurn_17 : decode b_Ref_inTurn 17 = .ok (.iaload, 1) := by decide +kernel
theorem d_Ref_inTurn_18 : decode b_Ref_inTurn 18 = .ok (.iadd, 1) := by decide +kernel
theorem d_Ref_inTurn_19 : decode b_Ref_inTurn 19 = .ok (.istore 4, 2) := by decide +kernel
theorem d_Ref_inTurn_21 : decode b_Ref_inTurn 21 = .ok (.aload_n 0, 1) := by decide +kernel
theorem d_Ref_inTurn_22 : decode b_Ref_inTurn 22 = .ok (.getfield 53, 3) := by decide +kernel
theorem d_Ref_inTurn_25 : decode b_Ref_inTurn 25 = .ok (.iload_n 1, 1) := by decide +kernel
theorem d_Ref_inTurn_26 : decode b_Ref_inTurn 26 = .ok (.dup2, 1) := by decide +kernel
theorem d_Ref_inTurn_27 : decode b_Ref_inTurn 27 = .ok (.iaload, 1) := by decide +kernel
theorem d_Ref_inTurn_28 : decode b_Ref_inTurn 28 = .ok (.iconst 1, 1) := by decide +kernel
theorem d_Ref_inTurn_29 : decode b_Ref_inTurn 29 = .ok (.iadd, 1) := by decide +kernel
theorem d_Ref_inTurn_30 : decode b_Ref_inTurn 30 = .ok (.iastore, 1) := by decide +kernel
theorem d_Ref_inTurn_31 : decode b_Ref_inTurn 31 = .ok (.aload_n 0, 1) := by decide +kernel
theorem d_Ref_inTurn_32 : decode b_Ref_inTurn 32 = .ok (.getfield 13, 3) := by decide +kernel
theorem d_Ref_inTurn_35 : decode b_Ref_inTurn 35 = .ok (.iload_n 2, 1) := by decide +kernel
theorem d_Ref_inTurn_36 : decode b_Ref_inTurn 36 = .ok (.iaload, 1) := by decide +kernel
theorem d_Ref_inTurn_37 : decode b_Ref_inTurn 37 = .ok (.ifCond .ne 22, 3) := by decide +kernel
theorem d_Ref_inTurn_40 : decode b_Ref_inTurn 40 = .ok (.aload_n 0, 1) := by decide +kernel
theorem d_Ref_inTurn_41 : decode b_Ref_inTurn 41 = .ok (.getfield 53, 3) := by decide +kernel
theorem d_Ref_inTurn_44 : decode b_Ref_inTurn 44 = .ok (.iload 4, 2) := by decide +kernel
theorem d_Ref_inTurn_46 : decode b_Ref_inTurn 46 = .ok (.aload_n 0, 1) := by decide +kernel
theorem d_Ref_inTurn_47 : decode b_Ref_inTurn 47 = .ok (.getfield 53, 3) := by decide +kernel
theorem d_Ref_inTurn_50 : decode b_Ref_inTurn 50 = .ok (.bipush 12, 2) := by decide +kernel
theorem d_Ref_inTurn_52 : decode b_Ref_inTurn 52 = .ok (.iload_n 3, 1) := by decide +kernel
theorem d_Ref_inTurn_53 : decode b_Ref_inTurn 53 = .ok (.iadd, 1) := by decide +kernel
theorem d_Ref_inTurn_54 : decode b_Ref_inTurn 54 = .ok (.iaload, 1) := by decide +kernel
theorem d_Ref_inTurn_55 : decode b_Ref_inTurn 55 = .ok (.iastore, 1) := by decide +kernel
theorem d_Ref_inTurn_56 : decode b_Ref_inTurn 56 = .ok (.goto 85, 3) := by decide +kernel
theorem d_Ref_inTurn_59 : decode b_Ref_inTurn 59 = .ok (.aload_n 0, 1) := by decide +kernel
theorem d_Ref_inTurn_60 : decode b_Ref_inTurn 60 = .ok (.getfield 13, 3) := by decide +kernel
theorem d_Ref_inTurn_63 : decode b_Ref_inTurn 63 = .ok (.iload_n 2, 1) := by decide +kernel
theorem d_Ref_inTurn_64 : decode b_Ref_inTurn 64 = .ok (.iaload, 1) := by decide +kernel
theorem d_Ref_inTurn_65 : decode b_Ref_inTurn 65 = .ok (.iconst 1, 1) := by decide +kernel
theorem d_Ref_inTurn_66 : decode b_Ref_inTurn 66 = .ok (.if_icmp .eq 13, 3) := by decide +kernel
theorem d_Ref_inTurn_69 : decode b_Ref_inTurn 69 = .ok (.aload_n 0, 1) := by decide +kernel
theorem d_Ref_inTurn_70 : decode b_Ref_inTurn 70 = .ok (.getfield 13, 3) := by decide +kernel
theorem d_Ref_inTurn_73 : decode b_Ref_inTurn 73 = .ok (.iload_n 2, 1) := by decide +kernel
theorem d_Ref_inTurn_74 : decode b_Ref_inTurn 74 = .ok (.iaload, 1) := by decide +kernel
theorem d_Ref_inTurn_75 : decode b_Ref_inTurn 75 = .ok (.iconst 2, 1) := by decide +kernel
theorem d_Ref_inTurn_76 : decode b_Ref_inTurn 76 = .ok (.if_icmp .ne 21, 3) := by decide +kernel
theorem d_Ref_inTurn_79 : decode b_Ref_inTurn 79 = .ok (.aload_n 0, 1) := by decide +kernel
theorem d_Ref_inTurn_80 : decode b_Ref_inTurn 80 = .ok (.getfield 53, 3) := by decide +kernel
theorem d_Ref_inTurn_83 : decode b_Ref_inTurn 83 = .ok (.bipush 12, 2) := by decide +kernel
theorem d_Ref_inTurn_85 : decode b_Ref_inTurn 85 = .ok (.iload_n 3, 1) := by decide +kernel
theorem d_Ref_inTurn_86 : decode b_Ref_inTurn 86 = .ok (.iadd, 1) := by decide +kernel
theorem d_Ref_inTurn_87 : decode b_Ref_inTurn 87 = .ok (.aload_n 0, 1) := by decide +kernel
theorem d_Ref_inTurn_88 : decode b_Ref_inTurn 88 = .ok (.iload_n 1, 1) := by decide +kernel
theorem d_Ref_inTurn_89 : decode b_Ref_inTurn 89 = .ok (.iload_n 2, 1) := by decide +kernel
theorem d_Ref_inTurn_90 : decode b_Ref_inTurn 90 = .ok (.invokevirtual 216, 3) := by decide +kernel
theorem d_Ref_inTurn_93 : decode b_Ref_inTurn 93 = .ok (.iastore, 1) := by decide +kernel
theorem d_Ref_inTurn_94 : decode b_Ref_inTurn 94 = .ok (.goto 47, 3) := by decide +kernel
theorem d_Ref_inTurn_97 : decode b_Ref_inTurn 97 = .ok (.aload_n 0, 1) := by decide +kernel
theorem d_Ref_inTurn_98 : decode b_Ref_inTurn 98 = .ok (.getfield 13, 3) := by decide +kernel
theorem d_Ref_inTurn_101 : decode b_Ref_inTurn 101 = .ok (.iload_n 2, 1) := by decide +kernel
theorem d_Ref_inTurn_102 : decode b_Ref_inTurn 102 = .ok (.iaload, 1) := by decide +kernel
theorem d_Ref_inTurn_103 : decode b_Ref_inTurn 103 = .ok (.iconst 3, 1) := by decide +kernel
theorem d_Ref_inTurn_104 : decode b_Ref_inTurn 104 = .ok (.if_icmp .ne 37, 3) := by decide +kernel
theorem d_Ref_inTurn_107 : decode b_Ref_inTurn 107 = .ok (.aload_n 0, 1) := by decide +kernel
theorem d_Ref_inTurn_108 : decode b_Ref_inTurn 108 = .ok (.getfield 53, 3) := by decide +kernel
theorem d_Ref_inTurn_111 : decode b_Ref_inTurn 111 = .ok (.iload 4, 2) := by decide +kernel
theorem d_Ref_inTurn_113 : decode b_Ref_inTurn 113 = .ok (.aload_n 0, 1) := by decide +kernel
theorem d_Ref_inTurn_114 : decode b_Ref_inTurn 114 = .ok (.getfield 53, 3) := by decide +kernel
theorem d_Ref_inTurn_117 : decode b_Ref_inTurn 117 = .ok (.bipush 12, 2) := by decide +kernel
theorem d_Ref_inTurn_119 : decode b_Ref_inTurn 119 = .ok (.iload_n 3, 1) := by decide +kernel
theorem d_Ref_inTurn_120 : decode b_Ref_inTurn 120 = .ok (.iadd, 1) := by decide +kernel
theorem d_Ref_inTurn_121 : decode b_Ref_inTurn 121 = .ok (.iaload, 1) := by decide +kernel
theorem d_Ref_inTurn_122 : decode b_Ref_inTurn 122 = .ok (.iastore, 1) := by decide +kernel
theorem d_Ref_inTurn_123 : decode b_Ref_inTurn 123 = .ok (.aload_n 0, 1) := by decide +kernel
theorem d_Ref_inTurn_124 : decode b_Ref_inTurn 124 = .ok (.getfield 53, 3) := by decide +kernel
theorem d_Ref_inTurn_127 : decode b_Ref_inTurn 127 = .ok (.bipush 12, 2) := by decide +kernel
theorem d_Ref_inTurn_129 : decode b_Ref_inTurn 129 = .ok (.iload_n 3, 1) := by decide +kernel
theorem d_Ref_inTurn_130 : decode b_Ref_inTurn 130 = .ok (.iadd, 1) := by decide +kernel
theorem d_Ref_inTurn_131 : decode b_Ref_inTurn 131 = .ok (.dup2, 1) := by decide +kernel
theorem d_Ref_inTurn_132 : decode b_Ref_inTurn 132 = .ok (.iaload, 1) := by decide +kernel
theorem d_Ref_inTurn_133 : decode b_Ref_inTurn 133 = .ok (.aload_n 0, 1) := by decide +kernel
theorem d_Ref_inTurn_134 : decode b_Ref_inTurn 134 = .ok (.getfield 22, 3) := by decide +kernel
theorem d_Ref_inTurn_137 : decode b_Ref_inTurn 137 = .ok (.iload_n 2, 1) := by decide +kernel
theorem d_Ref_inTurn_138 : decode b_Ref_inTurn 138 = .ok (.iaload, 1) := by decide +kernel
theorem d_Ref_inTurn_139 : decode b_Ref_inTurn 139 = .ok (.iadd, 1) := by decide +kernel
theorem d_Ref_inTurn_140 : decode b_Ref_inTurn 140 = .ok (.iastore, 1) := by decide +kernel
theorem d_Ref_inTurn_141 : decode b_Ref_inTurn 141 = .ok (.iconst 1, 1) := by decide +kernel
theorem d_Ref_inTurn_142 : decode b_Ref_inTurn 142 = .ok (.ireturn, 1) := by decide +kernel
theorem d_Ref_isEmpty_0 : decode b_Ref_isEmpty 0 = .ok (.iconst 0, 1) := by decide +kernel
theorem d_Ref_isEmpty_1 : decode b_Ref_isEmpty 1 = .ok (.istore_n 2, 1) := by decide +kernel
theorem d_Ref_isEmpty_2 : decode b_Ref_isEmpty 2 = .ok (.iload_n 2, 1) := by decide +kernel
theorem d_Ref_isEmpty_3 : decode b_Ref_isEmpty 3 = .ok (.aload_n 0, 1) := by decide +kernel
theorem d_Ref_isEmpty_4 : decode b_Ref_isEmpty 4 = .ok (.getfield 53, 3) := by decide +kernel
theorem d_Ref_isEmpty_7 : decode b_Ref_isEmpty 7 = .ok (.bipush 15, 2) := by decide +kernel
theorem d_Ref_isEmpty_9 : decode b_Ref_isEmpty 9 = .ok (.iaload, 1) := by decide +kernel
theorem d_Ref_isEmpty_10 : decode b_Ref_isEmpty 10 = .ok (.if_icmp .ge 24, 3) := by decide +kernel
theorem d_Ref_isEmpty_13 : decode b_Ref_isEmpty 13 = .ok (.aload_n 0, 1) := by decide +kernel
theorem d_Ref_isEmpty_14 : decode b_Ref_isEmpty 14 = .ok (.getfield 53, 3) := by decide +kernel
theorem d_Ref_isEmpty_17 : decode b_Ref_isEmpty 17 = .ok (.bipush 16, 2) := by decide +kernel
theorem d_Ref_isEmpty_19 : decode b_Ref_isEmpty 19 = .ok (.iload_n 2, 1) := by decide +kernel
theorem d_Ref_isEmpty_20 : decode b_Ref_isEmpty 20 = .ok (.iadd, 1) := by decide +kernel
theorem d_Ref_isEmpty_21 : decode b_Ref_isEmpty 21 = .ok (.iaload, 1) := by decide +kernel
theorem d_Ref_isEmpty_22 : decode b_Ref_isEmpty 22 = .ok (.iload_n 1, 1) := by decide +kernel
theorem d_Ref_isEmpty_23 : decode b_Ref_isEmpty 23 = .ok (.if_icmp .ne 5, 3) := by decide +kernel
theorem d_Ref_isEmpty_26 : decode b_Ref_isEmpty 26 = .ok (.iconst 0, 1) := by decide +kernel
theorem d_Ref_isEmpty_27 : decode b_Ref_isEmpty 27 = .ok (.ireturn, 1) := by decide +kernel
theorem d_Ref_isEmpty_28 : decode b_Ref_isEmpty 28 = .ok (.iinc 2 1, 3) := by decide +kernel
theorem d_Ref_isEmpty_31 : decode b_Ref_isEmpty 31 = .ok (.goto (-29), 3) := by decide +kernel
theorem d_Ref_isEmpty_34 : decode b_Ref_isEmpty 34 = .ok (.iconst 1, 1) := by decide +kernel
theorem d_Ref_isEmpty_35 : decode b_Ref_isEmpty 35 = .ok (.ireturn, 1) := by decide +kernel
theorem d_Ref_buffered_0 : decode b_Ref_buffered 0 = .ok (.aload_n 0, 1) := by decide +kernel
theorem d_Ref_buffered_1 : decode b_Ref_buffered 1 = .ok (.getfield 13, 3) := by decide +kernel
theorem d_Ref_buffered_4 : decode b_Ref_buffered 4 = .ok (.iload_n 2, 1) := by decide +kernel
theorem d_Ref_buffered_5 : decode b_Ref_buffered 5 = .ok (.iaload, 1) := by decide +kernel
theorem d_Ref_buffered_6 : decode b_Ref_buffered 6 = .ok (.istore_n 3, 1) := by decide +kernel
theorem d_Ref_buffered_7 : decode b_Ref_buffered 7 = .ok (.iload_n 3, 1) := by decide +kernel
theorem d_Ref_buffered_8 : decode b_Ref_buffered 8 = .ok (.iconst 4, 1) := by decide +kernel
theorem d_Ref_buffered_9 : decode b_Ref_buffered 9 = .ok (.if_icmp .eq 8, 3) := by decide +kernel
theorem d_Ref_buffered_12 : decode b_Ref_buffered 12 = .ok (.iload_n 3, 1) := by decide +kernel
theorem d_Ref_buffered_13 : decode b_Ref_buffered 13 = .ok (.iconst 3, 1) := by decide +kernel
theorem d_Ref_buffered_14 : decode b_Ref_buffered 14 = .ok (.if_icmp .ne 26, 3) := by decide +kernel
theorem d_Ref_buffered_17 : decode b_Ref_buffered 17 = .ok (.aload_n 0, 1) := by decide +kernel
theorem d_Ref_buffered_18 : decode b_Ref_buffered 18 = .ok (.iload_n 1, 1) := by decide +kernel
theorem d_Ref_buffered_19 : decode b_Ref_buffered 19 = .ok (.invokevirtual 219, 3) := by decide +kernel
theorem d_Ref_buffered_22 : decode b_Ref_buffered 22 = .ok (.ifCond .eq 16, 3) := by decide +kernel
theorem d_Ref_buffered_25 : decode b_Ref_buffered 25 = .ok (.aload_n 0, 1) := by decide +kernel
theorem d_Ref_buffered_26 : decode b_Ref_buffered 26 = .ok (.iload_n 1, 1) := by decide +kernel
theorem d_Ref_buffered_27 : decode b_Ref_buffered 27 = .ok (.iload_n 2, 1) := by decide +kernel
theorem d_Ref_buffered_28 : decode b_Ref_buffered 28 = .ok (.invokevirtual 210, 3) := by decide +kernel
theorem d_Ref_buffered_31 : decode b_Ref_buffered 31 = .ok (.ifCond .eq 7, 3) := by decide +kernel
theorem d_Ref_buffered_34 : decode b_Ref_buffered 34 = .ok (.iconst 1, 1) := by decide +kernel
theorem d_Ref_buffered_35 : decode b_Ref_buffered 35 = .ok (.goto 4, 3) := by decide +kernel
theorem d_Ref_buffered_38 : decode b_Ref_buffered 38 = .ok (.iconst 0, 1) := by decide +kernel
theorem d_Ref_buffered_39 : decode b_Ref_buffered 39 = .ok (.ireturn, 1) := by decide +kernel
theorem d_Ref_buffered_40 : decode b_Ref_buffered 40 = .ok (.aload_n 0, 1) := by decide +kernel
theorem d_Ref_buffered_41 : decode b_Ref_buffered 41 = .ok (.getfield 16, 3) := by decide +kernel
theorem d_Ref_buffered_44 : decode b_Ref_buffered 44 = .ok (.iload_n 2, 1) := by decide +kernel
theorem d_Ref_buffered_45 : decode b_Ref_buffered 45 = .ok (.iaload, 1) := by decide +kernel
theorem d_Ref_buffered_46 : decode b_Ref_buffered 46 = .ok (.istore 4, 2) := by decide +kernel
theorem d_Ref_buffered_48 : decode b_Ref_buffered 48 = .ok (.aload_n 0, 1) := by decide +kernel
theorem d_Ref_buffered_49 : decode b_Ref_buffered 49 = .ok (.getfield 53, 3) := by decide +kernel
theorem d_Ref_buffered_52 : decode b_Ref_buffered 52 = .ok (.iload_n 1, 1) := by decide +kernel
theorem d_Ref_buffered_53 : decode b_Ref_buffered 53 = .ok (.dup2, 1) := by decide +kernel
theorem d_Ref_buffered_54 : decode b_Ref_buffered 54 = .ok (.iaload, 1) := by decide +kernel
theorem d_Ref_buffered_55 : decode b_Ref_buffered 55 = .ok (.iconst 1, 1) := by decide +kernel
theorem d_Ref_buffered_56 : decode b_Ref_buffered 56 = .ok (.iadd, 1) := by decide +kernel
theorem d_Ref_buffered_57 : decode b_Ref_buffered 57 = .ok (.iastore, 1) := by decide +kernel
theorem d_Ref_buffered_58 : decode b_Ref_buffered 58 = .ok (.iload_n 3, 1) := by decide +kernel
theorem d_Ref_buffered_59 : decode b_Ref_buffered 59 = .ok (.ifCond .ne 87, 3) := by decide +kernel
theorem d_Ref_buffered_62 : decode b_Ref_buffered 62 = .ok (.aload_n 0, 1) := by decide +kernel
theorem d_Ref_buffered_63 : decode b_Ref_buffered 63 = .ok (.getfield 53, 3) := by decide +kernel
theorem d_Ref_buffered_66 : decode b_Ref_buffered 66 = .ok (.bipush 12, 2) := by decide +kernel
theorem d_Ref_buffered_68 : decode b_Ref_buffered 68 = .ok (.iload 4, 2) := by decide +kernel
theorem d_Ref_buffered_70 : decode b_Ref_buffered 70 = .ok (.iadd, 1) := by decide +kernel
theorem d_Ref_buffered_71 : decode b_Ref_buffered 71 = .ok (.iaload, 1) := by decide +kernel
theorem d_Ref_buffered_72 : decode b_Ref_buffered 72 = .ok (.istore 5, 2) := by decide +kernel
theorem d_Ref_buffered_74 : decode b_Ref_buffered 74 = .ok (.iconst 0, 1) := by decide +kernel
theorem d_Ref_buffered_75 : decode b_Ref_buffered 75 = .ok (.istore 6, 2) := by decide +kernel
theorem d_Ref_buffered_77 : decode b_Ref_buffered 77 = .ok (.iload 6, 2) := by decide +kernel
theorem d_Ref_buffered_79 : decode b_Ref_buffered 79 = .ok (.aload_n 0, 1) := by decide +kernel
theorem d_Ref_buffered_80 : decode b_Ref_buffered 80 = .ok (.getfield 53, 3) := by decide +kernel
theorem d_Ref_buffered_83 : decode b_Ref_buffered 83 = .ok (.bipush 15, 2) := by decide +kernel
theorem d_Ref_buffered_85 : decode b_Ref_buffered 85 = .ok (.iaload, 1) := by decide +kernel
theorem d_Ref_buffered_86 : decode b_Ref_buffered 86 = .ok (.if_icmp .ge 38, 3) := by decide +kernel
theorem d_Ref_buffered_89 : decode b_Ref_buffered 89 = .ok (.aload_n 0, 1) := by decide +kernel
theorem d_Ref_buffered_90 : decode b_Ref_buffered 90 = .ok (.iload 6, 2) := by decide +kernel
theorem d_Ref_buffered_92 : decode b_Ref_buffered 92 = .ok (.iload_n 1, 1) := by decide +kernel
theorem d_Ref_buffered_93 : decode b_Ref_buffered 93 = .ok (.iload 4, 2) := by decide +kernel
theorem d_Ref_buffered_95 : decode b_Ref_buffered 95 = .ok (.invokevirtual 159, 3) := by decide +kernel
theorem d_Ref_buffered_98 : decode b_Ref_buffered 98 = .ok (.ifCond .eq 16, 3) := by decide +kernel
theorem d_Ref_buffered_101 : decode b_Ref_buffered 101 = .ok (.aload_n 0, 1) := by decide +kernel
theorem d_Ref_buffered_102 : decode b_Ref_buffered 102 = .ok (.getfield 53, 3) := by decide +kernel
theorem d_Ref_buffered_105 : decode b_Ref_buffered 105 = .ok (.bipush 30, 2) := by decide +kernel
theorem d_Ref_buffered_107 : decode b_Ref_buffered 107 = .ok (.iload 6, 2) := by decide +kernel
theorem d_Ref_buffered_109 : decode b_Ref_buffered 109 = .ok (.iadd, 1) := by decide +kernel
theorem d_Ref_buffered_110 : decode b_Ref_buffered 110 = .ok (.iaload, 1) := by decide +kernel
theorem d_Ref_buffered_111 : decode b_Ref_buffered 111 = .ok (.goto 5, 3) := by decide +kernel
theorem d_Ref_buffered_114 : decode b_Ref_buffered 114 = .ok (.iload 5, 2) := by decide +kernel
theorem d_Ref_buffered_116 : decode b_Ref_buffered 116 = .ok (.istore 5, 2) := by decide +kernel
theorem d_Ref_buffered_118 : decode b_Ref_buffered 118 = .ok (.iinc 6 1, 3) := by decide +kernel
theorem d_Ref_buffered_121 : decode b_Ref_buffered 121 = .ok (.goto (-44), 3) := by decide +kernel
theorem d_Ref_buffered_124 : decode b_Ref_buffered 124 = .ok (.aload_n 0, 1) := by decide +kernel
theorem d_Ref_buffered_125 : decode b_Ref_buffered 125 = .ok (.getfield 53, 3) := by decide +kernel
theorem d_Ref_buffered_128 : decode b_Ref_buffered 128 = .ok (.iconst 4, 1) := by decide +kernel
theorem d_Ref_buffered_129 : decode b_Ref_buffered 129 = .ok (.iconst 2, 1) := by decide +kernel
theorem d_Ref_buffered_130 : decode b_Ref_buffered 130 = .ok (.iload_n 1, 1) := by decide +kernel
theorem d_Ref_buffered_131 : decode b_Ref_buffered 131 = .ok (.imul, 1) := by decide +kernel
theorem d_Ref_buffered_132 : decode b_Ref_buffered 132 = .ok (.iadd, 1) := by decide +kernel
theorem d_Ref_buffered_133 : decode b_Ref_buffered 133 = .ok (.aload_n 0, 1) := by decide +kernel
theorem d_Ref_buffered_134 : decode b_Ref_buffered 134 = .ok (.getfield 19, 3) := by decide +kernel
theorem d_Ref_buffered_137 : decode b_Ref_buffered 137 = .ok (.iload_n 2, 1) := by decide +kernel
theorem d_Ref_buffered_138 : decode b_Ref_buffered 138 = .ok (.iaload, 1) := by decide +kernel
theorem d_Ref_buffered_139 : decode b_Ref_buffered 139 = .ok (.iadd, 1) := by decide +kernel
theorem d_Ref_buffered_140 : decode b_Ref_buffered 140 = .ok (.iload 5, 2) := by decide +kernel
theorem d_Ref_buffered_142 : decode b_Ref_buffered 142 = .ok (.iastore, 1) := by decide +kernel
theorem d_Ref_buffered_143 : decode b_Ref_buffered 143 = .ok (.goto 62, 3) := by decide +kernel
theorem d_Ref_buffered_146 : decode b_Ref_buffered 146 = .ok (.aload_n 0, 1) := by decide +kernel
theorem d_Ref_buffered_147 : decode b_Ref_buffered 147 = .ok (.getfield 53, 3) := by decide +kernel
theorem d_Ref_buffered_150 : decode b_Ref_buffered 150 = .ok (.bipush 15, 2) := by decide +kernel
theorem d_Ref_buffered_152 : decode b_Ref_buffered 152 = .ok (.iaload, 1) := by decide +kernel
theorem d_Ref_buffered_153 : decode b_Ref_buffered 153 = .ok (.istore 5, 2) := by decide +kernel
theorem d_Ref_buffered_155 : decode b_Ref_buffered 155 = .ok (.aload_n 0, 1) := by decide +kernel
theorem d_Ref_buffered_156 : decode b_Ref_buffered 156 = .ok (.getfield 53, 3) := by decide +kernel
theorem d_Ref_buffered_159 : decode b_Ref_buffered 159 = .ok (.bipush 15, 2) := by decide +kernel
theorem d_Ref_buffered_161 : decode b_Ref_buffered 161 = .ok (.dup2, 1) := by decide +kernel
theorem d_Ref_buffered_162 : decode b_Ref_buffered 162 = .ok (.iaload, 1) := by decide +kernel
theorem d_Ref_buffered_163 : decode b_Ref_buffered 163 = .ok (.iconst 1, 1) := by decide +kernel
theorem d_Ref_buffered_164 : decode b_Ref_buffered 164 = .ok (.iadd, 1) := by decide +kernel
theorem d_Ref_buffered_165 : decode b_Ref_buffered 165 = .ok (.iastore, 1) := by decide +kernel
theorem d_Ref_buffered_166 : decode b_Ref_buffered 166 = .ok (.aload_n 0, 1) := by decide +kernel
theorem d_Ref_buffered_167 : decode b_Ref_buffered 167 = .ok (.getfield 53, 3) := by decide +kernel
theorem d_Ref_buffered_170 : decode b_Ref_buffered 170 = .ok (.bipush 16, 2) := by decide +kernel
theorem d_Ref_buffered_172 : decode b_Ref_buffered 172 = .ok (.iload 5, 2) := by decide +kernel
theorem d_Ref_buffered_174 : decode b_Ref_buffered 174 = .ok (.iadd, 1) := by decide +kernel
theorem d_Ref_buffered_175 : decode b_Ref_buffered 175 = .ok (.iload_n 1, 1) := by decide +kernel
theorem d_Ref_buffered_176 : decode b_Ref_buffered 176 = .ok (.iastore, 1) := by decide +kernel
theorem d_Ref_buffered_177 : decode b_Ref_buffered 177 = .ok (.aload_n 0, 1) := by decide +kernel
theorem d_Ref_buffered_178 : decode b_Ref_buffered 178 = .ok (.getfield 53, 3) := by decide +kernel
theorem d_Ref_buffered_181 : decode b_Ref_buffered 181 = .ok (.bipush 23, 2) := by decide +kernel
theorem d_Ref_buffered_183 : decode b_Ref_buffered 183 = .ok (.iload 5, 2) := by decide +kernel
theorem d_Ref_buffered_185 : decode b_Ref_buffered 185 = .ok (.iadd, 1) := by decide +kernel
theorem d_Ref_buffered_186 : decode b_Ref_buffered 186 = .ok (.iload 4, 2) := by decide +kernel
theorem d_Ref_buffered_188 : decode b_Ref_buffered 188 = .ok (.iastore, 1) := by decide +kernel
theorem d_Ref_buffered_189 : decode b_Ref_buffered 189 = .ok (.aload_n 0, 1) := by decide +kernel
theorem d_Ref_buffered_190 : decode b_Ref_buffered 190 = .ok (.getfield 53, 3) := by decide +kernel
theorem d_Ref_buffered_193 : decode b_Ref_buffered 193 = .ok (.bipush 30, 2) := by decide +kernel
theorem d_Ref_buffered_195 : decode b_Ref_buffered 195 = .ok (.iload 5, 2) := by decide +kernel
theorem d_Ref_buffered_197 : decode b_Ref_buffered 197 = .ok (.iadd, 1) := by decide +kernel
theorem d_Ref_buffered_198 : decode b_Ref_buffered 198 = .ok (.aload_n 0, 1) := by decide +kernel
theorem d_Ref_buffered_199 : decode b_Ref_buffered 199 = .ok (.iload_n 1, 1) := by decide +kernel
theorem d_Ref_buffered_200 : decode b_Ref_buffered 200 = .ok (.iload_n 2, 1) := by decide +kernel
theorem d_Ref_buffered_201 : decode b_Ref_buffered 201 = .ok (.invokevirtual 216, 3) := by decide +kernel
theorem d_Ref_buffered_204 : decode b_Ref_buffered 204 = .ok (.iastore, 1) := by decide +kernel
theorem d_Ref_buffered_205 : decode b_Ref_buffered 205 = .ok (.iconst 1, 1) := by decide +kernel
theorem d_Ref_buffered_206 : decode b_Ref_buffered 206 = .ok (.ireturn, 1) := by decide +kernel
theorem d_Ref_flush_0 : decode b_Ref_flush 0 = .ok (.aload_n 0, 1) := by decide +kernel
theorem d_Ref_flush_1 : decode b_Ref_flush 1 = .ok (.getfield 143, 3) := by decide +kernel
theorem d_Ref_flush_4 : decode b_Ref_flush 4 = .ok (.iconst 1, 1) := by decide +kernel
theorem d_Ref_flush_5 : decode b_Ref_flush 5 = .ok (.if_icmp .ne 11, 3) := by decide +kernel
theorem d_Ref_flush_8 : decode b_Ref_flush 8 = .ok (.iload_n 2, 1) := by decide +kernel
theorem d_Ref_flush_9 : decode b_Ref_flush 9 = .ok (.iconst 1, 1) := by decide +kernel
theorem d_Ref_flush_10 : decode b_Ref_flush 10 = .ok (.if_icmp .eq 13, 3) := by decide +kernel
theorem d_Ref_flush_13 : decode b_Ref_flush 13 = .ok (.goto 8, 3) := by decide +kernel
theorem d_Ref_flush_16 : decode b_Ref_flush 16 = .ok (.iload_n 2, 1) := by decide +kernel
theorem d_Ref_flush_17 : decode b_Ref_flush 17 = .ok (.iconst 3, 1) := by decide +kernel
theorem d_Ref_flush_18 : decode b_Ref_flush 18 = .ok (.if_icmp .le 5, 3) := by decide +kernel
theorem d_Ref_flush_21 : decode b_Ref_flush 21 = .ok (.iconst 0, 1) := by decide +kernel
theorem d_Ref_flush_22 : decode b_Ref_flush 22 = .ok (.ireturn, 1) := by decide +kernel
theorem d_Ref_flush_23 : decode b_Ref_flush 23 = .ok (.aload_n 0, 1) := by decide +kernel
theorem d_Ref_flush_24 : decode b_Ref_flush 24 = .ok (.getfield 143, 3) := by decide +kernel
theorem d_Ref_flush_27 : decode b_Ref_flush 27 = .ok (.iconst 1, 1) := by decide +kernel
theorem d_Ref_flush_28 : decode b_Ref_flush 28 = .ok (.if_icmp .ne 7, 3) := by decide +kernel
theorem d_Ref_flush_31 : decode b_Ref_flush 31 = .ok (.iconst (-1), 1) := by decide +kernel
theorem d_Ref_flush_32 : decode b_Ref_flush 32 = .ok (.goto 6, 3) := by decide +kernel
theorem d_Ref_flush_35 : decode b_Ref_flush 35 = .ok (.iload_n 2, 1) := by decide +kernel
theorem d_Ref_flush_36 : decode b_Ref_flush 36 = .ok (.iconst 1, 1) := by decide +kernel
theorem d_Ref_flush_37 : decode b_Ref_flush 37 = .ok (.isub, 1) := by decide +kernel
theorem d_Ref_flush_38 : decode b_Ref_flush 38 = .ok (.istore_n 3, 1) := by decide +kernel
theorem d_Ref_flush_39 : decode b_Ref_flush 39 = .ok (.iconst 0, 1) := by decide +kernel
theorem d_Ref_flush_40 : decode b_Ref_flush 40 = .ok (.istore 4, 2) := by decide +kernel
theorem d_Ref_flush_42 : decode b_Ref_flush 42 = .ok (.iload 4, 2) := by decide +kernel
theorem d_Ref_flush_44 : decode b_Ref_flush 44 = .ok (.aload_n 0, 1) := by decide +kernel
theorem d_Ref_flush_45 : decode b_Ref_flush 45 = .ok (.getfield 53, 3) := by decide +kernel
theorem d_Ref_flush_48 : decode b_Ref_flush 48 = .ok (.bipush 15, 2) := by decide +kernel
theorem d_Ref_flush_50 : decode b_Ref_flush 50 = .ok (.iaload, 1) := by decide +kernel
theorem d_Ref_flush_51 : decode b_Ref_flush 51 = .ok (.if_icmp .ge 20, 3) := by decide +kernel
theorem d_Ref_flush_54 : decode b_Ref_flush 54 = .ok (.aload_n 0, 1) := by decide +kernel
theorem d_Ref_flush_55 : decode b_Ref_flush 55 = .ok (.iload 4, 2) := by decide +kernel
theorem d_Ref_flush_57 : decode b_Ref_flush 57 = .ok (.iload_n 1, 1) := by decide +kernel
theorem d_Ref_flush_58 : decode b_Ref_flush 58 = .ok (.iload_n 3, 1) := by decide +kernel
theorem d_Ref_flush_59 : decode b_Ref_flush 59 = .ok (.invokevirtual 159, 3) := by decide +kernel
theorem d_Ref_flush_62 : decode b_Ref_flush 62 = .ok (.ifCond .ne 9, 3) := by decide +kernel
theorem d_Ref_flush_65 : decode b_Ref_flush 65 = .ok (.iinc 4 1, 3) := by decide +kernel
theorem d_Ref_flush_68 : decode b_Ref_flush 68 = .ok (.goto (-26), 3) := by decide +kernel
theorem d_Ref_flush_71 : decode b_Ref_flush 71 = .ok (.iload 4, 2) := by decide +kernel
theorem d_Ref_flush_73 : decode b_Ref_flush 73 = .ok (.aload_n 0, 1) := by decide +kernel
theorem d_Ref_flush_74 : decode b_Ref_flush 74 = .ok (.getfield 53, 3) := by decide +kernel
theorem d_Ref_flush_77 : decode b_Ref_flush 77 = .ok (.bipush 15, 2) := by decide +kernel
theorem d_Ref_flush_79 : decode b_Ref_flush 79 = .ok (.iaload, 1) := by decide +kernel
theorem d_Ref_flush_80 : decode b_Ref_flush 80 = .ok (.if_icmp .ne 5, 3) := by decide +kernel
theorem d_Ref_flush_83 : decode b_Ref_flush 83 = .ok (.iconst 0, 1) := by decide +kernel
theorem d_Ref_flush_84 : decode b_Ref_flush 84 = .ok (.ireturn, 1) := by decide +kernel
theorem d_Ref_flush_85 : decode b_Ref_flush 85 = .ok (.aload_n 0, 1) := by decide +kernel
theorem d_Ref_flush_86 : decode b_Ref_flush 86 = .ok (.getfield 53, 3) := by decide +kernel
theorem d_Ref_flush_89 : decode b_Ref_flush 89 = .ok (.bipush 12, 2) := by decide +kernel
theorem d_Ref_flush_91 : decode b_Ref_flush 91 = .ok (.aload_n 0, 1) := by decide +kernel
theorem d_Ref_flush_92 : decode b_Ref_flush 92 = .ok (.getfield 53, 3) := by decide +kernel
theorem d_Ref_flush_95 : decode b_Ref_flush 95 = .ok (.bipush 23, 2) := by decide +kernel
theorem d_Ref_flush_97 : decode b_Ref_flush 97 = .ok (.iload 4, 2) := by decide +kernel
theorem d_Ref_flush_99 : decode b_Ref_flush 99 = .ok (.iadd, 1) := by decide +kernel
theorem d_Ref_flush_100 : decode b_Ref_flush 100 = .ok (.iaload, 1) := by decide +kernel
theorem d_Ref_flush_101 : decode b_Ref_flush 101 = .ok (.iadd, 1) := by decide +kernel
theorem d_Ref_flush_102 : decode b_Ref_flush 102 = .ok (.aload_n 0, 1) := by decide +kernel
theorem d_Ref_flush_103 : decode b_Ref_flush 103 = .ok (.getfield 53, 3) := by decide +kernel
theorem d_Ref_flush_106 : decode b_Ref_flush 106 = .ok (.bipush 30, 2) := by decide +kernel
theorem d_Ref_flush_108 : decode b_Ref_flush 108 = .ok (.iload 4, 2) := by decide +kernel
theorem d_Ref_flush_110 : decode b_Ref_flush 110 = .ok (.iadd, 1) := by decide +kernel
theorem d_Ref_flush_111 : decode b_Ref_flush 111 = .ok (.iaload, 1) := by decide +kernel
theorem d_Ref_flush_112 : decode b_Ref_flush 112 = .ok (.iastore, 1) := by decide +kernel
theorem d_Ref_flush_113 : decode b_Ref_flush 113 = .ok (.aload_n 0, 1) := by decide +kernel
theorem d_Ref_flush_114 : decode b_Ref_flush 114 = .ok (.getfield 53, 3) := by decide +kernel
theorem d_Ref_flush_117 : decode b_Ref_flush 117 = .ok (.bipush 15, 2) := by decide +kernel
theorem d_Ref_flush_119 : decode b_Ref_flush 119 = .ok (.dup2, 1) := by decide +kernel
theorem d_Ref_flush_120 : decode b_Ref_flush 120 = .ok (.iaload, 1) := by decide +kernel
theorem d_Ref_flush_121 : decode b_Ref_flush 121 = .ok (.iconst 1, 1) := by decide +kernel
theorem d_Ref_flush_122 : decode b_Ref_flush 122 = .ok (.isub, 1) := by decide +kernel
theorem d_Ref_flush_123 : decode b_Ref_flush 123 = .ok (.iastore, 1) := by decide +kernel
theorem d_Ref_flush_124 : decode b_Ref_flush 124 = .ok (.iload 4, 2) := by decide +kernel
theorem d_Ref_flush_126 : decode b_Ref_flush 126 = .ok (.istore 5, 2) := by decide +kernel
theorem d_Ref_flush_128 : decode b_Ref_flush 128 = .ok (.iload 5, 2) := by decide +kernel
theorem d_Ref_flush_130 : decode b_Ref_flush 130 = .ok (.aload_n 0, 1) := by decide +kernel
theorem d_Ref_flush_131 : decode b_Ref_flush 131 = .ok (.getfield 53, 3) := by decide +kernel
theorem d_Ref_flush_134 : decode b_Ref_flush 134 = .ok (.bipush 15, 2) := by decide +kernel
theorem d_Ref_flush_136 : decode b_Ref_flush 136 = .ok (.iaload, 1) := by decide +kernel
theorem d_Ref_flush_137 : decode b_Ref_flush 137 = .ok (.if_icmp .ge 75, 3) := by decide +kernel
theorem d_Ref_flush_140 : decode b_Ref_flush 140 = .ok (.aload_n 0, 1) := by decide +kernel
theorem d_Ref_flush_141 : decode b_Ref_flush 141 = .ok (.getfield 53, 3) := by decide +kernel
theorem d_Ref_flush_144 : decode b_Ref_flush 144 = .ok (.bipush 16, 2) := by decide +kernel
theorem d_Ref_flush_146 : decode b_Ref_flush 146 = .ok (.iload 5, 2) := by decide +kernel
theorem d_Ref_flush_148 : decode b_Ref_flush 148 = .ok (.iadd, 1) := by decide +kernel
theorem d_Ref_flush_149 : decode b_Ref_flush 149 = .ok (.aload_n 0, 1) := by decide +kernel
theorem d_Ref_flush_150 : decode b_Ref_flush 150 = .ok (.getfield 53, 3) := by decide +kernel
theorem d_Ref_flush_153 : decode b_Ref_flush 153 = .ok (.bipush 16, 2) := by decide +kernel
theorem d_Ref_flush_155 : decode b_Ref_flush 155 = .ok (.iload 5, 2) := by decide +kernel
theorem d_Ref_flush_157 : decode b_Ref_flush 157 = .ok (.iadd, 1) := by decide +kernel
theorem d_Ref_flush_158 : decode b_Ref_flush 158 = .ok (.iconst 1, 1) := by decide +kernel
theorem d_Ref_flush_159 : decode b_Ref_flush 159 = .ok (.iadd, 1) := by decide +kernel
theorem d_Ref_flush_160 : decode b_Ref_flush 160 = .ok (.iaload, 1) := by decide +kernel
theorem d_Ref_flush_161 : decode b_Ref_flush 161 = .ok (.iastore, 1) := by decide +kernel
theorem d_Ref_flush_162 : decode b_Ref_flush 162 = .ok (.aload_n 0, 1) := by decide +kernel
theorem d_Ref_flush_163 : decode b_Ref_flush 163 = .ok (.getfield 53, 3) := by decide +kernel
theorem d_Ref_flush_166 : decode b_Ref_flush 166 = .ok (.bipush 23, 2) := by decide +kernel
theorem d_Ref_flush_168 : decode b_Ref_flush 168 = .ok (.iload 5, 2) := by decide +kernel
theorem d_Ref_flush_170 : decode b_Ref_flush 170 = .ok (.iadd, 1) := by decide +kernel
theorem d_Ref_flush_171 : decode b_Ref_flush 171 = .ok (.aload_n 0, 1) := by decide +kernel
theorem d_Ref_flush_172 : decode b_Ref_flush 172 = .ok (.getfield 53, 3) := by decide +kernel
theorem d_Ref_flush_175 : decode b_Ref_flush 175 = .ok (.bipush 23, 2) := by decide +kernel
theorem d_Ref_flush_177 : decode b_Ref_flush 177 = .ok (.iload 5, 2) := by decide +kernel
theorem d_Ref_flush_179 : decode b_Ref_flush 179 = .ok (.iadd, 1) := by decide +kernel
theorem d_Ref_flush_180 : decode b_Ref_flush 180 = .ok (.iconst 1, 1) := by decide +kernel
theorem d_Ref_flush_181 : decode b_Ref_flush 181 = .ok (.iadd, 1) := by decide +kernel
theorem d_Ref_flush_182 : decode b_Ref_flush 182 = .ok (.iaload, 1) := by decide +kernel
theorem d_Ref_flush_183 : decode b_Ref_flush 183 = .ok (.iastore, 1) := by decide +kernel
theorem d_Ref_flush_184 : decode b_Ref_flush 184 = .ok (.aload_n 0, 1) := by decide +kernel
theorem d_Ref_flush_185 : decode b_Ref_flush 185 = .ok (.getfield 53, 3) := by decide +kernel
theorem d_Ref_flush_188 : decode b_Ref_flush 188 = .ok (.bipush 30, 2) := by decide +kernel
theorem d_Ref_flush_190 : decode b_Ref_flush 190 = .ok (.iload 5, 2) := by decide +kernel
theorem d_Ref_flush_192 : decode b_Ref_flush 192 = .ok (.iadd, 1) := by decide +kernel
theorem d_Ref_flush_193 : decode b_Ref_flush 193 = .ok (.aload_n 0, 1) := by decide +kernel
theorem d_Ref_flush_194 : decode b_Ref_flush 194 = .ok (.getfield 53, 3) := by decide +kernel
theorem d_Ref_flush_197 : decode b_Ref_flush 197 = .ok (.bipush 30, 2) := by decide +kernel
theorem d_Ref_flush_199 : decode b_Ref_flush 199 = .ok (.iload 5, 2) := by decide +kernel
theorem d_Ref_flush_201 : decode b_Ref_flush 201 = .ok (.iadd, 1) := by decide +kernel
theorem d_Ref_flush_202 : decode b_Ref_flush 202 = .ok (.iconst 1, 1) := by decide +kernel
theorem d_Ref_flush_203 : decode b_Ref_flush 203 = .ok (.iadd, 1) := by decide +kernel
theorem d_Ref_flush_204 : decode b_Ref_flush 204 = .ok (.iaload, 1) := by decide +kernel
theorem d_Ref_flush_205 : decode b_Ref_flush 205 = .ok (.iastore, 1) := by decide +kernel
theorem d_Ref_flush_206 : decode b_Ref_flush 206 = .ok (.iinc 5 1, 3) := by decide +kernel
theorem d_Ref_flush_209 : decode b_Ref_flush 209 = .ok (.goto (-81), 3) := by decide +kernel
theorem d_Ref_flush_212 : decode b_Ref_flush 212 = .ok (.iconst 1, 1) := by decide +kernel
theorem d_Ref_flush_213 : decode b_Ref_flush 213 = .ok (.ireturn, 1) := by decide +kernel
theorem d_Ref_known_0 : decode b_Ref_known 0 = .ok (.aload_n 0, 1) := by decide +kernel
theorem d_Ref_known_1 : decode b_Ref_known 1 = .ok (.getfield 13, 3) := by decide +kernel
theorem d_Ref_known_4 : decode b_Ref_known 4 = .ok (.iload_n 2, 1) := by decide +kernel
theorem d_Ref_known_5 : decode b_Ref_known 5 = .ok (.iaload, 1) := by decide +kernel
theorem d_Ref_known_6 : decode b_Ref_known 6 = .ok (.istore 4, 2) := by decide +kernel
theorem d_Ref_known_8 : decode b_Ref_known 8 = .ok (.iload 4, 2) := by decide +kernel
theorem d_Ref_known_10 : decode b_Ref_known 10 = .ok (.iconst 4, 1) := by decide +kernel
theorem d_Ref_known_11 : decode b_Ref_known 11 = .ok (.if_icmp .ne 59, 3) := by decide +kernel
theorem d_Ref_known_14 : decode b_Ref_known 14 = .ok (.iload_n 3, 1) := by decide +kernel
theorem d_Ref_known_15 : decode b_Ref_known 15 = .ok (.ifCond .eq 5, 3) := by decide +kernel
theorem d_Ref_known_18 : decode b_Ref_known 18 = .ok (.iconst 0, 1) := by decide +kernel
theorem d_Ref_known_19 : decode b_Ref_known 19 = .ok (.ireturn, 1) := by decide +kernel
theorem d_Ref_known_20 : decode b_Ref_known 20 = .ok (.aload_n 0, 1) := by decide +kernel
theorem d_Ref_known_21 : decode b_Ref_known 21 = .ok (.getfield 53, 3) := by decide +kernel
theorem d_Ref_known_24 : decode b_Ref_known 24 = .ok (.bipush 40, 2) := by decide +kernel
theorem d_Ref_known_26 : decode b_Ref_known 26 = .ok (.iaload, 1) := by decide +kernel
theorem d_Ref_known_27 : decode b_Ref_known 27 = .ok (.iconst 1, 1) := by decide +kernel
theorem d_Ref_known_28 : decode b_Ref_known 28 = .ok (.isub, 1) := by decide +kernel
theorem d_Ref_known_29 : decode b_Ref_known 29 = .ok (.istore 5, 2) := by decide +kernel
theorem d_Ref_known_31 : decode b_Ref_known 31 = .ok (.aload_n 0, 1) := by decide +kernel
theorem d_Ref_known_32 : decode b_Ref_known 32 = .ok (.getfield 53, 3) := by decide +kernel
theorem d_Ref_known_35 : decode b_Ref_known 35 = .ok (.iload_n 1, 1) := by decide +kernel
theorem d_Ref_known_36 : decode b_Ref_known 36 = .ok (.dup2, 1) := by decide +kernel
theorem d_Ref_known_37 : decode b_Ref_known 37 = .ok (.iaload, 1) := by decide +kernel
theorem d_Ref_known_38 : decode b_Ref_known 38 = .ok (.iconst 1, 1) := by decide +kernel
theorem d_Ref_known_39 : decode b_Ref_known 39 = .ok (.iadd, 1) := by decide +kernel
theorem d_Ref_known_40 : decode b_Ref_known 40 = .ok (.iastore, 1) := by decide +kernel
theorem d_Ref_known_41 : decode b_Ref_known 41 = .ok (.aload_n 0, 1) := by decide +kernel
theorem d_Ref_known_42 : decode b_Ref_known 42 = .ok (.iload_n 1, 1) := by decide +kernel
theorem d_Ref_known_43 : decode b_Ref_known 43 = .ok (.aload_n 0, 1) := by decide +kernel
theorem d_Ref_known_44 : decode b_Ref_known 44 = .ok (.getfield 53, 3) := by decide +kernel
theorem d_Ref_known_47 : decode b_Ref_known 47 = .ok (.bipush 65, 2) := by decide +kernel
theorem d_Ref_known_49 : decode b_Ref_known 49 = .ok (.iload 5, 2) := by decide +kernel
theorem d_Ref_known_51 : decode b_Ref_known 51 = .ok (.iadd, 1) := by decide +kernel
theorem d_Ref_known_52 : decode b_Ref_known 52 = .ok (.iaload, 1) := by decide +kernel
theorem d_Ref_known_53 : decode b_Ref_known 53 = .ok (.invokevirtual 223, 3) := by decide +kernel
theorem d_Ref_known_56 : decode b_Ref_known 56 = .ok (.aload_n 0, 1) := by decide +kernel
theorem d_Ref_known_57 : decode b_Ref_known 57 = .ok (.iload_n 1, 1) := by decide +kernel
theorem d_Ref_known_58 : decode b_Ref_known 58 = .ok (.iconst 3, 1) := by decide +kernel
theorem d_Ref_known_59 : decode b_Ref_known 59 = .ok (.iload 5, 2) := by decide +kernel
theorem d_Ref_known_61 : decode b_Ref_known 61 = .ok (.iconst 1, 1) := by decide +kernel
theorem d_Ref_known_62 : decode b_Ref_known 62 = .ok (.iadd, 1) := by decide +kernel
theorem d_Ref_known_63 : decode b_Ref_known 63 = .ok (.iconst 0, 1) := by decide +kernel
theorem d_Ref_known_64 : decode b_Ref_known 64 = .ok (.iconst 1, 1) := by decide +kernel
theorem d_Ref_known_65 : decode b_Ref_known 65 = .ok (.invokevirtual 227, 3) := by decide +kernel
theorem d_Ref_known_68 : decode b_Ref_known 68 = .ok (.iconst 1, 1) := by decide +kernel
theorem d_Ref_known_69 : decode b_Ref_known 69 = .ok (.ireturn, 1) := by decide +kernel
theorem d_Ref_known_70 : decode b_Ref_known 70 = .ok (.aload_n 0, 1) := by decide +kernel
theorem d_Ref_known_71 : decode b_Ref_known 71 = .ok (.getfield 16, 3) := by decide +kernel
theorem d_Ref_known_74 : decode b_Ref_known 74 = .ok (.iload_n 2, 1) := by decide +kernel
theorem d_Ref_known_75 : decode b_Ref_known 75 = .ok (.iaload, 1) := by decide +kernel
theorem d_Ref_known_76 : decode b_Ref_known 76 = .ok (.istore 5, 2) := by decide +kernel
theorem d_Ref_known_78 : decode b_Ref_known 78 = .ok (.aload_n 0, 1) := by decide +kernel
theorem d_Ref_known_79 : decode b_Ref_known 79 = .ok (.iload 5, 2) := by decide +kernel
theorem d_Ref_known_81 : decode b_Ref_known 81 = .ok (.aload_n 0, 1) := by decide +kernel
theorem d_Ref_known_82 : decode b_Ref_known 82 = .ok (.getfield 53, 3) := by decide +kernel
theorem d_Ref_known_85 : decode b_Ref_known 85 = .ok (.sipush 139, 3) := by decide +kernel
theorem d_Ref_known_88 : decode b_Ref_known 88 = .ok (.iconst 4, 1) := by decide +kernel
theorem d_Ref_known_89 : decode b_Ref_known 89 = .ok (.iload_n 1, 1) := by decide +kernel
theorem d_Ref_known_90 : decode b_Ref_known 90 = .ok (.imul, 1) := by decide +kernel
theorem d_Ref_known_91 : decode b_Ref_known 91 = .ok (.iadd, 1) := by decide +kernel
theorem d_Ref_known_92 : decode b_Ref_known 92 = .ok (.iload 5, 2) := by decide +kernel
theorem d_Ref_known_94 : decode b_Ref_known 94 = .ok (.iadd, 1) := by decide +kernel
theorem d_Ref_known_95 : decode b_Ref_known 95 = .ok (.iaload, 1) := by decide +kernel
theorem d_Ref_known_96 : decode b_Ref_known 96 = .ok (.invokevirtual 163, 3) := by decide +kernel
theorem d_Ref_known_99 : decode b_Ref_known 99 = .ok (.istore 6, 2) := by decide +kernel
theorem d_Ref_known_101 : decode b_Ref_known 101 = .ok (.aload_n 0, 1) := by decide +kernel
theorem d_Ref_known_102 : decode b_Ref_known 102 = .ok (.getfield 53, 3) := by decide +kernel
theorem d_Ref_known_105 : decode b_Ref_known 105 = .ok (.bipush 37, 2) := by decide +kernel
theorem d_Ref_known_107 : decode b_Ref_known 107 = .ok (.iload 5, 2) := by decide +kernel
theorem d_Ref_known_109 : decode b_Ref_known 109 = .ok (.iadd, 1) := by decide +kernel
theorem d_Ref_known_110 : decode b_Ref_known 110 = .ok (.iaload, 1) := by decide +kernel
theorem d_Ref_known_111 : decode b_Ref_known 111 = .ok (.istore 7, 2) := by decide +kernel
theorem d_Ref_known_113 : decode b_Ref_known 113 = .ok (.iload_n 3, 1) := by decide +kernel
theorem d_Ref_known_114 : decode b_Ref_known 114 = .ok (.iload 7, 2) := by decide +kernel
theorem d_Ref_known_116 : decode b_Ref_known 116 = .ok (.if_icmp .ge 44, 3) := by decide +kernel
theorem d_Ref_known_119 : decode b_Ref_known 119 = .ok (.iload_n 3, 1) := by decide +kernel
theorem d_Ref_known_120 : decode b_Ref_known 120 = .ok (.iconst 1, 1) := by decide +kernel
theorem d_Ref_known_121 : decode b_Ref_known 121 = .ok (.iadd, 1) := by decide +kernel
theorem d_Ref_known_122 : decode b_Ref_known 122 = .ok (.iload 7, 2) := by decide +kernel
theorem d_Ref_known_124 : decode b_Ref_known 124 = .ok (.if_icmp .ge 36, 3) := by decide +kernel
theorem d_Ref_known_127 : decode b_Ref_known 127 = .ok (.aload_n 0, 1) := by decide +kernel
theorem d_Ref_known_128 : decode b_Ref_known 128 = .ok (.getfield 53, 3) := by decide +kernel
theorem d_Ref_known_131 : decode b_Ref_known 131 = .ok (.bipush 84, 2) := by decide +kernel
theorem d_Ref_known_133 : decode b_Ref_known 133 = .ok (.aload_n 0, 1) := by decide +kernel
theorem d_Ref_known_134 : decode b_Ref_known 134 = .ok (.getfield 53, 3) := by decide +kernel
theorem d_Ref_known_137 : decode b_Ref_known 137 = .ok (.bipush 41, 2) := by decide +kernel
theorem d_Ref_known_139 : decode b_Ref_known 139 = .ok (.bipush 8, 2) := by decide +kernel
theorem d_Ref_known_141 : decode b_Ref_known 141 = .ok (.iload 5, 2) := by decide +kernel
theorem d_Ref_known_143 : decode b_Ref_known 143 = .ok (.imul, 1) := by decide +kernel
theorem d_Ref_known_144 : decode b_Ref_known 144 = .ok (.iadd, 1) := by decide +kernel
theorem d_Ref_known_145 : decode b_Ref_known 145 = .ok (.iload_n 3, 1) := by decide +kernel
theorem d_Ref_known_146 : decode b_Ref_known 146 = .ok (.iadd, 1) := by decide +kernel
theorem d_Ref_known_147 : decode b_Ref_known 147 = .ok (.iconst 1, 1) := by decide +kernel
theorem d_Ref_known_148 : decode b_Ref_known 148 = .ok (.iadd, 1) := by decide +kernel
theorem d_Ref_known_149 : decode b_Ref_known 149 = .ok (.iaload, 1) := by decide +kernel
theorem d_Ref_known_150 : decode b_Ref_known 150 = .ok (.iadd, 1) := by decide +kernel
theorem d_Ref_known_151 : decode b_Ref_known 151 = .ok (.iaload, 1) := by decide +kernel
theorem d_Ref_known_152 : decode b_Ref_known 152 = .ok (.iconst 1, 1) := by decide +kernel
theorem d_Ref_known_153 : decode b_Ref_known 153 = .ok (.if_icmp .ne 7, 3) := by decide +kernel
theorem d_Ref_known_156 : decode b_Ref_known 156 = .ok (.iconst 1, 1) := by decide +kernel
theorem d_Ref_known_157 : decode b_Ref_known 157 = .ok (.goto 4, 3) := by decide +kernel
theorem d_Ref_known_160 : decode b_Ref_known 160 = .ok (.iconst 0, 1) := by decide +kernel
theorem d_Ref_known_161 : decode b_Ref_known 161 = .ok (.istore 8, 2) := by decide +kernel
theorem d_Ref_known_163 : decode b_Ref_known 163 = .ok (.iload_n 3, 1) := by decide +kernel
theorem d_Ref_known_164 : decode b_Ref_known 164 = .ok (.iload 7, 2) := by decide +kernel
theorem d_Ref_known_166 : decode b_Ref_known 166 = .ok (.if_icmp .ge 34, 3) := by decide +kernel
theorem d_Ref_known_169 : decode b_Ref_known 169 = .ok (.aload_n 0, 1) := by decide +kernel
theorem d_Ref_known_170 : decode b_Ref_known 170 = .ok (.getfield 53, 3) := by decide +kernel
theorem d_Ref_known_173 : decode b_Ref_known 173 = .ok (.bipush 84, 2) := by decide +kernel
theorem d_Ref_known_175 : decode b_Ref_known 175 = .ok (.aload_n 0, 1) := by decide +kernel
theorem d_Ref_known_176 : decode b_Ref_known 176 = .ok (.getfield 53, 3) := by decide +kernel
theorem d_Ref_known_179 : decode b_Ref_known 179 = .ok (.bipush 41, 2) := by decide +kernel
theorem d_Ref_known_181 : decode b_Ref_known 181 = .ok (.bipush 8, 2) := by decide +kernel
theorem d_Ref_known_183 : decode b_Ref_known 183 = .ok (.iload 5, 2) := by decide +kernel
theorem d_Ref_known_185 : decode b_Ref_known 185 = .ok (.imul, 1) := by decide +kernel
theorem d_Ref_known_186 : decode b_Ref_known 186 = .ok (.iadd, 1) := by decide +kernel
theorem d_Ref_known_187 : decode b_Ref_known 187 = .ok (.iload_n 3, 1) := by decide +kernel
theorem d_Ref_known_188 : decode b_Ref_known 188 = .ok (.iadd, 1) := by decide +kernel
theorem d_Ref_known_189 : decode b_Ref_known 189 = .ok (.iaload, 1) := by decide +kernel
theorem d_Ref_known_190 : decode b_Ref_known 190 = .ok (.iadd, 1) := by decide +kernel
theorem d_Ref_known_191 : decode b_Ref_known 191 = .ok (.iaload, 1) := by decide +kernel
theorem d_Ref_known_192 : decode b_Ref_known 192 = .ok (.iconst 1, 1) := by decide +kernel
theorem d_Ref_known_193 : decode b_Ref_known 193 = .ok (.if_icmp .ne 7, 3) := by decide +kernel
theorem d_Ref_known_196 : decode b_Ref_known 196 = .ok (.iconst 1, 1) := by decide +kernel
theorem d_Ref_known_197 : decode b_Ref_known 197 = .ok (.goto 4, 3) := by decide +kernel
theorem d_Ref_known_200 : decode b_Ref_known 200 = .ok (.iconst 0, 1) := by decide +kernel
theorem d_Ref_known_201 : decode b_Ref_known 201 = .ok (.istore 9, 2) := by decide +kernel
theorem d_Ref_known_203 : decode b_Ref_known 203 = .ok (.iload 4, 2) := by decide +kernel
theorem d_Ref_known_205 : decode b_Ref_known 205 = .ok (.ifCond .ne 80, 3) := by decide +kernel
theorem d_Ref_known_208 : decode b_Ref_known 208 = .ok (.iload_n 3, 1) := by decide +kernel
theorem d_Ref_known_209 : decode b_Ref_known 209 = .ok (.iload 6, 2) := by decide +kernel
theorem d_Ref_known_211 : decode b_Ref_known 211 = .ok (.if_icmp .lt 9, 3) := by decide +kernel

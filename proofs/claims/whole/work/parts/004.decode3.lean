theorem d_GraphSearch_closeHappens_91 : decode b_GraphSearch_closeHappens 91 = .ok (.iastore, 1) := by decide +kernel
theorem d_GraphSearch_closeHappens_92 : decode b_GraphSearch_closeHappens 92 = .ok (.iinc 1 1, 3) := by decide +kernel
theorem d_GraphSearch_closeHappens_95 : decode b_GraphSearch_closeHappens 95 = .ok (.goto (-93), 3) := by decide +kernel
theorem d_GraphSearch_closeHappens_98 : decode b_GraphSearch_closeHappens 98 = .ok (.iconst 0, 1) := by decide +kernel
theorem d_GraphSearch_closeHappens_99 : decode b_GraphSearch_closeHappens 99 = .ok (.istore_n 1, 1) := by decide +kernel
theorem d_GraphSearch_closeHappens_100 : decode b_GraphSearch_closeHappens 100 = .ok (.iload_n 1, 1) := by decide +kernel
theorem d_GraphSearch_closeHappens_101 : decode b_GraphSearch_closeHappens 101 = .ok (.aload_n 0, 1) := by decide +kernel
theorem d_GraphSearch_closeHappens_102 : decode b_GraphSearch_closeHappens 102 = .ok (.getfield 48, 3) := by decide +kernel
theorem d_GraphSearch_closeHappens_105 : decode b_GraphSearch_closeHappens 105 = .ok (.getfield 78, 3) := by decide +kernel
theorem d_GraphSearch_closeHappens_108 : decode b_GraphSearch_closeHappens 108 = .ok (.if_icmp .ge 56, 3) := by decide +kernel
theorem d_GraphSearch_closeHappens_111 : decode b_GraphSearch_closeHappens 111 = .ok (.iconst 0, 1) := by decide +kernel
theorem d_GraphSearch_closeHappens_112 : decode b_GraphSearch_closeHappens 112 = .ok (.istore_n 2, 1) := by decide +kernel
theorem d_GraphSearch_closeHappens_113 : decode b_GraphSearch_closeHappens 113 = .ok (.iload_n 2, 1) := by decide +kernel
theorem d_GraphSearch_closeHappens_114 : decode b_GraphSearch_closeHappens 114 = .ok (.aload_n 0, 1) := by decide +kernel
theorem d_GraphSearch_closeHappens_115 : decode b_GraphSearch_closeHappens 115 = .ok (.getfield 48, 3) := by decide +kernel
theorem d_GraphSearch_closeHappens_118 : decode b_GraphSearch_closeHappens 118 = .ok (.getfield 78, 3) := by decide +kernel
theorem d_GraphSearch_closeHappens_121 : decode b_GraphSearch_closeHappens 121 = .ok (.if_icmp .ge 37, 3) := by decide +kernel
theorem d_GraphSearch_closeHappens_124 : decode b_GraphSearch_closeHappens 124 = .ok (.aload_n 0, 1) := by decide +kernel
theorem d_GraphSearch_closeHappens_125 : decode b_GraphSearch_closeHappens 125 = .ok (.getfield 45, 3) := by decide +kernel
theorem d_GraphSearch_closeHappens_128 : decode b_GraphSearch_closeHappens 128 = .ok (.iload_n 2, 1) := by decide +kernel
theorem d_GraphSearch_closeHappens_129 : decode b_GraphSearch_closeHappens 129 = .ok (.iaload, 1) := by decide +kernel
theorem d_GraphSearch_closeHappens_130 : decode b_GraphSearch_closeHappens 130 = .ok (.iload_n 1, 1) := by decide +kernel
theorem d_GraphSearch_closeHappens_131 : decode b_GraphSearch_closeHappens 131 = .ok (.invokestatic 166, 3) := by decide +kernel
theorem d_GraphSearch_closeHappens_134 : decode b_GraphSearch_closeHappens 134 = .ok (.ifCond .eq 18, 3) := by decide +kernel
theorem d_GraphSearch_closeHappens_137 : decode b_GraphSearch_closeHappens 137 = .ok (.aload_n 0, 1) := by decide +kernel
theorem d_GraphSearch_closeHappens_138 : decode b_GraphSearch_closeHappens 138 = .ok (.getfield 45, 3) := by decide +kernel
theorem d_GraphSearch_closeHappens_141 : decode b_GraphSearch_closeHappens 141 = .ok (.iload_n 2, 1) := by decide +kernel
theorem d_GraphSearch_closeHappens_142 : decode b_GraphSearch_closeHappens 142 = .ok (.dup2, 1) := by decide +kernel
theorem d_GraphSearch_closeHappens_143 : decode b_GraphSearch_closeHappens 143 = .ok (.iaload, 1) := by decide +kernel
theorem d_GraphSearch_closeHappens_144 : decode b_GraphSearch_closeHappens 144 = .ok (.aload_n 0, 1) := by decide +kernel
theorem d_GraphSearch_closeHappens_145 : decode b_GraphSearch_closeHappens 145 = .ok (.getfield 45, 3) := by decide +kernel
theorem d_GraphSearch_closeHappens_148 : decode b_GraphSearch_closeHappens 148 = .ok (.iload_n 1, 1) := by decide +kernel
theorem d_GraphSearch_closeHappens_149 : decode b_GraphSearch_closeHappens 149 = .ok (.iaload, 1) := by decide +kernel
theorem d_GraphSearch_closeHappens_150 : decode b_GraphSearch_closeHappens 150 = .ok (.ior, 1) := by decide +kernel
theorem d_GraphSearch_closeHappens_151 : decode b_GraphSearch_closeHappens 151 = .ok (.iastore, 1) := by decide +kernel
theorem d_GraphSearch_closeHappens_152 : decode b_GraphSearch_closeHappens 152 = .ok (.iinc 2 1, 3) := by decide +kernel
theorem d_GraphSearch_closeHappens_155 : decode b_GraphSearch_closeHappens 155 = .ok (.goto (-42), 3) := by decide +kernel
theorem d_GraphSearch_closeHappens_158 : decode b_GraphSearch_closeHappens 158 = .ok (.iinc 1 1, 3) := by decide +kernel
theorem d_GraphSearch_closeHappens_161 : decode b_GraphSearch_closeHappens 161 = .ok (.goto (-61), 3) := by decide +kernel
theorem d_GraphSearch_closeHappens_164 : decode b_GraphSearch_closeHappens 164 = .ok (.return_, 1) := by decide +kernel
theorem d_GraphSearch_isKnownInOrder_0 : decode b_GraphSearch_isKnownInOrder 0 = .ok (.iconst 0, 1) := by decide +kernel
theorem d_GraphSearch_isKnownInOrder_1 : decode b_GraphSearch_isKnownInOrder 1 = .ok (.istore_n 1, 1) := by decide +kernel
theorem d_GraphSearch_isKnownInOrder_2 : decode b_GraphSearch_isKnownInOrder 2 = .ok (.iload_n 1, 1) := by decide +kernel
theorem d_GraphSearch_isKnownInOrder_3 : decode b_GraphSearch_isKnownInOrder 3 = .ok (.aload_n 0, 1) := by decide +kernel
theorem d_GraphSearch_isKnownInOrder_4 : decode b_GraphSearch_isKnownInOrder 4 = .ok (.getfield 48, 3) := by decide +kernel
theorem d_GraphSearch_isKnownInOrder_7 : decode b_GraphSearch_isKnownInOrder 7 = .ok (.getfield 78, 3) := by decide +kernel
theorem d_GraphSearch_isKnownInOrder_10 : decode b_GraphSearch_isKnownInOrder 10 = .ok (.if_icmp .ge 38, 3) := by decide +kernel
theorem d_GraphSearch_isKnownInOrder_13 : decode b_GraphSearch_isKnownInOrder 13 = .ok (.aload_n 0, 1) := by decide +kernel
theorem d_GraphSearch_isKnownInOrder_14 : decode b_GraphSearch_isKnownInOrder 14 = .ok (.getfield 190, 3) := by decide +kernel
theorem d_GraphSearch_isKnownInOrder_17 : decode b_GraphSearch_isKnownInOrder 17 = .ok (.iload_n 1, 1) := by decide +kernel
theorem d_GraphSearch_isKnownInOrder_18 : decode b_GraphSearch_isKnownInOrder 18 = .ok (.invokestatic 166, 3) := by decide +kernel
theorem d_GraphSearch_isKnownInOrder_21 : decode b_GraphSearch_isKnownInOrder 21 = .ok (.ifCond .eq 21, 3) := by decide +kernel
theorem d_GraphSearch_isKnownInOrder_24 : decode b_GraphSearch_isKnownInOrder 24 = .ok (.aload_n 0, 1) := by decide +kernel
theorem d_GraphSearch_isKnownInOrder_25 : decode b_GraphSearch_isKnownInOrder 25 = .ok (.getfield 39, 3) := by decide +kernel
theorem d_GraphSearch_isKnownInOrder_28 : decode b_GraphSearch_isKnownInOrder 28 = .ok (.iload_n 1, 1) := by decide +kernel
theorem d_GraphSearch_isKnownInOrder_29 : decode b_GraphSearch_isKnownInOrder 29 = .ok (.iaload, 1) := by decide +kernel
theorem d_GraphSearch_isKnownInOrder_30 : decode b_GraphSearch_isKnownInOrder 30 = .ok (.aload_n 0, 1) := by decide +kernel
theorem d_GraphSearch_isKnownInOrder_31 : decode b_GraphSearch_isKnownInOrder 31 = .ok (.getfield 45, 3) := by decide +kernel
theorem d_GraphSearch_isKnownInOrder_34 : decode b_GraphSearch_isKnownInOrder 34 = .ok (.iload_n 1, 1) := by decide +kernel
theorem d_GraphSearch_isKnownInOrder_35 : decode b_GraphSearch_isKnownInOrder 35 = .ok (.iaload, 1) := by decide +kernel
theorem d_GraphSearch_isKnownInOrder_36 : decode b_GraphSearch_isKnownInOrder 36 = .ok (.iand, 1) := by decide +kernel
theorem d_GraphSearch_isKnownInOrder_37 : decode b_GraphSearch_isKnownInOrder 37 = .ok (.ifCond .eq 5, 3) := by decide +kernel
theorem d_GraphSearch_isKnownInOrder_40 : decode b_GraphSearch_isKnownInOrder 40 = .ok (.iconst 0, 1) := by decide +kernel
theorem d_GraphSearch_isKnownInOrder_41 : decode b_GraphSearch_isKnownInOrder 41 = .ok (.ireturn, 1) := by decide +kernel
theorem d_GraphSearch_isKnownInOrder_42 : decode b_GraphSearch_isKnownInOrder 42 = .ok (.iinc 1 1, 3) := by decide +kernel
theorem d_GraphSearch_isKnownInOrder_45 : decode b_GraphSearch_isKnownInOrder 45 = .ok (.goto (-43), 3) := by decide +kernel
theorem d_GraphSearch_isKnownInOrder_48 : decode b_GraphSearch_isKnownInOrder 48 = .ok (.iconst 1, 1) := by decide +kernel
theorem d_GraphSearch_isKnownInOrder_49 : decode b_GraphSearch_isKnownInOrder 49 = .ok (.ireturn, 1) := by decide +kernel
theorem d_KnowledgeWalk_init_0 : decode b_KnowledgeWalk_init 0 = .ok (.aload_n 0, 1) := by decide +kernel
theorem d_KnowledgeWalk_init_1 : decode b_KnowledgeWalk_init 1 = .ok (.invokespecial 3, 3) := by decide +kernel
theorem d_KnowledgeWalk_init_4 : decode b_KnowledgeWalk_init 4 = .ok (.aload_n 0, 1) := by decide +kernel
theorem d_KnowledgeWalk_init_5 : decode b_KnowledgeWalk_init 5 = .ok (.bipush 14, 2) := by decide +kernel
theorem d_KnowledgeWalk_init_7 : decode b_KnowledgeWalk_init 7 = .ok (.newarray .int, 2) := by decide +kernel
theorem d_KnowledgeWalk_init_9 : decode b_KnowledgeWalk_init 9 = .ok (.putfield 9, 3) := by decide +kernel
theorem d_KnowledgeWalk_init_12 : decode b_KnowledgeWalk_init 12 = .ok (.aload_n 0, 1) := by decide +kernel
theorem d_KnowledgeWalk_init_13 : decode b_KnowledgeWalk_init 13 = .ok (.iconst 4, 1) := by decide +kernel
theorem d_KnowledgeWalk_init_14 : decode b_KnowledgeWalk_init 14 = .ok (.newarray .int, 2) := by decide +kernel
theorem d_KnowledgeWalk_init_16 : decode b_KnowledgeWalk_init 16 = .ok (.putfield 15, 3) := by decide +kernel
theorem d_KnowledgeWalk_init_19 : decode b_KnowledgeWalk_init 19 = .ok (.aload_n 0, 1) := by decide +kernel
theorem d_KnowledgeWalk_init_20 : decode b_KnowledgeWalk_init 20 = .ok (.iconst 4, 1) := by decide +kernel
theorem d_KnowledgeWalk_init_21 : decode b_KnowledgeWalk_init 21 = .ok (.newarray .int, 2) := by decide +kernel
theorem d_KnowledgeWalk_init_23 : decode b_KnowledgeWalk_init 23 = .ok (.putfield 18, 3) := by decide +kernel
theorem d_KnowledgeWalk_init_26 : decode b_KnowledgeWalk_init 26 = .ok (.aload_n 0, 1) := by decide +kernel
theorem d_KnowledgeWalk_init_27 : decode b_KnowledgeWalk_init 27 = .ok (.iconst 4, 1) := by decide +kernel
theorem d_KnowledgeWalk_init_28 : decode b_KnowledgeWalk_init 28 = .ok (.newarray .int, 2) := by decide +kernel
theorem d_KnowledgeWalk_init_30 : decode b_KnowledgeWalk_init 30 = .ok (.putfield 21, 3) := by decide +kernel
theorem d_KnowledgeWalk_init_33 : decode b_KnowledgeWalk_init 33 = .ok (.aload_n 0, 1) := by decide +kernel
theorem d_KnowledgeWalk_init_34 : decode b_KnowledgeWalk_init 34 = .ok (.bipush 8, 2) := by decide +kernel
theorem d_KnowledgeWalk_init_36 : decode b_KnowledgeWalk_init 36 = .ok (.newarray .int, 2) := by decide +kernel
theorem d_KnowledgeWalk_init_38 : decode b_KnowledgeWalk_init 38 = .ok (.putfield 24, 3) := by decide +kernel
theorem d_KnowledgeWalk_init_41 : decode b_KnowledgeWalk_init 41 = .ok (.aload_n 0, 1) := by decide +kernel
theorem d_KnowledgeWalk_init_42 : decode b_KnowledgeWalk_init 42 = .ok (.aload_n 1, 1) := by decide +kernel
theorem d_KnowledgeWalk_init_43 : decode b_KnowledgeWalk_init 43 = .ok (.putfield 27, 3) := by decide +kernel
theorem d_KnowledgeWalk_init_46 : decode b_KnowledgeWalk_init 46 = .ok (.aload_n 0, 1) := by decide +kernel
theorem d_KnowledgeWalk_init_47 : decode b_KnowledgeWalk_init 47 = .ok (.aload_n 2, 1) := by decide +kernel
theorem d_KnowledgeWalk_init_48 : decode b_KnowledgeWalk_init 48 = .ok (.putfield 31, 3) := by decide +kernel
theorem d_KnowledgeWalk_init_51 : decode b_KnowledgeWalk_init 51 = .ok (.aload_n 0, 1) := by decide +kernel
theorem d_KnowledgeWalk_init_52 : decode b_KnowledgeWalk_init 52 = .ok (.aload_n 3, 1) := by decide +kernel
theorem d_KnowledgeWalk_init_53 : decode b_KnowledgeWalk_init 53 = .ok (.putfield 35, 3) := by decide +kernel
theorem d_KnowledgeWalk_init_56 : decode b_KnowledgeWalk_init 56 = .ok (.return_, 1) := by decide +kernel
theorem d_KnowledgeWalk_walk_0 : decode b_KnowledgeWalk_walk 0 = .ok (.aload_n 0, 1) := by decide +kernel
theorem d_KnowledgeWalk_walk_1 : decode b_KnowledgeWalk_walk 1 = .ok (.aload_n 1, 1) := by decide +kernel
theorem d_KnowledgeWalk_walk_2 : decode b_KnowledgeWalk_walk 2 = .ok (.putfield 39, 3) := by decide +kernel
theorem d_KnowledgeWalk_walk_5 : decode b_KnowledgeWalk_walk 5 = .ok (.aload_n 0, 1) := by decide +kernel
theorem d_KnowledgeWalk_walk_6 : decode b_KnowledgeWalk_walk 6 = .ok (.getfield 39, 3) := by decide +kernel
theorem d_KnowledgeWalk_walk_9 : decode b_KnowledgeWalk_walk 9 = .ok (.invokevirtual 43, 3) := by decide +kernel
theorem d_KnowledgeWalk_walk_12 : decode b_KnowledgeWalk_walk 12 = .ok (.aload_n 0, 1) := by decide +kernel
theorem d_KnowledgeWalk_walk_13 : decode b_KnowledgeWalk_walk 13 = .ok (.getfield 35, 3) := by decide +kernel
theorem d_KnowledgeWalk_walk_16 : decode b_KnowledgeWalk_walk 16 = .ok (.invokevirtual 48, 3) := by decide +kernel
theorem d_KnowledgeWalk_walk_19 : decode b_KnowledgeWalk_walk 19 = .ok (.aload_n 0, 1) := by decide +kernel
theorem d_KnowledgeWalk_walk_20 : decode b_KnowledgeWalk_walk 20 = .ok (.getfield 31, 3) := by decide +kernel
theorem d_KnowledgeWalk_walk_23 : decode b_KnowledgeWalk_walk 23 = .ok (.invokevirtual 53, 3) := by decide +kernel
theorem d_KnowledgeWalk_walk_26 : decode b_KnowledgeWalk_walk 26 = .ok (.aload_n 0, 1) := by decide +kernel
theorem d_KnowledgeWalk_walk_27 : decode b_KnowledgeWalk_walk 27 = .ok (.getfield 15, 3) := by decide +kernel
theorem d_KnowledgeWalk_walk_30 : decode b_KnowledgeWalk_walk 30 = .ok (.iconst 0, 1) := by decide +kernel
theorem d_KnowledgeWalk_walk_31 : decode b_KnowledgeWalk_walk 31 = .ok (.invokestatic 56, 3) := by decide +kernel
theorem d_KnowledgeWalk_walk_34 : decode b_KnowledgeWalk_walk 34 = .ok (.aload_n 0, 1) := by decide +kernel
theorem d_KnowledgeWalk_walk_35 : decode b_KnowledgeWalk_walk 35 = .ok (.getfield 18, 3) := by decide +kernel
theorem d_KnowledgeWalk_walk_38 : decode b_KnowledgeWalk_walk 38 = .ok (.iconst 0, 1) := by decide +kernel
theorem d_KnowledgeWalk_walk_39 : decode b_KnowledgeWalk_walk 39 = .ok (.invokestatic 56, 3) := by decide +kernel
theorem d_KnowledgeWalk_walk_42 : decode b_KnowledgeWalk_walk 42 = .ok (.aload_n 0, 1) := by decide +kernel
theorem d_KnowledgeWalk_walk_43 : decode b_KnowledgeWalk_walk 43 = .ok (.getfield 21, 3) := by decide +kernel
theorem d_KnowledgeWalk_walk_46 : decode b_KnowledgeWalk_walk 46 = .ok (.iconst 0, 1) := by decide +kernel
theorem d_KnowledgeWalk_walk_47 : decode b_KnowledgeWalk_walk 47 = .ok (.invokestatic 56, 3) := by decide +kernel
theorem d_KnowledgeWalk_walk_50 : decode b_KnowledgeWalk_walk 50 = .ok (.aload_n 0, 1) := by decide +kernel
theorem d_KnowledgeWalk_walk_51 : decode b_KnowledgeWalk_walk 51 = .ok (.iconst 0, 1) := by decide +kernel
theorem d_KnowledgeWalk_walk_52 : decode b_KnowledgeWalk_walk 52 = .ok (.invokevirtual 62, 3) := by decide +kernel
theorem d_KnowledgeWalk_walk_55 : decode b_KnowledgeWalk_walk 55 = .ok (.return_, 1) := by decide +kernel
theorem d_KnowledgeWalk_spread_0 : decode b_KnowledgeWalk_spread 0 = .ok (.aload_n 0, 1) := by decide +kernel
theorem d_KnowledgeWalk_spread_1 : decode b_KnowledgeWalk_spread 1 = .ok (.getfield 35, 3) := by decide +kernel
theorem d_KnowledgeWalk_spread_4 : decode b_KnowledgeWalk_spread 4 = .ok (.aload_n 0, 1) := by decide +kernel
theorem d_KnowledgeWalk_spread_5 : decode b_KnowledgeWalk_spread 5 = .ok (.getfield 31, 3) := by decide +kernel
theorem d_KnowledgeWalk_spread_8 : decode b_KnowledgeWalk_spread 8 = .ok (.invokevirtual 66, 3) := by decide +kernel
theorem d_KnowledgeWalk_spread_11 : decode b_KnowledgeWalk_spread 11 = .ok (.bipush 21, 2) := by decide +kernel
theorem d_KnowledgeWalk_spread_13 : decode b_KnowledgeWalk_spread 13 = .ok (.lshl, 1) := by decide +kernel
theorem d_KnowledgeWalk_spread_14 : decode b_KnowledgeWalk_spread 14 = .ok (.aload_n 0, 1) := by decide +kernel
theorem d_KnowledgeWalk_spread_15 : decode b_KnowledgeWalk_spread 15 = .ok (.invokevirtual 70, 3) := by decide +kernel
theorem d_KnowledgeWalk_spread_18 : decode b_KnowledgeWalk_spread 18 = .ok (.lor, 1) := by decide +kernel
theorem d_KnowledgeWalk_spread_19 : decode b_KnowledgeWalk_spread 19 = .ok (.invokevirtual 73, 3) := by decide +kernel
theorem d_KnowledgeWalk_spread_22 : decode b_KnowledgeWalk_spread 22 = .ok (.ifCond .ne 4, 3) := by decide +kernel
theorem d_KnowledgeWalk_spread_25 : decode b_KnowledgeWalk_spread 25 = .ok (.return_, 1) := by decide +kernel
theorem d_KnowledgeWalk_spread_26 : decode b_KnowledgeWalk_spread 26 = .ok (.iconst 1, 1) := by decide +kernel
theorem d_KnowledgeWalk_spread_27 : decode b_KnowledgeWalk_spread 27 = .ok (.istore_n 2, 1) := by decide +kernel
theorem d_KnowledgeWalk_spread_28 : decode b_KnowledgeWalk_spread 28 = .ok (.iconst 0, 1) := by decide +kernel
theorem d_KnowledgeWalk_spread_29 : decode b_KnowledgeWalk_spread 29 = .ok (.istore_n 3, 1) := by decide +kernel
theorem d_KnowledgeWalk_spread_30 : decode b_KnowledgeWalk_spread 30 = .ok (.iload_n 3, 1) := by decide +kernel
theorem d_KnowledgeWalk_spread_31 : decode b_KnowledgeWalk_spread 31 = .ok (.aload_n 0, 1) := by decide +kernel
theorem d_KnowledgeWalk_spread_32 : decode b_KnowledgeWalk_spread 32 = .ok (.getfield 27, 3) := by decide +kernel
theorem d_KnowledgeWalk_spread_35 : decode b_KnowledgeWalk_spread 35 = .ok (.getfield 77, 3) := by decide +kernel
theorem d_KnowledgeWalk_spread_38 : decode b_KnowledgeWalk_spread 38 = .ok (.if_icmp .ge 34, 3) := by decide +kernel
theorem d_KnowledgeWalk_spread_41 : decode b_KnowledgeWalk_spread 41 = .ok (.aload_n 0, 1) := by decide +kernel
theorem d_KnowledgeWalk_spread_42 : decode b_KnowledgeWalk_spread 42 = .ok (.getfield 31, 3) := by decide +kernel
theorem d_KnowledgeWalk_spread_45 : decode b_KnowledgeWalk_spread 45 = .ok (.iload_n 3, 1) := by decide +kernel
theorem d_KnowledgeWalk_spread_46 : decode b_KnowledgeWalk_spread 46 = .ok (.invokevirtual 83, 3) := by decide +kernel
theorem d_KnowledgeWalk_spread_49 : decode b_KnowledgeWalk_spread 49 = .ok (.istore 4, 2) := by decide +kernel
theorem d_KnowledgeWalk_spread_51 : decode b_KnowledgeWalk_spread 51 = .ok (.iload 4, 2) := by decide +kernel
theorem d_KnowledgeWalk_spread_53 : decode b_KnowledgeWalk_spread 53 = .ok (.iconst (-1), 1) := by decide +kernel
theorem d_KnowledgeWalk_spread_54 : decode b_KnowledgeWalk_spread 54 = .ok (.if_icmp .eq 12, 3) := by decide +kernel
theorem d_KnowledgeWalk_spread_57 : decode b_KnowledgeWalk_spread 57 = .ok (.iconst 0, 1) := by decide +kernel
theorem d_KnowledgeWalk_spread_58 : decode b_KnowledgeWalk_spread 58 = .ok (.istore_n 2, 1) := by decide +kernel
theorem d_KnowledgeWalk_spread_59 : decode b_KnowledgeWalk_spread 59 = .ok (.aload_n 0, 1) := by decide +kernel
theorem d_KnowledgeWalk_spread_60 : decode b_KnowledgeWalk_spread 60 = .ok (.iload 4, 2) := by decide +kernel
theorem d_KnowledgeWalk_spread_62 : decode b_KnowledgeWalk_spread 62 = .ok (.iload_n 1, 1) := by decide +kernel
theorem d_KnowledgeWalk_spread_63 : decode b_KnowledgeWalk_spread 63 = .ok (.invokevirtual 87, 3) := by decide +kernel
theorem d_KnowledgeWalk_spread_66 : decode b_KnowledgeWalk_spread 66 = .ok (.iinc 3 1, 3) := by decide +kernel
theorem d_KnowledgeWalk_spread_69 : decode b_KnowledgeWalk_spread 69 = .ok (.goto (-39), 3) := by decide +kernel
theorem d_KnowledgeWalk_spread_72 : decode b_KnowledgeWalk_spread 72 = .ok (.iload_n 2, 1) := by decide +kernel
theorem d_KnowledgeWalk_spread_73 : decode b_KnowledgeWalk_spread 73 = .ok (.ifCond .eq 46, 3) := by decide +kernel
theorem d_KnowledgeWalk_spread_76 : decode b_KnowledgeWalk_spread 76 = .ok (.aload_n 0, 1) := by decide +kernel
theorem d_KnowledgeWalk_spread_77 : decode b_KnowledgeWalk_spread 77 = .ok (.getfield 31, 3) := by decide +kernel
theorem d_KnowledgeWalk_spread_80 : decode b_KnowledgeWalk_spread 80 = .ok (.aload_n 0, 1) := by decide +kernel
theorem d_KnowledgeWalk_spread_81 : decode b_KnowledgeWalk_spread 81 = .ok (.iconst 0, 1) := by decide +kernel
theorem d_KnowledgeWalk_spread_82 : decode b_KnowledgeWalk_spread 82 = .ok (.invokevirtual 91, 3) := by decide +kernel
theorem d_KnowledgeWalk_spread_85 : decode b_KnowledgeWalk_spread 85 = .ok (.aload_n 0, 1) := by decide +kernel
theorem d_KnowledgeWalk_spread_86 : decode b_KnowledgeWalk_spread 86 = .ok (.iconst 1, 1) := by decide +kernel
theorem d_KnowledgeWalk_spread_87 : decode b_KnowledgeWalk_spread 87 = .ok (.invokevirtual 91, 3) := by decide +kernel
theorem d_KnowledgeWalk_spread_90 : decode b_KnowledgeWalk_spread 90 = .ok (.aload_n 0, 1) := by decide +kernel
theorem d_KnowledgeWalk_spread_91 : decode b_KnowledgeWalk_spread 91 = .ok (.iconst 2, 1) := by decide +kernel
theorem d_KnowledgeWalk_spread_92 : decode b_KnowledgeWalk_spread 92 = .ok (.invokevirtual 91, 3) := by decide +kernel
theorem d_KnowledgeWalk_spread_95 : decode b_KnowledgeWalk_spread 95 = .ok (.invokevirtual 94, 3) := by decide +kernel
theorem d_KnowledgeWalk_spread_98 : decode b_KnowledgeWalk_spread 98 = .ok (.istore_n 3, 1) := by decide +kernel
theorem d_KnowledgeWalk_spread_99 : decode b_KnowledgeWalk_spread 99 = .ok (.aload_n 0, 1) := by decide +kernel
theorem d_KnowledgeWalk_spread_100 : decode b_KnowledgeWalk_spread 100 = .ok (.getfield 39, 3) := by decide +kernel
theorem d_KnowledgeWalk_spread_103 : decode b_KnowledgeWalk_spread 103 = .ok (.aload_n 0, 1) := by decide +kernel
theorem d_KnowledgeWalk_spread_104 : decode b_KnowledgeWalk_spread 104 = .ok (.getfield 31, 3) := by decide +kernel
theorem d_KnowledgeWalk_spread_107 : decode b_KnowledgeWalk_spread 107 = .ok (.invokevirtual 98, 3) := by decide +kernel
theorem d_KnowledgeWalk_spread_110 : decode b_KnowledgeWalk_spread 110 = .ok (.iload_n 3, 1) := by decide +kernel
theorem d_KnowledgeWalk_spread_111 : decode b_KnowledgeWalk_spread 111 = .ok (.aload_n 0, 1) := by decide +kernel
theorem d_KnowledgeWalk_spread_112 : decode b_KnowledgeWalk_spread 112 = .ok (.getfield 9, 3) := by decide +kernel
theorem d_KnowledgeWalk_spread_115 : decode b_KnowledgeWalk_spread 115 = .ok (.iload_n 1, 1) := by decide +kernel
theorem d_KnowledgeWalk_spread_116 : decode b_KnowledgeWalk_spread 116 = .ok (.invokevirtual 101, 3) := by decide +kernel
theorem d_KnowledgeWalk_spread_119 : decode b_KnowledgeWalk_spread 119 = .ok (.return_, 1) := by decide +kernel
theorem d_KnowledgeWalk_rowsKey_0 : decode b_KnowledgeWalk_rowsKey 0 = .ok (.lconst 0, 1) := by decide +kernel
theorem d_KnowledgeWalk_rowsKey_1 : decode b_KnowledgeWalk_rowsKey 1 = .ok (.lstore_n 1, 1) := by decide +kernel
theorem d_KnowledgeWalk_rowsKey_2 : decode b_KnowledgeWalk_rowsKey 2 = .ok (.iconst 0, 1) := by decide +kernel
theorem d_KnowledgeWalk_rowsKey_3 : decode b_KnowledgeWalk_rowsKey 3 = .ok (.istore_n 3, 1) := by decide +kernel
theorem d_KnowledgeWalk_rowsKey_4 : decode b_KnowledgeWalk_rowsKey 4 = .ok (.iload_n 3, 1) := by decide +kernel
theorem d_KnowledgeWalk_rowsKey_5 : decode b_KnowledgeWalk_rowsKey 5 = .ok (.iconst 4, 1) := by decide +kernel
theorem d_KnowledgeWalk_rowsKey_6 : decode b_KnowledgeWalk_rowsKey 6 = .ok (.if_icmp .ge 28, 3) := by decide +kernel
theorem d_KnowledgeWalk_rowsKey_9 : decode b_KnowledgeWalk_rowsKey 9 = .ok (.lload_n 1, 1) := by decide +kernel
theorem d_KnowledgeWalk_rowsKey_10 : decode b_KnowledgeWalk_rowsKey 10 = .ok (.iconst 3, 1) := by decide +kernel
theorem d_KnowledgeWalk_rowsKey_11 : decode b_KnowledgeWalk_rowsKey 11 = .ok (.aload_n 0, 1) := by decide +kernel
theorem d_KnowledgeWalk_rowsKey_12 : decode b_KnowledgeWalk_rowsKey 12 = .ok (.getfield 18, 3) := by decide +kernel
theorem d_KnowledgeWalk_rowsKey_15 : decode b_KnowledgeWalk_rowsKey 15 = .ok (.iload_n 3, 1) := by decide +kernel
theorem d_KnowledgeWalk_rowsKey_16 : decode b_KnowledgeWalk_rowsKey 16 = .ok (.iaload, 1) := by decide +kernel
theorem d_KnowledgeWalk_rowsKey_17 : decode b_KnowledgeWalk_rowsKey 17 = .ok (.imul, 1) := by decide +kernel
theorem d_KnowledgeWalk_rowsKey_18 : decode b_KnowledgeWalk_rowsKey 18 = .ok (.lshl, 1) := by decide +kernel
theorem d_KnowledgeWalk_rowsKey_19 : decode b_KnowledgeWalk_rowsKey 19 = .ok (.aload_n 0, 1) := by decide +kernel
theorem d_KnowledgeWalk_rowsKey_20 : decode b_KnowledgeWalk_rowsKey 20 = .ok (.getfield 15, 3) := by decide +kernel
theorem d_KnowledgeWalk_rowsKey_23 : decode b_KnowledgeWalk_rowsKey 23 = .ok (.iload_n 3, 1) := by decide +kernel
theorem d_KnowledgeWalk_rowsKey_24 : decode b_KnowledgeWalk_rowsKey 24 = .ok (.iaload, 1) := by decide +kernel
theorem d_KnowledgeWalk_rowsKey_25 : decode b_KnowledgeWalk_rowsKey 25 = .ok (.i2l, 1) := by decide +kernel
theorem d_KnowledgeWalk_rowsKey_26 : decode b_KnowledgeWalk_rowsKey 26 = .ok (.lor, 1) := by decide +kernel
theorem d_KnowledgeWalk_rowsKey_27 : decode b_KnowledgeWalk_rowsKey 27 = .ok (.lstore_n 1, 1) := by decide +kernel
theorem d_KnowledgeWalk_rowsKey_28 : decode b_KnowledgeWalk_rowsKey 28 = .ok (.iinc 3 1, 3) := by decide +kernel
theorem d_KnowledgeWalk_rowsKey_31 : decode b_KnowledgeWalk_rowsKey 31 = .ok (.goto (-27), 3) := by decide +kernel
theorem d_KnowledgeWalk_rowsKey_34 : decode b_KnowledgeWalk_rowsKey 34 = .ok (.lload_n 1, 1) := by decide +kernel
theorem d_KnowledgeWalk_rowsKey_35 : decode b_KnowledgeWalk_rowsKey 35 = .ok (.lreturn, 1) := by decide +kernel
theorem d_KnowledgeWalk_goNext_0 : decode b_KnowledgeWalk_goNext 0 = .ok (.aload_n 0, 1) := by decide +kernel
theorem d_KnowledgeWalk_goNext_1 : decode b_KnowledgeWalk_goNext 1 = .ok (.getfield 27, 3) := by decide +kernel
theorem d_KnowledgeWalk_goNext_4 : decode b_KnowledgeWalk_goNext 4 = .ok (.getfield 105, 3) := by decide +kernel
theorem d_KnowledgeWalk_goNext_7 : decode b_KnowledgeWalk_goNext 7 = .ok (.iload_n 1, 1) := by decide +kernel
theorem d_KnowledgeWalk_goNext_8 : decode b_KnowledgeWalk_goNext 8 = .ok (.iaload, 1) := by decide +kernel
theorem d_KnowledgeWalk_goNext_9 : decode b_KnowledgeWalk_goNext 9 = .ok (.tableswitch 85 0 4 #[35, 44, 44, 53, 62], 35) := by decide +kernel
theorem d_KnowledgeWalk_goNext_44 : decode b_KnowledgeWalk_goNext 44 = .ok (.aload_n 0, 1) := by decide +kernel
theorem d_KnowledgeWalk_goNext_45 : decode b_KnowledgeWalk_goNext 45 = .ok (.iload_n 1, 1) := by decide +kernel
theorem d_KnowledgeWalk_goNext_46 : decode b_KnowledgeWalk_goNext 46 = .ok (.iload_n 2, 1) := by decide +kernel
theorem d_KnowledgeWalk_goNext_47 : decode b_KnowledgeWalk_goNext 47 = .ok (.invokevirtual 108, 3) := by decide +kernel
theorem d_KnowledgeWalk_goNext_50 : decode b_KnowledgeWalk_goNext 50 = .ok (.goto 53, 3) := by decide +kernel
theorem d_KnowledgeWalk_goNext_53 : decode b_KnowledgeWalk_goNext 53 = .ok (.aload_n 0, 1) := by decide +kernel
theorem d_KnowledgeWalk_goNext_54 : decode b_KnowledgeWalk_goNext 54 = .ok (.iload_n 1, 1) := by decide +kernel
theorem d_KnowledgeWalk_goNext_55 : decode b_KnowledgeWalk_goNext 55 = .ok (.iload_n 2, 1) := by decide +kernel
theorem d_KnowledgeWalk_goNext_56 : decode b_KnowledgeWalk_goNext 56 = .ok (.invokevirtual 111, 3) := by decide +kernel
theorem d_KnowledgeWalk_goNext_59 : decode b_KnowledgeWalk_goNext 59 = .ok (.goto 44, 3) := by decide +kernel
theorem d_KnowledgeWalk_goNext_62 : decode b_KnowledgeWalk_goNext 62 = .ok (.aload_n 0, 1) := by decide +kernel
theorem d_KnowledgeWalk_goNext_63 : decode b_KnowledgeWalk_goNext 63 = .ok (.iload_n 1, 1) := by decide +kernel
theorem d_KnowledgeWalk_goNext_64 : decode b_KnowledgeWalk_goNext 64 = .ok (.iload_n 2, 1) := by decide +kernel
theorem d_KnowledgeWalk_goNext_65 : decode b_KnowledgeWalk_goNext 65 = .ok (.invokevirtual 114, 3) := by decide +kernel
theorem d_KnowledgeWalk_goNext_68 : decode b_KnowledgeWalk_goNext 68 = .ok (.goto 35, 3) := by decide +kernel
theorem d_KnowledgeWalk_goNext_71 : decode b_KnowledgeWalk_goNext 71 = .ok (.aload_n 0, 1) := by decide +kernel
theorem d_KnowledgeWalk_goNext_72 : decode b_KnowledgeWalk_goNext 72 = .ok (.iload_n 1, 1) := by decide +kernel
theorem d_KnowledgeWalk_goNext_73 : decode b_KnowledgeWalk_goNext 73 = .ok (.aload_n 0, 1) := by decide +kernel
theorem d_KnowledgeWalk_goNext_74 : decode b_KnowledgeWalk_goNext 74 = .ok (.iconst 3, 1) := by decide +kernel
theorem d_KnowledgeWalk_goNext_75 : decode b_KnowledgeWalk_goNext 75 = .ok (.invokevirtual 91, 3) := by decide +kernel
theorem d_KnowledgeWalk_goNext_78 : decode b_KnowledgeWalk_goNext 78 = .ok (.aload_n 0, 1) := by decide +kernel
theorem d_KnowledgeWalk_goNext_79 : decode b_KnowledgeWalk_goNext 79 = .ok (.getfield 18, 3) := by decide +kernel
theorem d_KnowledgeWalk_goNext_82 : decode b_KnowledgeWalk_goNext 82 = .ok (.iconst 3, 1) := by decide +kernel
theorem d_KnowledgeWalk_goNext_83 : decode b_KnowledgeWalk_goNext 83 = .ok (.iaload, 1) := by decide +kernel
theorem d_KnowledgeWalk_goNext_84 : decode b_KnowledgeWalk_goNext 84 = .ok (.iconst 1, 1) := by decide +kernel
theorem d_KnowledgeWalk_goNext_85 : decode b_KnowledgeWalk_goNext 85 = .ok (.iadd, 1) := by decide +kernel
theorem d_KnowledgeWalk_goNext_86 : decode b_KnowledgeWalk_goNext 86 = .ok (.iconst 0, 1) := by decide +kernel
theorem d_KnowledgeWalk_goNext_87 : decode b_KnowledgeWalk_goNext 87 = .ok (.iload_n 2, 1) := by decide +kernel
theorem d_KnowledgeWalk_goNext_88 : decode b_KnowledgeWalk_goNext 88 = .ok (.invokevirtual 117, 3) := by decide +kernel
theorem d_KnowledgeWalk_goNext_91 : decode b_KnowledgeWalk_goNext 91 = .ok (.goto 12, 3) := by decide +kernel
theorem d_KnowledgeWalk_goNext_94 : decode b_KnowledgeWalk_goNext 94 = .ok (.aload_n 0, 1) := by decide +kernel
theorem d_KnowledgeWalk_goNext_95 : decode b_KnowledgeWalk_goNext 95 = .ok (.iload_n 1, 1) := by decide +kernel
theorem d_KnowledgeWalk_goNext_96 : decode b_KnowledgeWalk_goNext 96 = .ok (.iconst 0, 1) := by decide +kernel
theorem d_KnowledgeWalk_goNext_97 : decode b_KnowledgeWalk_goNext 97 = .ok (.iconst 0, 1) := by decide +kernel
theorem d_KnowledgeWalk_goNext_98 : decode b_KnowledgeWalk_goNext 98 = .ok (.iconst 0, 1) := by decide +kernel
theorem d_KnowledgeWalk_goNext_99 : decode b_KnowledgeWalk_goNext 99 = .ok (.iload_n 2, 1) := by decide +kernel
theorem d_KnowledgeWalk_goNext_100 : decode b_KnowledgeWalk_goNext 100 = .ok (.invokevirtual 117, 3) := by decide +kernel
theorem d_KnowledgeWalk_goNext_103 : decode b_KnowledgeWalk_goNext 103 = .ok (.return_, 1) := by decide +kernel
theorem d_KnowledgeWalk_goRead_0 : decode b_KnowledgeWalk_goRead 0 = .ok (.aload_n 0, 1) := by decide +kernel
theorem d_KnowledgeWalk_goRead_1 : decode b_KnowledgeWalk_goRead 1 = .ok (.getfield 27, 3) := by decide +kernel
theorem d_KnowledgeWalk_goRead_4 : decode b_KnowledgeWalk_goRead 4 = .ok (.getfield 121, 3) := by decide +kernel
theorem d_KnowledgeWalk_goRead_7 : decode b_KnowledgeWalk_goRead 7 = .ok (.iload_n 1, 1) := by decide +kernel
theorem d_KnowledgeWalk_goRead_8 : decode b_KnowledgeWalk_goRead 8 = .ok (.iaload, 1) := by decide +kernel
theorem d_KnowledgeWalk_goRead_9 : decode b_KnowledgeWalk_goRead 9 = .ok (.istore_n 3, 1) := by decide +kernel
theorem d_KnowledgeWalk_goRead_10 : decode b_KnowledgeWalk_goRead 10 = .ok (.aload_n 0, 1) := by decide +kernel
theorem d_KnowledgeWalk_goRead_11 : decode b_KnowledgeWalk_goRead 11 = .ok (.iload_n 1, 1) := by decide +kernel
theorem d_KnowledgeWalk_goRead_12 : decode b_KnowledgeWalk_goRead 12 = .ok (.invokevirtual 124, 3) := by decide +kernel
theorem d_KnowledgeWalk_goRead_15 : decode b_KnowledgeWalk_goRead 15 = .ok (.istore 4, 2) := by decide +kernel
theorem d_KnowledgeWalk_goRead_17 : decode b_KnowledgeWalk_goRead 17 = .ok (.iload 4, 2) := by decide +kernel
theorem d_KnowledgeWalk_goRead_19 : decode b_KnowledgeWalk_goRead 19 = .ok (.aload_n 0, 1) := by decide +kernel
theorem d_KnowledgeWalk_goRead_20 : decode b_KnowledgeWalk_goRead 20 = .ok (.getfield 18, 3) := by decide +kernel
theorem d_KnowledgeWalk_goRead_23 : decode b_KnowledgeWalk_goRead 23 = .ok (.iload_n 3, 1) := by decide +kernel
theorem d_KnowledgeWalk_goRead_24 : decode b_KnowledgeWalk_goRead 24 = .ok (.iaload, 1) := by decide +kernel
theorem d_KnowledgeWalk_goRead_25 : decode b_KnowledgeWalk_goRead 25 = .ok (.if_icmp .gt 25, 3) := by decide +kernel
theorem d_KnowledgeWalk_goRead_28 : decode b_KnowledgeWalk_goRead 28 = .ok (.aload_n 0, 1) := by decide +kernel
theorem d_KnowledgeWalk_goRead_29 : decode b_KnowledgeWalk_goRead 29 = .ok (.iload_n 1, 1) := by decide +kernel
theorem d_KnowledgeWalk_goRead_30 : decode b_KnowledgeWalk_goRead 30 = .ok (.aload_n 0, 1) := by decide +kernel
theorem d_KnowledgeWalk_goRead_31 : decode b_KnowledgeWalk_goRead 31 = .ok (.iload_n 3, 1) := by decide +kernel
theorem d_KnowledgeWalk_goRead_32 : decode b_KnowledgeWalk_goRead 32 = .ok (.iload 4, 2) := by decide +kernel
theorem d_KnowledgeWalk_goRead_34 : decode b_KnowledgeWalk_goRead 34 = .ok (.invokevirtual 127, 3) := by decide +kernel
theorem d_KnowledgeWalk_goRead_37 : decode b_KnowledgeWalk_goRead 37 = .ok (.iconst 0, 1) := by decide +kernel
theorem d_KnowledgeWalk_goRead_38 : decode b_KnowledgeWalk_goRead 38 = .ok (.iload 4, 2) := by decide +kernel
theorem d_KnowledgeWalk_goRead_40 : decode b_KnowledgeWalk_goRead 40 = .ok (.iload_n 2, 1) := by decide +kernel
theorem d_KnowledgeWalk_goRead_41 : decode b_KnowledgeWalk_goRead 41 = .ok (.invokevirtual 117, 3) := by decide +kernel
theorem d_KnowledgeWalk_goRead_44 : decode b_KnowledgeWalk_goRead 44 = .ok (.iinc 4 1, 3) := by decide +kernel
theorem d_KnowledgeWalk_goRead_47 : decode b_KnowledgeWalk_goRead 47 = .ok (.goto (-30), 3) := by decide +kernel
theorem d_KnowledgeWalk_goRead_50 : decode b_KnowledgeWalk_goRead 50 = .ok (.return_, 1) := by decide +kernel
theorem d_KnowledgeWalk_goWrite_0 : decode b_KnowledgeWalk_goWrite 0 = .ok (.aload_n 0, 1) := by decide +kernel
theorem d_KnowledgeWalk_goWrite_1 : decode b_KnowledgeWalk_goWrite 1 = .ok (.getfield 27, 3) := by decide +kernel
theorem d_KnowledgeWalk_goWrite_4 : decode b_KnowledgeWalk_goWrite 4 = .ok (.getfield 121, 3) := by decide +kernel
theorem d_KnowledgeWalk_goWrite_7 : decode b_KnowledgeWalk_goWrite 7 = .ok (.iload_n 1, 1) := by decide +kernel
theorem d_KnowledgeWalk_goWrite_8 : decode b_KnowledgeWalk_goWrite 8 = .ok (.iaload, 1) := by decide +kernel
theorem d_KnowledgeWalk_goWrite_9 : decode b_KnowledgeWalk_goWrite 9 = .ok (.istore_n 3, 1) := by decide +kernel
theorem d_KnowledgeWalk_goWrite_10 : decode b_KnowledgeWalk_goWrite 10 = .ok (.aload_n 0, 1) := by decide +kernel
theorem d_KnowledgeWalk_goWrite_11 : decode b_KnowledgeWalk_goWrite 11 = .ok (.iload_n 1, 1) := by decide +kernel
theorem d_KnowledgeWalk_goWrite_12 : decode b_KnowledgeWalk_goWrite 12 = .ok (.invokevirtual 124, 3) := by decide +kernel
theorem d_KnowledgeWalk_goWrite_15 : decode b_KnowledgeWalk_goWrite 15 = .ok (.iconst 1, 1) := by decide +kernel
theorem d_KnowledgeWalk_goWrite_16 : decode b_KnowledgeWalk_goWrite 16 = .ok (.iadd, 1) := by decide +kernel
theorem d_KnowledgeWalk_goWrite_17 : decode b_KnowledgeWalk_goWrite 17 = .ok (.istore 4, 2) := by decide +kernel
theorem d_KnowledgeWalk_goWrite_19 : decode b_KnowledgeWalk_goWrite 19 = .ok (.iload 4, 2) := by decide +kernel
theorem d_KnowledgeWalk_goWrite_21 : decode b_KnowledgeWalk_goWrite 21 = .ok (.aload_n 0, 1) := by decide +kernel
theorem d_KnowledgeWalk_goWrite_22 : decode b_KnowledgeWalk_goWrite 22 = .ok (.getfield 18, 3) := by decide +kernel
theorem d_KnowledgeWalk_goWrite_25 : decode b_KnowledgeWalk_goWrite 25 = .ok (.iload_n 3, 1) := by decide +kernel
theorem d_KnowledgeWalk_goWrite_26 : decode b_KnowledgeWalk_goWrite 26 = .ok (.iaload, 1) := by decide +kernel
theorem d_KnowledgeWalk_goWrite_27 : decode b_KnowledgeWalk_goWrite 27 = .ok (.iconst 1, 1) := by decide +kernel
theorem d_KnowledgeWalk_goWrite_28 : decode b_KnowledgeWalk_goWrite 28 = .ok (.iadd, 1) := by decide +kernel
theorem d_KnowledgeWalk_goWrite_29 : decode b_KnowledgeWalk_goWrite 29 = .ok (.if_icmp .gt 30, 3) := by decide +kernel
theorem d_KnowledgeWalk_goWrite_32 : decode b_KnowledgeWalk_goWrite 32 = .ok (.aload_n 0, 1) := by decide +kernel
theorem d_KnowledgeWalk_goWrite_33 : decode b_KnowledgeWalk_goWrite 33 = .ok (.iload_n 3, 1) := by decide +kernel
theorem d_KnowledgeWalk_goWrite_34 : decode b_KnowledgeWalk_goWrite 34 = .ok (.iload 4, 2) := by decide +kernel
theorem d_KnowledgeWalk_goWrite_36 : decode b_KnowledgeWalk_goWrite 36 = .ok (.invokevirtual 131, 3) := by decide +kernel
theorem d_KnowledgeWalk_goWrite_39 : decode b_KnowledgeWalk_goWrite 39 = .ok (.ifCond .ne 14, 3) := by decide +kernel
theorem d_KnowledgeWalk_goWrite_42 : decode b_KnowledgeWalk_goWrite 42 = .ok (.aload_n 0, 1) := by decide +kernel
theorem d_KnowledgeWalk_goWrite_43 : decode b_KnowledgeWalk_goWrite 43 = .ok (.iload_n 1, 1) := by decide +kernel
theorem d_KnowledgeWalk_goWrite_44 : decode b_KnowledgeWalk_goWrite 44 = .ok (.iconst 0, 1) := by decide +kernel
theorem d_KnowledgeWalk_goWrite_45 : decode b_KnowledgeWalk_goWrite 45 = .ok (.iload 4, 2) := by decide +kernel
theorem d_KnowledgeWalk_goWrite_47 : decode b_KnowledgeWalk_goWrite 47 = .ok (.iload 4, 2) := by decide +kernel
theorem d_KnowledgeWalk_goWrite_49 : decode b_KnowledgeWalk_goWrite 49 = .ok (.iload_n 2, 1) := by decide +kernel
theorem d_KnowledgeWalk_goWrite_50 : decode b_KnowledgeWalk_goWrite 50 = .ok (.invokevirtual 117, 3) := by decide +kernel
theorem d_KnowledgeWalk_goWrite_53 : decode b_KnowledgeWalk_goWrite 53 = .ok (.iinc 4 1, 3) := by decide +kernel
theorem d_KnowledgeWalk_goWrite_56 : decode b_KnowledgeWalk_goWrite 56 = .ok (.goto (-37), 3) := by decide +kernel
theorem d_KnowledgeWalk_goWrite_59 : decode b_KnowledgeWalk_goWrite 59 = .ok (.return_, 1) := by decide +kernel
theorem d_KnowledgeWalk_goAdd_0 : decode b_KnowledgeWalk_goAdd 0 = .ok (.aload_n 0, 1) := by decide +kernel
theorem d_KnowledgeWalk_goAdd_1 : decode b_KnowledgeWalk_goAdd 1 = .ok (.getfield 27, 3) := by decide +kernel
theorem d_KnowledgeWalk_goAdd_4 : decode b_KnowledgeWalk_goAdd 4 = .ok (.getfield 121, 3) := by decide +kernel
theorem d_KnowledgeWalk_goAdd_7 : decode b_KnowledgeWalk_goAdd 7 = .ok (.iload_n 1, 1) := by decide +kernel
theorem d_KnowledgeWalk_goAdd_8 : decode b_KnowledgeWalk_goAdd 8 = .ok (.iaload, 1) := by decide +kernel
theorem d_KnowledgeWalk_goAdd_9 : decode b_KnowledgeWalk_goAdd 9 = .ok (.istore_n 3, 1) := by decide +kernel
theorem d_KnowledgeWalk_goAdd_10 : decode b_KnowledgeWalk_goAdd 10 = .ok (.aload_n 0, 1) := by decide +kernel
theorem d_KnowledgeWalk_goAdd_11 : decode b_KnowledgeWalk_goAdd 11 = .ok (.iload_n 1, 1) := by decide +kernel
theorem d_KnowledgeWalk_goAdd_12 : decode b_KnowledgeWalk_goAdd 12 = .ok (.invokevirtual 124, 3) := by decide +kernel
theorem d_KnowledgeWalk_goAdd_15 : decode b_KnowledgeWalk_goAdd 15 = .ok (.istore 4, 2) := by decide +kernel
theorem d_KnowledgeWalk_goAdd_17 : decode b_KnowledgeWalk_goAdd 17 = .ok (.iload 4, 2) := by decide +kernel
theorem d_KnowledgeWalk_goAdd_19 : decode b_KnowledgeWalk_goAdd 19 = .ok (.aload_n 0, 1) := by decide +kernel
theorem d_KnowledgeWalk_goAdd_20 : decode b_KnowledgeWalk_goAdd 20 = .ok (.getfield 18, 3) := by decide +kernel
theorem d_KnowledgeWalk_goAdd_23 : decode b_KnowledgeWalk_goAdd 23 = .ok (.iload_n 3, 1) := by decide +kernel
theorem d_KnowledgeWalk_goAdd_24 : decode b_KnowledgeWalk_goAdd 24 = .ok (.iaload, 1) := by decide +kernel
theorem d_KnowledgeWalk_goAdd_25 : decode b_KnowledgeWalk_goAdd 25 = .ok (.if_icmp .gt 40, 3) := by decide +kernel
theorem d_KnowledgeWalk_goAdd_28 : decode b_KnowledgeWalk_goAdd 28 = .ok (.aload_n 0, 1) := by decide +kernel
theorem d_KnowledgeWalk_goAdd_29 : decode b_KnowledgeWalk_goAdd 29 = .ok (.iload_n 3, 1) := by decide +kernel
theorem d_KnowledgeWalk_goAdd_30 : decode b_KnowledgeWalk_goAdd 30 = .ok (.iload 4, 2) := by decide +kernel
theorem d_KnowledgeWalk_goAdd_32 : decode b_KnowledgeWalk_goAdd 32 = .ok (.iconst 1, 1) := by decide +kernel
theorem d_KnowledgeWalk_goAdd_33 : decode b_KnowledgeWalk_goAdd 33 = .ok (.iadd, 1) := by decide +kernel
theorem d_KnowledgeWalk_goAdd_34 : decode b_KnowledgeWalk_goAdd 34 = .ok (.invokevirtual 131, 3) := by decide +kernel
theorem d_KnowledgeWalk_goAdd_37 : decode b_KnowledgeWalk_goAdd 37 = .ok (.ifCond .ne 22, 3) := by decide +kernel
theorem d_KnowledgeWalk_goAdd_40 : decode b_KnowledgeWalk_goAdd 40 = .ok (.aload_n 0, 1) := by decide +kernel
theorem d_KnowledgeWalk_goAdd_41 : decode b_KnowledgeWalk_goAdd 41 = .ok (.iload_n 1, 1) := by decide +kernel
theorem d_KnowledgeWalk_goAdd_42 : decode b_KnowledgeWalk_goAdd 42 = .ok (.aload_n 0, 1) := by decide +kernel
theorem d_KnowledgeWalk_goAdd_43 : decode b_KnowledgeWalk_goAdd 43 = .ok (.iload_n 3, 1) := by decide +kernel
theorem d_KnowledgeWalk_goAdd_44 : decode b_KnowledgeWalk_goAdd 44 = .ok (.iload 4, 2) := by decide +kernel
theorem d_KnowledgeWalk_goAdd_46 : decode b_KnowledgeWalk_goAdd 46 = .ok (.invokevirtual 127, 3) := by decide +kernel
theorem d_KnowledgeWalk_goAdd_49 : decode b_KnowledgeWalk_goAdd 49 = .ok (.iload 4, 2) := by decide +kernel
theorem d_KnowledgeWalk_goAdd_51 : decode b_KnowledgeWalk_goAdd 51 = .ok (.iconst 1, 1) := by decide +kernel
theorem d_KnowledgeWalk_goAdd_52 : decode b_KnowledgeWalk_goAdd 52 = .ok (.iadd, 1) := by decide +kernel
theorem d_KnowledgeWalk_goAdd_53 : decode b_KnowledgeWalk_goAdd 53 = .ok (.iload 4, 2) := by decide +kernel
theorem d_KnowledgeWalk_goAdd_55 : decode b_KnowledgeWalk_goAdd 55 = .ok (.iload_n 2, 1) := by decide +kernel
theorem d_KnowledgeWalk_goAdd_56 : decode b_KnowledgeWalk_goAdd 56 = .ok (.invokevirtual 117, 3) := by decide +kernel
theorem d_KnowledgeWalk_goAdd_59 : decode b_KnowledgeWalk_goAdd 59 = .ok (.iinc 4 1, 3) := by decide +kernel
theorem d_KnowledgeWalk_goAdd_62 : decode b_KnowledgeWalk_goAdd 62 = .ok (.goto (-45), 3) := by decide +kernel
theorem d_KnowledgeWalk_goAdd_65 : decode b_KnowledgeWalk_goAdd 65 = .ok (.return_, 1) := by decide +kernel
theorem d_KnowledgeWalk_take_0 : decode b_KnowledgeWalk_take 0 = .ok (.iload 5, 2) := by decide +kernel
theorem d_KnowledgeWalk_take_2 : decode b_KnowledgeWalk_take 2 = .ok (.bipush 14, 2) := by decide +kernel
theorem d_KnowledgeWalk_take_4 : decode b_KnowledgeWalk_take 4 = .ok (.if_icmp .lt 4, 3) := by decide +kernel
theorem d_KnowledgeWalk_take_7 : decode b_KnowledgeWalk_take 7 = .ok (.return_, 1) := by decide +kernel
theorem d_KnowledgeWalk_take_8 : decode b_KnowledgeWalk_take 8 = .ok (.aload_n 0, 1) := by decide +kernel
theorem d_KnowledgeWalk_take_9 : decode b_KnowledgeWalk_take 9 = .ok (.getfield 27, 3) := by decide +kernel
theorem d_KnowledgeWalk_take_12 : decode b_KnowledgeWalk_take 12 = .ok (.getfield 135, 3) := by decide +kernel
theorem d_KnowledgeWalk_take_15 : decode b_KnowledgeWalk_take 15 = .ok (.iload_n 1, 1) := by decide +kernel
theorem d_KnowledgeWalk_take_16 : decode b_KnowledgeWalk_take 16 = .ok (.iaload, 1) := by decide +kernel
theorem d_KnowledgeWalk_take_17 : decode b_KnowledgeWalk_take 17 = .ok (.istore 6, 2) := by decide +kernel
theorem d_KnowledgeWalk_take_19 : decode b_KnowledgeWalk_take 19 = .ok (.aload_n 0, 1) := by decide +kernel
theorem d_KnowledgeWalk_take_20 : decode b_KnowledgeWalk_take 20 = .ok (.getfield 27, 3) := by decide +kernel
theorem d_KnowledgeWalk_take_23 : decode b_KnowledgeWalk_take 23 = .ok (.iload_n 1, 1) := by decide +kernel
theorem d_KnowledgeWalk_take_24 : decode b_KnowledgeWalk_take 24 = .ok (.invokevirtual 138, 3) := by decide +kernel
theorem d_KnowledgeWalk_take_27 : decode b_KnowledgeWalk_take 27 = .ok (.istore 7, 2) := by decide +kernel
theorem d_KnowledgeWalk_take_29 : decode b_KnowledgeWalk_take 29 = .ok (.aload_n 0, 1) := by decide +kernel
theorem d_KnowledgeWalk_take_30 : decode b_KnowledgeWalk_take 30 = .ok (.getfield 31, 3) := by decide +kernel
theorem d_KnowledgeWalk_take_33 : decode b_KnowledgeWalk_take 33 = .ok (.iload_n 1, 1) := by decide +kernel
theorem d_KnowledgeWalk_take_34 : decode b_KnowledgeWalk_take 34 = .ok (.invokevirtual 141, 3) := by decide +kernel
theorem d_KnowledgeWalk_take_37 : decode b_KnowledgeWalk_take 37 = .ok (.istore 8, 2) := by decide +kernel
theorem d_KnowledgeWalk_take_39 : decode b_KnowledgeWalk_take 39 = .ok (.aload_n 0, 1) := by decide +kernel
theorem d_KnowledgeWalk_take_40 : decode b_KnowledgeWalk_take 40 = .ok (.getfield 21, 3) := by decide +kernel
theorem d_KnowledgeWalk_take_43 : decode b_KnowledgeWalk_take 43 = .ok (.iload 6, 2) := by decide +kernel
theorem d_KnowledgeWalk_take_45 : decode b_KnowledgeWalk_take 45 = .ok (.iaload, 1) := by decide +kernel
theorem d_KnowledgeWalk_take_46 : decode b_KnowledgeWalk_take 46 = .ok (.istore 9, 2) := by decide +kernel
theorem d_KnowledgeWalk_take_48 : decode b_KnowledgeWalk_take 48 = .ok (.aload_n 0, 1) := by decide +kernel
theorem d_KnowledgeWalk_take_49 : decode b_KnowledgeWalk_take 49 = .ok (.getfield 15, 3) := by decide +kernel
theorem d_KnowledgeWalk_take_52 : decode b_KnowledgeWalk_take 52 = .ok (.iload 7, 2) := by decide +kernel
theorem d_KnowledgeWalk_take_54 : decode b_KnowledgeWalk_take 54 = .ok (.iaload, 1) := by decide +kernel
theorem d_KnowledgeWalk_take_55 : decode b_KnowledgeWalk_take 55 = .ok (.istore 10, 2) := by decide +kernel
theorem d_KnowledgeWalk_take_57 : decode b_KnowledgeWalk_take 57 = .ok (.aload_n 0, 1) := by decide +kernel
theorem d_KnowledgeWalk_take_58 : decode b_KnowledgeWalk_take 58 = .ok (.getfield 18, 3) := by decide +kernel
theorem d_KnowledgeWalk_take_61 : decode b_KnowledgeWalk_take 61 = .ok (.iload 7, 2) := by decide +kernel
theorem d_KnowledgeWalk_take_63 : decode b_KnowledgeWalk_take 63 = .ok (.iaload, 1) := by decide +kernel
theorem d_KnowledgeWalk_take_64 : decode b_KnowledgeWalk_take 64 = .ok (.istore 11, 2) := by decide +kernel
theorem d_KnowledgeWalk_take_66 : decode b_KnowledgeWalk_take 66 = .ok (.aload_n 0, 1) := by decide +kernel
theorem d_KnowledgeWalk_take_67 : decode b_KnowledgeWalk_take 67 = .ok (.getfield 31, 3) := by decide +kernel
theorem d_KnowledgeWalk_take_70 : decode b_KnowledgeWalk_take 70 = .ok (.iload_n 1, 1) := by decide +kernel
theorem d_KnowledgeWalk_take_71 : decode b_KnowledgeWalk_take 71 = .ok (.iload_n 2, 1) := by decide +kernel
theorem d_KnowledgeWalk_take_72 : decode b_KnowledgeWalk_take 72 = .ok (.invokevirtual 144, 3) := by decide +kernel
theorem d_KnowledgeWalk_take_75 : decode b_KnowledgeWalk_take 75 = .ok (.aload_n 0, 1) := by decide +kernel
theorem d_KnowledgeWalk_take_76 : decode b_KnowledgeWalk_take 76 = .ok (.getfield 21, 3) := by decide +kernel
theorem d_KnowledgeWalk_take_79 : decode b_KnowledgeWalk_take 79 = .ok (.iload 6, 2) := by decide +kernel
theorem d_KnowledgeWalk_take_81 : decode b_KnowledgeWalk_take 81 = .ok (.dup2, 1) := by decide +kernel
theorem d_KnowledgeWalk_take_82 : decode b_KnowledgeWalk_take 82 = .ok (.iaload, 1) := by decide +kernel
theorem d_KnowledgeWalk_take_83 : decode b_KnowledgeWalk_take 83 = .ok (.aload_n 0, 1) := by decide +kernel
theorem d_KnowledgeWalk_take_84 : decode b_KnowledgeWalk_take 84 = .ok (.getfield 24, 3) := by decide +kernel
theorem d_KnowledgeWalk_take_87 : decode b_KnowledgeWalk_take 87 = .ok (.iload_n 2, 1) := by decide +kernel
theorem d_KnowledgeWalk_take_88 : decode b_KnowledgeWalk_take 88 = .ok (.iaload, 1) := by decide +kernel
theorem d_KnowledgeWalk_take_89 : decode b_KnowledgeWalk_take 89 = .ok (.ior, 1) := by decide +kernel
theorem d_KnowledgeWalk_take_90 : decode b_KnowledgeWalk_take 90 = .ok (.iastore, 1) := by decide +kernel
theorem d_KnowledgeWalk_take_91 : decode b_KnowledgeWalk_take 91 = .ok (.iload_n 3, 1) := by decide +kernel
theorem d_KnowledgeWalk_take_92 : decode b_KnowledgeWalk_take 92 = .ok (.ifCond .le 41, 3) := by decide +kernel
theorem d_KnowledgeWalk_take_95 : decode b_KnowledgeWalk_take 95 = .ok (.aload_n 0, 1) := by decide +kernel
theorem d_KnowledgeWalk_take_96 : decode b_KnowledgeWalk_take 96 = .ok (.iload 7, 2) := by decide +kernel
theorem d_KnowledgeWalk_take_98 : decode b_KnowledgeWalk_take 98 = .ok (.iload_n 3, 1) := by decide +kernel
theorem d_KnowledgeWalk_take_99 : decode b_KnowledgeWalk_take 99 = .ok (.iload_n 1, 1) := by decide +kernel
theorem d_KnowledgeWalk_take_100 : decode b_KnowledgeWalk_take 100 = .ok (.iconst 1, 1) := by decide +kernel
theorem d_KnowledgeWalk_take_101 : decode b_KnowledgeWalk_take 101 = .ok (.iadd, 1) := by decide +kernel
theorem d_KnowledgeWalk_take_102 : decode b_KnowledgeWalk_take 102 = .ok (.invokevirtual 147, 3) := by decide +kernel
theorem d_KnowledgeWalk_take_105 : decode b_KnowledgeWalk_take 105 = .ok (.aload_n 0, 1) := by decide +kernel
theorem d_KnowledgeWalk_take_106 : decode b_KnowledgeWalk_take 106 = .ok (.getfield 21, 3) := by decide +kernel
theorem d_KnowledgeWalk_take_109 : decode b_KnowledgeWalk_take 109 = .ok (.iload 6, 2) := by decide +kernel
theorem d_KnowledgeWalk_take_111 : decode b_KnowledgeWalk_take 111 = .ok (.dup2, 1) := by decide +kernel
theorem d_KnowledgeWalk_take_112 : decode b_KnowledgeWalk_take 112 = .ok (.iaload, 1) := by decide +kernel
theorem d_KnowledgeWalk_take_113 : decode b_KnowledgeWalk_take 113 = .ok (.iconst 1, 1) := by decide +kernel
theorem d_KnowledgeWalk_take_114 : decode b_KnowledgeWalk_take 114 = .ok (.iload_n 1, 1) := by decide +kernel
theorem d_KnowledgeWalk_take_115 : decode b_KnowledgeWalk_take 115 = .ok (.ishl, 1) := by decide +kernel
theorem d_KnowledgeWalk_take_116 : decode b_KnowledgeWalk_take 116 = .ok (.ior, 1) := by decide +kernel
theorem d_KnowledgeWalk_take_117 : decode b_KnowledgeWalk_take 117 = .ok (.iastore, 1) := by decide +kernel
theorem d_KnowledgeWalk_take_118 : decode b_KnowledgeWalk_take 118 = .ok (.aload_n 0, 1) := by decide +kernel
theorem d_KnowledgeWalk_take_119 : decode b_KnowledgeWalk_take 119 = .ok (.getfield 24, 3) := by decide +kernel
theorem d_KnowledgeWalk_take_122 : decode b_KnowledgeWalk_take 122 = .ok (.iload_n 1, 1) := by decide +kernel
theorem d_KnowledgeWalk_take_123 : decode b_KnowledgeWalk_take 123 = .ok (.iconst 1, 1) := by decide +kernel
theorem d_KnowledgeWalk_take_124 : decode b_KnowledgeWalk_take 124 = .ok (.iadd, 1) := by decide +kernel
theorem d_KnowledgeWalk_take_125 : decode b_KnowledgeWalk_take 125 = .ok (.aload_n 0, 1) := by decide +kernel
theorem d_KnowledgeWalk_take_126 : decode b_KnowledgeWalk_take 126 = .ok (.getfield 21, 3) := by decide +kernel
theorem d_KnowledgeWalk_take_129 : decode b_KnowledgeWalk_take 129 = .ok (.iload 6, 2) := by decide +kernel
theorem d_KnowledgeWalk_take_131 : decode b_KnowledgeWalk_take 131 = .ok (.iaload, 1) := by decide +kernel
theorem d_KnowledgeWalk_take_132 : decode b_KnowledgeWalk_take 132 = .ok (.iastore, 1) := by decide +kernel
theorem d_KnowledgeWalk_take_133 : decode b_KnowledgeWalk_take 133 = .ok (.aload_n 0, 1) := by decide +kernel
theorem d_KnowledgeWalk_take_134 : decode b_KnowledgeWalk_take 134 = .ok (.getfield 9, 3) := by decide +kernel
theorem d_KnowledgeWalk_take_137 : decode b_KnowledgeWalk_take 137 = .ok (.iload 5, 2) := by decide +kernel
theorem d_KnowledgeWalk_take_139 : decode b_KnowledgeWalk_take 139 = .ok (.iload 6, 2) := by decide +kernel
theorem d_KnowledgeWalk_take_141 : decode b_KnowledgeWalk_take 141 = .ok (.bipush 100, 2) := by decide +kernel
theorem d_KnowledgeWalk_take_143 : decode b_KnowledgeWalk_take 143 = .ok (.imul, 1) := by decide +kernel
theorem d_KnowledgeWalk_take_144 : decode b_KnowledgeWalk_take 144 = .ok (.iload 4, 2) := by decide +kernel
theorem d_KnowledgeWalk_take_146 : decode b_KnowledgeWalk_take 146 = .ok (.iadd, 1) := by decide +kernel
theorem d_KnowledgeWalk_take_147 : decode b_KnowledgeWalk_take 147 = .ok (.iastore, 1) := by decide +kernel
theorem d_KnowledgeWalk_take_148 : decode b_KnowledgeWalk_take 148 = .ok (.aload_n 0, 1) := by decide +kernel
theorem d_KnowledgeWalk_take_149 : decode b_KnowledgeWalk_take 149 = .ok (.iload 5, 2) := by decide +kernel
theorem d_KnowledgeWalk_take_151 : decode b_KnowledgeWalk_take 151 = .ok (.iconst 1, 1) := by decide +kernel
theorem d_KnowledgeWalk_take_152 : decode b_KnowledgeWalk_take 152 = .ok (.iadd, 1) := by decide +kernel
theorem d_KnowledgeWalk_take_153 : decode b_KnowledgeWalk_take 153 = .ok (.invokevirtual 62, 3) := by decide +kernel
theorem d_KnowledgeWalk_take_156 : decode b_KnowledgeWalk_take 156 = .ok (.aload_n 0, 1) := by decide +kernel
theorem d_KnowledgeWalk_take_157 : decode b_KnowledgeWalk_take 157 = .ok (.getfield 18, 3) := by decide +kernel
theorem d_KnowledgeWalk_take_160 : decode b_KnowledgeWalk_take 160 = .ok (.iload 7, 2) := by decide +kernel
theorem d_KnowledgeWalk_take_162 : decode b_KnowledgeWalk_take 162 = .ok (.iload 11, 2) := by decide +kernel
theorem d_KnowledgeWalk_take_164 : decode b_KnowledgeWalk_take 164 = .ok (.iastore, 1) := by decide +kernel
theorem d_KnowledgeWalk_take_165 : decode b_KnowledgeWalk_take 165 = .ok (.aload_n 0, 1) := by decide +kernel
theorem d_KnowledgeWalk_take_166 : decode b_KnowledgeWalk_take 166 = .ok (.getfield 15, 3) := by decide +kernel
theorem d_KnowledgeWalk_take_169 : decode b_KnowledgeWalk_take 169 = .ok (.iload 7, 2) := by decide +kernel
theorem d_KnowledgeWalk_take_171 : decode b_KnowledgeWalk_take 171 = .ok (.iload 10, 2) := by decide +kernel
theorem d_KnowledgeWalk_take_173 : decode b_KnowledgeWalk_take 173 = .ok (.iastore, 1) := by decide +kernel
theorem d_KnowledgeWalk_take_174 : decode b_KnowledgeWalk_take 174 = .ok (.aload_n 0, 1) := by decide +kernel
theorem d_KnowledgeWalk_take_175 : decode b_KnowledgeWalk_take 175 = .ok (.getfield 21, 3) := by decide +kernel
theorem d_KnowledgeWalk_take_178 : decode b_KnowledgeWalk_take 178 = .ok (.iload 6, 2) := by decide +kernel
theorem d_KnowledgeWalk_take_180 : decode b_KnowledgeWalk_take 180 = .ok (.iload 9, 2) := by decide +kernel
theorem d_KnowledgeWalk_take_182 : decode b_KnowledgeWalk_take 182 = .ok (.iastore, 1) := by decide +kernel
theorem d_KnowledgeWalk_take_183 : decode b_KnowledgeWalk_take 183 = .ok (.aload_n 0, 1) := by decide +kernel
theorem d_KnowledgeWalk_take_184 : decode b_KnowledgeWalk_take 184 = .ok (.getfield 31, 3) := by decide +kernel
theorem d_KnowledgeWalk_take_187 : decode b_KnowledgeWalk_take 187 = .ok (.iload_n 1, 1) := by decide +kernel
theorem d_KnowledgeWalk_take_188 : decode b_KnowledgeWalk_take 188 = .ok (.iload 8, 2) := by decide +kernel
theorem d_KnowledgeWalk_take_190 : decode b_KnowledgeWalk_take 190 = .ok (.invokevirtual 151, 3) := by decide +kernel
theorem d_KnowledgeWalk_take_193 : decode b_KnowledgeWalk_take 193 = .ok (.return_, 1) := by decide +kernel
theorem d_KnowledgeWalk_insert_0 : decode b_KnowledgeWalk_insert 0 = .ok (.iconst 3, 1) := by decide +kernel
theorem d_KnowledgeWalk_insert_1 : decode b_KnowledgeWalk_insert 1 = .ok (.iload_n 2, 1) := by decide +kernel
theorem d_KnowledgeWalk_insert_2 : decode b_KnowledgeWalk_insert 2 = .ok (.iconst 1, 1) := by decide +kernel
theorem d_KnowledgeWalk_insert_3 : decode b_KnowledgeWalk_insert 3 = .ok (.isub, 1) := by decide +kernel
theorem d_KnowledgeWalk_insert_4 : decode b_KnowledgeWalk_insert 4 = .ok (.imul, 1) := by decide +kernel
theorem d_KnowledgeWalk_insert_5 : decode b_KnowledgeWalk_insert 5 = .ok (.istore 4, 2) := by decide +kernel
theorem d_KnowledgeWalk_insert_7 : decode b_KnowledgeWalk_insert 7 = .ok (.aload_n 0, 1) := by decide +kernel
theorem d_KnowledgeWalk_insert_8 : decode b_KnowledgeWalk_insert 8 = .ok (.getfield 15, 3) := by decide +kernel
theorem d_KnowledgeWalk_insert_11 : decode b_KnowledgeWalk_insert 11 = .ok (.iload_n 1, 1) := by decide +kernel
theorem d_KnowledgeWalk_insert_12 : decode b_KnowledgeWalk_insert 12 = .ok (.iaload, 1) := by decide +kernel
theorem d_KnowledgeWalk_insert_13 : decode b_KnowledgeWalk_insert 13 = .ok (.iconst 1, 1) := by decide +kernel
theorem d_KnowledgeWalk_insert_14 : decode b_KnowledgeWalk_insert 14 = .ok (.iload 4, 2) := by decide +kernel
theorem d_KnowledgeWalk_insert_16 : decode b_KnowledgeWalk_insert 16 = .ok (.ishl, 1) := by decide +kernel
theorem d_KnowledgeWalk_insert_17 : decode b_KnowledgeWalk_insert 17 = .ok (.iconst 1, 1) := by decide +kernel
theorem d_KnowledgeWalk_insert_18 : decode b_KnowledgeWalk_insert 18 = .ok (.isub, 1) := by decide +kernel
theorem d_KnowledgeWalk_insert_19 : decode b_KnowledgeWalk_insert 19 = .ok (.iand, 1) := by decide +kernel
theorem d_KnowledgeWalk_insert_20 : decode b_KnowledgeWalk_insert 20 = .ok (.istore 5, 2) := by decide +kernel
theorem d_KnowledgeWalk_insert_22 : decode b_KnowledgeWalk_insert 22 = .ok (.aload_n 0, 1) := by decide +kernel
theorem d_KnowledgeWalk_insert_23 : decode b_KnowledgeWalk_insert 23 = .ok (.getfield 15, 3) := by decide +kernel
theorem d_KnowledgeWalk_insert_26 : decode b_KnowledgeWalk_insert 26 = .ok (.iload_n 1, 1) := by decide +kernel
theorem d_KnowledgeWalk_insert_27 : decode b_KnowledgeWalk_insert 27 = .ok (.iaload, 1) := by decide +kernel
theorem d_KnowledgeWalk_insert_28 : decode b_KnowledgeWalk_insert 28 = .ok (.iload 4, 2) := by decide +kernel
theorem d_KnowledgeWalk_insert_30 : decode b_KnowledgeWalk_insert 30 = .ok (.ishr, 1) := by decide +kernel
theorem d_KnowledgeWalk_insert_31 : decode b_KnowledgeWalk_insert 31 = .ok (.istore 6, 2) := by decide +kernel
theorem d_KnowledgeWalk_insert_33 : decode b_KnowledgeWalk_insert 33 = .ok (.aload_n 0, 1) := by decide +kernel
theorem d_KnowledgeWalk_insert_34 : decode b_KnowledgeWalk_insert 34 = .ok (.getfield 15, 3) := by decide +kernel
theorem d_KnowledgeWalk_insert_37 : decode b_KnowledgeWalk_insert 37 = .ok (.iload_n 1, 1) := by decide +kernel
theorem d_KnowledgeWalk_insert_38 : decode b_KnowledgeWalk_insert 38 = .ok (.iload 5, 2) := by decide +kernel
theorem d_KnowledgeWalk_insert_40 : decode b_KnowledgeWalk_insert 40 = .ok (.iload_n 3, 1) := by decide +kernel
theorem d_KnowledgeWalk_insert_41 : decode b_KnowledgeWalk_insert 41 = .ok (.iload 4, 2) := by decide +kernel
theorem d_KnowledgeWalk_insert_43 : decode b_KnowledgeWalk_insert 43 = .ok (.ishl, 1) := by decide +kernel
theorem d_KnowledgeWalk_insert_44 : decode b_KnowledgeWalk_insert 44 = .ok (.ior, 1) := by decide +kernel
theorem d_KnowledgeWalk_insert_45 : decode b_KnowledgeWalk_insert 45 = .ok (.iload 6, 2) := by decide +kernel
theorem d_KnowledgeWalk_insert_47 : decode b_KnowledgeWalk_insert 47 = .ok (.iload 4, 2) := by decide +kernel
theorem d_KnowledgeWalk_insert_49 : decode b_KnowledgeWalk_insert 49 = .ok (.iconst 3, 1) := by decide +kernel
theorem d_KnowledgeWalk_insert_50 : decode b_KnowledgeWalk_insert 50 = .ok (.iadd, 1) := by decide +kernel
theorem d_KnowledgeWalk_insert_51 : decode b_KnowledgeWalk_insert 51 = .ok (.ishl, 1) := by decide +kernel
theorem d_KnowledgeWalk_insert_52 : decode b_KnowledgeWalk_insert 52 = .ok (.ior, 1) := by decide +kernel
theorem d_KnowledgeWalk_insert_53 : decode b_KnowledgeWalk_insert 53 = .ok (.iastore, 1) := by decide +kernel
theorem d_KnowledgeWalk_insert_54 : decode b_KnowledgeWalk_insert 54 = .ok (.aload_n 0, 1) := by decide +kernel
theorem d_KnowledgeWalk_insert_55 : decode b_KnowledgeWalk_insert 55 = .ok (.getfield 18, 3) := by decide +kernel
theorem d_KnowledgeWalk_insert_58 : decode b_KnowledgeWalk_insert 58 = .ok (.iload_n 1, 1) := by decide +kernel
theorem d_KnowledgeWalk_insert_59 : decode b_KnowledgeWalk_insert 59 = .ok (.dup2, 1) := by decide +kernel
theorem d_KnowledgeWalk_insert_60 : decode b_KnowledgeWalk_insert 60 = .ok (.iaload, 1) := by decide +kernel
theorem d_KnowledgeWalk_insert_61 : decode b_KnowledgeWalk_insert 61 = .ok (.iconst 1, 1) := by decide +kernel
theorem d_KnowledgeWalk_insert_62 : decode b_KnowledgeWalk_insert 62 = .ok (.iadd, 1) := by decide +kernel
theorem d_KnowledgeWalk_insert_63 : decode b_KnowledgeWalk_insert 63 = .ok (.iastore, 1) := by decide +kernel
theorem d_KnowledgeWalk_insert_64 : decode b_KnowledgeWalk_insert 64 = .ok (.return_, 1) := by decide +kernel
theorem d_KnowledgeWalk_sourceAt_0 : decode b_KnowledgeWalk_sourceAt 0 = .ok (.iload_n 2, 1) := by decide +kernel
theorem d_KnowledgeWalk_sourceAt_1 : decode b_KnowledgeWalk_sourceAt 1 = .ok (.iconst 1, 1) := by decide +kernel
theorem d_KnowledgeWalk_sourceAt_2 : decode b_KnowledgeWalk_sourceAt 2 = .ok (.if_icmp .lt 13, 3) := by decide +kernel
theorem d_KnowledgeWalk_sourceAt_5 : decode b_KnowledgeWalk_sourceAt 5 = .ok (.iload_n 2, 1) := by decide +kernel
theorem d_KnowledgeWalk_sourceAt_6 : decode b_KnowledgeWalk_sourceAt 6 = .ok (.aload_n 0, 1) := by decide +kernel
theorem d_KnowledgeWalk_sourceAt_7 : decode b_KnowledgeWalk_sourceAt 7 = .ok (.getfield 18, 3) := by decide +kernel
theorem d_KnowledgeWalk_sourceAt_10 : decode b_KnowledgeWalk_sourceAt 10 = .ok (.iload_n 1, 1) := by decide +kernel
theorem d_KnowledgeWalk_sourceAt_11 : decode b_KnowledgeWalk_sourceAt 11 = .ok (.iaload, 1) := by decide +kernel
theorem d_KnowledgeWalk_sourceAt_12 : decode b_KnowledgeWalk_sourceAt 12 = .ok (.if_icmp .le 5, 3) := by decide +kernel
theorem d_KnowledgeWalk_sourceAt_15 : decode b_KnowledgeWalk_sourceAt 15 = .ok (.iconst 0, 1) := by decide +kernel
theorem d_KnowledgeWalk_sourceAt_16 : decode b_KnowledgeWalk_sourceAt 16 = .ok (.ireturn, 1) := by decide +kernel
theorem d_KnowledgeWalk_sourceAt_17 : decode b_KnowledgeWalk_sourceAt 17 = .ok (.aload_n 0, 1) := by decide +kernel
theorem d_KnowledgeWalk_sourceAt_18 : decode b_KnowledgeWalk_sourceAt 18 = .ok (.getfield 15, 3) := by decide +kernel
theorem d_KnowledgeWalk_sourceAt_21 : decode b_KnowledgeWalk_sourceAt 21 = .ok (.iload_n 1, 1) := by decide +kernel
theorem d_KnowledgeWalk_sourceAt_22 : decode b_KnowledgeWalk_sourceAt 22 = .ok (.iaload, 1) := by decide +kernel
theorem d_KnowledgeWalk_sourceAt_23 : decode b_KnowledgeWalk_sourceAt 23 = .ok (.iconst 3, 1) := by decide +kernel
theorem d_KnowledgeWalk_sourceAt_24 : decode b_KnowledgeWalk_sourceAt 24 = .ok (.iload_n 2, 1) := by decide +kernel
theorem d_KnowledgeWalk_sourceAt_25 : decode b_KnowledgeWalk_sourceAt 25 = .ok (.iconst 1, 1) := by decide +kernel
theorem d_KnowledgeWalk_sourceAt_26 : decode b_KnowledgeWalk_sourceAt 26 = .ok (.isub, 1) := by decide +kernel
theorem d_KnowledgeWalk_sourceAt_27 : decode b_KnowledgeWalk_sourceAt 27 = .ok (.imul, 1) := by decide +kernel
theorem d_KnowledgeWalk_sourceAt_28 : decode b_KnowledgeWalk_sourceAt 28 = .ok (.ishr, 1) := by decide +kernel
theorem d_KnowledgeWalk_sourceAt_29 : decode b_KnowledgeWalk_sourceAt 29 = .ok (.bipush 7, 2) := by decide +kernel
theorem d_KnowledgeWalk_sourceAt_31 : decode b_KnowledgeWalk_sourceAt 31 = .ok (.iand, 1) := by decide +kernel
theorem d_KnowledgeWalk_sourceAt_32 : decode b_KnowledgeWalk_sourceAt 32 = .ok (.ireturn, 1) := by decide +kernel
theorem d_KnowledgeWalk_lastIn_0 : decode b_KnowledgeWalk_lastIn 0 = .ok (.aload_n 0, 1) := by decide +kernel
theorem d_KnowledgeWalk_lastIn_1 : decode b_KnowledgeWalk_lastIn 1 = .ok (.iload_n 1, 1) := by decide +kernel
theorem d_KnowledgeWalk_lastIn_2 : decode b_KnowledgeWalk_lastIn 2 = .ok (.aload_n 0, 1) := by decide +kernel
theorem d_KnowledgeWalk_lastIn_3 : decode b_KnowledgeWalk_lastIn 3 = .ok (.getfield 18, 3) := by decide +kernel
theorem d_KnowledgeWalk_lastIn_6 : decode b_KnowledgeWalk_lastIn 6 = .ok (.iload_n 1, 1) := by decide +kernel
theorem d_KnowledgeWalk_lastIn_7 : decode b_KnowledgeWalk_lastIn 7 = .ok (.iaload, 1) := by decide +kernel
theorem d_KnowledgeWalk_lastIn_8 : decode b_KnowledgeWalk_lastIn 8 = .ok (.invokevirtual 127, 3) := by decide +kernel
theorem d_KnowledgeWalk_lastIn_11 : decode b_KnowledgeWalk_lastIn 11 = .ok (.ireturn, 1) := by decide +kernel
theorem d_KnowledgeWalk_isAddAt_0 : decode b_KnowledgeWalk_isAddAt 0 = .ok (.aload_n 0, 1) := by decide +kernel
theorem d_KnowledgeWalk_isAddAt_1 : decode b_KnowledgeWalk_isAddAt 1 = .ok (.iload_n 1, 1) := by decide +kernel
theorem d_KnowledgeWalk_isAddAt_2 : decode b_KnowledgeWalk_isAddAt 2 = .ok (.iload_n 2, 1) := by decide +kernel
theorem d_KnowledgeWalk_isAddAt_3 : decode b_KnowledgeWalk_isAddAt 3 = .ok (.invokevirtual 127, 3) := by decide +kernel
theorem d_KnowledgeWalk_isAddAt_6 : decode b_KnowledgeWalk_isAddAt 6 = .ok (.istore_n 3, 1) := by decide +kernel
theorem d_KnowledgeWalk_isAddAt_7 : decode b_KnowledgeWalk_isAddAt 7 = .ok (.iload_n 3, 1) := by decide +kernel
theorem d_KnowledgeWalk_isAddAt_8 : decode b_KnowledgeWalk_isAddAt 8 = .ok (.ifCond .eq 22, 3) := by decide +kernel
theorem d_KnowledgeWalk_isAddAt_11 : decode b_KnowledgeWalk_isAddAt 11 = .ok (.aload_n 0, 1) := by decide +kernel
theorem d_KnowledgeWalk_isAddAt_12 : decode b_KnowledgeWalk_isAddAt 12 = .ok (.getfield 27, 3) := by decide +kernel
theorem d_KnowledgeWalk_isAddAt_15 : decode b_KnowledgeWalk_isAddAt 15 = .ok (.getfield 105, 3) := by decide +kernel
theorem d_KnowledgeWalk_isAddAt_18 : decode b_KnowledgeWalk_isAddAt 18 = .ok (.iload_n 3, 1) := by decide +kernel
theorem d_KnowledgeWalk_isAddAt_19 : decode b_KnowledgeWalk_isAddAt 19 = .ok (.iconst 1, 1) := by decide +kernel
theorem d_KnowledgeWalk_isAddAt_20 : decode b_KnowledgeWalk_isAddAt 20 = .ok (.isub, 1) := by decide +kernel
theorem d_KnowledgeWalk_isAddAt_21 : decode b_KnowledgeWalk_isAddAt 21 = .ok (.iaload, 1) := by decide +kernel
theorem d_KnowledgeWalk_isAddAt_22 : decode b_KnowledgeWalk_isAddAt 22 = .ok (.iconst 3, 1) := by decide +kernel
theorem d_KnowledgeWalk_isAddAt_23 : decode b_KnowledgeWalk_isAddAt 23 = .ok (.if_icmp .ne 7, 3) := by decide +kernel
theorem d_KnowledgeWalk_isAddAt_26 : decode b_KnowledgeWalk_isAddAt 26 = .ok (.iconst 1, 1) := by decide +kernel
theorem d_KnowledgeWalk_isAddAt_27 : decode b_KnowledgeWalk_isAddAt 27 = .ok (.goto 4, 3) := by decide +kernel
theorem d_KnowledgeWalk_isAddAt_30 : decode b_KnowledgeWalk_isAddAt 30 = .ok (.iconst 0, 1) := by decide +kernel
theorem d_KnowledgeWalk_isAddAt_31 : decode b_KnowledgeWalk_isAddAt 31 = .ok (.ireturn, 1) := by decide +kernel
theorem d_KnowledgeWalk_knownPlace_0 : decode b_KnowledgeWalk_knownPlace 0 = .ok (.aload_n 0, 1) := by decide +kernel
theorem d_KnowledgeWalk_knownPlace_1 : decode b_KnowledgeWalk_knownPlace 1 = .ok (.getfield 27, 3) := by decide +kernel
theorem d_KnowledgeWalk_knownPlace_4 : decode b_KnowledgeWalk_knownPlace 4 = .ok (.getfield 121, 3) := by decide +kernel
theorem d_KnowledgeWalk_knownPlace_7 : decode b_KnowledgeWalk_knownPlace 7 = .ok (.iload_n 1, 1) := by decide +kernel
theorem d_KnowledgeWalk_knownPlace_8 : decode b_KnowledgeWalk_knownPlace 8 = .ok (.iaload, 1) := by decide +kernel
theorem d_KnowledgeWalk_knownPlace_9 : decode b_KnowledgeWalk_knownPlace 9 = .ok (.istore_n 2, 1) := by decide +kernel
theorem d_KnowledgeWalk_knownPlace_10 : decode b_KnowledgeWalk_knownPlace 10 = .ok (.aload_n 0, 1) := by decide +kernel
theorem d_KnowledgeWalk_knownPlace_11 : decode b_KnowledgeWalk_knownPlace 11 = .ok (.getfield 21, 3) := by decide +kernel
theorem d_KnowledgeWalk_knownPlace_14 : decode b_KnowledgeWalk_knownPlace 14 = .ok (.aload_n 0, 1) := by decide +kernel
theorem d_KnowledgeWalk_knownPlace_15 : decode b_KnowledgeWalk_knownPlace 15 = .ok (.getfield 27, 3) := by decide +kernel
theorem d_KnowledgeWalk_knownPlace_18 : decode b_KnowledgeWalk_knownPlace 18 = .ok (.getfield 135, 3) := by decide +kernel
theorem d_KnowledgeWalk_knownPlace_21 : decode b_KnowledgeWalk_knownPlace 21 = .ok (.iload_n 1, 1) := by decide +kernel
theorem d_KnowledgeWalk_knownPlace_22 : decode b_KnowledgeWalk_knownPlace 22 = .ok (.iaload, 1) := by decide +kernel
theorem d_KnowledgeWalk_knownPlace_23 : decode b_KnowledgeWalk_knownPlace 23 = .ok (.iaload, 1) := by decide +kernel
theorem d_KnowledgeWalk_knownPlace_24 : decode b_KnowledgeWalk_knownPlace 24 = .ok (.istore_n 3, 1) := by decide +kernel
theorem d_KnowledgeWalk_knownPlace_25 : decode b_KnowledgeWalk_knownPlace 25 = .ok (.aload_n 0, 1) := by decide +kernel
theorem d_KnowledgeWalk_knownPlace_26 : decode b_KnowledgeWalk_knownPlace 26 = .ok (.getfield 18, 3) := by decide +kernel
theorem d_KnowledgeWalk_knownPlace_29 : decode b_KnowledgeWalk_knownPlace 29 = .ok (.iload_n 2, 1) := by decide +kernel
theorem d_KnowledgeWalk_knownPlace_30 : decode b_KnowledgeWalk_knownPlace 30 = .ok (.iaload, 1) := by decide +kernel
theorem d_KnowledgeWalk_knownPlace_31 : decode b_KnowledgeWalk_knownPlace 31 = .ok (.istore 4, 2) := by decide +kernel
theorem d_KnowledgeWalk_knownPlace_33 : decode b_KnowledgeWalk_knownPlace 33 = .ok (.iload 4, 2) := by decide +kernel
theorem d_KnowledgeWalk_knownPlace_35 : decode b_KnowledgeWalk_knownPlace 35 = .ok (.ifCond .le 28, 3) := by decide +kernel
theorem d_KnowledgeWalk_knownPlace_38 : decode b_KnowledgeWalk_knownPlace 38 = .ok (.iload_n 3, 1) := by decide +kernel
theorem d_KnowledgeWalk_knownPlace_39 : decode b_KnowledgeWalk_knownPlace 39 = .ok (.aload_n 0, 1) := by decide +kernel
theorem d_KnowledgeWalk_knownPlace_40 : decode b_KnowledgeWalk_knownPlace 40 = .ok (.iload_n 2, 1) := by decide +kernel
theorem d_KnowledgeWalk_knownPlace_41 : decode b_KnowledgeWalk_knownPlace 41 = .ok (.iload 4, 2) := by decide +kernel
theorem d_KnowledgeWalk_knownPlace_43 : decode b_KnowledgeWalk_knownPlace 43 = .ok (.invokevirtual 127, 3) := by decide +kernel
theorem d_KnowledgeWalk_knownPlace_46 : decode b_KnowledgeWalk_knownPlace 46 = .ok (.iconst 1, 1) := by decide +kernel
theorem d_KnowledgeWalk_knownPlace_47 : decode b_KnowledgeWalk_knownPlace 47 = .ok (.isub, 1) := by decide +kernel
theorem d_KnowledgeWalk_knownPlace_48 : decode b_KnowledgeWalk_knownPlace 48 = .ok (.invokestatic 154, 3) := by decide +kernel
theorem d_KnowledgeWalk_knownPlace_51 : decode b_KnowledgeWalk_knownPlace 51 = .ok (.ifCond .eq 6, 3) := by decide +kernel
theorem d_KnowledgeWalk_knownPlace_54 : decode b_KnowledgeWalk_knownPlace 54 = .ok (.iload 4, 2) := by decide +kernel
theorem d_KnowledgeWalk_knownPlace_56 : decode b_KnowledgeWalk_knownPlace 56 = .ok (.ireturn, 1) := by decide +kernel
theorem d_KnowledgeWalk_knownPlace_57 : decode b_KnowledgeWalk_knownPlace 57 = .ok (.iinc 4 (-1), 3) := by decide +kernel
theorem d_KnowledgeWalk_knownPlace_60 : decode b_KnowledgeWalk_knownPlace 60 = .ok (.goto (-27), 3) := by decide +kernel
theorem d_KnowledgeWalk_knownPlace_63 : decode b_KnowledgeWalk_knownPlace 63 = .ok (.iconst 0, 1) := by decide +kernel
theorem d_KnowledgeWalk_knownPlace_64 : decode b_KnowledgeWalk_knownPlace 64 = .ok (.ireturn, 1) := by decide +kernel
theorem d_OutcomeSet_init_0 : decode b_OutcomeSet_init 0 = .ok (.aload_n 0, 1) := by decide +kernel
theorem d_OutcomeSet_init_1 : decode b_OutcomeSet_init 1 = .ok (.invokespecial 3, 3) := by decide +kernel
theorem d_OutcomeSet_init_4 : decode b_OutcomeSet_init 4 = .ok (.aload_n 0, 1) := by decide +kernel
theorem d_OutcomeSet_init_5 : decode b_OutcomeSet_init 5 = .ok (.iconst 0, 1) := by decide +kernel
theorem d_OutcomeSet_init_6 : decode b_OutcomeSet_init 6 = .ok (.newarray .long, 2) := by decide +kernel
theorem d_OutcomeSet_init_8 : decode b_OutcomeSet_init 8 = .ok (.putfield 9, 3) := by decide +kernel
theorem d_OutcomeSet_init_11 : decode b_OutcomeSet_init 11 = .ok (.aload_n 0, 1) := by decide +kernel
theorem d_OutcomeSet_init_12 : decode b_OutcomeSet_init 12 = .ok (.iconst 0, 1) := by decide +kernel
theorem d_OutcomeSet_init_13 : decode b_OutcomeSet_init 13 = .ok (.newarray .int, 2) := by decide +kernel
theorem d_OutcomeSet_init_15 : decode b_OutcomeSet_init 15 = .ok (.putfield 15, 3) := by decide +kernel
theorem d_OutcomeSet_init_18 : decode b_OutcomeSet_init 18 = .ok (.aload_n 0, 1) := by decide +kernel
theorem d_OutcomeSet_init_19 : decode b_OutcomeSet_init 19 = .ok (.iconst 0, 1) := by decide +kernel
theorem d_OutcomeSet_init_20 : decode b_OutcomeSet_init 20 = .ok (.newarray .int, 2) := by decide +kernel
theorem d_OutcomeSet_init_22 : decode b_OutcomeSet_init 22 = .ok (.putfield 19, 3) := by decide +kernel
theorem d_OutcomeSet_init_25 : decode b_OutcomeSet_init 25 = .ok (.aload_n 0, 1) := by decide +kernel
theorem d_OutcomeSet_init_26 : decode b_OutcomeSet_init 26 = .ok (.iconst 0, 1) := by decide +kernel
theorem d_OutcomeSet_init_27 : decode b_OutcomeSet_init 27 = .ok (.newarray .int, 2) := by decide +kernel
theorem d_OutcomeSet_init_29 : decode b_OutcomeSet_init 29 = .ok (.putfield 22, 3) := by decide +kernel
theorem d_OutcomeSet_init_32 : decode b_OutcomeSet_init 32 = .ok (.aload_n 0, 1) := by decide +kernel
theorem d_OutcomeSet_init_33 : decode b_OutcomeSet_init 33 = .ok (.iconst 0, 1) := by decide +kernel
theorem d_OutcomeSet_init_34 : decode b_OutcomeSet_init 34 = .ok (.newarray .int, 2) := by decide +kernel
theorem d_OutcomeSet_init_36 : decode b_OutcomeSet_init 36 = .ok (.putfield 25, 3) := by decide +kernel
theorem d_OutcomeSet_init_39 : decode b_OutcomeSet_init 39 = .ok (.aload_n 0, 1) := by decide +kernel
theorem d_OutcomeSet_init_40 : decode b_OutcomeSet_init 40 = .ok (.iload_n 1, 1) := by decide +kernel
theorem d_OutcomeSet_init_41 : decode b_OutcomeSet_init 41 = .ok (.putfield 28, 3) := by decide +kernel
theorem d_OutcomeSet_init_44 : decode b_OutcomeSet_init 44 = .ok (.return_, 1) := by decide +kernel
theorem d_OutcomeSet_begin_0 : decode b_OutcomeSet_begin 0 = .ok (.aload_n 0, 1) := by decide +kernel
theorem d_OutcomeSet_begin_1 : decode b_OutcomeSet_begin 1 = .ok (.iconst 0, 1) := by decide +kernel
theorem d_OutcomeSet_begin_2 : decode b_OutcomeSet_begin 2 = .ok (.putfield 32, 3) := by decide +kernel
theorem d_OutcomeSet_begin_5 : decode b_OutcomeSet_begin 5 = .ok (.aload_n 0, 1) := by decide +kernel
theorem d_OutcomeSet_begin_6 : decode b_OutcomeSet_begin 6 = .ok (.iconst 0, 1) := by decide +kernel
theorem d_OutcomeSet_begin_7 : decode b_OutcomeSet_begin 7 = .ok (.putfield 35, 3) := by decide +kernel
theorem d_OutcomeSet_begin_10 : decode b_OutcomeSet_begin 10 = .ok (.return_, 1) := by decide +kernel
theorem d_OutcomeSet_addGraph_0 : decode b_OutcomeSet_addGraph 0 = .ok (.aload_n 0, 1) := by decide +kernel
theorem d_OutcomeSet_addGraph_1 : decode b_OutcomeSet_addGraph 1 = .ok (.dup, 1) := by decide +kernel
theorem d_OutcomeSet_addGraph_2 : decode b_OutcomeSet_addGraph 2 = .ok (.getfield 35, 3) := by decide +kernel
theorem d_OutcomeSet_addGraph_5 : decode b_OutcomeSet_addGraph 5 = .ok (.iconst 1, 1) := by decide +kernel
theorem d_OutcomeSet_addGraph_6 : decode b_OutcomeSet_addGraph 6 = .ok (.iadd, 1) := by decide +kernel
theorem d_OutcomeSet_addGraph_7 : decode b_OutcomeSet_addGraph 7 = .ok (.putfield 35, 3) := by decide +kernel
theorem d_OutcomeSet_addGraph_10 : decode b_OutcomeSet_addGraph 10 = .ok (.aload_n 0, 1) := by decide +kernel
theorem d_OutcomeSet_addGraph_11 : decode b_OutcomeSet_addGraph 11 = .ok (.lload_n 1, 1) := by decide +kernel
theorem d_OutcomeSet_addGraph_12 : decode b_OutcomeSet_addGraph 12 = .ok (.iload_n 3, 1) := by decide +kernel
theorem d_OutcomeSet_addGraph_13 : decode b_OutcomeSet_addGraph 13 = .ok (.invokevirtual 38, 3) := by decide +kernel
theorem d_OutcomeSet_addGraph_16 : decode b_OutcomeSet_addGraph 16 = .ok (.pop, 1) := by decide +kernel
theorem d_OutcomeSet_addGraph_17 : decode b_OutcomeSet_addGraph 17 = .ok (.return_, 1) := by decide +kernel
theorem d_OutcomeSet_addRun_0 : decode b_OutcomeSet_addRun 0 = .ok (.aload_n 0, 1) := by decide +kernel
theorem d_OutcomeSet_addRun_1 : decode b_OutcomeSet_addRun 1 = .ok (.lload_n 1, 1) := by decide +kernel
theorem d_OutcomeSet_addRun_2 : decode b_OutcomeSet_addRun 2 = .ok (.iload_n 3, 1) := by decide +kernel
theorem d_OutcomeSet_addRun_3 : decode b_OutcomeSet_addRun 3 = .ok (.invokevirtual 38, 3) := by decide +kernel
theorem d_OutcomeSet_addRun_6 : decode b_OutcomeSet_addRun 6 = .ok (.ifCond .ne 4, 3) := by decide +kernel
theorem d_OutcomeSet_addRun_9 : decode b_OutcomeSet_addRun 9 = .ok (.return_, 1) := by decide +kernel
theorem d_OutcomeSet_addRun_10 : decode b_OutcomeSet_addRun 10 = .ok (.aload_n 0, 1) := by decide +kernel
theorem d_OutcomeSet_addRun_11 : decode b_OutcomeSet_addRun 11 = .ok (.getfield 32, 3) := by decide +kernel
theorem d_OutcomeSet_addRun_14 : decode b_OutcomeSet_addRun 14 = .ok (.iconst 1, 1) := by decide +kernel
theorem d_OutcomeSet_addRun_15 : decode b_OutcomeSet_addRun 15 = .ok (.isub, 1) := by decide +kernel
theorem d_OutcomeSet_addRun_16 : decode b_OutcomeSet_addRun 16 = .ok (.istore 6, 2) := by decide +kernel
theorem d_OutcomeSet_addRun_18 : decode b_OutcomeSet_addRun 18 = .ok (.aload_n 0, 1) := by decide +kernel
theorem d_OutcomeSet_addRun_19 : decode b_OutcomeSet_addRun 19 = .ok (.getfield 19, 3) := by decide +kernel
theorem d_OutcomeSet_addRun_22 : decode b_OutcomeSet_addRun 22 = .ok (.iload 6, 2) := by decide +kernel
theorem d_OutcomeSet_addRun_24 : decode b_OutcomeSet_addRun 24 = .ok (.iload 5, 2) := by decide +kernel
theorem d_OutcomeSet_addRun_26 : decode b_OutcomeSet_addRun 26 = .ok (.aload 4, 2) := by decide +kernel
theorem d_OutcomeSet_addRun_28 : decode b_OutcomeSet_addRun 28 = .ok (.arraylength, 1) := by decide +kernel
theorem d_OutcomeSet_addRun_29 : decode b_OutcomeSet_addRun 29 = .ok (.invokestatic 42, 3) := by decide +kernel
theorem d_OutcomeSet_addRun_32 : decode b_OutcomeSet_addRun 32 = .ok (.aload_n 0, 1) := by decide +kernel
theorem d_OutcomeSet_addRun_33 : decode b_OutcomeSet_addRun 33 = .ok (.getfield 28, 3) := by decide +kernel
theorem d_OutcomeSet_addRun_36 : decode b_OutcomeSet_addRun 36 = .ok (.invokestatic 42, 3) := by decide +kernel
theorem d_OutcomeSet_addRun_39 : decode b_OutcomeSet_addRun 39 = .ok (.iastore, 1) := by decide +kernel
theorem d_OutcomeSet_addRun_40 : decode b_OutcomeSet_addRun 40 = .ok (.iconst 0, 1) := by decide +kernel
theorem d_OutcomeSet_addRun_41 : decode b_OutcomeSet_addRun 41 = .ok (.istore 7, 2) := by decide +kernel
theorem d_OutcomeSet_addRun_43 : decode b_OutcomeSet_addRun 43 = .ok (.iload 7, 2) := by decide +kernel
theorem d_OutcomeSet_addRun_45 : decode b_OutcomeSet_addRun 45 = .ok (.aload_n 0, 1) := by decide +kernel
theorem d_OutcomeSet_addRun_46 : decode b_OutcomeSet_addRun 46 = .ok (.getfield 19, 3) := by decide +kernel
theorem d_OutcomeSet_addRun_49 : decode b_OutcomeSet_addRun 49 = .ok (.iload 6, 2) := by decide +kernel
theorem d_OutcomeSet_addRun_51 : decode b_OutcomeSet_addRun 51 = .ok (.iaload, 1) := by decide +kernel
theorem d_OutcomeSet_addRun_52 : decode b_OutcomeSet_addRun 52 = .ok (.if_icmp .ge 29, 3) := by decide +kernel
theorem d_OutcomeSet_addRun_55 : decode b_OutcomeSet_addRun 55 = .ok (.aload_n 0, 1) := by decide +kernel
theorem d_OutcomeSet_addRun_56 : decode b_OutcomeSet_addRun 56 = .ok (.getfield 22, 3) := by decide +kernel
theorem d_OutcomeSet_addRun_59 : decode b_OutcomeSet_addRun 59 = .ok (.iload 6, 2) := by decide +kernel
theorem d_OutcomeSet_addRun_61 : decode b_OutcomeSet_addRun 61 = .ok (.aload_n 0, 1) := by decide +kernel
theorem d_OutcomeSet_addRun_62 : decode b_OutcomeSet_addRun 62 = .ok (.getfield 28, 3) := by decide +kernel
theorem d_OutcomeSet_addRun_65 : decode b_OutcomeSet_addRun 65 = .ok (.imul, 1) := by decide +kernel
theorem d_OutcomeSet_addRun_66 : decode b_OutcomeSet_addRun 66 = .ok (.iload 7, 2) := by decide +kernel
theorem d_OutcomeSet_addRun_68 : decode b_OutcomeSet_addRun 68 = .ok (.iadd, 1) := by decide +kernel
theorem d_OutcomeSet_addRun_69 : decode b_OutcomeSet_addRun 69 = .ok (.aload 4, 2) := by decide +kernel
theorem d_OutcomeSet_addRun_71 : decode b_OutcomeSet_addRun 71 = .ok (.iload 7, 2) := by decide +kernel
theorem d_OutcomeSet_addRun_73 : decode b_OutcomeSet_addRun 73 = .ok (.iaload, 1) := by decide +kernel
theorem d_OutcomeSet_addRun_74 : decode b_OutcomeSet_addRun 74 = .ok (.iastore, 1) := by decide +kernel
theorem d_OutcomeSet_addRun_75 : decode b_OutcomeSet_addRun 75 = .ok (.iinc 7 1, 3) := by decide +kernel
theorem d_OutcomeSet_addRun_78 : decode b_OutcomeSet_addRun 78 = .ok (.goto (-35), 3) := by decide +kernel
theorem d_OutcomeSet_addRun_81 : decode b_OutcomeSet_addRun 81 = .ok (.return_, 1) := by decide +kernel
theorem d_OutcomeSet_add_0 : decode b_OutcomeSet_add 0 = .ok (.aload_n 0, 1) := by decide +kernel
theorem d_OutcomeSet_add_1 : decode b_OutcomeSet_add 1 = .ok (.lload_n 1, 1) := by decide +kernel
theorem d_OutcomeSet_add_2 : decode b_OutcomeSet_add 2 = .ok (.iload_n 3, 1) := by decide +kernel
theorem d_OutcomeSet_add_3 : decode b_OutcomeSet_add 3 = .ok (.invokevirtual 48, 3) := by decide +kernel
theorem d_OutcomeSet_add_6 : decode b_OutcomeSet_add 6 = .ok (.istore 4, 2) := by decide +kernel
theorem d_OutcomeSet_add_8 : decode b_OutcomeSet_add 8 = .ok (.aload_n 0, 1) := by decide +kernel
theorem d_OutcomeSet_add_9 : decode b_OutcomeSet_add 9 = .ok (.iload 4, 2) := by decide +kernel
theorem d_OutcomeSet_add_11 : decode b_OutcomeSet_add 11 = .ok (.lload_n 1, 1) := by decide +kernel
theorem d_OutcomeSet_add_12 : decode b_OutcomeSet_add 12 = .ok (.iload_n 3, 1) := by decide +kernel
theorem d_OutcomeSet_add_13 : decode b_OutcomeSet_add 13 = .ok (.invokevirtual 52, 3) := by decide +kernel
theorem d_OutcomeSet_add_16 : decode b_OutcomeSet_add 16 = .ok (.ifCond .eq 5, 3) := by decide +kernel
theorem d_OutcomeSet_add_19 : decode b_OutcomeSet_add 19 = .ok (.iconst 0, 1) := by decide +kernel
theorem d_OutcomeSet_add_20 : decode b_OutcomeSet_add 20 = .ok (.ireturn, 1) := by decide +kernel
theorem d_OutcomeSet_add_21 : decode b_OutcomeSet_add 21 = .ok (.aload_n 0, 1) := by decide +kernel
theorem d_OutcomeSet_add_22 : decode b_OutcomeSet_add 22 = .ok (.getfield 32, 3) := by decide +kernel
theorem d_OutcomeSet_add_25 : decode b_OutcomeSet_add 25 = .ok (.aload_n 0, 1) := by decide +kernel
theorem d_OutcomeSet_add_26 : decode b_OutcomeSet_add 26 = .ok (.getfield 25, 3) := by decide +kernel
theorem d_OutcomeSet_add_29 : decode b_OutcomeSet_add 29 = .ok (.arraylength, 1) := by decide +kernel
theorem d_OutcomeSet_add_30 : decode b_OutcomeSet_add 30 = .ok (.if_icmp .lt 7, 3) := by decide +kernel
theorem d_OutcomeSet_add_33 : decode b_OutcomeSet_add 33 = .ok (.aload_n 0, 1) := by decide +kernel
theorem d_OutcomeSet_add_34 : decode b_OutcomeSet_add 34 = .ok (.invokevirtual 56, 3) := by decide +kernel
theorem d_OutcomeSet_add_37 : decode b_OutcomeSet_add 37 = .ok (.aload_n 0, 1) := by decide +kernel
theorem d_OutcomeSet_add_38 : decode b_OutcomeSet_add 38 = .ok (.getfield 9, 3) := by decide +kernel
theorem d_OutcomeSet_add_41 : decode b_OutcomeSet_add 41 = .ok (.aload_n 0, 1) := by decide +kernel
theorem d_OutcomeSet_add_42 : decode b_OutcomeSet_add 42 = .ok (.getfield 32, 3) := by decide +kernel
theorem d_OutcomeSet_add_45 : decode b_OutcomeSet_add 45 = .ok (.lload_n 1, 1) := by decide +kernel
theorem d_OutcomeSet_add_46 : decode b_OutcomeSet_add 46 = .ok (.lastore, 1) := by decide +kernel
theorem d_OutcomeSet_add_47 : decode b_OutcomeSet_add 47 = .ok (.aload_n 0, 1) := by decide +kernel
theorem d_OutcomeSet_add_48 : decode b_OutcomeSet_add 48 = .ok (.getfield 15, 3) := by decide +kernel
theorem d_OutcomeSet_add_51 : decode b_OutcomeSet_add 51 = .ok (.aload_n 0, 1) := by decide +kernel
theorem d_OutcomeSet_add_52 : decode b_OutcomeSet_add 52 = .ok (.getfield 32, 3) := by decide +kernel
theorem d_OutcomeSet_add_55 : decode b_OutcomeSet_add 55 = .ok (.iload_n 3, 1) := by decide +kernel
theorem d_OutcomeSet_add_56 : decode b_OutcomeSet_add 56 = .ok (.iastore, 1) := by decide +kernel
theorem d_OutcomeSet_add_57 : decode b_OutcomeSet_add 57 = .ok (.aload_n 0, 1) := by decide +kernel
theorem d_OutcomeSet_add_58 : decode b_OutcomeSet_add 58 = .ok (.getfield 19, 3) := by decide +kernel
theorem d_OutcomeSet_add_61 : decode b_OutcomeSet_add 61 = .ok (.aload_n 0, 1) := by decide +kernel
theorem d_OutcomeSet_add_62 : decode b_OutcomeSet_add 62 = .ok (.getfield 32, 3) := by decide +kernel
theorem d_OutcomeSet_add_65 : decode b_OutcomeSet_add 65 = .ok (.iconst 0, 1) := by decide +kernel
theorem d_OutcomeSet_add_66 : decode b_OutcomeSet_add 66 = .ok (.iastore, 1) := by decide +kernel
theorem d_OutcomeSet_add_67 : decode b_OutcomeSet_add 67 = .ok (.aload_n 0, 1) := by decide +kernel
theorem d_OutcomeSet_add_68 : decode b_OutcomeSet_add 68 = .ok (.getfield 25, 3) := by decide +kernel
theorem d_OutcomeSet_add_71 : decode b_OutcomeSet_add 71 = .ok (.iload 4, 2) := by decide +kernel
theorem d_OutcomeSet_add_73 : decode b_OutcomeSet_add 73 = .ok (.aload_n 0, 1) := by decide +kernel
theorem d_OutcomeSet_add_74 : decode b_OutcomeSet_add 74 = .ok (.getfield 25, 3) := by decide +kernel
theorem d_OutcomeSet_add_77 : decode b_OutcomeSet_add 77 = .ok (.iload 4, 2) := by decide +kernel
theorem d_OutcomeSet_add_79 : decode b_OutcomeSet_add 79 = .ok (.iconst 1, 1) := by decide +kernel
theorem d_OutcomeSet_add_80 : decode b_OutcomeSet_add 80 = .ok (.iadd, 1) := by decide +kernel
theorem d_OutcomeSet_add_81 : decode b_OutcomeSet_add 81 = .ok (.aload_n 0, 1) := by decide +kernel
theorem d_OutcomeSet_add_82 : decode b_OutcomeSet_add 82 = .ok (.getfield 32, 3) := by decide +kernel
theorem d_OutcomeSet_add_85 : decode b_OutcomeSet_add 85 = .ok (.iload 4, 2) := by decide +kernel
theorem d_OutcomeSet_add_87 : decode b_OutcomeSet_add 87 = .ok (.isub, 1) := by decide +kernel
theorem d_OutcomeSet_add_88 : decode b_OutcomeSet_add 88 = .ok (.invokestatic 59, 3) := by decide +kernel
theorem d_OutcomeSet_add_91 : decode b_OutcomeSet_add 91 = .ok (.aload_n 0, 1) := by decide +kernel
theorem d_OutcomeSet_add_92 : decode b_OutcomeSet_add 92 = .ok (.getfield 25, 3) := by decide +kernel
theorem d_OutcomeSet_add_95 : decode b_OutcomeSet_add 95 = .ok (.iload 4, 2) := by decide +kernel
theorem d_OutcomeSet_add_97 : decode b_OutcomeSet_add 97 = .ok (.aload_n 0, 1) := by decide +kernel
theorem d_OutcomeSet_add_98 : decode b_OutcomeSet_add 98 = .ok (.getfield 32, 3) := by decide +kernel
theorem d_OutcomeSet_add_101 : decode b_OutcomeSet_add 101 = .ok (.iastore, 1) := by decide +kernel
theorem d_OutcomeSet_add_102 : decode b_OutcomeSet_add 102 = .ok (.aload_n 0, 1) := by decide +kernel
theorem d_OutcomeSet_add_103 : decode b_OutcomeSet_add 103 = .ok (.dup, 1) := by decide +kernel
theorem d_OutcomeSet_add_104 : decode b_OutcomeSet_add 104 = .ok (.getfield 32, 3) := by decide +kernel
theorem d_OutcomeSet_add_107 : decode b_OutcomeSet_add 107 = .ok (.iconst 1, 1) := by decide +kernel
theorem d_OutcomeSet_add_108 : decode b_OutcomeSet_add 108 = .ok (.iadd, 1) := by decide +kernel
theorem d_OutcomeSet_add_109 : decode b_OutcomeSet_add 109 = .ok (.putfield 32, 3) := by decide +kernel
theorem d_OutcomeSet_add_112 : decode b_OutcomeSet_add 112 = .ok (.iconst 1, 1) := by decide +kernel
theorem d_OutcomeSet_add_113 : decode b_OutcomeSet_add 113 = .ok (.ireturn, 1) := by decide +kernel
theorem d_OutcomeSet_grow_0 : decode b_OutcomeSet_grow 0 = .ok (.bipush 8, 2) := by decide +kernel
theorem d_OutcomeSet_grow_2 : decode b_OutcomeSet_grow 2 = .ok (.iconst 2, 1) := by decide +kernel
theorem d_OutcomeSet_grow_3 : decode b_OutcomeSet_grow 3 = .ok (.aload_n 0, 1) := by decide +kernel
theorem d_OutcomeSet_grow_4 : decode b_OutcomeSet_grow 4 = .ok (.getfield 32, 3) := by decide +kernel
theorem d_OutcomeSet_grow_7 : decode b_OutcomeSet_grow 7 = .ok (.imul, 1) := by decide +kernel
theorem d_OutcomeSet_grow_8 : decode b_OutcomeSet_grow 8 = .ok (.invokestatic 65, 3) := by decide +kernel
theorem d_OutcomeSet_grow_11 : decode b_OutcomeSet_grow 11 = .ok (.istore_n 1, 1) := by decide +kernel
theorem d_OutcomeSet_grow_12 : decode b_OutcomeSet_grow 12 = .ok (.aload_n 0, 1) := by decide +kernel
theorem d_OutcomeSet_grow_13 : decode b_OutcomeSet_grow 13 = .ok (.aload_n 0, 1) := by decide +kernel
theorem d_OutcomeSet_grow_14 : decode b_OutcomeSet_grow 14 = .ok (.getfield 9, 3) := by decide +kernel
theorem d_OutcomeSet_grow_17 : decode b_OutcomeSet_grow 17 = .ok (.iload_n 1, 1) := by decide +kernel
theorem d_OutcomeSet_grow_18 : decode b_OutcomeSet_grow 18 = .ok (.invokestatic 68, 3) := by decide +kernel
theorem d_OutcomeSet_grow_21 : decode b_OutcomeSet_grow 21 = .ok (.putfield 9, 3) := by decide +kernel
theorem d_OutcomeSet_grow_24 : decode b_OutcomeSet_grow 24 = .ok (.aload_n 0, 1) := by decide +kernel
theorem d_OutcomeSet_grow_25 : decode b_OutcomeSet_grow 25 = .ok (.aload_n 0, 1) := by decide +kernel
theorem d_OutcomeSet_grow_26 : decode b_OutcomeSet_grow 26 = .ok (.getfield 15, 3) := by decide +kernel
theorem d_OutcomeSet_grow_29 : decode b_OutcomeSet_grow 29 = .ok (.iload_n 1, 1) := by decide +kernel
theorem d_OutcomeSet_grow_30 : decode b_OutcomeSet_grow 30 = .ok (.invokestatic 74, 3) := by decide +kernel
theorem d_OutcomeSet_grow_33 : decode b_OutcomeSet_grow 33 = .ok (.putfield 15, 3) := by decide +kernel
theorem d_OutcomeSet_grow_36 : decode b_OutcomeSet_grow 36 = .ok (.aload_n 0, 1) := by decide +kernel
theorem d_OutcomeSet_grow_37 : decode b_OutcomeSet_grow 37 = .ok (.aload_n 0, 1) := by decide +kernel
theorem d_OutcomeSet_grow_38 : decode b_OutcomeSet_grow 38 = .ok (.getfield 19, 3) := by decide +kernel
theorem d_OutcomeSet_grow_41 : decode b_OutcomeSet_grow 41 = .ok (.iload_n 1, 1) := by decide +kernel
theorem d_OutcomeSet_grow_42 : decode b_OutcomeSet_grow 42 = .ok (.invokestatic 74, 3) := by decide +kernel
theorem d_OutcomeSet_grow_45 : decode b_OutcomeSet_grow 45 = .ok (.putfield 19, 3) := by decide +kernel
theorem d_OutcomeSet_grow_48 : decode b_OutcomeSet_grow 48 = .ok (.aload_n 0, 1) := by decide +kernel
theorem d_OutcomeSet_grow_49 : decode b_OutcomeSet_grow 49 = .ok (.aload_n 0, 1) := by decide +kernel
theorem d_OutcomeSet_grow_50 : decode b_OutcomeSet_grow 50 = .ok (.getfield 25, 3) := by decide +kernel
theorem d_OutcomeSet_grow_53 : decode b_OutcomeSet_grow 53 = .ok (.iload_n 1, 1) := by decide +kernel
theorem d_OutcomeSet_grow_54 : decode b_OutcomeSet_grow 54 = .ok (.invokestatic 74, 3) := by decide +kernel
theorem d_OutcomeSet_grow_57 : decode b_OutcomeSet_grow 57 = .ok (.putfield 25, 3) := by decide +kernel
theorem d_OutcomeSet_grow_60 : decode b_OutcomeSet_grow 60 = .ok (.aload_n 0, 1) := by decide +kernel
theorem d_OutcomeSet_grow_61 : decode b_OutcomeSet_grow 61 = .ok (.aload_n 0, 1) := by decide +kernel
theorem d_OutcomeSet_grow_62 : decode b_OutcomeSet_grow 62 = .ok (.getfield 22, 3) := by decide +kernel
theorem d_OutcomeSet_grow_65 : decode b_OutcomeSet_grow 65 = .ok (.iload_n 1, 1) := by decide +kernel
theorem d_OutcomeSet_grow_66 : decode b_OutcomeSet_grow 66 = .ok (.aload_n 0, 1) := by decide +kernel
theorem d_OutcomeSet_grow_67 : decode b_OutcomeSet_grow 67 = .ok (.getfield 28, 3) := by decide +kernel
theorem d_OutcomeSet_grow_70 : decode b_OutcomeSet_grow 70 = .ok (.imul, 1) := by decide +kernel
theorem d_OutcomeSet_grow_71 : decode b_OutcomeSet_grow 71 = .ok (.invokestatic 74, 3) := by decide +kernel
theorem d_OutcomeSet_grow_74 : decode b_OutcomeSet_grow 74 = .ok (.putfield 22, 3) := by decide +kernel
theorem d_OutcomeSet_grow_77 : decode b_OutcomeSet_grow 77 = .ok (.return_, 1) := by decide +kernel
theorem d_OutcomeSet_firstNotLess_0 : decode b_OutcomeSet_firstNotLess 0 = .ok (.iconst 0, 1) := by decide +kernel
theorem d_OutcomeSet_firstNotLess_1 : decode b_OutcomeSet_firstNotLess 1 = .ok (.istore 4, 2) := by decide +kernel
theorem d_OutcomeSet_firstNotLess_3 : decode b_OutcomeSet_firstNotLess 3 = .ok (.aload_n 0, 1) := by decide +kernel
theorem d_OutcomeSet_firstNotLess_4 : decode b_OutcomeSet_firstNotLess 4 = .ok (.getfield 32, 3) := by decide +kernel
theorem d_OutcomeSet_firstNotLess_7 : decode b_OutcomeSet_firstNotLess 7 = .ok (.istore 5, 2) := by decide +kernel
theorem d_OutcomeSet_firstNotLess_9 : decode b_OutcomeSet_firstNotLess 9 = .ok (.iconst 0, 1) := by decide +kernel
theorem d_OutcomeSet_firstNotLess_10 : decode b_OutcomeSet_firstNotLess 10 = .ok (.istore 6, 2) := by decide +kernel
theorem d_OutcomeSet_firstNotLess_12 : decode b_OutcomeSet_firstNotLess 12 = .ok (.iload 6, 2) := by decide +kernel
theorem d_OutcomeSet_firstNotLess_14 : decode b_OutcomeSet_firstNotLess 14 = .ok (.bipush 32, 2) := by decide +kernel
theorem d_OutcomeSet_firstNotLess_16 : decode b_OutcomeSet_firstNotLess 16 = .ok (.if_icmp .ge 94, 3) := by decide +kernel
theorem d_OutcomeSet_firstNotLess_19 : decode b_OutcomeSet_firstNotLess 19 = .ok (.iload 4, 2) := by decide +kernel
theorem d_OutcomeSet_firstNotLess_21 : decode b_OutcomeSet_firstNotLess 21 = .ok (.iload 5, 2) := by decide +kernel
theorem d_OutcomeSet_firstNotLess_23 : decode b_OutcomeSet_firstNotLess 23 = .ok (.if_icmp .ge 87, 3) := by decide +kernel
theorem d_OutcomeSet_firstNotLess_26 : decode b_OutcomeSet_firstNotLess 26 = .ok (.iload 4, 2) := by decide +kernel
theorem d_OutcomeSet_firstNotLess_28 : decode b_OutcomeSet_firstNotLess 28 = .ok (.iload 5, 2) := by decide +kernel
theorem d_OutcomeSet_firstNotLess_30 : decode b_OutcomeSet_firstNotLess 30 = .ok (.iadd, 1) := by decide +kernel
theorem d_OutcomeSet_firstNotLess_31 : decode b_OutcomeSet_firstNotLess 31 = .ok (.iconst 1, 1) := by decide +kernel
theorem d_OutcomeSet_firstNotLess_32 : decode b_OutcomeSet_firstNotLess 32 = .ok (.ishr, 1) := by decide +kernel
theorem d_OutcomeSet_firstNotLess_33 : decode b_OutcomeSet_firstNotLess 33 = .ok (.istore 7, 2) := by decide +kernel
theorem d_OutcomeSet_firstNotLess_35 : decode b_OutcomeSet_firstNotLess 35 = .ok (.aload_n 0, 1) := by decide +kernel
theorem d_OutcomeSet_firstNotLess_36 : decode b_OutcomeSet_firstNotLess 36 = .ok (.getfield 25, 3) := by decide +kernel
theorem d_OutcomeSet_firstNotLess_39 : decode b_OutcomeSet_firstNotLess 39 = .ok (.iload 7, 2) := by decide +kernel
theorem d_OutcomeSet_firstNotLess_41 : decode b_OutcomeSet_firstNotLess 41 = .ok (.iaload, 1) := by decide +kernel
theorem d_OutcomeSet_firstNotLess_42 : decode b_OutcomeSet_firstNotLess 42 = .ok (.istore 8, 2) := by decide +kernel
theorem d_OutcomeSet_firstNotLess_44 : decode b_OutcomeSet_firstNotLess 44 = .ok (.aload_n 0, 1) := by decide +kernel
theorem d_OutcomeSet_firstNotLess_45 : decode b_OutcomeSet_firstNotLess 45 = .ok (.getfield 9, 3) := by decide +kernel
theorem d_OutcomeSet_firstNotLess_48 : decode b_OutcomeSet_firstNotLess 48 = .ok (.iload 8, 2) := by decide +kernel
theorem d_OutcomeSet_firstNotLess_50 : decode b_OutcomeSet_firstNotLess 50 = .ok (.laload, 1) := by decide +kernel
theorem d_OutcomeSet_firstNotLess_51 : decode b_OutcomeSet_firstNotLess 51 = .ok (.lload_n 1, 1) := by decide +kernel
theorem d_OutcomeSet_firstNotLess_52 : decode b_OutcomeSet_firstNotLess 52 = .ok (.lcmp, 1) := by decide +kernel
theorem d_OutcomeSet_firstNotLess_53 : decode b_OutcomeSet_firstNotLess 53 = .ok (.ifCond .lt 26, 3) := by decide +kernel
theorem d_OutcomeSet_firstNotLess_56 : decode b_OutcomeSet_firstNotLess 56 = .ok (.aload_n 0, 1) := by decide +kernel
theorem d_OutcomeSet_firstNotLess_57 : decode b_OutcomeSet_firstNotLess 57 = .ok (.getfield 9, 3) := by decide +kernel
theorem d_OutcomeSet_firstNotLess_60 : decode b_OutcomeSet_firstNotLess 60 = .ok (.iload 8, 2) := by decide +kernel
theorem d_OutcomeSet_firstNotLess_62 : decode b_OutcomeSet_firstNotLess 62 = .ok (.laload, 1) := by decide +kernel
theorem d_OutcomeSet_firstNotLess_63 : decode b_OutcomeSet_firstNotLess 63 = .ok (.lload_n 1, 1) := by decide +kernel
theorem d_OutcomeSet_firstNotLess_64 : decode b_OutcomeSet_firstNotLess 64 = .ok (.lcmp, 1) := by decide +kernel
theorem d_OutcomeSet_firstNotLess_65 : decode b_OutcomeSet_firstNotLess 65 = .ok (.ifCond .ne 18, 3) := by decide +kernel
theorem d_OutcomeSet_firstNotLess_68 : decode b_OutcomeSet_firstNotLess 68 = .ok (.aload_n 0, 1) := by decide +kernel
theorem d_OutcomeSet_firstNotLess_69 : decode b_OutcomeSet_firstNotLess 69 = .ok (.getfield 15, 3) := by decide +kernel
theorem d_OutcomeSet_firstNotLess_72 : decode b_OutcomeSet_firstNotLess 72 = .ok (.iload 8, 2) := by decide +kernel
theorem d_OutcomeSet_firstNotLess_74 : decode b_OutcomeSet_firstNotLess 74 = .ok (.iaload, 1) := by decide +kernel
theorem d_OutcomeSet_firstNotLess_75 : decode b_OutcomeSet_firstNotLess 75 = .ok (.iload_n 3, 1) := by decide +kernel
theorem d_OutcomeSet_firstNotLess_76 : decode b_OutcomeSet_firstNotLess 76 = .ok (.if_icmp .ge 7, 3) := by decide +kernel
theorem d_OutcomeSet_firstNotLess_79 : decode b_OutcomeSet_firstNotLess 79 = .ok (.iconst 1, 1) := by decide +kernel
theorem d_OutcomeSet_firstNotLess_80 : decode b_OutcomeSet_firstNotLess 80 = .ok (.goto 4, 3) := by decide +kernel
theorem d_OutcomeSet_firstNotLess_83 : decode b_OutcomeSet_firstNotLess 83 = .ok (.iconst 0, 1) := by decide +kernel
theorem d_OutcomeSet_firstNotLess_84 : decode b_OutcomeSet_firstNotLess 84 = .ok (.istore 9, 2) := by decide +kernel
theorem d_OutcomeSet_firstNotLess_86 : decode b_OutcomeSet_firstNotLess 86 = .ok (.iload 9, 2) := by decide +kernel
theorem d_OutcomeSet_firstNotLess_88 : decode b_OutcomeSet_firstNotLess 88 = .ok (.ifCond .eq 12, 3) := by decide +kernel
theorem d_OutcomeSet_firstNotLess_91 : decode b_OutcomeSet_firstNotLess 91 = .ok (.iload 7, 2) := by decide +kernel
theorem d_OutcomeSet_firstNotLess_93 : decode b_OutcomeSet_firstNotLess 93 = .ok (.iconst 1, 1) := by decide +kernel
theorem d_OutcomeSet_firstNotLess_94 : decode b_OutcomeSet_firstNotLess 94 = .ok (.iadd, 1) := by decide +kernel
theorem d_OutcomeSet_firstNotLess_95 : decode b_OutcomeSet_firstNotLess 95 = .ok (.istore 4, 2) := by decide +kernel
theorem d_OutcomeSet_firstNotLess_97 : decode b_OutcomeSet_firstNotLess 97 = .ok (.goto 7, 3) := by decide +kernel
theorem d_OutcomeSet_firstNotLess_100 : decode b_OutcomeSet_firstNotLess 100 = .ok (.iload 7, 2) := by decide +kernel
theorem d_OutcomeSet_firstNotLess_102 : decode b_OutcomeSet_firstNotLess 102 = .ok (.istore 5, 2) := by decide +kernel
theorem d_OutcomeSet_firstNotLess_104 : decode b_OutcomeSet_firstNotLess 104 = .ok (.iinc 6 1, 3) := by decide +kernel
theorem d_OutcomeSet_firstNotLess_107 : decode b_OutcomeSet_firstNotLess 107 = .ok (.goto (-95), 3) := by decide +kernel
theorem d_OutcomeSet_firstNotLess_110 : decode b_OutcomeSet_firstNotLess 110 = .ok (.iload 4, 2) := by decide +kernel
theorem d_OutcomeSet_firstNotLess_112 : decode b_OutcomeSet_firstNotLess 112 = .ok (.ireturn, 1) := by decide +kernel
theorem d_OutcomeSet_isAt_0 : decode b_OutcomeSet_isAt 0 = .ok (.iload_n 1, 1) := by decide +kernel
theorem d_OutcomeSet_isAt_1 : decode b_OutcomeSet_isAt 1 = .ok (.aload_n 0, 1) := by decide +kernel
theorem d_OutcomeSet_isAt_2 : decode b_OutcomeSet_isAt 2 = .ok (.getfield 32, 3) := by decide +kernel
theorem d_OutcomeSet_isAt_5 : decode b_OutcomeSet_isAt 5 = .ok (.if_icmp .lt 5, 3) := by decide +kernel
theorem d_OutcomeSet_isAt_8 : decode b_OutcomeSet_isAt 8 = .ok (.iconst 0, 1) := by decide +kernel
theorem d_OutcomeSet_isAt_9 : decode b_OutcomeSet_isAt 9 = .ok (.ireturn, 1) := by decide +kernel
theorem d_OutcomeSet_isAt_10 : decode b_OutcomeSet_isAt 10 = .ok (.aload_n 0, 1) := by decide +kernel
theorem d_OutcomeSet_isAt_11 : decode b_OutcomeSet_isAt 11 = .ok (.getfield 25, 3) := by decide +kernel
theorem d_OutcomeSet_isAt_14 : decode b_OutcomeSet_isAt 14 = .ok (.iload_n 1, 1) := by decide +kernel
theorem d_OutcomeSet_isAt_15 : decode b_OutcomeSet_isAt 15 = .ok (.iaload, 1) := by decide +kernel
theorem d_OutcomeSet_isAt_16 : decode b_OutcomeSet_isAt 16 = .ok (.istore 5, 2) := by decide +kernel
theorem d_OutcomeSet_isAt_18 : decode b_OutcomeSet_isAt 18 = .ok (.aload_n 0, 1) := by decide +kernel
theorem d_OutcomeSet_isAt_19 : decode b_OutcomeSet_isAt 19 = .ok (.getfield 9, 3) := by decide +kernel
theorem d_OutcomeSet_isAt_22 : decode b_OutcomeSet_isAt 22 = .ok (.iload 5, 2) := by decide +kernel
theorem d_OutcomeSet_isAt_24 : decode b_OutcomeSet_isAt 24 = .ok (.laload, 1) := by decide +kernel
theorem d_OutcomeSet_isAt_25 : decode b_OutcomeSet_isAt 25 = .ok (.lload_n 2, 1) := by decide +kernel
theorem d_OutcomeSet_isAt_26 : decode b_OutcomeSet_isAt 26 = .ok (.lcmp, 1) := by decide +kernel
theorem d_OutcomeSet_isAt_27 : decode b_OutcomeSet_isAt 27 = .ok (.ifCond .ne 19, 3) := by decide +kernel
theorem d_OutcomeSet_isAt_30 : decode b_OutcomeSet_isAt 30 = .ok (.aload_n 0, 1) := by decide +kernel
theorem d_OutcomeSet_isAt_31 : decode b_OutcomeSet_isAt 31 = .ok (.getfield 15, 3) := by decide +kernel
theorem d_OutcomeSet_isAt_34 : decode b_OutcomeSet_isAt 34 = .ok (.iload 5, 2) := by decide +kernel
theorem d_OutcomeSet_isAt_36 : decode b_OutcomeSet_isAt 36 = .ok (.iaload, 1) := by decide +kernel
theorem d_OutcomeSet_isAt_37 : decode b_OutcomeSet_isAt 37 = .ok (.iload 4, 2) := by decide +kernel
theorem d_OutcomeSet_isAt_39 : decode b_OutcomeSet_isAt 39 = .ok (.if_icmp .ne 7, 3) := by decide +kernel
theorem d_OutcomeSet_isAt_42 : decode b_OutcomeSet_isAt 42 = .ok (.iconst 1, 1) := by decide +kernel
theorem d_OutcomeSet_isAt_43 : decode b_OutcomeSet_isAt 43 = .ok (.goto 4, 3) := by decide +kernel
theorem d_OutcomeSet_isAt_46 : decode b_OutcomeSet_isAt 46 = .ok (.iconst 0, 1) := by decide +kernel
theorem d_OutcomeSet_isAt_47 : decode b_OutcomeSet_isAt 47 = .ok (.ireturn, 1) := by decide +kernel
theorem d_OutcomeSet_countMissingIn_0 : decode b_OutcomeSet_countMissingIn 0 = .ok (.iconst 0, 1) := by decide +kernel
theorem d_OutcomeSet_countMissingIn_1 : decode b_OutcomeSet_countMissingIn 1 = .ok (.istore_n 2, 1) := by decide +kernel
theorem d_OutcomeSet_countMissingIn_2 : decode b_OutcomeSet_countMissingIn 2 = .ok (.iconst 0, 1) := by decide +kernel
theorem d_OutcomeSet_countMissingIn_3 : decode b_OutcomeSet_countMissingIn 3 = .ok (.istore_n 3, 1) := by decide +kernel
theorem d_OutcomeSet_countMissingIn_4 : decode b_OutcomeSet_countMissingIn 4 = .ok (.iload_n 3, 1) := by decide +kernel
theorem d_OutcomeSet_countMissingIn_5 : decode b_OutcomeSet_countMissingIn 5 = .ok (.aload_n 0, 1) := by decide +kernel
theorem d_OutcomeSet_countMissingIn_6 : decode b_OutcomeSet_countMissingIn 6 = .ok (.getfield 32, 3) := by decide +kernel
theorem d_OutcomeSet_countMissingIn_9 : decode b_OutcomeSet_countMissingIn 9 = .ok (.if_icmp .ge 51, 3) := by decide +kernel
theorem d_OutcomeSet_countMissingIn_12 : decode b_OutcomeSet_countMissingIn 12 = .ok (.aload_n 1, 1) := by decide +kernel
theorem d_OutcomeSet_countMissingIn_13 : decode b_OutcomeSet_countMissingIn 13 = .ok (.aload_n 0, 1) := by decide +kernel
theorem d_OutcomeSet_countMissingIn_14 : decode b_OutcomeSet_countMissingIn 14 = .ok (.getfield 9, 3) := by decide +kernel
theorem d_OutcomeSet_countMissingIn_17 : decode b_OutcomeSet_countMissingIn 17 = .ok (.iload_n 3, 1) := by decide +kernel
theorem d_OutcomeSet_countMissingIn_18 : decode b_OutcomeSet_countMissingIn 18 = .ok (.laload, 1) := by decide +kernel
theorem d_OutcomeSet_countMissingIn_19 : decode b_OutcomeSet_countMissingIn 19 = .ok (.aload_n 0, 1) := by decide +kernel
theorem d_OutcomeSet_countMissingIn_20 : decode b_OutcomeSet_countMissingIn 20 = .ok (.getfield 15, 3) := by decide +kernel
theorem d_OutcomeSet_countMissingIn_23 : decode b_OutcomeSet_countMissingIn 23 = .ok (.iload_n 3, 1) := by decide +kernel
theorem d_OutcomeSet_countMissingIn_24 : decode b_OutcomeSet_countMissingIn 24 = .ok (.iaload, 1) := by decide +kernel
theorem d_OutcomeSet_countMissingIn_25 : decode b_OutcomeSet_countMissingIn 25 = .ok (.invokevirtual 48, 3) := by decide +kernel
theorem d_OutcomeSet_countMissingIn_28 : decode b_OutcomeSet_countMissingIn 28 = .ok (.istore 4, 2) := by decide +kernel
theorem d_OutcomeSet_countMissingIn_30 : decode b_OutcomeSet_countMissingIn 30 = .ok (.aload_n 1, 1) := by decide +kernel
theorem d_OutcomeSet_countMissingIn_31 : decode b_OutcomeSet_countMissingIn 31 = .ok (.iload 4, 2) := by decide +kernel
theorem d_OutcomeSet_countMissingIn_33 : decode b_OutcomeSet_countMissingIn 33 = .ok (.aload_n 0, 1) := by decide +kernel
theorem d_OutcomeSet_countMissingIn_34 : decode b_OutcomeSet_countMissingIn 34 = .ok (.getfield 9, 3) := by decide +kernel
theorem d_OutcomeSet_countMissingIn_37 : decode b_OutcomeSet_countMissingIn 37 = .ok (.iload_n 3, 1) := by decide +kernel
theorem d_OutcomeSet_countMissingIn_38 : decode b_OutcomeSet_countMissingIn 38 = .ok (.laload, 1) := by decide +kernel
theorem d_OutcomeSet_countMissingIn_39 : decode b_OutcomeSet_countMissingIn 39 = .ok (.aload_n 0, 1) := by decide +kernel
theorem d_OutcomeSet_countMissingIn_40 : decode b_OutcomeSet_countMissingIn 40 = .ok (.getfield 15, 3) := by decide +kernel
theorem d_OutcomeSet_countMissingIn_43 : decode b_OutcomeSet_countMissingIn 43 = .ok (.iload_n 3, 1) := by decide +kernel
theorem d_OutcomeSet_countMissingIn_44 : decode b_OutcomeSet_countMissingIn 44 = .ok (.iaload, 1) := by decide +kernel
theorem d_OutcomeSet_countMissingIn_45 : decode b_OutcomeSet_countMissingIn 45 = .ok (.invokevirtual 52, 3) := by decide +kernel
theorem d_OutcomeSet_countMissingIn_48 : decode b_OutcomeSet_countMissingIn 48 = .ok (.ifCond .ne 6, 3) := by decide +kernel
theorem d_OutcomeSet_countMissingIn_51 : decode b_OutcomeSet_countMissingIn 51 = .ok (.iinc 2 1, 3) := by decide +kernel
theorem d_OutcomeSet_countMissingIn_54 : decode b_OutcomeSet_countMissingIn 54 = .ok (.iinc 3 1, 3) := by decide +kernel
theorem d_OutcomeSet_countMissingIn_57 : decode b_OutcomeSet_countMissingIn 57 = .ok (.goto (-53), 3) := by decide +kernel
theorem d_OutcomeSet_countMissingIn_60 : decode b_OutcomeSet_countMissingIn 60 = .ok (.iload_n 2, 1) := by decide +kernel
theorem d_OutcomeSet_countMissingIn_61 : decode b_OutcomeSet_countMissingIn 61 = .ok (.ireturn, 1) := by decide +kernel
theorem d_OutcomeSet_valueOf_0 : decode b_OutcomeSet_valueOf 0 = .ok (.iload_n 1, 1) := by decide +kernel
theorem d_OutcomeSet_valueOf_1 : decode b_OutcomeSet_valueOf 1 = .ok (.ifCond .lt 21, 3) := by decide +kernel
theorem d_OutcomeSet_valueOf_4 : decode b_OutcomeSet_valueOf 4 = .ok (.iload_n 1, 1) := by decide +kernel
theorem d_OutcomeSet_valueOf_5 : decode b_OutcomeSet_valueOf 5 = .ok (.aload_n 0, 1) := by decide +kernel
theorem d_OutcomeSet_valueOf_6 : decode b_OutcomeSet_valueOf 6 = .ok (.getfield 32, 3) := by decide +kernel
theorem d_OutcomeSet_valueOf_9 : decode b_OutcomeSet_valueOf 9 = .ok (.if_icmp .ge 13, 3) := by decide +kernel
theorem d_OutcomeSet_valueOf_12 : decode b_OutcomeSet_valueOf 12 = .ok (.iload_n 2, 1) := by decide +kernel
theorem d_OutcomeSet_valueOf_13 : decode b_OutcomeSet_valueOf 13 = .ok (.ifCond .lt 9, 3) := by decide +kernel
theorem d_OutcomeSet_valueOf_16 : decode b_OutcomeSet_valueOf 16 = .ok (.iload_n 2, 1) := by decide +kernel
theorem d_OutcomeSet_valueOf_17 : decode b_OutcomeSet_valueOf 17 = .ok (.bipush 11, 2) := by decide +kernel
theorem d_OutcomeSet_valueOf_19 : decode b_OutcomeSet_valueOf 19 = .ok (.if_icmp .lt 7, 3) := by decide +kernel
theorem d_OutcomeSet_valueOf_22 : decode b_OutcomeSet_valueOf 22 = .ok (.sipush (-1000), 3) := by decide +kernel
theorem d_OutcomeSet_valueOf_25 : decode b_OutcomeSet_valueOf 25 = .ok (.ireturn, 1) := by decide +kernel
theorem d_OutcomeSet_valueOf_26 : decode b_OutcomeSet_valueOf 26 = .ok (.aload_n 0, 1) := by decide +kernel
theorem d_OutcomeSet_valueOf_27 : decode b_OutcomeSet_valueOf 27 = .ok (.getfield 25, 3) := by decide +kernel
theorem d_OutcomeSet_valueOf_30 : decode b_OutcomeSet_valueOf 30 = .ok (.iload_n 1, 1) := by decide +kernel
theorem d_OutcomeSet_valueOf_31 : decode b_OutcomeSet_valueOf 31 = .ok (.iaload, 1) := by decide +kernel
theorem d_OutcomeSet_valueOf_32 : decode b_OutcomeSet_valueOf 32 = .ok (.istore_n 3, 1) := by decide +kernel
theorem d_OutcomeSet_valueOf_33 : decode b_OutcomeSet_valueOf 33 = .ok (.iload_n 2, 1) := by decide +kernel
theorem d_OutcomeSet_valueOf_34 : decode b_OutcomeSet_valueOf 34 = .ok (.bipush 8, 2) := by decide +kernel
theorem d_OutcomeSet_valueOf_36 : decode b_OutcomeSet_valueOf 36 = .ok (.if_icmp .ge 12, 3) := by decide +kernel
theorem d_OutcomeSet_valueOf_39 : decode b_OutcomeSet_valueOf 39 = .ok (.aload_n 0, 1) := by decide +kernel
theorem d_OutcomeSet_valueOf_40 : decode b_OutcomeSet_valueOf 40 = .ok (.getfield 9, 3) := by decide +kernel
theorem d_OutcomeSet_valueOf_43 : decode b_OutcomeSet_valueOf 43 = .ok (.iload_n 3, 1) := by decide +kernel
theorem d_OutcomeSet_valueOf_44 : decode b_OutcomeSet_valueOf 44 = .ok (.laload, 1) := by decide +kernel
theorem d_OutcomeSet_valueOf_45 : decode b_OutcomeSet_valueOf 45 = .ok (.goto 10, 3) := by decide +kernel
theorem d_OutcomeSet_valueOf_48 : decode b_OutcomeSet_valueOf 48 = .ok (.aload_n 0, 1) := by decide +kernel
theorem d_OutcomeSet_valueOf_49 : decode b_OutcomeSet_valueOf 49 = .ok (.getfield 15, 3) := by decide +kernel
theorem d_OutcomeSet_valueOf_52 : decode b_OutcomeSet_valueOf 52 = .ok (.iload_n 3, 1) := by decide +kernel
theorem d_OutcomeSet_valueOf_53 : decode b_OutcomeSet_valueOf 53 = .ok (.iaload, 1) := by decide +kernel
theorem d_OutcomeSet_valueOf_54 : decode b_OutcomeSet_valueOf 54 = .ok (.i2l, 1) := by decide +kernel
theorem d_OutcomeSet_valueOf_55 : decode b_OutcomeSet_valueOf 55 = .ok (.lstore 4, 2) := by decide +kernel
theorem d_OutcomeSet_valueOf_57 : decode b_OutcomeSet_valueOf 57 = .ok (.iload_n 2, 1) := by decide +kernel
theorem d_OutcomeSet_valueOf_58 : decode b_OutcomeSet_valueOf 58 = .ok (.bipush 8, 2) := by decide +kernel
theorem d_OutcomeSet_valueOf_60 : decode b_OutcomeSet_valueOf 60 = .ok (.if_icmp .ge 8, 3) := by decide +kernel
theorem d_OutcomeSet_valueOf_63 : decode b_OutcomeSet_valueOf 63 = .ok (.bipush 8, 2) := by decide +kernel
theorem d_OutcomeSet_valueOf_65 : decode b_OutcomeSet_valueOf 65 = .ok (.goto 5, 3) := by decide +kernel
theorem d_OutcomeSet_valueOf_68 : decode b_OutcomeSet_valueOf 68 = .ok (.bipush 11, 2) := by decide +kernel
theorem d_OutcomeSet_valueOf_70 : decode b_OutcomeSet_valueOf 70 = .ok (.iconst 1, 1) := by decide +kernel
theorem d_OutcomeSet_valueOf_71 : decode b_OutcomeSet_valueOf 71 = .ok (.isub, 1) := by decide +kernel
theorem d_OutcomeSet_valueOf_72 : decode b_OutcomeSet_valueOf 72 = .ok (.iload_n 2, 1) := by decide +kernel
theorem d_OutcomeSet_valueOf_73 : decode b_OutcomeSet_valueOf 73 = .ok (.isub, 1) := by decide +kernel
theorem d_OutcomeSet_valueOf_74 : decode b_OutcomeSet_valueOf 74 = .ok (.istore 6, 2) := by decide +kernel
theorem d_OutcomeSet_valueOf_76 : decode b_OutcomeSet_valueOf 76 = .ok (.lload 4, 2) := by decide +kernel
theorem d_OutcomeSet_valueOf_78 : decode b_OutcomeSet_valueOf 78 = .ok (.bipush 7, 2) := by decide +kernel
theorem d_OutcomeSet_valueOf_80 : decode b_OutcomeSet_valueOf 80 = .ok (.iload 6, 2) := by decide +kernel
theorem d_OutcomeSet_valueOf_82 : decode b_OutcomeSet_valueOf 82 = .ok (.imul, 1) := by decide +kernel
theorem d_OutcomeSet_valueOf_83 : decode b_OutcomeSet_valueOf 83 = .ok (.lshr, 1) := by decide +kernel
theorem d_OutcomeSet_valueOf_84 : decode b_OutcomeSet_valueOf 84 = .ok (.ldc2_w 77, 3) := by decide +kernel
theorem d_OutcomeSet_valueOf_87 : decode b_OutcomeSet_valueOf 87 = .ok (.land, 1) := by decide +kernel
theorem d_OutcomeSet_valueOf_88 : decode b_OutcomeSet_valueOf 88 = .ok (.l2i, 1) := by decide +kernel
theorem d_OutcomeSet_valueOf_89 : decode b_OutcomeSet_valueOf 89 = .ok (.bipush 64, 2) := by decide +kernel
theorem d_OutcomeSet_valueOf_91 : decode b_OutcomeSet_valueOf 91 = .ok (.isub, 1) := by decide +kernel
theorem d_OutcomeSet_valueOf_92 : decode b_OutcomeSet_valueOf 92 = .ok (.ireturn, 1) := by decide +kernel
theorem d_OutcomeSet_stepOf_0 : decode b_OutcomeSet_stepOf 0 = .ok (.iload_n 1, 1) := by decide +kernel
theorem d_OutcomeSet_stepOf_1 : decode b_OutcomeSet_stepOf 1 = .ok (.ifCond .lt 11, 3) := by decide +kernel
theorem d_OutcomeSet_stepOf_4 : decode b_OutcomeSet_stepOf 4 = .ok (.iload_n 1, 1) := by decide +kernel
theorem d_OutcomeSet_stepOf_5 : decode b_OutcomeSet_stepOf 5 = .ok (.aload_n 0, 1) := by decide +kernel
theorem d_OutcomeSet_stepOf_6 : decode b_OutcomeSet_stepOf 6 = .ok (.getfield 32, 3) := by decide +kernel
theorem d_OutcomeSet_stepOf_9 : decode b_OutcomeSet_stepOf 9 = .ok (.if_icmp .lt 5, 3) := by decide +kernel
theorem d_OutcomeSet_stepOf_12 : decode b_OutcomeSet_stepOf 12 = .ok (.iconst (-1), 1) := by decide +kernel
theorem d_OutcomeSet_stepOf_13 : decode b_OutcomeSet_stepOf 13 = .ok (.ireturn, 1) := by decide +kernel
theorem d_OutcomeSet_stepOf_14 : decode b_OutcomeSet_stepOf 14 = .ok (.aload_n 0, 1) := by decide +kernel
theorem d_OutcomeSet_stepOf_15 : decode b_OutcomeSet_stepOf 15 = .ok (.getfield 25, 3) := by decide +kernel
theorem d_OutcomeSet_stepOf_18 : decode b_OutcomeSet_stepOf 18 = .ok (.iload_n 1, 1) := by decide +kernel
theorem d_OutcomeSet_stepOf_19 : decode b_OutcomeSet_stepOf 19 = .ok (.iaload, 1) := by decide +kernel
theorem d_OutcomeSet_stepOf_20 : decode b_OutcomeSet_stepOf 20 = .ok (.istore_n 3, 1) := by decide +kernel
theorem d_OutcomeSet_stepOf_21 : decode b_OutcomeSet_stepOf 21 = .ok (.iload_n 2, 1) := by decide +kernel
theorem d_OutcomeSet_stepOf_22 : decode b_OutcomeSet_stepOf 22 = .ok (.ifCond .lt 13, 3) := by decide +kernel
theorem d_OutcomeSet_stepOf_25 : decode b_OutcomeSet_stepOf 25 = .ok (.iload_n 2, 1) := by decide +kernel
theorem d_OutcomeSet_stepOf_26 : decode b_OutcomeSet_stepOf 26 = .ok (.aload_n 0, 1) := by decide +kernel
theorem d_OutcomeSet_stepOf_27 : decode b_OutcomeSet_stepOf 27 = .ok (.getfield 19, 3) := by decide +kernel
theorem d_OutcomeSet_stepOf_30 : decode b_OutcomeSet_stepOf 30 = .ok (.iload_n 3, 1) := by decide +kernel
theorem d_OutcomeSet_stepOf_31 : decode b_OutcomeSet_stepOf 31 = .ok (.iaload, 1) := by decide +kernel
theorem d_OutcomeSet_stepOf_32 : decode b_OutcomeSet_stepOf 32 = .ok (.if_icmp .lt 5, 3) := by decide +kernel
theorem d_OutcomeSet_stepOf_35 : decode b_OutcomeSet_stepOf 35 = .ok (.iconst (-1), 1) := by decide +kernel
theorem d_OutcomeSet_stepOf_36 : decode b_OutcomeSet_stepOf 36 = .ok (.ireturn, 1) := by decide +kernel
theorem d_OutcomeSet_stepOf_37 : decode b_OutcomeSet_stepOf 37 = .ok (.aload_n 0, 1) := by decide +kernel
theorem d_OutcomeSet_stepOf_38 : decode b_OutcomeSet_stepOf 38 = .ok (.getfield 22, 3) := by decide +kernel
theorem d_OutcomeSet_stepOf_41 : decode b_OutcomeSet_stepOf 41 = .ok (.iload_n 3, 1) := by decide +kernel
theorem d_OutcomeSet_stepOf_42 : decode b_OutcomeSet_stepOf 42 = .ok (.aload_n 0, 1) := by decide +kernel
theorem d_OutcomeSet_stepOf_43 : decode b_OutcomeSet_stepOf 43 = .ok (.getfield 28, 3) := by decide +kernel
theorem d_OutcomeSet_stepOf_46 : decode b_OutcomeSet_stepOf 46 = .ok (.imul, 1) := by decide +kernel
theorem d_OutcomeSet_stepOf_47 : decode b_OutcomeSet_stepOf 47 = .ok (.iload_n 2, 1) := by decide +kernel
theorem d_OutcomeSet_stepOf_48 : decode b_OutcomeSet_stepOf 48 = .ok (.iadd, 1) := by decide +kernel
theorem d_OutcomeSet_stepOf_49 : decode b_OutcomeSet_stepOf 49 = .ok (.iaload, 1) := by decide +kernel
theorem d_OutcomeSet_stepOf_50 : decode b_OutcomeSet_stepOf 50 = .ok (.ireturn, 1) := by decide +kernel
theorem d_Program_init_0 : decode b_Program_init 0 = .ok (.aload_n 0, 1) := by decide +kernel
theorem d_Program_init_1 : decode b_Program_init 1 = .ok (.invokespecial 3, 3) := by decide +kernel
theorem d_Program_init_4 : decode b_Program_init 4 = .ok (.aload_n 0, 1) := by decide +kernel
theorem d_Program_init_5 : decode b_Program_init 5 = .ok (.iconst 4, 1) := by decide +kernel
theorem d_Program_init_6 : decode b_Program_init 6 = .ok (.newarray .int, 2) := by decide +kernel
theorem d_Program_init_8 : decode b_Program_init 8 = .ok (.putfield 9, 3) := by decide +kernel
theorem d_Program_init_11 : decode b_Program_init 11 = .ok (.aload_n 0, 1) := by decide +kernel
theorem d_Program_init_12 : decode b_Program_init 12 = .ok (.bipush 28, 2) := by decide +kernel
theorem d_Program_init_14 : decode b_Program_init 14 = .ok (.newarray .int, 2) := by decide +kernel
theorem d_Program_init_16 : decode b_Program_init 16 = .ok (.putfield 15, 3) := by decide +kernel
theorem d_Program_init_19 : decode b_Program_init 19 = .ok (.aload_n 0, 1) := by decide +kernel
theorem d_Program_init_20 : decode b_Program_init 20 = .ok (.bipush 7, 2) := by decide +kernel
theorem d_Program_init_22 : decode b_Program_init 22 = .ok (.newarray .int, 2) := by decide +kernel
theorem d_Program_init_24 : decode b_Program_init 24 = .ok (.putfield 18, 3) := by decide +kernel
theorem d_Program_init_27 : decode b_Program_init 27 = .ok (.aload_n 0, 1) := by decide +kernel
theorem d_Program_init_28 : decode b_Program_init 28 = .ok (.bipush 7, 2) := by decide +kernel
theorem d_Program_init_30 : decode b_Program_init 30 = .ok (.newarray .int, 2) := by decide +kernel
theorem d_Program_init_32 : decode b_Program_init 32 = .ok (.putfield 21, 3) := by decide +kernel
theorem d_Program_init_35 : decode b_Program_init 35 = .ok (.aload_n 0, 1) := by decide +kernel
theorem d_Program_init_36 : decode b_Program_init 36 = .ok (.bipush 7, 2) := by decide +kernel
theorem d_Program_init_38 : decode b_Program_init 38 = .ok (.newarray .int, 2) := by decide +kernel
theorem d_Program_init_40 : decode b_Program_init 40 = .ok (.putfield 24, 3) := by decide +kernel
theorem d_Program_init_43 : decode b_Program_init 43 = .ok (.aload_n 0, 1) := by decide +kernel
theorem d_Program_init_44 : decode b_Program_init 44 = .ok (.bipush 7, 2) := by decide +kernel
theorem d_Program_init_46 : decode b_Program_init 46 = .ok (.newarray .int, 2) := by decide +kernel
theorem d_Program_init_48 : decode b_Program_init 48 = .ok (.putfield 27, 3) := by decide +kernel
theorem d_Program_init_51 : decode b_Program_init 51 = .ok (.aload_n 0, 1) := by decide +kernel
theorem d_Program_init_52 : decode b_Program_init 52 = .ok (.bipush 7, 2) := by decide +kernel
theorem d_Program_init_54 : decode b_Program_init 54 = .ok (.newarray .int, 2) := by decide +kernel
theorem d_Program_init_56 : decode b_Program_init 56 = .ok (.putfield 30, 3) := by decide +kernel
theorem d_Program_init_59 : decode b_Program_init 59 = .ok (.aload_n 0, 1) := by decide +kernel
theorem d_Program_init_60 : decode b_Program_init 60 = .ok (.bipush 7, 2) := by decide +kernel
theorem d_Program_init_62 : decode b_Program_init 62 = .ok (.newarray .int, 2) := by decide +kernel
theorem d_Program_init_64 : decode b_Program_init 64 = .ok (.putfield 33, 3) := by decide +kernel
theorem d_Program_init_67 : decode b_Program_init 67 = .ok (.aload_n 0, 1) := by decide +kernel
theorem d_Program_init_68 : decode b_Program_init 68 = .ok (.iconst 4, 1) := by decide +kernel
theorem d_Program_init_69 : decode b_Program_init 69 = .ok (.newarray .int, 2) := by decide +kernel
theorem d_Program_init_71 : decode b_Program_init 71 = .ok (.putfield 36, 3) := by decide +kernel
theorem d_Program_init_74 : decode b_Program_init 74 = .ok (.aload_n 0, 1) := by decide +kernel
theorem d_Program_init_75 : decode b_Program_init 75 = .ok (.bipush 6, 2) := by decide +kernel
theorem d_Program_init_77 : decode b_Program_init 77 = .ok (.newarray .int, 2) := by decide +kernel
theorem d_Program_init_79 : decode b_Program_init 79 = .ok (.putfield 39, 3) := by decide +kernel
theorem d_Program_init_82 : decode b_Program_init 82 = .ok (.aload_n 0, 1) := by decide +kernel
theorem d_Program_init_83 : decode b_Program_init 83 = .ok (.iconst 3, 1) := by decide +kernel
theorem d_Program_init_84 : decode b_Program_init 84 = .ok (.newarray .int, 2) := by decide +kernel
theorem d_Program_init_86 : decode b_Program_init 86 = .ok (.putfield 42, 3) := by decide +kernel
theorem d_Program_init_89 : decode b_Program_init 89 = .ok (.return_, 1) := by decide +kernel
theorem d_Program_empty_0 : decode b_Program_empty 0 = .ok (.aload_n 0, 1) := by decide +kernel
theorem d_Program_empty_1 : decode b_Program_empty 1 = .ok (.iconst 0, 1) := by decide +kernel
theorem d_Program_empty_2 : decode b_Program_empty 2 = .ok (.putfield 45, 3) := by decide +kernel
theorem d_Program_empty_5 : decode b_Program_empty 5 = .ok (.aload_n 0, 1) := by decide +kernel
theorem d_Program_empty_6 : decode b_Program_empty 6 = .ok (.iconst 0, 1) := by decide +kernel
theorem d_Program_empty_7 : decode b_Program_empty 7 = .ok (.putfield 49, 3) := by decide +kernel
theorem d_Program_empty_10 : decode b_Program_empty 10 = .ok (.aload_n 0, 1) := by decide +kernel
theorem d_Program_empty_11 : decode b_Program_empty 11 = .ok (.getfield 9, 3) := by decide +kernel
theorem d_Program_empty_14 : decode b_Program_empty 14 = .ok (.iconst 0, 1) := by decide +kernel
theorem d_Program_empty_15 : decode b_Program_empty 15 = .ok (.invokestatic 52, 3) := by decide +kernel
theorem d_Program_empty_18 : decode b_Program_empty 18 = .ok (.aload_n 0, 1) := by decide +kernel
theorem d_Program_empty_19 : decode b_Program_empty 19 = .ok (.getfield 36, 3) := by decide +kernel
theorem d_Program_empty_22 : decode b_Program_empty 22 = .ok (.iconst 0, 1) := by decide +kernel
theorem d_Program_empty_23 : decode b_Program_empty 23 = .ok (.invokestatic 52, 3) := by decide +kernel
theorem d_Program_empty_26 : decode b_Program_empty 26 = .ok (.aload_n 0, 1) := by decide +kernel
theorem d_Program_empty_27 : decode b_Program_empty 27 = .ok (.getfield 39, 3) := by decide +kernel
theorem d_Program_empty_30 : decode b_Program_empty 30 = .ok (.iconst 0, 1) := by decide +kernel
theorem d_Program_empty_31 : decode b_Program_empty 31 = .ok (.invokestatic 52, 3) := by decide +kernel
theorem d_Program_empty_34 : decode b_Program_empty 34 = .ok (.aload_n 0, 1) := by decide +kernel
theorem d_Program_empty_35 : decode b_Program_empty 35 = .ok (.getfield 42, 3) := by decide +kernel
theorem d_Program_empty_38 : decode b_Program_empty 38 = .ok (.iconst 0, 1) := by decide +kernel
theorem d_Program_empty_39 : decode b_Program_empty 39 = .ok (.invokestatic 52, 3) := by decide +kernel
theorem d_Program_empty_42 : decode b_Program_empty 42 = .ok (.return_, 1) := by decide +kernel
theorem d_Program_addThread_0 : decode b_Program_addThread 0 = .ok (.aload_n 0, 1) := by decide +kernel
theorem d_Program_addThread_1 : decode b_Program_addThread 1 = .ok (.getfield 45, 3) := by decide +kernel
theorem d_Program_addThread_4 : decode b_Program_addThread 4 = .ok (.iconst 4, 1) := by decide +kernel
theorem d_Program_addThread_5 : decode b_Program_addThread 5 = .ok (.if_icmp .lt 5, 3) := by decide +kernel
theorem d_Program_addThread_8 : decode b_Program_addThread 8 = .ok (.iconst (-1), 1) := by decide +kernel
theorem d_Program_addThread_9 : decode b_Program_addThread 9 = .ok (.ireturn, 1) := by decide +kernel
theorem d_Program_addThread_10 : decode b_Program_addThread 10 = .ok (.aload_n 0, 1) := by decide +kernel
theorem d_Program_addThread_11 : decode b_Program_addThread 11 = .ok (.dup, 1) := by decide +kernel
theorem d_Program_addThread_12 : decode b_Program_addThread 12 = .ok (.getfield 45, 3) := by decide +kernel
theorem d_Program_addThread_15 : decode b_Program_addThread 15 = .ok (.iconst 1, 1) := by decide +kernel
theorem d_Program_addThread_16 : decode b_Program_addThread 16 = .ok (.iadd, 1) := by decide +kernel
theorem d_Program_addThread_17 : decode b_Program_addThread 17 = .ok (.putfield 45, 3) := by decide +kernel
theorem d_Program_addThread_20 : decode b_Program_addThread 20 = .ok (.aload_n 0, 1) := by decide +kernel
theorem d_Program_addThread_21 : decode b_Program_addThread 21 = .ok (.getfield 45, 3) := by decide +kernel
theorem d_Program_addThread_24 : decode b_Program_addThread 24 = .ok (.iconst 1, 1) := by decide +kernel
theorem d_Program_addThread_25 : decode b_Program_addThread 25 = .ok (.isub, 1) := by decide +kernel
theorem d_Program_addThread_26 : decode b_Program_addThread 26 = .ok (.ireturn, 1) := by decide +kernel
theorem d_Program_addAction_0 : decode b_Program_addAction 0 = .ok (.iload_n 1, 1) := by decide +kernel
theorem d_Program_addAction_1 : decode b_Program_addAction 1 = .ok (.ifCond .lt 20, 3) := by decide +kernel
theorem d_Program_addAction_4 : decode b_Program_addAction 4 = .ok (.iload_n 1, 1) := by decide +kernel
theorem d_Program_addAction_5 : decode b_Program_addAction 5 = .ok (.aload_n 0, 1) := by decide +kernel
theorem d_Program_addAction_6 : decode b_Program_addAction 6 = .ok (.getfield 45, 3) := by decide +kernel
theorem d_Program_addAction_9 : decode b_Program_addAction 9 = .ok (.if_icmp .ge 12, 3) := by decide +kernel
theorem d_Program_addAction_12 : decode b_Program_addAction 12 = .ok (.aload_n 0, 1) := by decide +kernel
theorem d_Program_addAction_13 : decode b_Program_addAction 13 = .ok (.getfield 49, 3) := by decide +kernel
theorem d_Program_addAction_16 : decode b_Program_addAction 16 = .ok (.bipush 7, 2) := by decide +kernel
theorem d_Program_addAction_18 : decode b_Program_addAction 18 = .ok (.if_icmp .lt 5, 3) := by decide +kernel
theorem d_Program_addAction_21 : decode b_Program_addAction 21 = .ok (.iconst (-1), 1) := by decide +kernel
theorem d_Program_addAction_22 : decode b_Program_addAction 22 = .ok (.ireturn, 1) := by decide +kernel
theorem d_Program_addAction_23 : decode b_Program_addAction 23 = .ok (.aload_n 0, 1) := by decide +kernel
theorem d_Program_addAction_24 : decode b_Program_addAction 24 = .ok (.getfield 49, 3) := by decide +kernel
theorem d_Program_addAction_27 : decode b_Program_addAction 27 = .ok (.istore 6, 2) := by decide +kernel
theorem d_Program_addAction_29 : decode b_Program_addAction 29 = .ok (.iconst 1, 1) := by decide +kernel
theorem d_Program_addAction_30 : decode b_Program_addAction 30 = .ok (.iload 6, 2) := by decide +kernel
theorem d_Program_addAction_32 : decode b_Program_addAction 32 = .ok (.ishl, 1) := by decide +kernel
theorem d_Program_addAction_33 : decode b_Program_addAction 33 = .ok (.istore 7, 2) := by decide +kernel
theorem d_Program_addAction_35 : decode b_Program_addAction 35 = .ok (.aload_n 0, 1) := by decide +kernel
theorem d_Program_addAction_36 : decode b_Program_addAction 36 = .ok (.getfield 15, 3) := by decide +kernel
theorem d_Program_addAction_39 : decode b_Program_addAction 39 = .ok (.iload_n 1, 1) := by decide +kernel
theorem d_Program_addAction_40 : decode b_Program_addAction 40 = .ok (.bipush 7, 2) := by decide +kernel
theorem d_Program_addAction_42 : decode b_Program_addAction 42 = .ok (.imul, 1) := by decide +kernel
theorem d_Program_addAction_43 : decode b_Program_addAction 43 = .ok (.aload_n 0, 1) := by decide +kernel
theorem d_Program_addAction_44 : decode b_Program_addAction 44 = .ok (.getfield 9, 3) := by decide +kernel
theorem d_Program_addAction_47 : decode b_Program_addAction 47 = .ok (.iload_n 1, 1) := by decide +kernel
theorem d_Program_addAction_48 : decode b_Program_addAction 48 = .ok (.iaload, 1) := by decide +kernel
theorem d_Program_addAction_49 : decode b_Program_addAction 49 = .ok (.iadd, 1) := by decide +kernel
theorem d_Program_addAction_50 : decode b_Program_addAction 50 = .ok (.iload 6, 2) := by decide +kernel
theorem d_Program_addAction_52 : decode b_Program_addAction 52 = .ok (.iastore, 1) := by decide +kernel
theorem d_Program_addAction_53 : decode b_Program_addAction 53 = .ok (.aload_n 0, 1) := by decide +kernel
theorem d_Program_addAction_54 : decode b_Program_addAction 54 = .ok (.getfield 18, 3) := by decide +kernel
theorem d_Program_addAction_57 : decode b_Program_addAction 57 = .ok (.iload 6, 2) := by decide +kernel
theorem d_Program_addAction_59 : decode b_Program_addAction 59 = .ok (.iload_n 1, 1) := by decide +kernel
theorem d_Program_addAction_60 : decode b_Program_addAction 60 = .ok (.iastore, 1) := by decide +kernel
theorem d_Program_addAction_61 : decode b_Program_addAction 61 = .ok (.aload_n 0, 1) := by decide +kernel
theorem d_Program_addAction_62 : decode b_Program_addAction 62 = .ok (.getfield 21, 3) := by decide +kernel
theorem d_Program_addAction_65 : decode b_Program_addAction 65 = .ok (.iload 6, 2) := by decide +kernel
theorem d_Program_addAction_67 : decode b_Program_addAction 67 = .ok (.aload_n 0, 1) := by decide +kernel
theorem d_Program_addAction_68 : decode b_Program_addAction 68 = .ok (.getfield 9, 3) := by decide +kernel
theorem d_Program_addAction_71 : decode b_Program_addAction 71 = .ok (.iload_n 1, 1) := by decide +kernel
theorem d_Program_addAction_72 : decode b_Program_addAction 72 = .ok (.iaload, 1) := by decide +kernel
theorem d_Program_addAction_73 : decode b_Program_addAction 73 = .ok (.iastore, 1) := by decide +kernel
theorem d_Program_addAction_74 : decode b_Program_addAction 74 = .ok (.aload_n 0, 1) := by decide +kernel
theorem d_Program_addAction_75 : decode b_Program_addAction 75 = .ok (.getfield 24, 3) := by decide +kernel
theorem d_Program_addAction_78 : decode b_Program_addAction 78 = .ok (.iload 6, 2) := by decide +kernel
theorem d_Program_addAction_80 : decode b_Program_addAction 80 = .ok (.iload_n 2, 1) := by decide +kernel
theorem d_Program_addAction_81 : decode b_Program_addAction 81 = .ok (.iastore, 1) := by decide +kernel
theorem d_Program_addAction_82 : decode b_Program_addAction 82 = .ok (.aload_n 0, 1) := by decide +kernel
theorem d_Program_addAction_83 : decode b_Program_addAction 83 = .ok (.getfield 27, 3) := by decide +kernel
theorem d_Program_addAction_86 : decode b_Program_addAction 86 = .ok (.iload 6, 2) := by decide +kernel
theorem d_Program_addAction_88 : decode b_Program_addAction 88 = .ok (.iload_n 3, 1) := by decide +kernel
theorem d_Program_addAction_89 : decode b_Program_addAction 89 = .ok (.iastore, 1) := by decide +kernel
theorem d_Program_addAction_90 : decode b_Program_addAction 90 = .ok (.aload_n 0, 1) := by decide +kernel
theorem d_Program_addAction_91 : decode b_Program_addAction 91 = .ok (.getfield 30, 3) := by decide +kernel
theorem d_Program_addAction_94 : decode b_Program_addAction 94 = .ok (.iload 6, 2) := by decide +kernel
theorem d_Program_addAction_96 : decode b_Program_addAction 96 = .ok (.iload_n 1, 1) := by decide +kernel
theorem d_Program_addAction_97 : decode b_Program_addAction 97 = .ok (.iconst 2, 1) := by decide +kernel
theorem d_Program_addAction_98 : decode b_Program_addAction 98 = .ok (.imul, 1) := by decide +kernel
theorem d_Program_addAction_99 : decode b_Program_addAction 99 = .ok (.iload 4, 2) := by decide +kernel
theorem d_Program_addAction_101 : decode b_Program_addAction 101 = .ok (.iadd, 1) := by decide +kernel
theorem d_Program_addAction_102 : decode b_Program_addAction 102 = .ok (.iastore, 1) := by decide +kernel
theorem d_Program_addAction_103 : decode b_Program_addAction 103 = .ok (.aload_n 0, 1) := by decide +kernel
theorem d_Program_addAction_104 : decode b_Program_addAction 104 = .ok (.getfield 33, 3) := by decide +kernel
theorem d_Program_addAction_107 : decode b_Program_addAction 107 = .ok (.iload 6, 2) := by decide +kernel
theorem d_Program_addAction_109 : decode b_Program_addAction 109 = .ok (.iload 5, 2) := by decide +kernel
theorem d_Program_addAction_111 : decode b_Program_addAction 111 = .ok (.iastore, 1) := by decide +kernel
theorem d_Program_addAction_112 : decode b_Program_addAction 112 = .ok (.aload_n 0, 1) := by decide +kernel
theorem d_Program_addAction_113 : decode b_Program_addAction 113 = .ok (.getfield 36, 3) := by decide +kernel
theorem d_Program_addAction_116 : decode b_Program_addAction 116 = .ok (.iload_n 1, 1) := by decide +kernel
theorem d_Program_addAction_117 : decode b_Program_addAction 117 = .ok (.dup2, 1) := by decide +kernel
theorem d_Program_addAction_118 : decode b_Program_addAction 118 = .ok (.iaload, 1) := by decide +kernel
theorem d_Program_addAction_119 : decode b_Program_addAction 119 = .ok (.iload 7, 2) := by decide +kernel
theorem d_Program_addAction_121 : decode b_Program_addAction 121 = .ok (.ior, 1) := by decide +kernel
theorem d_Program_addAction_122 : decode b_Program_addAction 122 = .ok (.iastore, 1) := by decide +kernel
theorem d_Program_addAction_123 : decode b_Program_addAction 123 = .ok (.aload_n 0, 1) := by decide +kernel
theorem d_Program_addAction_124 : decode b_Program_addAction 124 = .ok (.getfield 39, 3) := by decide +kernel
theorem d_Program_addAction_127 : decode b_Program_addAction 127 = .ok (.iload_n 2, 1) := by decide +kernel
theorem d_Program_addAction_128 : decode b_Program_addAction 128 = .ok (.dup2, 1) := by decide +kernel
theorem d_Program_addAction_129 : decode b_Program_addAction 129 = .ok (.iaload, 1) := by decide +kernel
theorem d_Program_addAction_130 : decode b_Program_addAction 130 = .ok (.iload 7, 2) := by decide +kernel
theorem d_Program_addAction_132 : decode b_Program_addAction 132 = .ok (.ior, 1) := by decide +kernel
theorem d_Program_addAction_133 : decode b_Program_addAction 133 = .ok (.iastore, 1) := by decide +kernel
theorem d_Program_addAction_134 : decode b_Program_addAction 134 = .ok (.iload_n 2, 1) := by decide +kernel
theorem d_Program_addAction_135 : decode b_Program_addAction 135 = .ok (.iconst 4, 1) := by decide +kernel
theorem d_Program_addAction_136 : decode b_Program_addAction 136 = .ok (.if_icmp .ge 14, 3) := by decide +kernel
theorem d_Program_addAction_139 : decode b_Program_addAction 139 = .ok (.aload_n 0, 1) := by decide +kernel
theorem d_Program_addAction_140 : decode b_Program_addAction 140 = .ok (.getfield 42, 3) := by decide +kernel
theorem d_Program_addAction_143 : decode b_Program_addAction 143 = .ok (.iload_n 3, 1) := by decide +kernel
theorem d_Program_addAction_144 : decode b_Program_addAction 144 = .ok (.dup2, 1) := by decide +kernel
theorem d_Program_addAction_145 : decode b_Program_addAction 145 = .ok (.iaload, 1) := by decide +kernel
theorem d_Program_addAction_146 : decode b_Program_addAction 146 = .ok (.iload 7, 2) := by decide +kernel
theorem d_Program_addAction_148 : decode b_Program_addAction 148 = .ok (.ior, 1) := by decide +kernel
theorem d_Program_addAction_149 : decode b_Program_addAction 149 = .ok (.iastore, 1) := by decide +kernel
theorem d_Program_addAction_150 : decode b_Program_addAction 150 = .ok (.aload_n 0, 1) := by decide +kernel
theorem d_Program_addAction_151 : decode b_Program_addAction 151 = .ok (.dup, 1) := by decide +kernel
theorem d_Program_addAction_152 : decode b_Program_addAction 152 = .ok (.getfield 49, 3) := by decide +kernel
theorem d_Program_addAction_155 : decode b_Program_addAction 155 = .ok (.iconst 1, 1) := by decide +kernel
theorem d_Program_addAction_156 : decode b_Program_addAction 156 = .ok (.iadd, 1) := by decide +kernel
theorem d_Program_addAction_157 : decode b_Program_addAction 157 = .ok (.putfield 49, 3) := by decide +kernel
theorem d_Program_addAction_160 : decode b_Program_addAction 160 = .ok (.aload_n 0, 1) := by decide +kernel
theorem d_Program_addAction_161 : decode b_Program_addAction 161 = .ok (.getfield 9, 3) := by decide +kernel
theorem d_Program_addAction_164 : decode b_Program_addAction 164 = .ok (.iload_n 1, 1) := by decide +kernel
theorem d_Program_addAction_165 : decode b_Program_addAction 165 = .ok (.dup2, 1) := by decide +kernel
theorem d_Program_addAction_166 : decode b_Program_addAction 166 = .ok (.iaload, 1) := by decide +kernel
theorem d_Program_addAction_167 : decode b_Program_addAction 167 = .ok (.iconst 1, 1) := by decide +kernel
theorem d_Program_addAction_168 : decode b_Program_addAction 168 = .ok (.iadd, 1) := by decide +kernel
theorem d_Program_addAction_169 : decode b_Program_addAction 169 = .ok (.iastore, 1) := by decide +kernel
theorem d_Program_addAction_170 : decode b_Program_addAction 170 = .ok (.aload_n 0, 1) := by decide +kernel
theorem d_Program_addAction_171 : decode b_Program_addAction 171 = .ok (.getfield 9, 3) := by decide +kernel
theorem d_Program_addAction_174 : decode b_Program_addAction 174 = .ok (.iload_n 1, 1) := by decide +kernel
theorem d_Program_addAction_175 : decode b_Program_addAction 175 = .ok (.iaload, 1) := by decide +kernel
theorem d_Program_addAction_176 : decode b_Program_addAction 176 = .ok (.ireturn, 1) := by decide +kernel
theorem d_Program_idAt_0 : decode b_Program_idAt 0 = .ok (.iload_n 1, 1) := by decide +kernel
theorem d_Program_idAt_1 : decode b_Program_idAt 1 = .ok (.ifCond .lt 25, 3) := by decide +kernel
theorem d_Program_idAt_4 : decode b_Program_idAt 4 = .ok (.iload_n 1, 1) := by decide +kernel
theorem d_Program_idAt_5 : decode b_Program_idAt 5 = .ok (.aload_n 0, 1) := by decide +kernel
theorem d_Program_idAt_6 : decode b_Program_idAt 6 = .ok (.getfield 45, 3) := by decide +kernel
theorem d_Program_idAt_9 : decode b_Program_idAt 9 = .ok (.if_icmp .ge 17, 3) := by decide +kernel
theorem d_Program_idAt_12 : decode b_Program_idAt 12 = .ok (.iload_n 2, 1) := by decide +kernel
theorem d_Program_idAt_13 : decode b_Program_idAt 13 = .ok (.ifCond .lt 13, 3) := by decide +kernel
theorem d_Program_idAt_16 : decode b_Program_idAt 16 = .ok (.iload_n 2, 1) := by decide +kernel
theorem d_Program_idAt_17 : decode b_Program_idAt 17 = .ok (.aload_n 0, 1) := by decide +kernel
theorem d_Program_idAt_18 : decode b_Program_idAt 18 = .ok (.getfield 9, 3) := by decide +kernel
theorem d_Program_idAt_21 : decode b_Program_idAt 21 = .ok (.iload_n 1, 1) := by decide +kernel
theorem d_Program_idAt_22 : decode b_Program_idAt 22 = .ok (.iaload, 1) := by decide +kernel
theorem d_Program_idAt_23 : decode b_Program_idAt 23 = .ok (.if_icmp .lt 5, 3) := by decide +kernel
theorem d_Program_idAt_26 : decode b_Program_idAt 26 = .ok (.iconst (-1), 1) := by decide +kernel
theorem d_Program_idAt_27 : decode b_Program_idAt 27 = .ok (.ireturn, 1) := by decide +kernel
theorem d_Program_idAt_28 : decode b_Program_idAt 28 = .ok (.aload_n 0, 1) := by decide +kernel
theorem d_Program_idAt_29 : decode b_Program_idAt 29 = .ok (.getfield 15, 3) := by decide +kernel
theorem d_Program_idAt_32 : decode b_Program_idAt 32 = .ok (.iload_n 1, 1) := by decide +kernel
theorem d_Program_idAt_33 : decode b_Program_idAt 33 = .ok (.bipush 7, 2) := by decide +kernel
theorem d_Program_idAt_35 : decode b_Program_idAt 35 = .ok (.imul, 1) := by decide +kernel
theorem d_Program_idAt_36 : decode b_Program_idAt 36 = .ok (.iload_n 2, 1) := by decide +kernel
theorem d_Program_idAt_37 : decode b_Program_idAt 37 = .ok (.iadd, 1) := by decide +kernel
theorem d_Program_idAt_38 : decode b_Program_idAt 38 = .ok (.iaload, 1) := by decide +kernel
theorem d_Program_idAt_39 : decode b_Program_idAt 39 = .ok (.ireturn, 1) := by decide +kernel
theorem d_Program_takesValue_0 : decode b_Program_takesValue 0 = .ok (.aload_n 0, 1) := by decide +kernel
theorem d_Program_takesValue_1 : decode b_Program_takesValue 1 = .ok (.getfield 24, 3) := by decide +kernel
theorem d_Program_takesValue_4 : decode b_Program_takesValue 4 = .ok (.iload_n 1, 1) := by decide +kernel
theorem d_Program_takesValue_5 : decode b_Program_takesValue 5 = .ok (.iaload, 1) := by decide +kernel
theorem d_Program_takesValue_6 : decode b_Program_takesValue 6 = .ok (.ifCond .eq 13, 3) := by decide +kernel
theorem d_Program_takesValue_9 : decode b_Program_takesValue 9 = .ok (.aload_n 0, 1) := by decide +kernel
theorem d_Program_takesValue_10 : decode b_Program_takesValue 10 = .ok (.getfield 24, 3) := by decide +kernel
theorem d_Program_takesValue_13 : decode b_Program_takesValue 13 = .ok (.iload_n 1, 1) := by decide +kernel
theorem d_Program_takesValue_14 : decode b_Program_takesValue 14 = .ok (.iaload, 1) := by decide +kernel
theorem d_Program_takesValue_15 : decode b_Program_takesValue 15 = .ok (.iconst 3, 1) := by decide +kernel
theorem d_Program_takesValue_16 : decode b_Program_takesValue 16 = .ok (.if_icmp .ne 7, 3) := by decide +kernel
theorem d_Program_takesValue_19 : decode b_Program_takesValue 19 = .ok (.iconst 1, 1) := by decide +kernel
theorem d_Program_takesValue_20 : decode b_Program_takesValue 20 = .ok (.goto 4, 3) := by decide +kernel
theorem d_Program_takesValue_23 : decode b_Program_takesValue 23 = .ok (.iconst 0, 1) := by decide +kernel
theorem d_Program_takesValue_24 : decode b_Program_takesValue 24 = .ok (.ireturn, 1) := by decide +kernel
theorem d_Program_stores_0 : decode b_Program_stores 0 = .ok (.aload_n 0, 1) := by decide +kernel
theorem d_Program_stores_1 : decode b_Program_stores 1 = .ok (.getfield 39, 3) := by decide +kernel
theorem d_Program_stores_4 : decode b_Program_stores 4 = .ok (.iconst 1, 1) := by decide +kernel
theorem d_Program_stores_5 : decode b_Program_stores 5 = .ok (.iaload, 1) := by decide +kernel
theorem d_Program_stores_6 : decode b_Program_stores 6 = .ok (.aload_n 0, 1) := by decide +kernel
theorem d_Program_stores_7 : decode b_Program_stores 7 = .ok (.getfield 39, 3) := by decide +kernel
theorem d_Program_stores_10 : decode b_Program_stores 10 = .ok (.iconst 2, 1) := by decide +kernel
theorem d_Program_stores_11 : decode b_Program_stores 11 = .ok (.iaload, 1) := by decide +kernel
theorem d_Program_stores_12 : decode b_Program_stores 12 = .ok (.ior, 1) := by decide +kernel
theorem d_Program_stores_13 : decode b_Program_stores 13 = .ok (.ireturn, 1) := by decide +kernel
theorem d_Program_writersOf_0 : decode b_Program_writersOf 0 = .ok (.iload_n 1, 1) := by decide +kernel
theorem d_Program_writersOf_1 : decode b_Program_writersOf 1 = .ok (.iconst 3, 1) := by decide +kernel
theorem d_Program_writersOf_2 : decode b_Program_writersOf 2 = .ok (.if_icmp .ne 12, 3) := by decide +kernel
theorem d_Program_writersOf_5 : decode b_Program_writersOf 5 = .ok (.aload_n 0, 1) := by decide +kernel
theorem d_Program_writersOf_6 : decode b_Program_writersOf 6 = .ok (.getfield 39, 3) := by decide +kernel
theorem d_Program_writersOf_9 : decode b_Program_writersOf 9 = .ok (.iconst 4, 1) := by decide +kernel
theorem d_Program_writersOf_10 : decode b_Program_writersOf 10 = .ok (.iaload, 1) := by decide +kernel
theorem d_Program_writersOf_11 : decode b_Program_writersOf 11 = .ok (.goto 18, 3) := by decide +kernel
theorem d_Program_writersOf_14 : decode b_Program_writersOf 14 = .ok (.aload_n 0, 1) := by decide +kernel
theorem d_Program_writersOf_15 : decode b_Program_writersOf 15 = .ok (.getfield 42, 3) := by decide +kernel
theorem d_Program_writersOf_18 : decode b_Program_writersOf 18 = .ok (.iload_n 1, 1) := by decide +kernel
theorem d_Program_writersOf_19 : decode b_Program_writersOf 19 = .ok (.iaload, 1) := by decide +kernel
theorem d_Program_writersOf_20 : decode b_Program_writersOf 20 = .ok (.aload_n 0, 1) := by decide +kernel
theorem d_Program_writersOf_21 : decode b_Program_writersOf 21 = .ok (.getfield 39, 3) := by decide +kernel
theorem d_Program_writersOf_24 : decode b_Program_writersOf 24 = .ok (.iconst 0, 1) := by decide +kernel
theorem d_Program_writersOf_25 : decode b_Program_writersOf 25 = .ok (.iaload, 1) := by decide +kernel
theorem d_Program_writersOf_26 : decode b_Program_writersOf 26 = .ok (.iconst (-1), 1) := by decide +kernel
theorem d_Program_writersOf_27 : decode b_Program_writersOf 27 = .ok (.ixor, 1) := by decide +kernel
theorem d_Program_writersOf_28 : decode b_Program_writersOf 28 = .ok (.iand, 1) := by decide +kernel
theorem d_Program_writersOf_29 : decode b_Program_writersOf 29 = .ok (.ireturn, 1) := by decide +kernel
theorem d_Program_rowOf_0 : decode b_Program_rowOf 0 = .ok (.aload_n 0, 1) := by decide +kernel
theorem d_Program_rowOf_1 : decode b_Program_rowOf 1 = .ok (.getfield 24, 3) := by decide +kernel
theorem d_Program_rowOf_4 : decode b_Program_rowOf 4 = .ok (.iload_n 1, 1) := by decide +kernel
theorem d_Program_rowOf_5 : decode b_Program_rowOf 5 = .ok (.iaload, 1) := by decide +kernel
theorem d_Program_rowOf_6 : decode b_Program_rowOf 6 = .ok (.iconst 4, 1) := by decide +kernel
theorem d_Program_rowOf_7 : decode b_Program_rowOf 7 = .ok (.if_icmp .ge 12, 3) := by decide +kernel
theorem d_Program_rowOf_10 : decode b_Program_rowOf 10 = .ok (.aload_n 0, 1) := by decide +kernel
theorem d_Program_rowOf_11 : decode b_Program_rowOf 11 = .ok (.getfield 27, 3) := by decide +kernel
theorem d_Program_rowOf_14 : decode b_Program_rowOf 14 = .ok (.iload_n 1, 1) := by decide +kernel
theorem d_Program_rowOf_15 : decode b_Program_rowOf 15 = .ok (.iaload, 1) := by decide +kernel
theorem d_Program_rowOf_16 : decode b_Program_rowOf 16 = .ok (.goto 4, 3) := by decide +kernel
theorem d_Program_rowOf_19 : decode b_Program_rowOf 19 = .ok (.iconst 3, 1) := by decide +kernel
theorem d_Program_rowOf_20 : decode b_Program_rowOf 20 = .ok (.ireturn, 1) := by decide +kernel
theorem d_Program_ownBefore_0 : decode b_Program_ownBefore 0 = .ok (.aload_n 0, 1) := by decide +kernel
theorem d_Program_ownBefore_1 : decode b_Program_ownBefore 1 = .ok (.getfield 36, 3) := by decide +kernel
theorem d_Program_ownBefore_4 : decode b_Program_ownBefore 4 = .ok (.aload_n 0, 1) := by decide +kernel
theorem d_Program_ownBefore_5 : decode b_Program_ownBefore 5 = .ok (.getfield 18, 3) := by decide +kernel
theorem d_Program_ownBefore_8 : decode b_Program_ownBefore 8 = .ok (.iload_n 1, 1) := by decide +kernel
theorem d_Program_ownBefore_9 : decode b_Program_ownBefore 9 = .ok (.iaload, 1) := by decide +kernel
theorem d_Program_ownBefore_10 : decode b_Program_ownBefore 10 = .ok (.iaload, 1) := by decide +kernel
theorem d_Program_ownBefore_11 : decode b_Program_ownBefore 11 = .ok (.iconst 1, 1) := by decide +kernel
theorem d_Program_ownBefore_12 : decode b_Program_ownBefore 12 = .ok (.iload_n 1, 1) := by decide +kernel
theorem d_Program_ownBefore_13 : decode b_Program_ownBefore 13 = .ok (.ishl, 1) := by decide +kernel
theorem d_Program_ownBefore_14 : decode b_Program_ownBefore 14 = .ok (.iconst 1, 1) := by decide +kernel
theorem d_Program_ownBefore_15 : decode b_Program_ownBefore 15 = .ok (.isub, 1) := by decide +kernel
theorem d_Program_ownBefore_16 : decode b_Program_ownBefore 16 = .ok (.iand, 1) := by decide +kernel
theorem d_Program_ownBefore_17 : decode b_Program_ownBefore 17 = .ok (.ireturn, 1) := by decide +kernel
theorem d_Program_ownAfter_0 : decode b_Program_ownAfter 0 = .ok (.aload_n 0, 1) := by decide +kernel
theorem d_Program_ownAfter_1 : decode b_Program_ownAfter 1 = .ok (.getfield 36, 3) := by decide +kernel
theorem d_Program_ownAfter_4 : decode b_Program_ownAfter 4 = .ok (.aload_n 0, 1) := by decide +kernel
theorem d_Program_ownAfter_5 : decode b_Program_ownAfter 5 = .ok (.getfield 18, 3) := by decide +kernel
theorem d_Program_ownAfter_8 : decode b_Program_ownAfter 8 = .ok (.iload_n 1, 1) := by decide +kernel
theorem d_Program_ownAfter_9 : decode b_Program_ownAfter 9 = .ok (.iaload, 1) := by decide +kernel
theorem d_Program_ownAfter_10 : decode b_Program_ownAfter 10 = .ok (.iaload, 1) := by decide +kernel
theorem d_Program_ownAfter_11 : decode b_Program_ownAfter 11 = .ok (.iconst 2, 1) := by decide +kernel
theorem d_Program_ownAfter_12 : decode b_Program_ownAfter 12 = .ok (.iload_n 1, 1) := by decide +kernel
theorem d_Program_ownAfter_13 : decode b_Program_ownAfter 13 = .ok (.ishl, 1) := by decide +kernel
theorem d_Program_ownAfter_14 : decode b_Program_ownAfter 14 = .ok (.iconst 1, 1) := by decide +kernel
theorem d_Program_ownAfter_15 : decode b_Program_ownAfter 15 = .ok (.isub, 1) := by decide +kernel
theorem d_Program_ownAfter_16 : decode b_Program_ownAfter 16 = .ok (.iconst (-1), 1) := by decide +kernel
theorem d_Program_ownAfter_17 : decode b_Program_ownAfter 17 = .ok (.ixor, 1) := by decide +kernel
theorem d_Program_ownAfter_18 : decode b_Program_ownAfter 18 = .ok (.iand, 1) := by decide +kernel
theorem d_Program_ownAfter_19 : decode b_Program_ownAfter 19 = .ok (.ireturn, 1) := by decide +kernel
theorem d_Program_rivalsOf_0 : decode b_Program_rivalsOf 0 = .ok (.aload_n 0, 1) := by decide +kernel
theorem d_Program_rivalsOf_1 : decode b_Program_rivalsOf 1 = .ok (.getfield 24, 3) := by decide +kernel
theorem d_Program_rivalsOf_4 : decode b_Program_rivalsOf 4 = .ok (.iload_n 1, 1) := by decide +kernel
theorem d_Program_rivalsOf_5 : decode b_Program_rivalsOf 5 = .ok (.iaload, 1) := by decide +kernel
theorem d_Program_rivalsOf_6 : decode b_Program_rivalsOf 6 = .ok (.istore_n 2, 1) := by decide +kernel
theorem d_Program_rivalsOf_7 : decode b_Program_rivalsOf 7 = .ok (.iload_n 2, 1) := by decide +kernel
theorem d_Program_rivalsOf_8 : decode b_Program_rivalsOf 8 = .ok (.iconst 4, 1) := by decide +kernel
theorem d_Program_rivalsOf_9 : decode b_Program_rivalsOf 9 = .ok (.if_icmp .lt 5, 3) := by decide +kernel
theorem d_Program_rivalsOf_12 : decode b_Program_rivalsOf 12 = .ok (.iconst 0, 1) := by decide +kernel
theorem d_Program_rivalsOf_13 : decode b_Program_rivalsOf 13 = .ok (.ireturn, 1) := by decide +kernel
theorem d_Program_rivalsOf_14 : decode b_Program_rivalsOf 14 = .ok (.aload_n 0, 1) := by decide +kernel
theorem d_Program_rivalsOf_15 : decode b_Program_rivalsOf 15 = .ok (.getfield 42, 3) := by decide +kernel
theorem d_Program_rivalsOf_18 : decode b_Program_rivalsOf 18 = .ok (.aload_n 0, 1) := by decide +kernel
theorem d_Program_rivalsOf_19 : decode b_Program_rivalsOf 19 = .ok (.getfield 27, 3) := by decide +kernel
theorem d_Program_rivalsOf_22 : decode b_Program_rivalsOf 22 = .ok (.iload_n 1, 1) := by decide +kernel
theorem d_Program_rivalsOf_23 : decode b_Program_rivalsOf 23 = .ok (.iaload, 1) := by decide +kernel
theorem d_Program_rivalsOf_24 : decode b_Program_rivalsOf 24 = .ok (.iaload, 1) := by decide +kernel
theorem d_Program_rivalsOf_25 : decode b_Program_rivalsOf 25 = .ok (.aload_n 0, 1) := by decide +kernel
theorem d_Program_rivalsOf_26 : decode b_Program_rivalsOf 26 = .ok (.getfield 36, 3) := by decide +kernel
theorem d_Program_rivalsOf_29 : decode b_Program_rivalsOf 29 = .ok (.aload_n 0, 1) := by decide +kernel
theorem d_Program_rivalsOf_30 : decode b_Program_rivalsOf 30 = .ok (.getfield 18, 3) := by decide +kernel
theorem d_Program_rivalsOf_33 : decode b_Program_rivalsOf 33 = .ok (.iload_n 1, 1) := by decide +kernel
theorem d_Program_rivalsOf_34 : decode b_Program_rivalsOf 34 = .ok (.iaload, 1) := by decide +kernel
theorem d_Program_rivalsOf_35 : decode b_Program_rivalsOf 35 = .ok (.iaload, 1) := by decide +kernel
theorem d_Program_rivalsOf_36 : decode b_Program_rivalsOf 36 = .ok (.iconst (-1), 1) := by decide +kernel
theorem d_Program_rivalsOf_37 : decode b_Program_rivalsOf 37 = .ok (.ixor, 1) := by decide +kernel
theorem d_Program_rivalsOf_38 : decode b_Program_rivalsOf 38 = .ok (.iand, 1) := by decide +kernel
theorem d_Program_rivalsOf_39 : decode b_Program_rivalsOf 39 = .ok (.istore_n 3, 1) := by decide +kernel
theorem d_Program_rivalsOf_40 : decode b_Program_rivalsOf 40 = .ok (.iload_n 2, 1) := by decide +kernel
theorem d_Program_rivalsOf_41 : decode b_Program_rivalsOf 41 = .ok (.ifCond .ne 14, 3) := by decide +kernel
theorem d_Program_rivalsOf_44 : decode b_Program_rivalsOf 44 = .ok (.iload_n 3, 1) := by decide +kernel
theorem d_Program_rivalsOf_45 : decode b_Program_rivalsOf 45 = .ok (.aload_n 0, 1) := by decide +kernel
theorem d_Program_rivalsOf_46 : decode b_Program_rivalsOf 46 = .ok (.getfield 39, 3) := by decide +kernel
theorem d_Program_rivalsOf_49 : decode b_Program_rivalsOf 49 = .ok (.iconst 0, 1) := by decide +kernel
theorem d_Program_rivalsOf_50 : decode b_Program_rivalsOf 50 = .ok (.iaload, 1) := by decide +kernel
theorem d_Program_rivalsOf_51 : decode b_Program_rivalsOf 51 = .ok (.iconst (-1), 1) := by decide +kernel
theorem d_Program_rivalsOf_52 : decode b_Program_rivalsOf 52 = .ok (.ixor, 1) := by decide +kernel
theorem d_Program_rivalsOf_53 : decode b_Program_rivalsOf 53 = .ok (.iand, 1) := by decide +kernel
theorem d_Program_rivalsOf_54 : decode b_Program_rivalsOf 54 = .ok (.ireturn, 1) := by decide +kernel
theorem d_Program_rivalsOf_55 : decode b_Program_rivalsOf 55 = .ok (.iload_n 2, 1) := by decide +kernel
theorem d_Program_rivalsOf_56 : decode b_Program_rivalsOf 56 = .ok (.iconst 3, 1) := by decide +kernel
theorem d_Program_rivalsOf_57 : decode b_Program_rivalsOf 57 = .ok (.if_icmp .ne 16, 3) := by decide +kernel
theorem d_Program_rivalsOf_60 : decode b_Program_rivalsOf 60 = .ok (.iload_n 3, 1) := by decide +kernel
theorem d_Program_rivalsOf_61 : decode b_Program_rivalsOf 61 = .ok (.aload_n 0, 1) := by decide +kernel
theorem d_Program_rivalsOf_62 : decode b_Program_rivalsOf 62 = .ok (.getfield 39, 3) := by decide +kernel
theorem d_Program_rivalsOf_65 : decode b_Program_rivalsOf 65 = .ok (.iconst 3, 1) := by decide +kernel
theorem d_Program_rivalsOf_66 : decode b_Program_rivalsOf 66 = .ok (.iaload, 1) := by decide +kernel
theorem d_Program_rivalsOf_67 : decode b_Program_rivalsOf 67 = .ok (.iconst (-1), 1) := by decide +kernel
theorem d_Program_rivalsOf_68 : decode b_Program_rivalsOf 68 = .ok (.ixor, 1) := by decide +kernel
theorem d_Program_rivalsOf_69 : decode b_Program_rivalsOf 69 = .ok (.iand, 1) := by decide +kernel
theorem d_Program_rivalsOf_70 : decode b_Program_rivalsOf 70 = .ok (.goto 4, 3) := by decide +kernel
theorem d_Program_rivalsOf_73 : decode b_Program_rivalsOf 73 = .ok (.iload_n 3, 1) := by decide +kernel
theorem d_Program_rivalsOf_74 : decode b_Program_rivalsOf 74 = .ok (.ireturn, 1) := by decide +kernel
theorem d_Progress_init_0 : decode b_Progress_init 0 = .ok (.aload_n 0, 1) := by decide +kernel
theorem d_Progress_init_1 : decode b_Progress_init 1 = .ok (.invokespecial 3, 3) := by decide +kernel
theorem d_Progress_init_4 : decode b_Progress_init 4 = .ok (.aload_n 0, 1) := by decide +kernel
theorem d_Progress_init_5 : decode b_Progress_init 5 = .ok (.iconst 4, 1) := by decide +kernel
theorem d_Progress_init_6 : decode b_Progress_init 6 = .ok (.newarray .int, 2) := by decide +kernel
theorem d_Progress_init_8 : decode b_Progress_init 8 = .ok (.putfield 9, 3) := by decide +kernel
theorem d_Progress_init_11 : decode b_Progress_init 11 = .ok (.aload_n 0, 1) := by decide +kernel
theorem d_Progress_init_12 : decode b_Progress_init 12 = .ok (.bipush 8, 2) := by decide +kernel
theorem d_Progress_init_14 : decode b_Progress_init 14 = .ok (.newarray .int, 2) := by decide +kernel
theorem d_Progress_init_16 : decode b_Progress_init 16 = .ok (.putfield 15, 3) := by decide +kernel
theorem d_Progress_init_19 : decode b_Progress_init 19 = .ok (.aload_n 0, 1) := by decide +kernel
theorem d_Progress_init_20 : decode b_Progress_init 20 = .ok (.bipush 8, 2) := by decide +kernel
theorem d_Progress_init_22 : decode b_Progress_init 22 = .ok (.newarray .int, 2) := by decide +kernel
theorem d_Progress_init_24 : decode b_Progress_init 24 = .ok (.putfield 18, 3) := by decide +kernel
theorem d_Progress_init_27 : decode b_Progress_init 27 = .ok (.aload_n 0, 1) := by decide +kernel
theorem d_Progress_init_28 : decode b_Progress_init 28 = .ok (.aload_n 1, 1) := by decide +kernel
theorem d_Progress_init_29 : decode b_Progress_init 29 = .ok (.putfield 21, 3) := by decide +kernel
theorem d_Progress_init_32 : decode b_Progress_init 32 = .ok (.return_, 1) := by decide +kernel
theorem d_Progress_begin_0 : decode b_Progress_begin 0 = .ok (.aload_n 0, 1) := by decide +kernel
theorem d_Progress_begin_1 : decode b_Progress_begin 1 = .ok (.getfield 9, 3) := by decide +kernel
theorem d_Progress_begin_4 : decode b_Progress_begin 4 = .ok (.iconst 0, 1) := by decide +kernel
theorem d_Progress_begin_5 : decode b_Progress_begin 5 = .ok (.invokestatic 25, 3) := by decide +kernel
theorem d_Progress_begin_8 : decode b_Progress_begin 8 = .ok (.aload_n 0, 1) := by decide +kernel
theorem d_Progress_begin_9 : decode b_Progress_begin 9 = .ok (.getfield 15, 3) := by decide +kernel
theorem d_Progress_begin_12 : decode b_Progress_begin 12 = .ok (.iconst 0, 1) := by decide +kernel
theorem d_Progress_begin_13 : decode b_Progress_begin 13 = .ok (.invokestatic 25, 3) := by decide +kernel
theorem d_Progress_begin_16 : decode b_Progress_begin 16 = .ok (.aload_n 0, 1) := by decide +kernel
theorem d_Progress_begin_17 : decode b_Progress_begin 17 = .ok (.iconst 0, 1) := by decide +kernel
theorem d_Progress_begin_18 : decode b_Progress_begin 18 = .ok (.putfield 31, 3) := by decide +kernel
theorem d_Progress_begin_21 : decode b_Progress_begin 21 = .ok (.aload_n 0, 1) := by decide +kernel
theorem d_Progress_begin_22 : decode b_Progress_begin 22 = .ok (.lconst 0, 1) := by decide +kernel
theorem d_Progress_begin_23 : decode b_Progress_begin 23 = .ok (.putfield 35, 3) := by decide +kernel
theorem d_Progress_begin_26 : decode b_Progress_begin 26 = .ok (.return_, 1) := by decide +kernel
theorem d_Progress_next_0 : decode b_Progress_next 0 = .ok (.aload_n 0, 1) := by decide +kernel
theorem d_Progress_next_1 : decode b_Progress_next 1 = .ok (.getfield 21, 3) := by decide +kernel
theorem d_Progress_next_4 : decode b_Progress_next 4 = .ok (.iload_n 1, 1) := by decide +kernel
theorem d_Progress_next_5 : decode b_Progress_next 5 = .ok (.aload_n 0, 1) := by decide +kernel
theorem d_Progress_next_6 : decode b_Progress_next 6 = .ok (.getfield 9, 3) := by decide +kernel
theorem d_Progress_next_9 : decode b_Progress_next 9 = .ok (.iload_n 1, 1) := by decide +kernel
theorem d_Progress_next_10 : decode b_Progress_next 10 = .ok (.iaload, 1) := by decide +kernel
theorem d_Progress_next_11 : decode b_Progress_next 11 = .ok (.invokevirtual 39, 3) := by decide +kernel
theorem d_Progress_next_14 : decode b_Progress_next 14 = .ok (.ireturn, 1) := by decide +kernel
theorem d_Progress_registerOf_0 : decode b_Progress_registerOf 0 = .ok (.aload_n 0, 1) := by decide +kernel
theorem d_Progress_registerOf_1 : decode b_Progress_registerOf 1 = .ok (.getfield 15, 3) := by decide +kernel
theorem d_Progress_registerOf_4 : decode b_Progress_registerOf 4 = .ok (.aload_n 0, 1) := by decide +kernel
theorem d_Progress_registerOf_5 : decode b_Progress_registerOf 5 = .ok (.getfield 21, 3) := by decide +kernel
theorem d_Progress_registerOf_8 : decode b_Progress_registerOf 8 = .ok (.getfield 45, 3) := by decide +kernel
theorem d_Progress_registerOf_11 : decode b_Progress_registerOf 11 = .ok (.iload_n 1, 1) := by decide +kernel
theorem d_Progress_registerOf_12 : decode b_Progress_registerOf 12 = .ok (.iaload, 1) := by decide +kernel
theorem d_Progress_registerOf_13 : decode b_Progress_registerOf 13 = .ok (.iaload, 1) := by decide +kernel
theorem d_Progress_registerOf_14 : decode b_Progress_registerOf 14 = .ok (.ireturn, 1) := by decide +kernel
theorem d_Progress_perform_0 : decode b_Progress_perform 0 = .ok (.aload_n 0, 1) := by decide +kernel
theorem d_Progress_perform_1 : decode b_Progress_perform 1 = .ok (.getfield 21, 3) := by decide +kernel
theorem d_Progress_perform_4 : decode b_Progress_perform 4 = .ok (.getfield 45, 3) := by decide +kernel
theorem d_Progress_perform_7 : decode b_Progress_perform 7 = .ok (.iload_n 1, 1) := by decide +kernel
theorem d_Progress_perform_8 : decode b_Progress_perform 8 = .ok (.iaload, 1) := by decide +kernel
theorem d_Progress_perform_9 : decode b_Progress_perform 9 = .ok (.istore_n 3, 1) := by decide +kernel
theorem d_Progress_perform_10 : decode b_Progress_perform 10 = .ok (.aload_n 0, 1) := by decide +kernel
theorem d_Progress_perform_11 : decode b_Progress_perform 11 = .ok (.getfield 21, 3) := by decide +kernel
theorem d_Progress_perform_14 : decode b_Progress_perform 14 = .ok (.getfield 48, 3) := by decide +kernel
theorem d_Progress_perform_17 : decode b_Progress_perform 17 = .ok (.iload_n 1, 1) := by decide +kernel
theorem d_Progress_perform_18 : decode b_Progress_perform 18 = .ok (.iaload, 1) := by decide +kernel
theorem d_Progress_perform_19 : decode b_Progress_perform 19 = .ok (.istore 4, 2) := by decide +kernel
theorem d_Progress_perform_21 : decode b_Progress_perform 21 = .ok (.iconst 1, 1) := by decide +kernel
theorem d_Progress_perform_22 : decode b_Progress_perform 22 = .ok (.istore 5, 2) := by decide +kernel
theorem d_Progress_perform_24 : decode b_Progress_perform 24 = .ok (.aload_n 0, 1) := by decide +kernel
theorem d_Progress_perform_25 : decode b_Progress_perform 25 = .ok (.getfield 21, 3) := by decide +kernel
theorem d_Progress_perform_28 : decode b_Progress_perform 28 = .ok (.getfield 51, 3) := by decide +kernel
theorem d_Progress_perform_31 : decode b_Progress_perform 31 = .ok (.iload_n 1, 1) := by decide +kernel
theorem d_Progress_perform_32 : decode b_Progress_perform 32 = .ok (.iaload, 1) := by decide +kernel
theorem d_Progress_perform_33 : decode b_Progress_perform 33 = .ok (.tableswitch 151 0 5 #[39, 54, 67, 87, 151, 119], 39) := by decide +kernel
theorem d_Progress_perform_72 : decode b_Progress_perform 72 = .ok (.aload_n 0, 1) := by decide +kernel
theorem d_Progress_perform_73 : decode b_Progress_perform 73 = .ok (.getfield 15, 3) := by decide +kernel
theorem d_Progress_perform_76 : decode b_Progress_perform 76 = .ok (.iload_n 3, 1) := by decide +kernel
theorem d_Progress_perform_77 : decode b_Progress_perform 77 = .ok (.aload_n 0, 1) := by decide +kernel
theorem d_Progress_perform_78 : decode b_Progress_perform 78 = .ok (.getfield 18, 3) := by decide +kernel
theorem d_Progress_perform_81 : decode b_Progress_perform 81 = .ok (.iload_n 2, 1) := by decide +kernel
theorem d_Progress_perform_82 : decode b_Progress_perform 82 = .ok (.iaload, 1) := by decide +kernel
theorem d_Progress_perform_83 : decode b_Progress_perform 83 = .ok (.iastore, 1) := by decide +kernel
theorem d_Progress_perform_84 : decode b_Progress_perform 84 = .ok (.goto 100, 3) := by decide +kernel
theorem d_Progress_perform_87 : decode b_Progress_perform 87 = .ok (.aload_n 0, 1) := by decide +kernel
theorem d_Progress_perform_88 : decode b_Progress_perform 88 = .ok (.getfield 18, 3) := by decide +kernel
theorem d_Progress_perform_91 : decode b_Progress_perform 91 = .ok (.iload_n 1, 1) := by decide +kernel
theorem d_Progress_perform_92 : decode b_Progress_perform 92 = .ok (.iconst 1, 1) := by decide +kernel
theorem d_Progress_perform_93 : decode b_Progress_perform 93 = .ok (.iadd, 1) := by decide +kernel
theorem d_Progress_perform_94 : decode b_Progress_perform 94 = .ok (.iload 4, 2) := by decide +kernel
theorem d_Progress_perform_96 : decode b_Progress_perform 96 = .ok (.iastore, 1) := by decide +kernel
theorem d_Progress_perform_97 : decode b_Progress_perform 97 = .ok (.goto 87, 3) := by decide +kernel
theorem d_Progress_perform_100 : decode b_Progress_perform 100 = .ok (.aload_n 0, 1) := by decide +kernel
theorem d_Progress_perform_101 : decode b_Progress_perform 101 = .ok (.getfield 18, 3) := by decide +kernel
theorem d_Progress_perform_104 : decode b_Progress_perform 104 = .ok (.iload_n 1, 1) := by decide +kernel
theorem d_Progress_perform_105 : decode b_Progress_perform 105 = .ok (.iconst 1, 1) := by decide +kernel
theorem d_Progress_perform_106 : decode b_Progress_perform 106 = .ok (.iadd, 1) := by decide +kernel
theorem d_Progress_perform_107 : decode b_Progress_perform 107 = .ok (.aload_n 0, 1) := by decide +kernel
theorem d_Progress_perform_108 : decode b_Progress_perform 108 = .ok (.getfield 15, 3) := by decide +kernel
theorem d_Progress_perform_111 : decode b_Progress_perform 111 = .ok (.iload_n 3, 1) := by decide +kernel
theorem d_Progress_perform_112 : decode b_Progress_perform 112 = .ok (.iaload, 1) := by decide +kernel
theorem d_Progress_perform_113 : decode b_Progress_perform 113 = .ok (.iload 4, 2) := by decide +kernel
theorem d_Progress_perform_115 : decode b_Progress_perform 115 = .ok (.iadd, 1) := by decide +kernel
theorem d_Progress_perform_116 : decode b_Progress_perform 116 = .ok (.iastore, 1) := by decide +kernel
theorem d_Progress_perform_117 : decode b_Progress_perform 117 = .ok (.goto 67, 3) := by decide +kernel
theorem d_Progress_perform_120 : decode b_Progress_perform 120 = .ok (.aload_n 0, 1) := by decide +kernel
theorem d_Progress_perform_121 : decode b_Progress_perform 121 = .ok (.getfield 15, 3) := by decide +kernel
theorem d_Progress_perform_124 : decode b_Progress_perform 124 = .ok (.iload_n 3, 1) := by decide +kernel
theorem d_Progress_perform_125 : decode b_Progress_perform 125 = .ok (.aload_n 0, 1) := by decide +kernel
theorem d_Progress_perform_126 : decode b_Progress_perform 126 = .ok (.getfield 18, 3) := by decide +kernel
theorem d_Progress_perform_129 : decode b_Progress_perform 129 = .ok (.iload_n 2, 1) := by decide +kernel
theorem d_Progress_perform_130 : decode b_Progress_perform 130 = .ok (.iaload, 1) := by decide +kernel
theorem d_Progress_perform_131 : decode b_Progress_perform 131 = .ok (.iastore, 1) := by decide +kernel
theorem d_Progress_perform_132 : decode b_Progress_perform 132 = .ok (.aload_n 0, 1) := by decide +kernel
theorem d_Progress_perform_133 : decode b_Progress_perform 133 = .ok (.getfield 18, 3) := by decide +kernel
theorem d_Progress_perform_136 : decode b_Progress_perform 136 = .ok (.iload_n 1, 1) := by decide +kernel
theorem d_Progress_perform_137 : decode b_Progress_perform 137 = .ok (.iconst 1, 1) := by decide +kernel
theorem d_Progress_perform_138 : decode b_Progress_perform 138 = .ok (.iadd, 1) := by decide +kernel
theorem d_Progress_perform_139 : decode b_Progress_perform 139 = .ok (.aload_n 0, 1) := by decide +kernel
theorem d_Progress_perform_140 : decode b_Progress_perform 140 = .ok (.getfield 15, 3) := by decide +kernel
theorem d_Progress_perform_143 : decode b_Progress_perform 143 = .ok (.iload_n 3, 1) := by decide +kernel
theorem d_Progress_perform_144 : decode b_Progress_perform 144 = .ok (.iaload, 1) := by decide +kernel
theorem d_Progress_perform_145 : decode b_Progress_perform 145 = .ok (.iload 4, 2) := by decide +kernel
theorem d_Progress_perform_147 : decode b_Progress_perform 147 = .ok (.iadd, 1) := by decide +kernel
theorem d_Progress_perform_148 : decode b_Progress_perform 148 = .ok (.iastore, 1) := by decide +kernel
theorem d_Progress_perform_149 : decode b_Progress_perform 149 = .ok (.goto 35, 3) := by decide +kernel
theorem d_Progress_perform_152 : decode b_Progress_perform 152 = .ok (.iload 5, 2) := by decide +kernel
theorem d_Progress_perform_154 : decode b_Progress_perform 154 = .ok (.aload_n 0, 1) := by decide +kernel
theorem d_Progress_perform_155 : decode b_Progress_perform 155 = .ok (.getfield 15, 3) := by decide +kernel
theorem d_Progress_perform_158 : decode b_Progress_perform 158 = .ok (.iload_n 3, 1) := by decide +kernel
theorem d_Progress_perform_159 : decode b_Progress_perform 159 = .ok (.iaload, 1) := by decide +kernel
theorem d_Progress_perform_160 : decode b_Progress_perform 160 = .ok (.iload 4, 2) := by decide +kernel
theorem d_Progress_perform_162 : decode b_Progress_perform 162 = .ok (.if_icmp .ne 7, 3) := by decide +kernel
theorem d_Progress_perform_165 : decode b_Progress_perform 165 = .ok (.iconst 0, 1) := by decide +kernel
theorem d_Progress_perform_166 : decode b_Progress_perform 166 = .ok (.goto 12, 3) := by decide +kernel
theorem d_Progress_perform_169 : decode b_Progress_perform 169 = .ok (.aload_n 0, 1) := by decide +kernel
theorem d_Progress_perform_170 : decode b_Progress_perform 170 = .ok (.getfield 21, 3) := by decide +kernel
theorem d_Progress_perform_173 : decode b_Progress_perform 173 = .ok (.getfield 54, 3) := by decide +kernel
theorem d_Progress_perform_176 : decode b_Progress_perform 176 = .ok (.iload_n 1, 1) := by decide +kernel
theorem d_Progress_perform_177 : decode b_Progress_perform 177 = .ok (.iaload, 1) := by decide +kernel
theorem d_Progress_perform_178 : decode b_Progress_perform 178 = .ok (.iadd, 1) := by decide +kernel
theorem d_Progress_perform_179 : decode b_Progress_perform 179 = .ok (.istore 5, 2) := by decide +kernel
theorem d_Progress_perform_181 : decode b_Progress_perform 181 = .ok (.goto 3, 3) := by decide +kernel
theorem d_Progress_perform_184 : decode b_Progress_perform 184 = .ok (.aload_n 0, 1) := by decide +kernel
theorem d_Progress_perform_185 : decode b_Progress_perform 185 = .ok (.getfield 9, 3) := by decide +kernel
theorem d_Progress_perform_188 : decode b_Progress_perform 188 = .ok (.aload_n 0, 1) := by decide +kernel
theorem d_Progress_perform_189 : decode b_Progress_perform 189 = .ok (.getfield 21, 3) := by decide +kernel
theorem d_Progress_perform_192 : decode b_Progress_perform 192 = .ok (.getfield 57, 3) := by decide +kernel
theorem d_Progress_perform_195 : decode b_Progress_perform 195 = .ok (.iload_n 1, 1) := by decide +kernel
theorem d_Progress_perform_196 : decode b_Progress_perform 196 = .ok (.iaload, 1) := by decide +kernel
theorem d_Progress_perform_197 : decode b_Progress_perform 197 = .ok (.dup2, 1) := by decide +kernel
theorem d_Progress_perform_198 : decode b_Progress_perform 198 = .ok (.iaload, 1) := by decide +kernel
theorem d_Progress_perform_199 : decode b_Progress_perform 199 = .ok (.iload 5, 2) := by decide +kernel
theorem d_Progress_perform_201 : decode b_Progress_perform 201 = .ok (.iadd, 1) := by decide +kernel
theorem d_Progress_perform_202 : decode b_Progress_perform 202 = .ok (.iastore, 1) := by decide +kernel
theorem d_Progress_perform_203 : decode b_Progress_perform 203 = .ok (.aload_n 0, 1) := by decide +kernel
theorem d_Progress_perform_204 : decode b_Progress_perform 204 = .ok (.dup, 1) := by decide +kernel
theorem d_Progress_perform_205 : decode b_Progress_perform 205 = .ok (.getfield 31, 3) := by decide +kernel
theorem d_Progress_perform_208 : decode b_Progress_perform 208 = .ok (.iconst 1, 1) := by decide +kernel
theorem d_Progress_perform_209 : decode b_Progress_perform 209 = .ok (.iload_n 1, 1) := by decide +kernel
theorem d_Progress_perform_210 : decode b_Progress_perform 210 = .ok (.ishl, 1) := by decide +kernel
theorem d_Progress_perform_211 : decode b_Progress_perform 211 = .ok (.ior, 1) := by decide +kernel
theorem d_Progress_perform_212 : decode b_Progress_perform 212 = .ok (.putfield 31, 3) := by decide +kernel
theorem d_Progress_perform_215 : decode b_Progress_perform 215 = .ok (.aload_n 0, 1) := by decide +kernel
theorem d_Progress_perform_216 : decode b_Progress_perform 216 = .ok (.dup, 1) := by decide +kernel
theorem d_Progress_perform_217 : decode b_Progress_perform 217 = .ok (.getfield 35, 3) := by decide +kernel
theorem d_Progress_perform_220 : decode b_Progress_perform 220 = .ok (.iload_n 2, 1) := by decide +kernel
theorem d_Progress_perform_221 : decode b_Progress_perform 221 = .ok (.i2l, 1) := by decide +kernel
theorem d_Progress_perform_222 : decode b_Progress_perform 222 = .ok (.iconst 3, 1) := by decide +kernel
theorem d_Progress_perform_223 : decode b_Progress_perform 223 = .ok (.iload_n 1, 1) := by decide +kernel
theorem d_Progress_perform_224 : decode b_Progress_perform 224 = .ok (.imul, 1) := by decide +kernel
theorem d_Progress_perform_225 : decode b_Progress_perform 225 = .ok (.lshl, 1) := by decide +kernel
theorem d_Progress_perform_226 : decode b_Progress_perform 226 = .ok (.lor, 1) := by decide +kernel
theorem d_Progress_perform_227 : decode b_Progress_perform 227 = .ok (.putfield 35, 3) := by decide +kernel
theorem d_Progress_perform_230 : decode b_Progress_perform 230 = .ok (.return_, 1) := by decide +kernel
theorem d_Progress_undo_0 : decode b_Progress_undo 0 = .ok (.aload_n 0, 1) := by decide +kernel
theorem d_Progress_undo_1 : decode b_Progress_undo 1 = .ok (.getfield 15, 3) := by decide +kernel
theorem d_Progress_undo_4 : decode b_Progress_undo 4 = .ok (.aload_n 0, 1) := by decide +kernel
theorem d_Progress_undo_5 : decode b_Progress_undo 5 = .ok (.getfield 21, 3) := by decide +kernel
theorem d_Progress_undo_8 : decode b_Progress_undo 8 = .ok (.getfield 45, 3) := by decide +kernel
theorem d_Progress_undo_11 : decode b_Progress_undo 11 = .ok (.iload_n 1, 1) := by decide +kernel
theorem d_Progress_undo_12 : decode b_Progress_undo 12 = .ok (.iaload, 1) := by decide +kernel
theorem d_Progress_undo_13 : decode b_Progress_undo 13 = .ok (.iload_n 2, 1) := by decide +kernel
theorem d_Progress_undo_14 : decode b_Progress_undo 14 = .ok (.iastore, 1) := by decide +kernel
theorem d_Progress_undo_15 : decode b_Progress_undo 15 = .ok (.aload_n 0, 1) := by decide +kernel
theorem d_Progress_undo_16 : decode b_Progress_undo 16 = .ok (.getfield 9, 3) := by decide +kernel
theorem d_Progress_undo_19 : decode b_Progress_undo 19 = .ok (.aload_n 0, 1) := by decide +kernel
theorem d_Progress_undo_20 : decode b_Progress_undo 20 = .ok (.getfield 21, 3) := by decide +kernel
theorem d_Progress_undo_23 : decode b_Progress_undo 23 = .ok (.getfield 57, 3) := by decide +kernel
theorem d_Progress_undo_26 : decode b_Progress_undo 26 = .ok (.iload_n 1, 1) := by decide +kernel
theorem d_Progress_undo_27 : decode b_Progress_undo 27 = .ok (.iaload, 1) := by decide +kernel
theorem d_Progress_undo_28 : decode b_Progress_undo 28 = .ok (.aload_n 0, 1) := by decide +kernel
theorem d_Progress_undo_29 : decode b_Progress_undo 29 = .ok (.getfield 21, 3) := by decide +kernel
theorem d_Progress_undo_32 : decode b_Progress_undo 32 = .ok (.getfield 60, 3) := by decide +kernel
theorem d_Progress_undo_35 : decode b_Progress_undo 35 = .ok (.iload_n 1, 1) := by decide +kernel
theorem d_Progress_undo_36 : decode b_Progress_undo 36 = .ok (.iaload, 1) := by decide +kernel
theorem d_Progress_undo_37 : decode b_Progress_undo 37 = .ok (.iastore, 1) := by decide +kernel
theorem d_Progress_undo_38 : decode b_Progress_undo 38 = .ok (.aload_n 0, 1) := by decide +kernel
theorem d_Progress_undo_39 : decode b_Progress_undo 39 = .ok (.dup, 1) := by decide +kernel
theorem d_Progress_undo_40 : decode b_Progress_undo 40 = .ok (.getfield 31, 3) := by decide +kernel
theorem d_Progress_undo_43 : decode b_Progress_undo 43 = .ok (.iconst 1, 1) := by decide +kernel
theorem d_Progress_undo_44 : decode b_Progress_undo 44 = .ok (.iload_n 1, 1) := by decide +kernel
theorem d_Progress_undo_45 : decode b_Progress_undo 45 = .ok (.ishl, 1) := by decide +kernel
theorem d_Progress_undo_46 : decode b_Progress_undo 46 = .ok (.iconst (-1), 1) := by decide +kernel
theorem d_Progress_undo_47 : decode b_Progress_undo 47 = .ok (.ixor, 1) := by decide +kernel
theorem d_Progress_undo_48 : decode b_Progress_undo 48 = .ok (.iand, 1) := by decide +kernel
theorem d_Progress_undo_49 : decode b_Progress_undo 49 = .ok (.putfield 31, 3) := by decide +kernel
theorem d_Progress_undo_52 : decode b_Progress_undo 52 = .ok (.aload_n 0, 1) := by decide +kernel
theorem d_Progress_undo_53 : decode b_Progress_undo 53 = .ok (.dup, 1) := by decide +kernel
theorem d_Progress_undo_54 : decode b_Progress_undo 54 = .ok (.getfield 35, 3) := by decide +kernel
theorem d_Progress_undo_57 : decode b_Progress_undo 57 = .ok (.ldc2_w 63, 3) := by decide +kernel
theorem d_Progress_undo_60 : decode b_Progress_undo 60 = .ok (.iconst 3, 1) := by decide +kernel
theorem d_Progress_undo_61 : decode b_Progress_undo 61 = .ok (.iload_n 1, 1) := by decide +kernel
theorem d_Progress_undo_62 : decode b_Progress_undo 62 = .ok (.imul, 1) := by decide +kernel
theorem d_Progress_undo_63 : decode b_Progress_undo 63 = .ok (.lshl, 1) := by decide +kernel
theorem d_Progress_undo_64 : decode b_Progress_undo 64 = .ok (.ldc2_w 65, 3) := by decide +kernel
theorem d_Progress_undo_67 : decode b_Progress_undo 67 = .ok (.lxor, 1) := by decide +kernel
theorem d_Progress_undo_68 : decode b_Progress_undo 68 = .ok (.land, 1) := by decide +kernel
theorem d_Progress_undo_69 : decode b_Progress_undo 69 = .ok (.putfield 35, 3) := by decide +kernel
theorem d_Progress_undo_72 : decode b_Progress_undo 72 = .ok (.return_, 1) := by decide +kernel
theorem d_Progress_isWritten_0 : decode b_Progress_isWritten 0 = .ok (.iload_n 1, 1) := by decide +kernel
theorem d_Progress_isWritten_1 : decode b_Progress_isWritten 1 = .ok (.ifCond .eq 16, 3) := by decide +kernel
theorem d_Progress_isWritten_4 : decode b_Progress_isWritten 4 = .ok (.aload_n 0, 1) := by decide +kernel
theorem d_Progress_isWritten_5 : decode b_Progress_isWritten 5 = .ok (.getfield 31, 3) := by decide +kernel
theorem d_Progress_isWritten_8 : decode b_Progress_isWritten 8 = .ok (.iload_n 1, 1) := by decide +kernel
theorem d_Progress_isWritten_9 : decode b_Progress_isWritten 9 = .ok (.iconst 1, 1) := by decide +kernel
theorem d_Progress_isWritten_10 : decode b_Progress_isWritten 10 = .ok (.isub, 1) := by decide +kernel
theorem d_Progress_isWritten_11 : decode b_Progress_isWritten 11 = .ok (.invokestatic 67, 3) := by decide +kernel
theorem d_Progress_isWritten_14 : decode b_Progress_isWritten 14 = .ok (.ifCond .eq 7, 3) := by decide +kernel
theorem d_Progress_isWritten_17 : decode b_Progress_isWritten 17 = .ok (.iconst 1, 1) := by decide +kernel
theorem d_Progress_isWritten_18 : decode b_Progress_isWritten 18 = .ok (.goto 4, 3) := by decide +kernel
theorem d_Progress_isWritten_21 : decode b_Progress_isWritten 21 = .ok (.iconst 0, 1) := by decide +kernel
theorem d_Progress_isWritten_22 : decode b_Progress_isWritten 22 = .ok (.ireturn, 1) := by decide +kernel
theorem d_Progress_key_0 : decode b_Progress_key 0 = .ok (.aload_n 0, 1) := by decide +kernel
theorem d_Progress_key_1 : decode b_Progress_key 1 = .ok (.getfield 35, 3) := by decide +kernel
theorem d_Progress_key_4 : decode b_Progress_key 4 = .ok (.bipush 7, 2) := by decide +kernel
theorem d_Progress_key_6 : decode b_Progress_key 6 = .ok (.lshl, 1) := by decide +kernel
theorem d_Progress_key_7 : decode b_Progress_key 7 = .ok (.aload_n 0, 1) := by decide +kernel
theorem d_Progress_key_8 : decode b_Progress_key 8 = .ok (.getfield 31, 3) := by decide +kernel
theorem d_Progress_key_11 : decode b_Progress_key 11 = .ok (.i2l, 1) := by decide +kernel
theorem d_Progress_key_12 : decode b_Progress_key 12 = .ok (.lor, 1) := by decide +kernel
theorem d_Progress_key_13 : decode b_Progress_key 13 = .ok (.lreturn, 1) := by decide +kernel
theorem d_Progress_registersKey_0 : decode b_Progress_registersKey 0 = .ok (.lconst 0, 1) := by decide +kernel
theorem d_Progress_registersKey_1 : decode b_Progress_registersKey 1 = .ok (.lstore_n 1, 1) := by decide +kernel
theorem d_Progress_registersKey_2 : decode b_Progress_registersKey 2 = .ok (.iconst 0, 1) := by decide +kernel
theorem d_Progress_registersKey_3 : decode b_Progress_registersKey 3 = .ok (.istore_n 3, 1) := by decide +kernel
theorem d_Progress_registersKey_4 : decode b_Progress_registersKey 4 = .ok (.iload_n 3, 1) := by decide +kernel
theorem d_Progress_registersKey_5 : decode b_Progress_registersKey 5 = .ok (.bipush 8, 2) := by decide +kernel
theorem d_Progress_registersKey_7 : decode b_Progress_registersKey 7 = .ok (.if_icmp .ge 25, 3) := by decide +kernel
theorem d_Progress_registersKey_10 : decode b_Progress_registersKey 10 = .ok (.lload_n 1, 1) := by decide +kernel
theorem d_Progress_registersKey_11 : decode b_Progress_registersKey 11 = .ok (.bipush 7, 2) := by decide +kernel
theorem d_Progress_registersKey_13 : decode b_Progress_registersKey 13 = .ok (.lshl, 1) := by decide +kernel
theorem d_Progress_registersKey_14 : decode b_Progress_registersKey 14 = .ok (.aload_n 0, 1) := by decide +kernel
theorem d_Progress_registersKey_15 : decode b_Progress_registersKey 15 = .ok (.getfield 15, 3) := by decide +kernel
theorem d_Progress_registersKey_18 : decode b_Progress_registersKey 18 = .ok (.iload_n 3, 1) := by decide +kernel
theorem d_Progress_registersKey_19 : decode b_Progress_registersKey 19 = .ok (.iaload, 1) := by decide +kernel
theorem d_Progress_registersKey_20 : decode b_Progress_registersKey 20 = .ok (.bipush 64, 2) := by decide +kernel
theorem d_Progress_registersKey_22 : decode b_Progress_registersKey 22 = .ok (.iadd, 1) := by decide +kernel
theorem d_Progress_registersKey_23 : decode b_Progress_registersKey 23 = .ok (.i2l, 1) := by decide +kernel
theorem d_Progress_registersKey_24 : decode b_Progress_registersKey 24 = .ok (.lor, 1) := by decide +kernel
theorem d_Progress_registersKey_25 : decode b_Progress_registersKey 25 = .ok (.lstore_n 1, 1) := by decide +kernel
theorem d_Progress_registersKey_26 : decode b_Progress_registersKey 26 = .ok (.iinc 3 1, 3) := by decide +kernel
theorem d_Progress_registersKey_29 : decode b_Progress_registersKey 29 = .ok (.goto (-25), 3) := by decide +kernel
theorem d_Progress_registersKey_32 : decode b_Progress_registersKey 32 = .ok (.lload_n 1, 1) := by decide +kernel
theorem d_Progress_registersKey_33 : decode b_Progress_registersKey 33 = .ok (.lreturn, 1) := by decide +kernel
theorem d_Progress_variablesKey_0 : decode b_Progress_variablesKey 0 = .ok (.aload_n 0, 1) := by decide +kernel
theorem d_Progress_variablesKey_1 : decode b_Progress_variablesKey 1 = .ok (.getfield 18, 3) := by decide +kernel
theorem d_Progress_variablesKey_4 : decode b_Progress_variablesKey 4 = .ok (.iload_n 1, 1) := by decide +kernel
theorem d_Progress_variablesKey_5 : decode b_Progress_variablesKey 5 = .ok (.iaload, 1) := by decide +kernel
theorem d_Progress_variablesKey_6 : decode b_Progress_variablesKey 6 = .ok (.bipush 64, 2) := by decide +kernel
theorem d_Progress_variablesKey_8 : decode b_Progress_variablesKey 8 = .ok (.iadd, 1) := by decide +kernel
theorem d_Progress_variablesKey_9 : decode b_Progress_variablesKey 9 = .ok (.istore 4, 2) := by decide +kernel
theorem d_Progress_variablesKey_11 : decode b_Progress_variablesKey 11 = .ok (.iload 4, 2) := by decide +kernel
theorem d_Progress_variablesKey_13 : decode b_Progress_variablesKey 13 = .ok (.bipush 7, 2) := by decide +kernel
theorem d_Progress_variablesKey_15 : decode b_Progress_variablesKey 15 = .ok (.ishl, 1) := by decide +kernel
theorem d_Progress_variablesKey_16 : decode b_Progress_variablesKey 16 = .ok (.aload_n 0, 1) := by decide +kernel
theorem d_Progress_variablesKey_17 : decode b_Progress_variablesKey 17 = .ok (.getfield 18, 3) := by decide +kernel
theorem d_Progress_variablesKey_20 : decode b_Progress_variablesKey 20 = .ok (.iload_n 2, 1) := by decide +kernel
theorem d_Progress_variablesKey_21 : decode b_Progress_variablesKey 21 = .ok (.iaload, 1) := by decide +kernel
theorem d_Progress_variablesKey_22 : decode b_Progress_variablesKey 22 = .ok (.bipush 64, 2) := by decide +kernel
theorem d_Progress_variablesKey_24 : decode b_Progress_variablesKey 24 = .ok (.iadd, 1) := by decide +kernel
theorem d_Progress_variablesKey_25 : decode b_Progress_variablesKey 25 = .ok (.ior, 1) := by decide +kernel
theorem d_Progress_variablesKey_26 : decode b_Progress_variablesKey 26 = .ok (.istore 4, 2) := by decide +kernel
theorem d_Progress_variablesKey_28 : decode b_Progress_variablesKey 28 = .ok (.iload 4, 2) := by decide +kernel
theorem d_Progress_variablesKey_30 : decode b_Progress_variablesKey 30 = .ok (.bipush 7, 2) := by decide +kernel
theorem d_Progress_variablesKey_32 : decode b_Progress_variablesKey 32 = .ok (.ishl, 1) := by decide +kernel
theorem d_Progress_variablesKey_33 : decode b_Progress_variablesKey 33 = .ok (.aload_n 0, 1) := by decide +kernel
theorem d_Progress_variablesKey_34 : decode b_Progress_variablesKey 34 = .ok (.getfield 18, 3) := by decide +kernel
theorem d_Progress_variablesKey_37 : decode b_Progress_variablesKey 37 = .ok (.iload_n 3, 1) := by decide +kernel
theorem d_Progress_variablesKey_38 : decode b_Progress_variablesKey 38 = .ok (.iaload, 1) := by decide +kernel
theorem d_Progress_variablesKey_39 : decode b_Progress_variablesKey 39 = .ok (.bipush 64, 2) := by decide +kernel
theorem d_Progress_variablesKey_41 : decode b_Progress_variablesKey 41 = .ok (.iadd, 1) := by decide +kernel
theorem d_Progress_variablesKey_42 : decode b_Progress_variablesKey 42 = .ok (.ior, 1) := by decide +kernel
theorem d_Progress_variablesKey_43 : decode b_Progress_variablesKey 43 = .ok (.ireturn, 1) := by decide +kernel
theorem d_StateSet_init_0 : decode b_StateSet_init 0 = .ok (.aload_n 0, 1) := by decide +kernel
theorem d_StateSet_init_1 : decode b_StateSet_init 1 = .ok (.invokespecial 1, 3) := by decide +kernel
theorem d_StateSet_init_4 : decode b_StateSet_init 4 = .ok (.aload_n 0, 1) := by decide +kernel
theorem d_StateSet_init_5 : decode b_StateSet_init 5 = .ok (.iconst 0, 1) := by decide +kernel
theorem d_StateSet_init_6 : decode b_StateSet_init 6 = .ok (.newarray .long, 2) := by decide +kernel
theorem d_StateSet_init_8 : decode b_StateSet_init 8 = .ok (.putfield 7, 3) := by decide +kernel
theorem d_StateSet_init_11 : decode b_StateSet_init 11 = .ok (.aload_n 0, 1) := by decide +kernel
theorem d_StateSet_init_12 : decode b_StateSet_init 12 = .ok (.iconst 0, 1) := by decide +kernel
theorem d_StateSet_init_13 : decode b_StateSet_init 13 = .ok (.newarray .int, 2) := by decide +kernel
theorem d_StateSet_init_15 : decode b_StateSet_init 15 = .ok (.putfield 13, 3) := by decide +kernel
theorem d_StateSet_init_18 : decode b_StateSet_init 18 = .ok (.return_, 1) := by decide +kernel
theorem d_StateSet_empty_0 : decode b_StateSet_empty 0 = .ok (.aload_n 0, 1) := by decide +kernel
theorem d_StateSet_empty_1 : decode b_StateSet_empty 1 = .ok (.iconst 0, 1) := by decide +kernel
theorem d_StateSet_empty_2 : decode b_StateSet_empty 2 = .ok (.putfield 17, 3) := by decide +kernel
theorem d_StateSet_empty_5 : decode b_StateSet_empty 5 = .ok (.aload_n 0, 1) := by decide +kernel
theorem d_StateSet_empty_6 : decode b_StateSet_empty 6 = .ok (.sipush 256, 3) := by decide +kernel
theorem d_StateSet_empty_9 : decode b_StateSet_empty 9 = .ok (.invokevirtual 21, 3) := by decide +kernel
theorem d_StateSet_empty_12 : decode b_StateSet_empty 12 = .ok (.return_, 1) := by decide +kernel
theorem d_StateSet_add_0 : decode b_StateSet_add 0 = .ok (.aload_n 0, 1) := by decide +kernel
theorem d_StateSet_add_1 : decode b_StateSet_add 1 = .ok (.lload_n 1, 1) := by decide +kernel
theorem d_StateSet_add_2 : decode b_StateSet_add 2 = .ok (.invokevirtual 25, 3) := by decide +kernel
theorem d_StateSet_add_5 : decode b_StateSet_add 5 = .ok (.istore_n 3, 1) := by decide +kernel
theorem d_StateSet_add_6 : decode b_StateSet_add 6 = .ok (.aload_n 0, 1) := by decide +kernel
theorem d_StateSet_add_7 : decode b_StateSet_add 7 = .ok (.getfield 13, 3) := by decide +kernel
theorem d_StateSet_add_10 : decode b_StateSet_add 10 = .ok (.iload_n 3, 1) := by decide +kernel
theorem d_StateSet_add_11 : decode b_StateSet_add 11 = .ok (.iaload, 1) := by decide +kernel
theorem d_StateSet_add_12 : decode b_StateSet_add 12 = .ok (.ifCond .ne 12, 3) := by decide +kernel
theorem d_StateSet_add_15 : decode b_StateSet_add 15 = .ok (.aload_n 0, 1) := by decide +kernel
theorem d_StateSet_add_16 : decode b_StateSet_add 16 = .ok (.getfield 17, 3) := by decide +kernel
theorem d_StateSet_add_19 : decode b_StateSet_add 19 = .ok (.ldc 29, 2) := by decide +kernel
theorem d_StateSet_add_21 : decode b_StateSet_add 21 = .ok (.if_icmp .lt 5, 3) := by decide +kernel
theorem d_StateSet_add_24 : decode b_StateSet_add 24 = .ok (.iconst 0, 1) := by decide +kernel
theorem d_StateSet_add_25 : decode b_StateSet_add 25 = .ok (.ireturn, 1) := by decide +kernel
theorem d_StateSet_add_26 : decode b_StateSet_add 26 = .ok (.aload_n 0, 1) := by decide +kernel
theorem d_StateSet_add_27 : decode b_StateSet_add 27 = .ok (.getfield 17, 3) := by decide +kernel
theorem d_StateSet_add_30 : decode b_StateSet_add 30 = .ok (.aload_n 0, 1) := by decide +kernel
theorem d_StateSet_add_31 : decode b_StateSet_add 31 = .ok (.getfield 7, 3) := by decide +kernel
theorem d_StateSet_add_34 : decode b_StateSet_add 34 = .ok (.arraylength, 1) := by decide +kernel
theorem d_StateSet_add_35 : decode b_StateSet_add 35 = .ok (.if_icmp .lt 26, 3) := by decide +kernel
theorem d_StateSet_add_38 : decode b_StateSet_add 38 = .ok (.aload_n 0, 1) := by decide +kernel
theorem d_StateSet_add_39 : decode b_StateSet_add 39 = .ok (.aload_n 0, 1) := by decide +kernel
theorem d_StateSet_add_40 : decode b_StateSet_add 40 = .ok (.getfield 7, 3) := by decide +kernel
theorem d_StateSet_add_43 : decode b_StateSet_add 43 = .ok (.sipush 256, 3) := by decide +kernel
theorem d_StateSet_add_46 : decode b_StateSet_add 46 = .ok (.iconst 2, 1) := by decide +kernel
theorem d_StateSet_add_47 : decode b_StateSet_add 47 = .ok (.aload_n 0, 1) := by decide +kernel
theorem d_StateSet_add_48 : decode b_StateSet_add 48 = .ok (.getfield 17, 3) := by decide +kernel
theorem d_StateSet_add_51 : decode b_StateSet_add 51 = .ok (.imul, 1) := by decide +kernel
theorem d_StateSet_add_52 : decode b_StateSet_add 52 = .ok (.invokestatic 30, 3) := by decide +kernel
theorem d_StateSet_add_55 : decode b_StateSet_add 55 = .ok (.invokestatic 36, 3) := by decide +kernel
theorem d_StateSet_add_58 : decode b_StateSet_add 58 = .ok (.putfield 7, 3) := by decide +kernel
theorem d_StateSet_add_61 : decode b_StateSet_add 61 = .ok (.aload_n 0, 1) := by decide +kernel
theorem d_StateSet_add_62 : decode b_StateSet_add 62 = .ok (.getfield 7, 3) := by decide +kernel
theorem d_StateSet_add_65 : decode b_StateSet_add 65 = .ok (.aload_n 0, 1) := by decide +kernel
theorem d_StateSet_add_66 : decode b_StateSet_add 66 = .ok (.getfield 17, 3) := by decide +kernel
theorem d_StateSet_add_69 : decode b_StateSet_add 69 = .ok (.lload_n 1, 1) := by decide +kernel
theorem d_StateSet_add_70 : decode b_StateSet_add 70 = .ok (.lastore, 1) := by decide +kernel
theorem d_StateSet_add_71 : decode b_StateSet_add 71 = .ok (.aload_n 0, 1) := by decide +kernel
theorem d_StateSet_add_72 : decode b_StateSet_add 72 = .ok (.dup, 1) := by decide +kernel
theorem d_StateSet_add_73 : decode b_StateSet_add 73 = .ok (.getfield 17, 3) := by decide +kernel
theorem d_StateSet_add_76 : decode b_StateSet_add 76 = .ok (.iconst 1, 1) := by decide +kernel
theorem d_StateSet_add_77 : decode b_StateSet_add 77 = .ok (.iadd, 1) := by decide +kernel
theorem d_StateSet_add_78 : decode b_StateSet_add 78 = .ok (.putfield 17, 3) := by decide +kernel
theorem d_StateSet_add_81 : decode b_StateSet_add 81 = .ok (.aload_n 0, 1) := by decide +kernel
theorem d_StateSet_add_82 : decode b_StateSet_add 82 = .ok (.getfield 13, 3) := by decide +kernel
theorem d_StateSet_add_85 : decode b_StateSet_add 85 = .ok (.iload_n 3, 1) := by decide +kernel
theorem d_StateSet_add_86 : decode b_StateSet_add 86 = .ok (.aload_n 0, 1) := by decide +kernel
theorem d_StateSet_add_87 : decode b_StateSet_add 87 = .ok (.getfield 17, 3) := by decide +kernel
theorem d_StateSet_add_90 : decode b_StateSet_add 90 = .ok (.iastore, 1) := by decide +kernel
theorem d_StateSet_add_91 : decode b_StateSet_add 91 = .ok (.iconst 2, 1) := by decide +kernel
theorem d_StateSet_add_92 : decode b_StateSet_add 92 = .ok (.aload_n 0, 1) := by decide +kernel
theorem d_StateSet_add_93 : decode b_StateSet_add 93 = .ok (.getfield 17, 3) := by decide +kernel
theorem d_StateSet_add_96 : decode b_StateSet_add 96 = .ok (.imul, 1) := by decide +kernel
theorem d_StateSet_add_97 : decode b_StateSet_add 97 = .ok (.aload_n 0, 1) := by decide +kernel
theorem d_StateSet_add_98 : decode b_StateSet_add 98 = .ok (.getfield 42, 3) := by decide +kernel
theorem d_StateSet_add_101 : decode b_StateSet_add 101 = .ok (.if_icmp .le 13, 3) := by decide +kernel
theorem d_StateSet_add_104 : decode b_StateSet_add 104 = .ok (.aload_n 0, 1) := by decide +kernel
theorem d_StateSet_add_105 : decode b_StateSet_add 105 = .ok (.iconst 2, 1) := by decide +kernel
theorem d_StateSet_add_106 : decode b_StateSet_add 106 = .ok (.aload_n 0, 1) := by decide +kernel
theorem d_StateSet_add_107 : decode b_StateSet_add 107 = .ok (.getfield 42, 3) := by decide +kernel
theorem d_StateSet_add_110 : decode b_StateSet_add 110 = .ok (.imul, 1) := by decide +kernel
theorem d_StateSet_add_111 : decode b_StateSet_add 111 = .ok (.invokevirtual 21, 3) := by decide +kernel
theorem d_StateSet_add_114 : decode b_StateSet_add 114 = .ok (.iconst 1, 1) := by decide +kernel
theorem d_StateSet_add_115 : decode b_StateSet_add 115 = .ok (.ireturn, 1) := by decide +kernel
theorem d_StateSet_makeRoom_0 : decode b_StateSet_makeRoom 0 = .ok (.aload_n 0, 1) := by decide +kernel
theorem d_StateSet_makeRoom_1 : decode b_StateSet_makeRoom 1 = .ok (.iload_n 1, 1) := by decide +kernel
theorem d_StateSet_makeRoom_2 : decode b_StateSet_makeRoom 2 = .ok (.putfield 42, 3) := by decide +kernel
theorem d_StateSet_makeRoom_5 : decode b_StateSet_makeRoom 5 = .ok (.aload_n 0, 1) := by decide +kernel
theorem d_StateSet_makeRoom_6 : decode b_StateSet_makeRoom 6 = .ok (.getfield 13, 3) := by decide +kernel
theorem d_StateSet_makeRoom_9 : decode b_StateSet_makeRoom 9 = .ok (.arraylength, 1) := by decide +kernel
theorem d_StateSet_makeRoom_10 : decode b_StateSet_makeRoom 10 = .ok (.aload_n 0, 1) := by decide +kernel
theorem d_StateSet_makeRoom_11 : decode b_StateSet_makeRoom 11 = .ok (.getfield 42, 3) := by decide +kernel
theorem d_StateSet_makeRoom_14 : decode b_StateSet_makeRoom 14 = .ok (.if_icmp .ge 16, 3) := by decide +kernel
theorem d_StateSet_makeRoom_17 : decode b_StateSet_makeRoom 17 = .ok (.aload_n 0, 1) := by decide +kernel
theorem d_StateSet_makeRoom_18 : decode b_StateSet_makeRoom 18 = .ok (.aload_n 0, 1) := by decide +kernel
theorem d_StateSet_makeRoom_19 : decode b_StateSet_makeRoom 19 = .ok (.getfield 42, 3) := by decide +kernel
theorem d_StateSet_makeRoom_22 : decode b_StateSet_makeRoom 22 = .ok (.newarray .int, 2) := by decide +kernel
theorem d_StateSet_makeRoom_24 : decode b_StateSet_makeRoom 24 = .ok (.putfield 13, 3) := by decide +kernel
theorem d_StateSet_makeRoom_27 : decode b_StateSet_makeRoom 27 = .ok (.goto 26, 3) := by decide +kernel
theorem d_StateSet_makeRoom_30 : decode b_StateSet_makeRoom 30 = .ok (.iconst 0, 1) := by decide +kernel
theorem d_StateSet_makeRoom_31 : decode b_StateSet_makeRoom 31 = .ok (.istore_n 2, 1) := by decide +kernel
theorem d_StateSet_makeRoom_32 : decode b_StateSet_makeRoom 32 = .ok (.iload_n 2, 1) := by decide +kernel
theorem d_StateSet_makeRoom_33 : decode b_StateSet_makeRoom 33 = .ok (.aload_n 0, 1) := by decide +kernel
theorem d_StateSet_makeRoom_34 : decode b_StateSet_makeRoom 34 = .ok (.getfield 42, 3) := by decide +kernel
theorem d_StateSet_makeRoom_37 : decode b_StateSet_makeRoom 37 = .ok (.if_icmp .ge 16, 3) := by decide +kernel
theorem d_StateSet_makeRoom_40 : decode b_StateSet_makeRoom 40 = .ok (.aload_n 0, 1) := by decide +kernel
theorem d_StateSet_makeRoom_41 : decode b_StateSet_makeRoom 41 = .ok (.getfield 13, 3) := by decide +kernel
theorem d_StateSet_makeRoom_44 : decode b_StateSet_makeRoom 44 = .ok (.iload_n 2, 1) := by decide +kernel
theorem d_StateSet_makeRoom_45 : decode b_StateSet_makeRoom 45 = .ok (.iconst 0, 1) := by decide +kernel
theorem d_StateSet_makeRoom_46 : decode b_StateSet_makeRoom 46 = .ok (.iastore, 1) := by decide +kernel
theorem d_StateSet_makeRoom_47 : decode b_StateSet_makeRoom 47 = .ok (.iinc 2 1, 3) := by decide +kernel
theorem d_StateSet_makeRoom_50 : decode b_StateSet_makeRoom 50 = .ok (.goto (-18), 3) := by decide +kernel
theorem d_StateSet_makeRoom_53 : decode b_StateSet_makeRoom 53 = .ok (.iconst 0, 1) := by decide +kernel
theorem d_StateSet_makeRoom_54 : decode b_StateSet_makeRoom 54 = .ok (.istore_n 2, 1) := by decide +kernel
theorem d_StateSet_makeRoom_55 : decode b_StateSet_makeRoom 55 = .ok (.iload_n 2, 1) := by decide +kernel
theorem d_StateSet_makeRoom_56 : decode b_StateSet_makeRoom 56 = .ok (.aload_n 0, 1) := by decide +kernel
theorem d_StateSet_makeRoom_57 : decode b_StateSet_makeRoom 57 = .ok (.getfield 17, 3) := by decide +kernel
theorem d_StateSet_makeRoom_60 : decode b_StateSet_makeRoom 60 = .ok (.if_icmp .ge 27, 3) := by decide +kernel
theorem d_StateSet_makeRoom_63 : decode b_StateSet_makeRoom 63 = .ok (.aload_n 0, 1) := by decide +kernel
theorem d_StateSet_makeRoom_64 : decode b_StateSet_makeRoom 64 = .ok (.getfield 13, 3) := by decide +kernel
theorem d_StateSet_makeRoom_67 : decode b_StateSet_makeRoom 67 = .ok (.aload_n 0, 1) := by decide +kernel
theorem d_StateSet_makeRoom_68 : decode b_StateSet_makeRoom 68 = .ok (.aload_n 0, 1) := by decide +kernel
theorem d_StateSet_makeRoom_69 : decode b_StateSet_makeRoom 69 = .ok (.getfield 7, 3) := by decide +kernel
theorem d_StateSet_makeRoom_72 : decode b_StateSet_makeRoom 72 = .ok (.iload_n 2, 1) := by decide +kernel
theorem d_StateSet_makeRoom_73 : decode b_StateSet_makeRoom 73 = .ok (.laload, 1) := by decide +kernel
theorem d_StateSet_makeRoom_74 : decode b_StateSet_makeRoom 74 = .ok (.invokevirtual 25, 3) := by decide +kernel
theorem d_StateSet_makeRoom_77 : decode b_StateSet_makeRoom 77 = .ok (.iload_n 2, 1) := by decide +kernel
theorem d_StateSet_makeRoom_78 : decode b_StateSet_makeRoom 78 = .ok (.iconst 1, 1) := by decide +kernel
theorem d_StateSet_makeRoom_79 : decode b_StateSet_makeRoom 79 = .ok (.iadd, 1) := by decide +kernel
theorem d_StateSet_makeRoom_80 : decode b_StateSet_makeRoom 80 = .ok (.iastore, 1) := by decide +kernel
theorem d_StateSet_makeRoom_81 : decode b_StateSet_makeRoom 81 = .ok (.iinc 2 1, 3) := by decide +kernel
theorem d_StateSet_makeRoom_84 : decode b_StateSet_makeRoom 84 = .ok (.goto (-29), 3) := by decide +kernel
theorem d_StateSet_makeRoom_87 : decode b_StateSet_makeRoom 87 = .ok (.return_, 1) := by decide +kernel
theorem d_StateSet_slotOf_0 : decode b_StateSet_slotOf 0 = .ok (.lload_n 1, 1) := by decide +kernel
theorem d_StateSet_slotOf_1 : decode b_StateSet_slotOf 1 = .ok (.ldc2_w 45, 3) := by decide +kernel
theorem d_StateSet_slotOf_4 : decode b_StateSet_slotOf 4 = .ok (.lmul, 1) := by decide +kernel
theorem d_StateSet_slotOf_5 : decode b_StateSet_slotOf 5 = .ok (.bipush 40, 2) := by decide +kernel
theorem d_StateSet_slotOf_7 : decode b_StateSet_slotOf 7 = .ok (.lushr, 1) := by decide +kernel
theorem d_StateSet_slotOf_8 : decode b_StateSet_slotOf 8 = .ok (.l2i, 1) := by decide +kernel
theorem d_StateSet_slotOf_9 : decode b_StateSet_slotOf 9 = .ok (.aload_n 0, 1) := by decide +kernel
theorem d_StateSet_slotOf_10 : decode b_StateSet_slotOf 10 = .ok (.getfield 42, 3) := by decide +kernel
theorem d_StateSet_slotOf_13 : decode b_StateSet_slotOf 13 = .ok (.iconst 1, 1) := by decide +kernel
theorem d_StateSet_slotOf_14 : decode b_StateSet_slotOf 14 = .ok (.isub, 1) := by decide +kernel
theorem d_StateSet_slotOf_15 : decode b_StateSet_slotOf 15 = .ok (.iand, 1) := by decide +kernel
theorem d_StateSet_slotOf_16 : decode b_StateSet_slotOf 16 = .ok (.istore_n 3, 1) := by decide +kernel
theorem d_StateSet_slotOf_17 : decode b_StateSet_slotOf 17 = .ok (.iconst 0, 1) := by decide +kernel
theorem d_StateSet_slotOf_18 : decode b_StateSet_slotOf 18 = .ok (.istore 4, 2) := by decide +kernel
theorem d_StateSet_slotOf_20 : decode b_StateSet_slotOf 20 = .ok (.iload 4, 2) := by decide +kernel
theorem d_StateSet_slotOf_22 : decode b_StateSet_slotOf 22 = .ok (.aload_n 0, 1) := by decide +kernel
theorem d_StateSet_slotOf_23 : decode b_StateSet_slotOf 23 = .ok (.getfield 42, 3) := by decide +kernel
theorem d_StateSet_slotOf_26 : decode b_StateSet_slotOf 26 = .ok (.if_icmp .ge 49, 3) := by decide +kernel
theorem d_StateSet_slotOf_29 : decode b_StateSet_slotOf 29 = .ok (.aload_n 0, 1) := by decide +kernel
theorem d_StateSet_slotOf_30 : decode b_StateSet_slotOf 30 = .ok (.getfield 13, 3) := by decide +kernel
theorem d_StateSet_slotOf_33 : decode b_StateSet_slotOf 33 = .ok (.iload_n 3, 1) := by decide +kernel
theorem d_StateSet_slotOf_34 : decode b_StateSet_slotOf 34 = .ok (.iaload, 1) := by decide +kernel
theorem d_StateSet_slotOf_35 : decode b_StateSet_slotOf 35 = .ok (.istore 5, 2) := by decide +kernel
theorem d_StateSet_slotOf_37 : decode b_StateSet_slotOf 37 = .ok (.iload 5, 2) := by decide +kernel
theorem d_StateSet_slotOf_39 : decode b_StateSet_slotOf 39 = .ok (.ifCond .eq 17, 3) := by decide +kernel
theorem d_StateSet_slotOf_42 : decode b_StateSet_slotOf 42 = .ok (.aload_n 0, 1) := by decide +kernel
theorem d_StateSet_slotOf_43 : decode b_StateSet_slotOf 43 = .ok (.getfield 7, 3) := by decide +kernel
theorem d_StateSet_slotOf_46 : decode b_StateSet_slotOf 46 = .ok (.iload 5, 2) := by decide +kernel
theorem d_StateSet_slotOf_48 : decode b_StateSet_slotOf 48 = .ok (.iconst 1, 1) := by decide +kernel
theorem d_StateSet_slotOf_49 : decode b_StateSet_slotOf 49 = .ok (.isub, 1) := by decide +kernel
theorem d_StateSet_slotOf_50 : decode b_StateSet_slotOf 50 = .ok (.laload, 1) := by decide +kernel
theorem d_StateSet_slotOf_51 : decode b_StateSet_slotOf 51 = .ok (.lload_n 1, 1) := by decide +kernel
theorem d_StateSet_slotOf_52 : decode b_StateSet_slotOf 52 = .ok (.lcmp, 1) := by decide +kernel
theorem d_StateSet_slotOf_53 : decode b_StateSet_slotOf 53 = .ok (.ifCond .ne 5, 3) := by decide +kernel
theorem d_StateSet_slotOf_56 : decode b_StateSet_slotOf 56 = .ok (.iload_n 3, 1) := by decide +kernel
theorem d_StateSet_slotOf_57 : decode b_StateSet_slotOf 57 = .ok (.ireturn, 1) := by decide +kernel
theorem d_StateSet_slotOf_58 : decode b_StateSet_slotOf 58 = .ok (.iload_n 3, 1) := by decide +kernel
theorem d_StateSet_slotOf_59 : decode b_StateSet_slotOf 59 = .ok (.iconst 1, 1) := by decide +kernel
theorem d_StateSet_slotOf_60 : decode b_StateSet_slotOf 60 = .ok (.iadd, 1) := by decide +kernel
theorem d_StateSet_slotOf_61 : decode b_StateSet_slotOf 61 = .ok (.aload_n 0, 1) := by decide +kernel
theorem d_StateSet_slotOf_62 : decode b_StateSet_slotOf 62 = .ok (.getfield 42, 3) := by decide +kernel
theorem d_StateSet_slotOf_65 : decode b_StateSet_slotOf 65 = .ok (.iconst 1, 1) := by decide +kernel
theorem d_StateSet_slotOf_66 : decode b_StateSet_slotOf 66 = .ok (.isub, 1) := by decide +kernel
theorem d_StateSet_slotOf_67 : decode b_StateSet_slotOf 67 = .ok (.iand, 1) := by decide +kernel
theorem d_StateSet_slotOf_68 : decode b_StateSet_slotOf 68 = .ok (.istore_n 3, 1) := by decide +kernel
theorem d_StateSet_slotOf_69 : decode b_StateSet_slotOf 69 = .ok (.iinc 4 1, 3) := by decide +kernel
theorem d_StateSet_slotOf_72 : decode b_StateSet_slotOf 72 = .ok (.goto (-52), 3) := by decide +kernel
theorem d_StateSet_slotOf_75 : decode b_StateSet_slotOf 75 = .ok (.iload_n 3, 1) := by decide +kernel
theorem d_StateSet_slotOf_76 : decode b_StateSet_slotOf 76 = .ok (.ireturn, 1) := by decide +kernel
theorem d_Object_init_0 : decode b_Object_init 0 = .ok (.return_, 1) := by decide +kernel
theorem d_Integer_bitCount_0 : decode b_Integer_bitCount 0 = .ok (.iload_n 0, 1) := by decide +kernel
theorem d_Integer_bitCount_1 : decode b_Integer_bitCount 1 = .ok (.iload_n 0, 1) := by decide +kernel
theorem d_Integer_bitCount_2 : decode b_Integer_bitCount 2 = .ok (.iconst 1, 1) := by decide +kernel
theorem d_Integer_bitCount_3 : decode b_Integer_bitCount 3 = .ok (.iushr, 1) := by decide +kernel
theorem d_Integer_bitCount_7 : decode b_Integer_bitCount 7 = .ok (.iand, 1) := by decide +kernel
theorem d_Integer_bitCount_8 : decode b_Integer_bitCount 8 = .ok (.isub, 1) := by decide +kernel
theorem d_Integer_bitCount_9 : decode b_Integer_bitCount 9 = .ok (.istore_n 0, 1) := by decide +kernel
theorem d_Integer_bitCount_10 : decode b_Integer_bitCount 10 = .ok (.iload_n 0, 1) := by decide +kernel
theorem d_Integer_bitCount_14 : decode b_Integer_bitCount 14 = .ok (.iand, 1) := by decide +kernel
theorem d_Integer_bitCount_15 : decode b_Integer_bitCount 15 = .ok (.iload_n 0, 1) := by decide +kernel
theorem d_Integer_bitCount_16 : decode b_Integer_bitCount 16 = .ok (.iconst 2, 1) := by decide +kernel
theorem d_Integer_bitCount_17 : decode b_Integer_bitCount 17 = .ok (.iushr, 1) := by decide +kernel
theorem d_Integer_bitCount_21 : decode b_Integer_bitCount 21 = .ok (.iand, 1) := by decide +kernel
theorem d_Integer_bitCount_22 : decode b_Integer_bitCount 22 = .ok (.iadd, 1) := by decide +kernel
theorem d_Integer_bitCount_23 : decode b_Integer_bitCount 23 = .ok (.istore_n 0, 1) := by decide +kernel
theorem d_Integer_bitCount_24 : decode b_Integer_bitCount 24 = .ok (.iload_n 0, 1) := by decide +kernel
theorem d_Integer_bitCount_25 : decode b_Integer_bitCount 25 = .ok (.iload_n 0, 1) := by decide +kernel
theorem d_Integer_bitCount_26 : decode b_Integer_bitCount 26 = .ok (.iconst 4, 1) := by decide +kernel
theorem d_Integer_bitCount_27 : decode b_Integer_bitCount 27 = .ok (.iushr, 1) := by decide +kernel
theorem d_Integer_bitCount_28 : decode b_Integer_bitCount 28 = .ok (.iadd, 1) := by decide +kernel
theorem d_Integer_bitCount_32 : decode b_Integer_bitCount 32 = .ok (.iand, 1) := by decide +kernel
theorem d_Integer_bitCount_33 : decode b_Integer_bitCount 33 = .ok (.istore_n 0, 1) := by decide +kernel
theorem d_Integer_bitCount_34 : decode b_Integer_bitCount 34 = .ok (.iload_n 0, 1) := by decide +kernel
theorem d_Integer_bitCount_35 : decode b_Integer_bitCount 35 = .ok (.iload_n 0, 1) := by decide +kernel
theorem d_Integer_bitCount_36 : decode b_Integer_bitCount 36 = .ok (.bipush 8, 2) := by decide +kernel
theorem d_Integer_bitCount_38 : decode b_Integer_bitCount 38 = .ok (.iushr, 1) := by decide +kernel
theorem d_Integer_bitCount_39 : decode b_Integer_bitCount 39 = .ok (.iadd, 1) := by decide +kernel
theorem d_Integer_bitCount_40 : decode b_Integer_bitCount 40 = .ok (.istore_n 0, 1) := by decide +kernel
theorem d_Integer_bitCount_41 : decode b_Integer_bitCount 41 = .ok (.iload_n 0, 1) := by decide +kernel
theorem d_Integer_bitCount_42 : decode b_Integer_bitCount 42 = .ok (.iload_n 0, 1) := by decide +kernel
theorem d_Integer_bitCount_43 : decode b_Integer_bitCount 43 = .ok (.bipush 16, 2) := by decide +kernel
theorem d_Integer_bitCount_45 : decode b_Integer_bitCount 45 = .ok (.iushr, 1) := by decide +kernel
theorem d_Integer_bitCount_46 : decode b_Integer_bitCount 46 = .ok (.iadd, 1) := by decide +kernel
theorem d_Integer_bitCount_47 : decode b_Integer_bitCount 47 = .ok (.istore_n 0, 1) := by decide +kernel
theorem d_Integer_bitCount_48 : decode b_Integer_bitCount 48 = .ok (.iload_n 0, 1) := by decide +kernel
theorem d_Integer_bitCount_49 : decode b_Integer_bitCount 49 = .ok (.bipush 63, 2) := by decide +kernel
theorem d_Integer_bitCount_51 : decode b_Integer_bitCount 51 = .ok (.iand, 1) := by decide +kernel
theorem d_Integer_bitCount_52 : decode b_Integer_bitCount 52 = .ok (.ireturn, 1) := by decide +kernel
theorem d_Math_max_0 : decode b_Math_max 0 = .ok (.iload_n 0, 1) := by decide +kernel
theorem d_Math_max_1 : decode b_Math_max 1 = .ok (.iload_n 1, 1) := by decide +kernel
theorem d_Math_max_2 : decode b_Math_max 2 = .ok (.if_icmp .lt 7, 3) := by decide +kernel
theorem d_Math_max_5 : decode b_Math_max 5 = .ok (.iload_n 0, 1) := by decide +kernel
theorem d_Math_max_6 : decode b_Math_max 6 = .ok (.goto 4, 3) := by decide +kernel
theorem d_Math_max_9 : decode b_Math_max 9 = .ok (.iload_n 1, 1) := by decide +kernel
theorem d_Math_max_10 : decode b_Math_max 10 = .ok (.ireturn, 1) := by decide +kernel
theorem d_Math_min_0 : decode b_Math_min 0 = .ok (.iload_n 0, 1) := by decide +kernel
theorem d_Math_min_1 : decode b_Math_min 1 = .ok (.iload_n 1, 1) := by decide +kernel
theorem d_Math_min_2 : decode b_Math_min 2 = .ok (.if_icmp .gt 7, 3) := by decide +kernel
theorem d_Math_min_5 : decode b_Math_min 5 = .ok (.iload_n 0, 1) := by decide +kernel
theorem d_Math_min_6 : decode b_Math_min 6 = .ok (.goto 4, 3) := by decide +kernel
theorem d_Math_min_9 : decode b_Math_min 9 = .ok (.iload_n 1, 1) := by decide +kernel
theorem d_Math_min_10 : decode b_Math_min 10 = .ok (.ireturn, 1) := by decide +kernel
theorem d_Arrays_copyOf_0 : decode b_Arrays_copyOf 0 = .ok (.iload_n 1, 1) := by decide +kernel
theorem d_Arrays_copyOf_1 : decode b_Arrays_copyOf 1 = .ok (.aload_n 0, 1) := by decide +kernel
theorem d_Arrays_copyOf_2 : decode b_Arrays_copyOf 2 = .ok (.arraylength, 1) := by decide +kernel
theorem d_Arrays_copyOf_3 : decode b_Arrays_copyOf 3 = .ok (.if_icmp .ne 11, 3) := by decide +kernel
theorem d_Arrays_copyOf_6 : decode b_Arrays_copyOf 6 = .ok (.aload_n 0, 1) := by decide +kernel
theorem d_Arrays_copyOf_7 : decode b_Arrays_copyOf 7 = .ok (.invokevirtual 316, 3) := by decide +kernel
theorem d_Arrays_copyOf_10 : decode b_Arrays_copyOf 10 = .ok (.checkcast 317, 3) := by decide +kernel
theorem d_Arrays_copyOf_13 : decode b_Arrays_copyOf 13 = .ok (.areturn, 1) := by decide +kernel
theorem d_Arrays_copyOf_14 : decode b_Arrays_copyOf 14 = .ok (.iload_n 1, 1) := by decide +kernel
theorem d_Arrays_copyOf_15 : decode b_Arrays_copyOf 15 = .ok (.newarray .int, 2) := by decide +kernel
theorem d_Arrays_copyOf_17 : decode b_Arrays_copyOf 17 = .ok (.astore_n 2, 1) := by decide +kernel
theorem d_Arrays_copyOf_18 : decode b_Arrays_copyOf 18 = .ok (.aload_n 0, 1) := by decide +kernel
theorem d_Arrays_copyOf_19 : decode b_Arrays_copyOf 19 = .ok (.iconst 0, 1) := by decide +kernel
theorem d_Arrays_copyOf_20 : decode b_Arrays_copyOf 20 = .ok (.aload_n 2, 1) := by decide +kernel
theorem d_Arrays_copyOf_21 : decode b_Arrays_copyOf 21 = .ok (.iconst 0, 1) := by decide +kernel
theorem d_Arrays_copyOf_22 : decode b_Arrays_copyOf 22 = .ok (.aload_n 0, 1) := by decide +kernel
theorem d_Arrays_copyOf_23 : decode b_Arrays_copyOf 23 = .ok (.arraylength, 1) := by decide +kernel
theorem d_Arrays_copyOf_24 : decode b_Arrays_copyOf 24 = .ok (.iload_n 1, 1) := by decide +kernel
theorem d_Arrays_copyOf_25 : decode b_Arrays_copyOf 25 = .ok (.invokestatic 304, 3) := by decide +kernel
theorem d_Arrays_copyOf_28 : decode b_Arrays_copyOf 28 = .ok (.invokestatic 150, 3) := by decide +kernel
theorem d_Arrays_copyOf_31 : decode b_Arrays_copyOf 31 = .ok (.aload_n 2, 1) := by decide +kernel
theorem d_Arrays_copyOf_32 : decode b_Arrays_copyOf 32 = .ok (.areturn, 1) := by decide +kernel
theorem d_Arrays_copyOf2_0 : decode b_Arrays_copyOf2 0 = .ok (.iload_n 1, 1) := by decide +kernel
theorem d_Arrays_copyOf2_1 : decode b_Arrays_copyOf2 1 = .ok (.aload_n 0, 1) := by decide +kernel
theorem d_Arrays_copyOf2_2 : decode b_Arrays_copyOf2 2 = .ok (.arraylength, 1) := by decide +kernel
theorem d_Arrays_copyOf2_3 : decode b_Arrays_copyOf2 3 = .ok (.if_icmp .ne 11, 3) := by decide +kernel
theorem d_Arrays_copyOf2_6 : decode b_Arrays_copyOf2 6 = .ok (.aload_n 0, 1) := by decide +kernel
theorem d_Arrays_copyOf2_7 : decode b_Arrays_copyOf2 7 = .ok (.invokevirtual 319, 3) := by decide +kernel
theorem d_Arrays_copyOf2_10 : decode b_Arrays_copyOf2 10 = .ok (.checkcast 320, 3) := by decide +kernel
theorem d_Arrays_copyOf2_13 : decode b_Arrays_copyOf2 13 = .ok (.areturn, 1) := by decide +kernel
theorem d_Arrays_copyOf2_14 : decode b_Arrays_copyOf2 14 = .ok (.iload_n 1, 1) := by decide +kernel
theorem d_Arrays_copyOf2_15 : decode b_Arrays_copyOf2 15 = .ok (.newarray .long, 2) := by decide +kernel
theorem d_Arrays_copyOf2_17 : decode b_Arrays_copyOf2 17 = .ok (.astore_n 2, 1) := by decide +kernel
theorem d_Arrays_copyOf2_18 : decode b_Arrays_copyOf2 18 = .ok (.aload_n 0, 1) := by decide +kernel
theorem d_Arrays_copyOf2_19 : decode b_Arrays_copyOf2 19 = .ok (.iconst 0, 1) := by decide +kernel
theorem d_Arrays_copyOf2_20 : decode b_Arrays_copyOf2 20 = .ok (.aload_n 2, 1) := by decide +kernel
theorem d_Arrays_copyOf2_21 : decode b_Arrays_copyOf2 21 = .ok (.iconst 0, 1) := by decide +kernel
theorem d_Arrays_copyOf2_22 : decode b_Arrays_copyOf2 22 = .ok (.aload_n 0, 1) := by decide +kernel
theorem d_Arrays_copyOf2_23 : decode b_Arrays_copyOf2 23 = .ok (.arraylength, 1) := by decide +kernel
theorem d_Arrays_copyOf2_24 : decode b_Arrays_copyOf2 24 = .ok (.iload_n 1, 1) := by decide +kernel
theorem d_Arrays_copyOf2_25 : decode b_Arrays_copyOf2 25 = .ok (.invokestatic 304, 3) := by decide +kernel
theorem d_Arrays_copyOf2_28 : decode b_Arrays_copyOf2 28 = .ok (.invokestatic 150, 3) := by decide +kernel
theorem d_Arrays_copyOf2_31 : decode b_Arrays_copyOf2 31 = .ok (.aload_n 2, 1) := by decide +kernel
theorem d_Arrays_copyOf2_32 : decode b_Arrays_copyOf2 32 = .ok (.areturn, 1) := by decide +kernel
theorem d_Arrays_fill_0 : decode b_Arrays_fill 0 = .ok (.iconst 0, 1) := by decide +kernel
theorem d_Arrays_fill_1 : decode b_Arrays_fill 1 = .ok (.istore_n 2, 1) := by decide +kernel
theorem d_Arrays_fill_2 : decode b_Arrays_fill 2 = .ok (.aload_n 0, 1) := by decide +kernel
theorem d_Arrays_fill_3 : decode b_Arrays_fill 3 = .ok (.arraylength, 1) := by decide +kernel
theorem d_Arrays_fill_4 : decode b_Arrays_fill 4 = .ok (.istore_n 3, 1) := by decide +kernel
theorem d_Arrays_fill_5 : decode b_Arrays_fill 5 = .ok (.iload_n 2, 1) := by decide +kernel
theorem d_Arrays_fill_6 : decode b_Arrays_fill 6 = .ok (.iload_n 3, 1) := by decide +kernel
theorem d_Arrays_fill_7 : decode b_Arrays_fill 7 = .ok (.if_icmp .ge 13, 3) := by decide +kernel
theorem d_Arrays_fill_10 : decode b_Arrays_fill 10 = .ok (.aload_n 0, 1) := by decide +kernel
theorem d_Arrays_fill_11 : decode b_Arrays_fill 11 = .ok (.iload_n 2, 1) := by decide +kernel
theorem d_Arrays_fill_12 : decode b_Arrays_fill 12 = .ok (.iload_n 1, 1) := by decide +kernel
theorem d_Arrays_fill_13 : decode b_Arrays_fill 13 = .ok (.iastore, 1) := by decide +kernel
theorem d_Arrays_fill_14 : decode b_Arrays_fill 14 = .ok (.iinc 2 1, 3) := by decide +kernel
theorem d_Arrays_fill_17 : decode b_Arrays_fill 17 = .ok (.goto (-12), 3) := by decide +kernel
theorem d_Arrays_fill_20 : decode b_Arrays_fill 20 = .ok (.return_, 1) := by decide +kernel


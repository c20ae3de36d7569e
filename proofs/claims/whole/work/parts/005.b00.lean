theorem d_law_law_0 : decode code 0 = .ok (.new 7, 3) := by decide +kernel
theorem d_law_law_3 : decode code 3 = .ok (.dup, 1) := by decide +kernel
theorem d_law_law_4 : decode code 4 = .ok (.invokespecial 9, 3) := by decide +kernel
theorem d_law_law_7 : decode code 7 = .ok (.astore_n 1, 1) := by decide +kernel
theorem d_law_law_8 : decode code 8 = .ok (.new 10, 3) := by decide +kernel
theorem d_law_law_11 : decode code 11 = .ok (.dup, 1) := by decide +kernel
theorem d_law_law_12 : decode code 12 = .ok (.invokespecial 12, 3) := by decide +kernel
theorem d_law_law_15 : decode code 15 = .ok (.astore_n 2, 1) := by decide +kernel
theorem d_law_law_16 : decode code 16 = .ok (.iconst 0, 1) := by decide +kernel
theorem d_law_law_17 : decode code 17 = .ok (.istore_n 3, 1) := by decide +kernel
theorem d_law_law_18 : decode code 18 = .ok (.iload_n 3, 1) := by decide +kernel
theorem d_law_law_19 : decode code 19 = .ok (.aload_n 0, 1) := by decide +kernel
theorem d_law_law_20 : decode code 20 = .ok (.arraylength, 1) := by decide +kernel
theorem d_law_law_21 : decode code 21 = .ok (.bipush 6, 2) := by decide +kernel
theorem d_law_law_23 : decode code 23 = .ok (.isub, 1) := by decide +kernel
theorem d_law_law_24 : decode code 24 = .ok (.if_icmp .gt 464, 3) := by decide +kernel
theorem d_law_law_27 : decode code 27 = .ok (.aload_n 0, 1) := by decide +kernel
theorem d_law_law_28 : decode code 28 = .ok (.iload_n 3, 1) := by decide +kernel
theorem d_law_law_29 : decode code 29 = .ok (.iaload, 1) := by decide +kernel
theorem d_law_law_30 : decode code 30 = .ok (.bipush 15, 2) := by decide +kernel
theorem d_law_law_32 : decode code 32 = .ok (.iand, 1) := by decide +kernel
theorem d_law_law_33 : decode code 33 = .ok (.tableswitch 449 0 11 #[63, 76, 139, 152, 175, 218, 261, 284, 327, 350, 383, 396], 63) := by decide +kernel
theorem d_law_law_96 : decode code 96 = .ok (.aload_n 1, 1) := by decide +kernel
theorem d_law_law_97 : decode code 97 = .ok (.invokevirtual 13, 3) := by decide +kernel
theorem d_law_law_100 : decode code 100 = .ok (.aload_n 2, 1) := by decide +kernel
theorem d_law_law_101 : decode code 101 = .ok (.invokevirtual 17, 3) := by decide +kernel
theorem d_law_law_104 : decode code 104 = .ok (.if_icmp .eq 378, 3) := by decide +kernel
theorem d_law_law_107 : decode code 107 = .ok (.iconst 0, 1) := by decide +kernel
theorem d_law_law_108 : decode code 108 = .ok (.ireturn, 1) := by decide +kernel
theorem d_law_law_109 : decode code 109 = .ok (.aload_n 1, 1) := by decide +kernel
theorem d_law_law_110 : decode code 110 = .ok (.aload_n 0, 1) := by decide +kernel
theorem d_law_law_111 : decode code 111 = .ok (.iload_n 3, 1) := by decide +kernel
theorem d_law_law_112 : decode code 112 = .ok (.iconst 1, 1) := by decide +kernel
theorem d_law_law_113 : decode code 113 = .ok (.iadd, 1) := by decide +kernel
theorem d_law_law_114 : decode code 114 = .ok (.iaload, 1) := by decide +kernel
theorem d_law_law_115 : decode code 115 = .ok (.aload_n 0, 1) := by decide +kernel
theorem d_law_law_116 : decode code 116 = .ok (.iload_n 3, 1) := by decide +kernel
theorem d_law_law_117 : decode code 117 = .ok (.iconst 2, 1) := by decide +kernel
theorem d_law_law_118 : decode code 118 = .ok (.iadd, 1) := by decide +kernel
theorem d_law_law_119 : decode code 119 = .ok (.iaload, 1) := by decide +kernel
theorem d_law_law_120 : decode code 120 = .ok (.aload_n 0, 1) := by decide +kernel
theorem d_law_law_121 : decode code 121 = .ok (.iload_n 3, 1) := by decide +kernel
theorem d_law_law_122 : decode code 122 = .ok (.iconst 3, 1) := by decide +kernel
theorem d_law_law_123 : decode code 123 = .ok (.iadd, 1) := by decide +kernel
theorem d_law_law_124 : decode code 124 = .ok (.iaload, 1) := by decide +kernel
theorem d_law_law_125 : decode code 125 = .ok (.aload_n 0, 1) := by decide +kernel
theorem d_law_law_126 : decode code 126 = .ok (.iload_n 3, 1) := by decide +kernel
theorem d_law_law_127 : decode code 127 = .ok (.iconst 4, 1) := by decide +kernel
theorem d_law_law_128 : decode code 128 = .ok (.iadd, 1) := by decide +kernel
theorem d_law_law_129 : decode code 129 = .ok (.iaload, 1) := by decide +kernel
theorem d_law_law_130 : decode code 130 = .ok (.aload_n 0, 1) := by decide +kernel
theorem d_law_law_131 : decode code 131 = .ok (.iload_n 3, 1) := by decide +kernel
theorem d_law_law_132 : decode code 132 = .ok (.iconst 5, 1) := by decide +kernel
theorem d_law_law_133 : decode code 133 = .ok (.iadd, 1) := by decide +kernel
theorem d_law_law_134 : decode code 134 = .ok (.iaload, 1) := by decide +kernel
theorem d_law_law_135 : decode code 135 = .ok (.invokevirtual 18, 3) := by decide +kernel
theorem d_law_law_138 : decode code 138 = .ok (.aload_n 2, 1) := by decide +kernel
theorem d_law_law_139 : decode code 139 = .ok (.aload_n 0, 1) := by decide +kernel
theorem d_law_law_140 : decode code 140 = .ok (.iload_n 3, 1) := by decide +kernel
theorem d_law_law_141 : decode code 141 = .ok (.iconst 1, 1) := by decide +kernel

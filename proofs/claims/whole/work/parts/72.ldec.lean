theorem dl_0 : decode code 0 = .ok (.new 7, 3) := by decide +kernel
theorem dl_3 : decode code 3 = .ok (.dup, 1) := by decide +kernel
theorem dl_4 : decode code 4 = .ok (.aload_n 0, 1) := by decide +kernel
theorem dl_5 : decode code 5 = .ok (.iconst 0, 1) := by decide +kernel
theorem dl_6 : decode code 6 = .ok (.invokestatic 9, 3) := by decide +kernel
theorem dl_9 : decode code 9 = .ok (.invokespecial 15, 3) := by decide +kernel
theorem dl_12 : decode code 12 = .ok (.astore_n 1, 1) := by decide +kernel
theorem dl_13 : decode code 13 = .ok (.new 18, 3) := by decide +kernel
theorem dl_16 : decode code 16 = .ok (.dup, 1) := by decide +kernel
theorem dl_17 : decode code 17 = .ok (.aload_n 0, 1) := by decide +kernel
theorem dl_18 : decode code 18 = .ok (.iconst 0, 1) := by decide +kernel
theorem dl_19 : decode code 19 = .ok (.invokestatic 9, 3) := by decide +kernel
theorem dl_22 : decode code 22 = .ok (.invokespecial 20, 3) := by decide +kernel
theorem dl_25 : decode code 25 = .ok (.astore_n 2, 1) := by decide +kernel
theorem dl_26 : decode code 26 = .ok (.iconst 1, 1) := by decide +kernel
theorem dl_27 : decode code 27 = .ok (.istore_n 3, 1) := by decide +kernel
theorem dl_28 : decode code 28 = .ok (.iload_n 3, 1) := by decide +kernel
theorem dl_29 : decode code 29 = .ok (.aload_n 0, 1) := by decide +kernel
theorem dl_30 : decode code 30 = .ok (.arraylength, 1) := by decide +kernel
theorem dl_31 : decode code 31 = .ok (.bipush 6, 2) := by decide +kernel
theorem dl_33 : decode code 33 = .ok (.isub, 1) := by decide +kernel
theorem dl_34 : decode code 34 = .ok (.if_icmp .gt 828, 3) := by decide +kernel
theorem dl_37 : decode code 37 = .ok (.aload_n 0, 1) := by decide +kernel
theorem dl_38 : decode code 38 = .ok (.iload_n 3, 1) := by decide +kernel
theorem dl_39 : decode code 39 = .ok (.iaload, 1) := by decide +kernel
theorem dl_40 : decode code 40 = .ok (.bipush 31, 2) := by decide +kernel
theorem dl_42 : decode code 42 = .ok (.iand, 1) := by decide +kernel
theorem dl_43 : decode code 43 = .ok (.tableswitch 813 0 16 #[81, 114, 157, 240, 283, 326, 379, 432, 485, 538, 581, 644, 677, 700, 723, 746, 779], 81) := by decide +kernel
theorem dl_124 : decode code 124 = .ok (.aload_n 1, 1) := by decide +kernel
theorem dl_125 : decode code 125 = .ok (.aload_n 0, 1) := by decide +kernel
theorem dl_126 : decode code 126 = .ok (.iload_n 3, 1) := by decide +kernel
theorem dl_127 : decode code 127 = .ok (.iconst 1, 1) := by decide +kernel
theorem dl_128 : decode code 128 = .ok (.iadd, 1) := by decide +kernel
theorem dl_129 : decode code 129 = .ok (.iaload, 1) := by decide +kernel
theorem dl_130 : decode code 130 = .ok (.aload_n 0, 1) := by decide +kernel
theorem dl_131 : decode code 131 = .ok (.iload_n 3, 1) := by decide +kernel
theorem dl_132 : decode code 132 = .ok (.iconst 2, 1) := by decide +kernel
theorem dl_133 : decode code 133 = .ok (.iadd, 1) := by decide +kernel
theorem dl_134 : decode code 134 = .ok (.iaload, 1) := by decide +kernel
theorem dl_135 : decode code 135 = .ok (.invokevirtual 21, 3) := by decide +kernel
theorem dl_138 : decode code 138 = .ok (.aload_n 2, 1) := by decide +kernel
theorem dl_139 : decode code 139 = .ok (.aload_n 0, 1) := by decide +kernel
theorem dl_140 : decode code 140 = .ok (.iload_n 3, 1) := by decide +kernel
theorem dl_141 : decode code 141 = .ok (.iconst 1, 1) := by decide +kernel
theorem dl_142 : decode code 142 = .ok (.iadd, 1) := by decide +kernel
theorem dl_143 : decode code 143 = .ok (.iaload, 1) := by decide +kernel
theorem dl_144 : decode code 144 = .ok (.aload_n 0, 1) := by decide +kernel
theorem dl_145 : decode code 145 = .ok (.iload_n 3, 1) := by decide +kernel
theorem dl_146 : decode code 146 = .ok (.iconst 2, 1) := by decide +kernel
theorem dl_147 : decode code 147 = .ok (.iadd, 1) := by decide +kernel
theorem dl_148 : decode code 148 = .ok (.iaload, 1) := by decide +kernel
theorem dl_149 : decode code 149 = .ok (.invokevirtual 25, 3) := by decide +kernel
theorem dl_152 : decode code 152 = .ok (.if_icmp .eq 704, 3) := by decide +kernel
theorem dl_155 : decode code 155 = .ok (.iconst 0, 1) := by decide +kernel
theorem dl_156 : decode code 156 = .ok (.ireturn, 1) := by decide +kernel
theorem dl_157 : decode code 157 = .ok (.aload_n 1, 1) := by decide +kernel
theorem dl_158 : decode code 158 = .ok (.aload_n 0, 1) := by decide +kernel
theorem dl_159 : decode code 159 = .ok (.iload_n 3, 1) := by decide +kernel
theorem dl_160 : decode code 160 = .ok (.iconst 1, 1) := by decide +kernel
theorem dl_161 : decode code 161 = .ok (.iadd, 1) := by decide +kernel

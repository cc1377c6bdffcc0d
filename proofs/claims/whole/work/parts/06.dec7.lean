-- 06.dec7
theorem dX7_init_0 : decode cX7_init 0 = .ok (.aload_n 0, 1) := by decide +kernel
theorem dX7_init_1 : decode cX7_init 1 = .ok (.invokespecial 1, 3) := by decide +kernel
theorem dX7_init_4 : decode cX7_init 4 = .ok (.aload_n 0, 1) := by decide +kernel
theorem dX7_init_5 : decode cX7_init 5 = .ok (.sipush 1592, 3) := by decide +kernel
theorem dX7_init_8 : decode cX7_init 8 = .ok (.newarray .int, 2) := by decide +kernel
theorem dX7_init_10 : decode cX7_init 10 = .ok (.putfield 7, 3) := by decide +kernel
theorem dX7_init_13 : decode cX7_init 13 = .ok (.aload_n 0, 1) := by decide +kernel
theorem dX7_init_14 : decode cX7_init 14 = .ok (.sipush 1592, 3) := by decide +kernel
theorem dX7_init_17 : decode cX7_init 17 = .ok (.newarray .int, 2) := by decide +kernel
theorem dX7_init_19 : decode cX7_init 19 = .ok (.putfield 13, 3) := by decide +kernel
theorem dX7_init_22 : decode cX7_init 22 = .ok (.aload_n 0, 1) := by decide +kernel
theorem dX7_init_23 : decode cX7_init 23 = .ok (.sipush 2724, 3) := by decide +kernel
theorem dX7_init_26 : decode cX7_init 26 = .ok (.newarray .int, 2) := by decide +kernel
theorem dX7_init_28 : decode cX7_init 28 = .ok (.putfield 16, 3) := by decide +kernel
theorem dX7_init_31 : decode cX7_init 31 = .ok (.aload_n 0, 1) := by decide +kernel
theorem dX7_init_32 : decode cX7_init 32 = .ok (.sipush 300, 3) := by decide +kernel
theorem dX7_init_35 : decode cX7_init 35 = .ok (.newarray .int, 2) := by decide +kernel
theorem dX7_init_37 : decode cX7_init 37 = .ok (.putfield 19, 3) := by decide +kernel
theorem dX7_init_40 : decode cX7_init 40 = .ok (.aload_n 0, 1) := by decide +kernel
theorem dX7_init_41 : decode cX7_init 41 = .ok (.iconst (-1), 1) := by decide +kernel
theorem dX7_init_42 : decode cX7_init 42 = .ok (.putfield 22, 3) := by decide +kernel
theorem dX7_init_45 : decode cX7_init 45 = .ok (.aload_n 0, 1) := by decide +kernel
theorem dX7_init_46 : decode cX7_init 46 = .ok (.iconst (-1), 1) := by decide +kernel
theorem dX7_init_47 : decode cX7_init 47 = .ok (.putfield 26, 3) := by decide +kernel
theorem dX7_init_50 : decode cX7_init 50 = .ok (.aload_n 0, 1) := by decide +kernel
theorem dX7_init_51 : decode cX7_init 51 = .ok (.sipush 160, 3) := by decide +kernel
theorem dX7_init_54 : decode cX7_init 54 = .ok (.newarray .int, 2) := by decide +kernel
theorem dX7_init_56 : decode cX7_init 56 = .ok (.putfield 29, 3) := by decide +kernel
theorem dX7_init_59 : decode cX7_init 59 = .ok (.aload_n 0, 1) := by decide +kernel
theorem dX7_init_60 : decode cX7_init 60 = .ok (.bipush 8, 2) := by decide +kernel
theorem dX7_init_62 : decode cX7_init 62 = .ok (.newarray .int, 2) := by decide +kernel
theorem dX7_init_64 : decode cX7_init 64 = .ok (.putfield 32, 3) := by decide +kernel
theorem dX7_init_67 : decode cX7_init 67 = .ok (.aload_n 0, 1) := by decide +kernel
theorem dX7_init_68 : decode cX7_init 68 = .ok (.sipush 330, 3) := by decide +kernel
theorem dX7_init_71 : decode cX7_init 71 = .ok (.newarray .long, 2) := by decide +kernel
theorem dX7_init_73 : decode cX7_init 73 = .ok (.putfield 35, 3) := by decide +kernel
theorem dX7_init_76 : decode cX7_init 76 = .ok (.aload_n 0, 1) := by decide +kernel
theorem dX7_init_77 : decode cX7_init 77 = .ok (.sipush 330, 3) := by decide +kernel
theorem dX7_init_80 : decode cX7_init 80 = .ok (.newarray .boolean, 2) := by decide +kernel
theorem dX7_init_82 : decode cX7_init 82 = .ok (.putfield 39, 3) := by decide +kernel
theorem dX7_init_85 : decode cX7_init 85 = .ok (.aload_n 0, 1) := by decide +kernel
theorem dX7_init_86 : decode cX7_init 86 = .ok (.iconst 1, 1) := by decide +kernel
theorem dX7_init_87 : decode cX7_init 87 = .ok (.putfield 43, 3) := by decide +kernel
theorem dX7_init_90 : decode cX7_init 90 = .ok (.aload_n 0, 1) := by decide +kernel
theorem dX7_init_91 : decode cX7_init 91 = .ok (.bipush 29, 2) := by decide +kernel
theorem dX7_init_93 : decode cX7_init 93 = .ok (.newarray .int, 2) := by decide +kernel
theorem dX7_init_95 : decode cX7_init 95 = .ok (.putfield 47, 3) := by decide +kernel
theorem dX7_init_98 : decode cX7_init 98 = .ok (.aload_n 0, 1) := by decide +kernel
theorem dX7_init_99 : decode cX7_init 99 = .ok (.bipush 6, 2) := by decide +kernel
theorem dX7_init_101 : decode cX7_init 101 = .ok (.newarray .int, 2) := by decide +kernel
theorem dX7_init_103 : decode cX7_init 103 = .ok (.putfield 50, 3) := by decide +kernel
theorem dX7_init_106 : decode cX7_init 106 = .ok (.aload_n 0, 1) := by decide +kernel
theorem dX7_init_107 : decode cX7_init 107 = .ok (.bipush 6, 2) := by decide +kernel
theorem dX7_init_109 : decode cX7_init 109 = .ok (.newarray .int, 2) := by decide +kernel
theorem dX7_init_111 : decode cX7_init 111 = .ok (.putfield 53, 3) := by decide +kernel
theorem dX7_init_114 : decode cX7_init 114 = .ok (.aload_n 0, 1) := by decide +kernel
theorem dX7_init_115 : decode cX7_init 115 = .ok (.sipush 144, 3) := by decide +kernel
theorem dX7_init_118 : decode cX7_init 118 = .ok (.newarray .int, 2) := by decide +kernel
theorem dX7_init_120 : decode cX7_init 120 = .ok (.putfield 56, 3) := by decide +kernel
theorem dX7_init_123 : decode cX7_init 123 = .ok (.aload_n 0, 1) := by decide +kernel
theorem dX7_init_124 : decode cX7_init 124 = .ok (.getfield 7, 3) := by decide +kernel
theorem dX7_init_127 : decode cX7_init 127 = .ok (.bipush 7, 2) := by decide +kernel
theorem dX7_init_129 : decode cX7_init 129 = .ok (.sipush 457, 3) := by decide +kernel
theorem dX7_init_132 : decode cX7_init 132 = .ok (.iastore, 1) := by decide +kernel
theorem dX7_init_133 : decode cX7_init 133 = .ok (.aload_n 0, 1) := by decide +kernel
theorem dX7_init_134 : decode cX7_init 134 = .ok (.getfield 7, 3) := by decide +kernel
theorem dX7_init_137 : decode cX7_init 137 = .ok (.iconst 2, 1) := by decide +kernel
theorem dX7_init_138 : decode cX7_init 138 = .ok (.iconst (-1), 1) := by decide +kernel
theorem dX7_init_139 : decode cX7_init 139 = .ok (.iastore, 1) := by decide +kernel
theorem dX7_init_140 : decode cX7_init 140 = .ok (.iconst 0, 1) := by decide +kernel
theorem dX7_init_141 : decode cX7_init 141 = .ok (.istore_n 1, 1) := by decide +kernel
theorem dX7_init_142 : decode cX7_init 142 = .ok (.iload_n 1, 1) := by decide +kernel
theorem dX7_init_143 : decode cX7_init 143 = .ok (.iconst 5, 1) := by decide +kernel
theorem dX7_init_144 : decode cX7_init 144 = .ok (.if_icmp .ge 32, 3) := by decide +kernel
theorem dX7_init_147 : decode cX7_init 147 = .ok (.aload_n 0, 1) := by decide +kernel
theorem dX7_init_148 : decode cX7_init 148 = .ok (.getfield 7, 3) := by decide +kernel
theorem dX7_init_151 : decode cX7_init 151 = .ok (.bipush 29, 2) := by decide +kernel
theorem dX7_init_153 : decode cX7_init 153 = .ok (.iload_n 1, 1) := by decide +kernel
theorem dX7_init_154 : decode cX7_init 154 = .ok (.iadd, 1) := by decide +kernel
theorem dX7_init_155 : decode cX7_init 155 = .ok (.iconst 1, 1) := by decide +kernel
theorem dX7_init_156 : decode cX7_init 156 = .ok (.iastore, 1) := by decide +kernel
theorem dX7_init_157 : decode cX7_init 157 = .ok (.aload_n 0, 1) := by decide +kernel
theorem dX7_init_158 : decode cX7_init 158 = .ok (.getfield 7, 3) := by decide +kernel
theorem dX7_init_161 : decode cX7_init 161 = .ok (.bipush 34, 2) := by decide +kernel
theorem dX7_init_163 : decode cX7_init 163 = .ok (.iload_n 1, 1) := by decide +kernel
theorem dX7_init_164 : decode cX7_init 164 = .ok (.iadd, 1) := by decide +kernel
theorem dX7_init_165 : decode cX7_init 165 = .ok (.bipush 10, 2) := by decide +kernel
theorem dX7_init_167 : decode cX7_init 167 = .ok (.iload_n 1, 1) := by decide +kernel
theorem dX7_init_168 : decode cX7_init 168 = .ok (.imul, 1) := by decide +kernel
theorem dX7_init_169 : decode cX7_init 169 = .ok (.iastore, 1) := by decide +kernel
theorem dX7_init_170 : decode cX7_init 170 = .ok (.iinc 1 1, 3) := by decide +kernel
theorem dX7_init_173 : decode cX7_init 173 = .ok (.goto (-31), 3) := by decide +kernel
theorem dX7_init_176 : decode cX7_init 176 = .ok (.iconst 0, 1) := by decide +kernel
theorem dX7_init_177 : decode cX7_init 177 = .ok (.istore_n 1, 1) := by decide +kernel
theorem dX7_init_178 : decode cX7_init 178 = .ok (.iload_n 1, 1) := by decide +kernel
theorem dX7_init_179 : decode cX7_init 179 = .ok (.bipush 12, 2) := by decide +kernel
theorem dX7_init_181 : decode cX7_init 181 = .ok (.if_icmp .ge 19, 3) := by decide +kernel
theorem dX7_init_184 : decode cX7_init 184 = .ok (.aload_n 0, 1) := by decide +kernel
theorem dX7_init_185 : decode cX7_init 185 = .ok (.getfield 7, 3) := by decide +kernel
theorem dX7_init_188 : decode cX7_init 188 = .ok (.bipush 11, 2) := by decide +kernel
theorem dX7_init_190 : decode cX7_init 190 = .ok (.iload_n 1, 1) := by decide +kernel
theorem dX7_init_191 : decode cX7_init 191 = .ok (.iadd, 1) := by decide +kernel
theorem dX7_init_192 : decode cX7_init 192 = .ok (.iconst (-1), 1) := by decide +kernel
theorem dX7_init_193 : decode cX7_init 193 = .ok (.iastore, 1) := by decide +kernel
theorem dX7_init_194 : decode cX7_init 194 = .ok (.iinc 1 1, 3) := by decide +kernel
theorem dX7_init_197 : decode cX7_init 197 = .ok (.goto (-19), 3) := by decide +kernel
theorem dX7_init_200 : decode cX7_init 200 = .ok (.aload_n 0, 1) := by decide +kernel
theorem dX7_init_201 : decode cX7_init 201 = .ok (.getfield 7, 3) := by decide +kernel
theorem dX7_init_204 : decode cX7_init 204 = .ok (.aload_n 0, 1) := by decide +kernel
theorem dX7_init_205 : decode cX7_init 205 = .ok (.getfield 13, 3) := by decide +kernel
theorem dX7_init_208 : decode cX7_init 208 = .ok (.invokestatic 59, 3) := by decide +kernel
theorem dX7_init_211 : decode cX7_init 211 = .ok (.return_, 1) := by decide +kernel
theorem dX7_copy_0 : decode cX7_copy 0 = .ok (.iconst 0, 1) := by decide +kernel
theorem dX7_copy_1 : decode cX7_copy 1 = .ok (.istore_n 2, 1) := by decide +kernel
theorem dX7_copy_2 : decode cX7_copy 2 = .ok (.iload_n 2, 1) := by decide +kernel
theorem dX7_copy_3 : decode cX7_copy 3 = .ok (.sipush 1592, 3) := by decide +kernel
theorem dX7_copy_6 : decode cX7_copy 6 = .ok (.if_icmp .ge 15, 3) := by decide +kernel
theorem dX7_copy_9 : decode cX7_copy 9 = .ok (.aload_n 1, 1) := by decide +kernel
theorem dX7_copy_10 : decode cX7_copy 10 = .ok (.iload_n 2, 1) := by decide +kernel
theorem dX7_copy_11 : decode cX7_copy 11 = .ok (.aload_n 0, 1) := by decide +kernel
theorem dX7_copy_12 : decode cX7_copy 12 = .ok (.iload_n 2, 1) := by decide +kernel
theorem dX7_copy_13 : decode cX7_copy 13 = .ok (.iaload, 1) := by decide +kernel
theorem dX7_copy_14 : decode cX7_copy 14 = .ok (.iastore, 1) := by decide +kernel
theorem dX7_copy_15 : decode cX7_copy 15 = .ok (.iinc 2 1, 3) := by decide +kernel
theorem dX7_copy_18 : decode cX7_copy 18 = .ok (.goto (-16), 3) := by decide +kernel
theorem dX7_copy_21 : decode cX7_copy 21 = .ok (.return_, 1) := by decide +kernel
theorem dX7_isIn_0 : decode cX7_isIn 0 = .ok (.iload_n 0, 1) := by decide +kernel
theorem dX7_isIn_1 : decode cX7_isIn 1 = .ok (.iload_n 1, 1) := by decide +kernel
theorem dX7_isIn_2 : decode cX7_isIn 2 = .ok (.if_icmp .lt 12, 3) := by decide +kernel
theorem dX7_isIn_5 : decode cX7_isIn 5 = .ok (.iload_n 0, 1) := by decide +kernel
theorem dX7_isIn_6 : decode cX7_isIn 6 = .ok (.iload_n 2, 1) := by decide +kernel
theorem dX7_isIn_7 : decode cX7_isIn 7 = .ok (.if_icmp .gt 7, 3) := by decide +kernel
theorem dX7_isIn_10 : decode cX7_isIn 10 = .ok (.iconst 1, 1) := by decide +kernel
theorem dX7_isIn_11 : decode cX7_isIn 11 = .ok (.goto 4, 3) := by decide +kernel
theorem dX7_isIn_14 : decode cX7_isIn 14 = .ok (.iconst 0, 1) := by decide +kernel
theorem dX7_isIn_15 : decode cX7_isIn 15 = .ok (.ireturn, 1) := by decide +kernel
theorem dX7_held_0 : decode cX7_held 0 = .ok (.lload_n 0, 1) := by decide +kernel
theorem dX7_held_1 : decode cX7_held 1 = .ok (.iload_n 2, 1) := by decide +kernel
theorem dX7_held_2 : decode cX7_held 2 = .ok (.i2l, 1) := by decide +kernel
theorem dX7_held_3 : decode cX7_held 3 = .ok (.lcmp, 1) := by decide +kernel
theorem dX7_held_4 : decode cX7_held 4 = .ok (.ifCond .ge 7, 3) := by decide +kernel
theorem dX7_held_7 : decode cX7_held 7 = .ok (.iload_n 2, 1) := by decide +kernel
theorem dX7_held_8 : decode cX7_held 8 = .ok (.goto 16, 3) := by decide +kernel
theorem dX7_held_11 : decode cX7_held 11 = .ok (.lload_n 0, 1) := by decide +kernel
theorem dX7_held_12 : decode cX7_held 12 = .ok (.iload_n 3, 1) := by decide +kernel
theorem dX7_held_13 : decode cX7_held 13 = .ok (.i2l, 1) := by decide +kernel
theorem dX7_held_14 : decode cX7_held 14 = .ok (.lcmp, 1) := by decide +kernel
theorem dX7_held_15 : decode cX7_held 15 = .ok (.ifCond .le 7, 3) := by decide +kernel
theorem dX7_held_18 : decode cX7_held 18 = .ok (.iload_n 3, 1) := by decide +kernel
theorem dX7_held_19 : decode cX7_held 19 = .ok (.goto 5, 3) := by decide +kernel
theorem dX7_held_22 : decode cX7_held 22 = .ok (.lload_n 0, 1) := by decide +kernel
theorem dX7_held_23 : decode cX7_held 23 = .ok (.l2i, 1) := by decide +kernel
theorem dX7_held_24 : decode cX7_held 24 = .ok (.ireturn, 1) := by decide +kernel
theorem dX7_has_0 : decode cX7_has 0 = .ok (.iload_n 0, 1) := by decide +kernel
theorem dX7_has_1 : decode cX7_has 1 = .ok (.iload_n 1, 1) := by decide +kernel
theorem dX7_has_2 : decode cX7_has 2 = .ok (.ishr, 1) := by decide +kernel
theorem dX7_has_3 : decode cX7_has 3 = .ok (.iconst 1, 1) := by decide +kernel
theorem dX7_has_4 : decode cX7_has 4 = .ok (.iand, 1) := by decide +kernel
theorem dX7_has_5 : decode cX7_has 5 = .ok (.iconst 1, 1) := by decide +kernel
theorem dX7_has_6 : decode cX7_has 6 = .ok (.if_icmp .ne 7, 3) := by decide +kernel
theorem dX7_has_9 : decode cX7_has 9 = .ok (.iconst 1, 1) := by decide +kernel
theorem dX7_has_10 : decode cX7_has 10 = .ok (.goto 4, 3) := by decide +kernel
theorem dX7_has_13 : decode cX7_has 13 = .ok (.iconst 0, 1) := by decide +kernel
theorem dX7_has_14 : decode cX7_has 14 = .ok (.ireturn, 1) := by decide +kernel
theorem dX7_bits_0 : decode cX7_bits 0 = .ok (.iconst 0, 1) := by decide +kernel
theorem dX7_bits_1 : decode cX7_bits 1 = .ok (.istore_n 1, 1) := by decide +kernel
theorem dX7_bits_2 : decode cX7_bits 2 = .ok (.iload_n 0, 1) := by decide +kernel
theorem dX7_bits_3 : decode cX7_bits 3 = .ok (.istore_n 2, 1) := by decide +kernel
theorem dX7_bits_4 : decode cX7_bits 4 = .ok (.iload_n 2, 1) := by decide +kernel
theorem dX7_bits_5 : decode cX7_bits 5 = .ok (.ifCond .eq 15, 3) := by decide +kernel
theorem dX7_bits_8 : decode cX7_bits 8 = .ok (.iinc 1 1, 3) := by decide +kernel
theorem dX7_bits_11 : decode cX7_bits 11 = .ok (.iload_n 2, 1) := by decide +kernel
theorem dX7_bits_12 : decode cX7_bits 12 = .ok (.iload_n 2, 1) := by decide +kernel
theorem dX7_bits_13 : decode cX7_bits 13 = .ok (.iconst 1, 1) := by decide +kernel
theorem dX7_bits_14 : decode cX7_bits 14 = .ok (.isub, 1) := by decide +kernel
theorem dX7_bits_15 : decode cX7_bits 15 = .ok (.iand, 1) := by decide +kernel
theorem dX7_bits_16 : decode cX7_bits 16 = .ok (.istore_n 2, 1) := by decide +kernel
theorem dX7_bits_17 : decode cX7_bits 17 = .ok (.goto (-13), 3) := by decide +kernel
theorem dX7_bits_20 : decode cX7_bits 20 = .ok (.iload_n 1, 1) := by decide +kernel
theorem dX7_bits_21 : decode cX7_bits 21 = .ok (.ireturn, 1) := by decide +kernel
theorem dX7_isBuyer_0 : decode cX7_isBuyer 0 = .ok (.iload_n 1, 1) := by decide +kernel
theorem dX7_isBuyer_1 : decode cX7_isBuyer 1 = .ok (.iconst 0, 1) := by decide +kernel
theorem dX7_isBuyer_2 : decode cX7_isBuyer 2 = .ok (.aload_n 0, 1) := by decide +kernel
theorem dX7_isBuyer_3 : decode cX7_isBuyer 3 = .ok (.getfield 7, 3) := by decide +kernel
theorem dX7_isBuyer_6 : decode cX7_isBuyer 6 = .ok (.iconst 0, 1) := by decide +kernel
theorem dX7_isBuyer_7 : decode cX7_isBuyer 7 = .ok (.iaload, 1) := by decide +kernel
theorem dX7_isBuyer_8 : decode cX7_isBuyer 8 = .ok (.iconst 1, 1) := by decide +kernel
theorem dX7_isBuyer_9 : decode cX7_isBuyer 9 = .ok (.isub, 1) := by decide +kernel
theorem dX7_isBuyer_10 : decode cX7_isBuyer 10 = .ok (.invokestatic 63, 3) := by decide +kernel
theorem dX7_isBuyer_13 : decode cX7_isBuyer 13 = .ok (.ireturn, 1) := by decide +kernel
theorem dX7_isSort_0 : decode cX7_isSort 0 = .ok (.iload_n 0, 1) := by decide +kernel
theorem dX7_isSort_1 : decode cX7_isSort 1 = .ok (.iconst 0, 1) := by decide +kernel
theorem dX7_isSort_2 : decode cX7_isSort 2 = .ok (.iconst 4, 1) := by decide +kernel
theorem dX7_isSort_3 : decode cX7_isSort 3 = .ok (.invokestatic 63, 3) := by decide +kernel
theorem dX7_isSort_6 : decode cX7_isSort 6 = .ok (.ireturn, 1) := by decide +kernel
theorem dX7_isSlice_0 : decode cX7_isSlice 0 = .ok (.iload_n 0, 1) := by decide +kernel
theorem dX7_isSlice_1 : decode cX7_isSlice 1 = .ok (.iconst 0, 1) := by decide +kernel
theorem dX7_isSlice_2 : decode cX7_isSlice 2 = .ok (.bipush 11, 2) := by decide +kernel
theorem dX7_isSlice_4 : decode cX7_isSlice 4 = .ok (.invokestatic 63, 3) := by decide +kernel
theorem dX7_isSlice_7 : decode cX7_isSlice 7 = .ok (.ireturn, 1) := by decide +kernel
theorem dX7_areSlices_0 : decode cX7_areSlices 0 = .ok (.iload_n 1, 1) := by decide +kernel
theorem dX7_areSlices_1 : decode cX7_areSlices 1 = .ok (.iconst 0, 1) := by decide +kernel
theorem dX7_areSlices_2 : decode cX7_areSlices 2 = .ok (.bipush 11, 2) := by decide +kernel
theorem dX7_areSlices_4 : decode cX7_areSlices 4 = .ok (.invokestatic 63, 3) := by decide +kernel
theorem dX7_areSlices_7 : decode cX7_areSlices 7 = .ok (.ifCond .eq 16, 3) := by decide +kernel
theorem dX7_areSlices_10 : decode cX7_areSlices 10 = .ok (.iload_n 0, 1) := by decide +kernel
theorem dX7_areSlices_11 : decode cX7_areSlices 11 = .ok (.iconst 0, 1) := by decide +kernel
theorem dX7_areSlices_12 : decode cX7_areSlices 12 = .ok (.iload_n 1, 1) := by decide +kernel
theorem dX7_areSlices_13 : decode cX7_areSlices 13 = .ok (.invokestatic 63, 3) := by decide +kernel
theorem dX7_areSlices_16 : decode cX7_areSlices 16 = .ok (.ifCond .eq 7, 3) := by decide +kernel
theorem dX7_areSlices_19 : decode cX7_areSlices 19 = .ok (.iconst 1, 1) := by decide +kernel
theorem dX7_areSlices_20 : decode cX7_areSlices 20 = .ok (.goto 4, 3) := by decide +kernel
theorem dX7_areSlices_23 : decode cX7_areSlices 23 = .ok (.iconst 0, 1) := by decide +kernel
theorem dX7_areSlices_24 : decode cX7_areSlices 24 = .ok (.ireturn, 1) := by decide +kernel
theorem dX7_doesWant_0 : decode cX7_doesWant 0 = .ok (.aload_n 0, 1) := by decide +kernel
theorem dX7_doesWant_1 : decode cX7_doesWant 1 = .ok (.getfield 7, 3) := by decide +kernel
theorem dX7_doesWant_4 : decode cX7_doesWant 4 = .ok (.bipush 39, 2) := by decide +kernel
theorem dX7_doesWant_6 : decode cX7_doesWant 6 = .ok (.iload_n 1, 1) := by decide +kernel
theorem dX7_doesWant_7 : decode cX7_doesWant 7 = .ok (.iadd, 1) := by decide +kernel
theorem dX7_doesWant_8 : decode cX7_doesWant 8 = .ok (.iaload, 1) := by decide +kernel
theorem dX7_doesWant_9 : decode cX7_doesWant 9 = .ok (.iload_n 2, 1) := by decide +kernel
theorem dX7_doesWant_10 : decode cX7_doesWant 10 = .ok (.invokestatic 67, 3) := by decide +kernel
theorem dX7_doesWant_13 : decode cX7_doesWant 13 = .ok (.ireturn, 1) := by decide +kernel
theorem dX7_longOf_0 : decode cX7_longOf 0 = .ok (.aload_n 0, 1) := by decide +kernel
theorem dX7_longOf_1 : decode cX7_longOf 1 = .ok (.getfield 7, 3) := by decide +kernel
theorem dX7_longOf_4 : decode cX7_longOf 4 = .ok (.bipush 51, 2) := by decide +kernel
theorem dX7_longOf_6 : decode cX7_longOf 6 = .ok (.iload_n 1, 1) := by decide +kernel
theorem dX7_longOf_7 : decode cX7_longOf 7 = .ok (.iadd, 1) := by decide +kernel
theorem dX7_longOf_8 : decode cX7_longOf 8 = .ok (.iaload, 1) := by decide +kernel
theorem dX7_longOf_9 : decode cX7_longOf 9 = .ok (.aload_n 0, 1) := by decide +kernel
theorem dX7_longOf_10 : decode cX7_longOf 10 = .ok (.getfield 7, 3) := by decide +kernel
theorem dX7_longOf_13 : decode cX7_longOf 13 = .ok (.bipush 45, 2) := by decide +kernel
theorem dX7_longOf_15 : decode cX7_longOf 15 = .ok (.iload_n 1, 1) := by decide +kernel
theorem dX7_longOf_16 : decode cX7_longOf 16 = .ok (.iadd, 1) := by decide +kernel
theorem dX7_longOf_17 : decode cX7_longOf 17 = .ok (.iaload, 1) := by decide +kernel
theorem dX7_longOf_18 : decode cX7_longOf 18 = .ok (.isub, 1) := by decide +kernel
theorem dX7_longOf_19 : decode cX7_longOf 19 = .ok (.iconst 1, 1) := by decide +kernel
theorem dX7_longOf_20 : decode cX7_longOf 20 = .ok (.iadd, 1) := by decide +kernel
theorem dX7_longOf_21 : decode cX7_longOf 21 = .ok (.ireturn, 1) := by decide +kernel
theorem dX7_slicesOf_0 : decode cX7_slicesOf 0 = .ok (.iconst 1, 1) := by decide +kernel
theorem dX7_slicesOf_1 : decode cX7_slicesOf 1 = .ok (.aload_n 0, 1) := by decide +kernel
theorem dX7_slicesOf_2 : decode cX7_slicesOf 2 = .ok (.iload_n 1, 1) := by decide +kernel
theorem dX7_slicesOf_3 : decode cX7_slicesOf 3 = .ok (.invokevirtual 71, 3) := by decide +kernel
theorem dX7_slicesOf_6 : decode cX7_slicesOf 6 = .ok (.ishl, 1) := by decide +kernel
theorem dX7_slicesOf_7 : decode cX7_slicesOf 7 = .ok (.iconst 1, 1) := by decide +kernel
theorem dX7_slicesOf_8 : decode cX7_slicesOf 8 = .ok (.isub, 1) := by decide +kernel
theorem dX7_slicesOf_9 : decode cX7_slicesOf 9 = .ok (.aload_n 0, 1) := by decide +kernel
theorem dX7_slicesOf_10 : decode cX7_slicesOf 10 = .ok (.getfield 7, 3) := by decide +kernel
theorem dX7_slicesOf_13 : decode cX7_slicesOf 13 = .ok (.bipush 45, 2) := by decide +kernel
theorem dX7_slicesOf_15 : decode cX7_slicesOf 15 = .ok (.iload_n 1, 1) := by decide +kernel
theorem dX7_slicesOf_16 : decode cX7_slicesOf 16 = .ok (.iadd, 1) := by decide +kernel
theorem dX7_slicesOf_17 : decode cX7_slicesOf 17 = .ok (.iaload, 1) := by decide +kernel
theorem dX7_slicesOf_18 : decode cX7_slicesOf 18 = .ok (.ishl, 1) := by decide +kernel
theorem dX7_slicesOf_19 : decode cX7_slicesOf 19 = .ok (.ireturn, 1) := by decide +kernel
theorem dX7_freeNow_0 : decode cX7_freeNow 0 = .ok (.iconst 0, 1) := by decide +kernel
theorem dX7_freeNow_1 : decode cX7_freeNow 1 = .ok (.istore_n 1, 1) := by decide +kernel
theorem dX7_freeNow_2 : decode cX7_freeNow 2 = .ok (.iconst 0, 1) := by decide +kernel
theorem dX7_freeNow_3 : decode cX7_freeNow 3 = .ok (.istore_n 2, 1) := by decide +kernel
theorem dX7_freeNow_4 : decode cX7_freeNow 4 = .ok (.iload_n 2, 1) := by decide +kernel
theorem dX7_freeNow_5 : decode cX7_freeNow 5 = .ok (.bipush 12, 2) := by decide +kernel
theorem dX7_freeNow_7 : decode cX7_freeNow 7 = .ok (.if_icmp .ge 32, 3) := by decide +kernel
theorem dX7_freeNow_10 : decode cX7_freeNow 10 = .ok (.iload_n 1, 1) := by decide +kernel
theorem dX7_freeNow_11 : decode cX7_freeNow 11 = .ok (.aload_n 0, 1) := by decide +kernel
theorem dX7_freeNow_12 : decode cX7_freeNow 12 = .ok (.getfield 7, 3) := by decide +kernel
theorem dX7_freeNow_15 : decode cX7_freeNow 15 = .ok (.bipush 11, 2) := by decide +kernel
theorem dX7_freeNow_17 : decode cX7_freeNow 17 = .ok (.iload_n 2, 1) := by decide +kernel
theorem dX7_freeNow_18 : decode cX7_freeNow 18 = .ok (.iadd, 1) := by decide +kernel
theorem dX7_freeNow_19 : decode cX7_freeNow 19 = .ok (.iaload, 1) := by decide +kernel
theorem dX7_freeNow_20 : decode cX7_freeNow 20 = .ok (.iconst (-1), 1) := by decide +kernel
theorem dX7_freeNow_21 : decode cX7_freeNow 21 = .ok (.if_icmp .ne 9, 3) := by decide +kernel
theorem dX7_freeNow_24 : decode cX7_freeNow 24 = .ok (.iconst 1, 1) := by decide +kernel
theorem dX7_freeNow_25 : decode cX7_freeNow 25 = .ok (.iload_n 2, 1) := by decide +kernel
theorem dX7_freeNow_26 : decode cX7_freeNow 26 = .ok (.ishl, 1) := by decide +kernel
theorem dX7_freeNow_27 : decode cX7_freeNow 27 = .ok (.goto 4, 3) := by decide +kernel
theorem dX7_freeNow_30 : decode cX7_freeNow 30 = .ok (.iconst 0, 1) := by decide +kernel
theorem dX7_freeNow_31 : decode cX7_freeNow 31 = .ok (.ior, 1) := by decide +kernel
theorem dX7_freeNow_32 : decode cX7_freeNow 32 = .ok (.istore_n 1, 1) := by decide +kernel
theorem dX7_freeNow_33 : decode cX7_freeNow 33 = .ok (.iinc 2 1, 3) := by decide +kernel
theorem dX7_freeNow_36 : decode cX7_freeNow 36 = .ok (.goto (-32), 3) := by decide +kernel
theorem dX7_freeNow_39 : decode cX7_freeNow 39 = .ok (.iload_n 1, 1) := by decide +kernel
theorem dX7_freeNow_40 : decode cX7_freeNow 40 = .ok (.ireturn, 1) := by decide +kernel
theorem dX7_ownNow_0 : decode cX7_ownNow 0 = .ok (.iconst 0, 1) := by decide +kernel
theorem dX7_ownNow_1 : decode cX7_ownNow 1 = .ok (.istore_n 2, 1) := by decide +kernel
theorem dX7_ownNow_2 : decode cX7_ownNow 2 = .ok (.iconst 0, 1) := by decide +kernel
theorem dX7_ownNow_3 : decode cX7_ownNow 3 = .ok (.istore_n 3, 1) := by decide +kernel
theorem dX7_ownNow_4 : decode cX7_ownNow 4 = .ok (.iload_n 3, 1) := by decide +kernel
theorem dX7_ownNow_5 : decode cX7_ownNow 5 = .ok (.bipush 12, 2) := by decide +kernel
theorem dX7_ownNow_7 : decode cX7_ownNow 7 = .ok (.if_icmp .ge 32, 3) := by decide +kernel
theorem dX7_ownNow_10 : decode cX7_ownNow 10 = .ok (.iload_n 2, 1) := by decide +kernel
theorem dX7_ownNow_11 : decode cX7_ownNow 11 = .ok (.aload_n 0, 1) := by decide +kernel
theorem dX7_ownNow_12 : decode cX7_ownNow 12 = .ok (.getfield 7, 3) := by decide +kernel
theorem dX7_ownNow_15 : decode cX7_ownNow 15 = .ok (.bipush 11, 2) := by decide +kernel
theorem dX7_ownNow_17 : decode cX7_ownNow 17 = .ok (.iload_n 3, 1) := by decide +kernel
theorem dX7_ownNow_18 : decode cX7_ownNow 18 = .ok (.iadd, 1) := by decide +kernel
theorem dX7_ownNow_19 : decode cX7_ownNow 19 = .ok (.iaload, 1) := by decide +kernel
theorem dX7_ownNow_20 : decode cX7_ownNow 20 = .ok (.iload_n 1, 1) := by decide +kernel
theorem dX7_ownNow_21 : decode cX7_ownNow 21 = .ok (.if_icmp .ne 9, 3) := by decide +kernel
theorem dX7_ownNow_24 : decode cX7_ownNow 24 = .ok (.iconst 1, 1) := by decide +kernel
theorem dX7_ownNow_25 : decode cX7_ownNow 25 = .ok (.iload_n 3, 1) := by decide +kernel
theorem dX7_ownNow_26 : decode cX7_ownNow 26 = .ok (.ishl, 1) := by decide +kernel
theorem dX7_ownNow_27 : decode cX7_ownNow 27 = .ok (.goto 4, 3) := by decide +kernel
theorem dX7_ownNow_30 : decode cX7_ownNow 30 = .ok (.iconst 0, 1) := by decide +kernel
theorem dX7_ownNow_31 : decode cX7_ownNow 31 = .ok (.ior, 1) := by decide +kernel
theorem dX7_ownNow_32 : decode cX7_ownNow 32 = .ok (.istore_n 2, 1) := by decide +kernel
theorem dX7_ownNow_33 : decode cX7_ownNow 33 = .ok (.iinc 3 1, 3) := by decide +kernel
theorem dX7_ownNow_36 : decode cX7_ownNow 36 = .ok (.goto (-32), 3) := by decide +kernel
theorem dX7_ownNow_39 : decode cX7_ownNow 39 = .ok (.iload_n 2, 1) := by decide +kernel
theorem dX7_ownNow_40 : decode cX7_ownNow 40 = .ok (.ireturn, 1) := by decide +kernel
theorem dX7_hasNow_0 : decode cX7_hasNow 0 = .ok (.aload_n 0, 1) := by decide +kernel
theorem dX7_hasNow_1 : decode cX7_hasNow 1 = .ok (.iload_n 1, 1) := by decide +kernel
theorem dX7_hasNow_2 : decode cX7_hasNow 2 = .ok (.invokevirtual 75, 3) := by decide +kernel
theorem dX7_hasNow_5 : decode cX7_hasNow 5 = .ok (.invokestatic 78, 3) := by decide +kernel
theorem dX7_hasNow_8 : decode cX7_hasNow 8 = .ok (.ireturn, 1) := by decide +kernel
theorem dX7_allOdds_0 : decode cX7_allOdds 0 = .ok (.iconst 0, 1) := by decide +kernel
theorem dX7_allOdds_1 : decode cX7_allOdds 1 = .ok (.istore_n 1, 1) := by decide +kernel
theorem dX7_allOdds_2 : decode cX7_allOdds 2 = .ok (.iconst 0, 1) := by decide +kernel
theorem dX7_allOdds_3 : decode cX7_allOdds 3 = .ok (.istore_n 2, 1) := by decide +kernel
theorem dX7_allOdds_4 : decode cX7_allOdds 4 = .ok (.iload_n 2, 1) := by decide +kernel
theorem dX7_allOdds_5 : decode cX7_allOdds 5 = .ok (.iconst 5, 1) := by decide +kernel
theorem dX7_allOdds_6 : decode cX7_allOdds 6 = .ok (.if_icmp .ge 21, 3) := by decide +kernel
theorem dX7_allOdds_9 : decode cX7_allOdds 9 = .ok (.iload_n 1, 1) := by decide +kernel
theorem dX7_allOdds_10 : decode cX7_allOdds 10 = .ok (.aload_n 0, 1) := by decide +kernel
theorem dX7_allOdds_11 : decode cX7_allOdds 11 = .ok (.getfield 7, 3) := by decide +kernel
theorem dX7_allOdds_14 : decode cX7_allOdds 14 = .ok (.bipush 29, 2) := by decide +kernel
theorem dX7_allOdds_16 : decode cX7_allOdds 16 = .ok (.iload_n 2, 1) := by decide +kernel
theorem dX7_allOdds_17 : decode cX7_allOdds 17 = .ok (.iadd, 1) := by decide +kernel
theorem dX7_allOdds_18 : decode cX7_allOdds 18 = .ok (.iaload, 1) := by decide +kernel
theorem dX7_allOdds_19 : decode cX7_allOdds 19 = .ok (.iadd, 1) := by decide +kernel
theorem dX7_allOdds_20 : decode cX7_allOdds 20 = .ok (.istore_n 1, 1) := by decide +kernel
theorem dX7_allOdds_21 : decode cX7_allOdds 21 = .ok (.iinc 2 1, 3) := by decide +kernel
theorem dX7_allOdds_24 : decode cX7_allOdds 24 = .ok (.goto (-20), 3) := by decide +kernel
theorem dX7_allOdds_27 : decode cX7_allOdds 27 = .ok (.iload_n 1, 1) := by decide +kernel
theorem dX7_allOdds_28 : decode cX7_allOdds 28 = .ok (.ireturn, 1) := by decide +kernel
theorem dX7_sort_0 : decode cX7_sort 0 = .ok (.iload_n 1, 1) := by decide +kernel
theorem dX7_sort_1 : decode cX7_sort 1 = .ok (.invokestatic 81, 3) := by decide +kernel
theorem dX7_sort_4 : decode cX7_sort 4 = .ok (.ifCond .eq 23, 3) := by decide +kernel
theorem dX7_sort_7 : decode cX7_sort 7 = .ok (.iload_n 2, 1) := by decide +kernel
theorem dX7_sort_8 : decode cX7_sort 8 = .ok (.iconst 0, 1) := by decide +kernel
theorem dX7_sort_9 : decode cX7_sort 9 = .ok (.bipush 9, 2) := by decide +kernel
theorem dX7_sort_11 : decode cX7_sort 11 = .ok (.invokestatic 63, 3) := by decide +kernel
theorem dX7_sort_14 : decode cX7_sort 14 = .ok (.ifCond .eq 13, 3) := by decide +kernel
theorem dX7_sort_17 : decode cX7_sort 17 = .ok (.iload_n 3, 1) := by decide +kernel
theorem dX7_sort_18 : decode cX7_sort 18 = .ok (.iconst 0, 1) := by decide +kernel
theorem dX7_sort_19 : decode cX7_sort 19 = .ok (.bipush 99, 2) := by decide +kernel
theorem dX7_sort_21 : decode cX7_sort 21 = .ok (.invokestatic 63, 3) := by decide +kernel
theorem dX7_sort_24 : decode cX7_sort 24 = .ok (.ifCond .ne 5, 3) := by decide +kernel
theorem dX7_sort_27 : decode cX7_sort 27 = .ok (.iconst 0, 1) := by decide +kernel
theorem dX7_sort_28 : decode cX7_sort 28 = .ok (.ireturn, 1) := by decide +kernel
theorem dX7_sort_29 : decode cX7_sort 29 = .ok (.aload_n 0, 1) := by decide +kernel
theorem dX7_sort_30 : decode cX7_sort 30 = .ok (.getfield 7, 3) := by decide +kernel
theorem dX7_sort_33 : decode cX7_sort 33 = .ok (.bipush 29, 2) := by decide +kernel
theorem dX7_sort_35 : decode cX7_sort 35 = .ok (.iload_n 1, 1) := by decide +kernel
theorem dX7_sort_36 : decode cX7_sort 36 = .ok (.iadd, 1) := by decide +kernel
theorem dX7_sort_37 : decode cX7_sort 37 = .ok (.iload_n 2, 1) := by decide +kernel
theorem dX7_sort_38 : decode cX7_sort 38 = .ok (.iastore, 1) := by decide +kernel
theorem dX7_sort_39 : decode cX7_sort 39 = .ok (.aload_n 0, 1) := by decide +kernel
theorem dX7_sort_40 : decode cX7_sort 40 = .ok (.getfield 7, 3) := by decide +kernel
theorem dX7_sort_43 : decode cX7_sort 43 = .ok (.bipush 34, 2) := by decide +kernel
theorem dX7_sort_45 : decode cX7_sort 45 = .ok (.iload_n 1, 1) := by decide +kernel
theorem dX7_sort_46 : decode cX7_sort 46 = .ok (.iadd, 1) := by decide +kernel
theorem dX7_sort_47 : decode cX7_sort 47 = .ok (.iload_n 3, 1) := by decide +kernel
theorem dX7_sort_48 : decode cX7_sort 48 = .ok (.iastore, 1) := by decide +kernel
theorem dX7_sort_49 : decode cX7_sort 49 = .ok (.iconst 1, 1) := by decide +kernel
theorem dX7_sort_50 : decode cX7_sort 50 = .ok (.ireturn, 1) := by decide +kernel
theorem dX7_buyer_0 : decode cX7_buyer 0 = .ok (.iload_n 1, 1) := by decide +kernel
theorem dX7_buyer_1 : decode cX7_buyer 1 = .ok (.iconst 0, 1) := by decide +kernel
theorem dX7_buyer_2 : decode cX7_buyer 2 = .ok (.bipush 31, 2) := by decide +kernel
theorem dX7_buyer_4 : decode cX7_buyer 4 = .ok (.invokestatic 63, 3) := by decide +kernel
theorem dX7_buyer_7 : decode cX7_buyer 7 = .ok (.ifCond .eq 34, 3) := by decide +kernel
theorem dX7_buyer_10 : decode cX7_buyer 10 = .ok (.iload_n 2, 1) := by decide +kernel
theorem dX7_buyer_11 : decode cX7_buyer 11 = .ok (.iload_n 3, 1) := by decide +kernel
theorem dX7_buyer_12 : decode cX7_buyer 12 = .ok (.invokestatic 85, 3) := by decide +kernel
theorem dX7_buyer_15 : decode cX7_buyer 15 = .ok (.ifCond .eq 26, 3) := by decide +kernel
theorem dX7_buyer_18 : decode cX7_buyer 18 = .ok (.iload 4, 2) := by decide +kernel
theorem dX7_buyer_20 : decode cX7_buyer 20 = .ok (.iconst 0, 1) := by decide +kernel
theorem dX7_buyer_21 : decode cX7_buyer 21 = .ok (.sipush 999, 3) := by decide +kernel
theorem dX7_buyer_24 : decode cX7_buyer 24 = .ok (.invokestatic 63, 3) := by decide +kernel
theorem dX7_buyer_27 : decode cX7_buyer 27 = .ok (.ifCond .eq 14, 3) := by decide +kernel
theorem dX7_buyer_30 : decode cX7_buyer 30 = .ok (.aload_n 0, 1) := by decide +kernel
theorem dX7_buyer_31 : decode cX7_buyer 31 = .ok (.getfield 7, 3) := by decide +kernel
theorem dX7_buyer_34 : decode cX7_buyer 34 = .ok (.iconst 0, 1) := by decide +kernel
theorem dX7_buyer_35 : decode cX7_buyer 35 = .ok (.iaload, 1) := by decide +kernel
theorem dX7_buyer_36 : decode cX7_buyer 36 = .ok (.bipush 6, 2) := by decide +kernel
theorem dX7_buyer_38 : decode cX7_buyer 38 = .ok (.if_icmp .ne 5, 3) := by decide +kernel
theorem dX7_buyer_41 : decode cX7_buyer 41 = .ok (.iconst (-1), 1) := by decide +kernel
theorem dX7_buyer_42 : decode cX7_buyer 42 = .ok (.ireturn, 1) := by decide +kernel
theorem dX7_buyer_43 : decode cX7_buyer 43 = .ok (.aload_n 0, 1) := by decide +kernel
theorem dX7_buyer_44 : decode cX7_buyer 44 = .ok (.getfield 7, 3) := by decide +kernel
theorem dX7_buyer_47 : decode cX7_buyer 47 = .ok (.iconst 0, 1) := by decide +kernel
theorem dX7_buyer_48 : decode cX7_buyer 48 = .ok (.iaload, 1) := by decide +kernel
theorem dX7_buyer_49 : decode cX7_buyer 49 = .ok (.istore 5, 2) := by decide +kernel
theorem dX7_buyer_51 : decode cX7_buyer 51 = .ok (.aload_n 0, 1) := by decide +kernel
theorem dX7_buyer_52 : decode cX7_buyer 52 = .ok (.getfield 7, 3) := by decide +kernel
theorem dX7_buyer_55 : decode cX7_buyer 55 = .ok (.bipush 39, 2) := by decide +kernel
theorem dX7_buyer_57 : decode cX7_buyer 57 = .ok (.iload 5, 2) := by decide +kernel
theorem dX7_buyer_59 : decode cX7_buyer 59 = .ok (.iadd, 1) := by decide +kernel
theorem dX7_buyer_60 : decode cX7_buyer 60 = .ok (.iload_n 1, 1) := by decide +kernel
theorem dX7_buyer_61 : decode cX7_buyer 61 = .ok (.iastore, 1) := by decide +kernel
theorem dX7_buyer_62 : decode cX7_buyer 62 = .ok (.aload_n 0, 1) := by decide +kernel
theorem dX7_buyer_63 : decode cX7_buyer 63 = .ok (.getfield 7, 3) := by decide +kernel
theorem dX7_buyer_66 : decode cX7_buyer 66 = .ok (.bipush 45, 2) := by decide +kernel
theorem dX7_buyer_68 : decode cX7_buyer 68 = .ok (.iload 5, 2) := by decide +kernel
theorem dX7_buyer_70 : decode cX7_buyer 70 = .ok (.iadd, 1) := by decide +kernel
theorem dX7_buyer_71 : decode cX7_buyer 71 = .ok (.iload_n 2, 1) := by decide +kernel
theorem dX7_buyer_72 : decode cX7_buyer 72 = .ok (.iastore, 1) := by decide +kernel
theorem dX7_buyer_73 : decode cX7_buyer 73 = .ok (.aload_n 0, 1) := by decide +kernel
theorem dX7_buyer_74 : decode cX7_buyer 74 = .ok (.getfield 7, 3) := by decide +kernel
theorem dX7_buyer_77 : decode cX7_buyer 77 = .ok (.bipush 51, 2) := by decide +kernel
theorem dX7_buyer_79 : decode cX7_buyer 79 = .ok (.iload 5, 2) := by decide +kernel
theorem dX7_buyer_81 : decode cX7_buyer 81 = .ok (.iadd, 1) := by decide +kernel
theorem dX7_buyer_82 : decode cX7_buyer 82 = .ok (.iload_n 3, 1) := by decide +kernel
theorem dX7_buyer_83 : decode cX7_buyer 83 = .ok (.iastore, 1) := by decide +kernel
theorem dX7_buyer_84 : decode cX7_buyer 84 = .ok (.aload_n 0, 1) := by decide +kernel
theorem dX7_buyer_85 : decode cX7_buyer 85 = .ok (.getfield 7, 3) := by decide +kernel
theorem dX7_buyer_88 : decode cX7_buyer 88 = .ok (.bipush 57, 2) := by decide +kernel
theorem dX7_buyer_90 : decode cX7_buyer 90 = .ok (.iload 5, 2) := by decide +kernel
theorem dX7_buyer_92 : decode cX7_buyer 92 = .ok (.iadd, 1) := by decide +kernel
theorem dX7_buyer_93 : decode cX7_buyer 93 = .ok (.iload 4, 2) := by decide +kernel
theorem dX7_buyer_95 : decode cX7_buyer 95 = .ok (.iastore, 1) := by decide +kernel
theorem dX7_buyer_96 : decode cX7_buyer 96 = .ok (.aload_n 0, 1) := by decide +kernel
theorem dX7_buyer_97 : decode cX7_buyer 97 = .ok (.getfield 7, 3) := by decide +kernel
theorem dX7_buyer_100 : decode cX7_buyer 100 = .ok (.bipush 23, 2) := by decide +kernel
theorem dX7_buyer_102 : decode cX7_buyer 102 = .ok (.iload 5, 2) := by decide +kernel
theorem dX7_buyer_104 : decode cX7_buyer 104 = .ok (.iadd, 1) := by decide +kernel
theorem dX7_buyer_105 : decode cX7_buyer 105 = .ok (.iload 4, 2) := by decide +kernel
theorem dX7_buyer_107 : decode cX7_buyer 107 = .ok (.iastore, 1) := by decide +kernel
theorem dX7_buyer_108 : decode cX7_buyer 108 = .ok (.aload_n 0, 1) := by decide +kernel
theorem dX7_buyer_109 : decode cX7_buyer 109 = .ok (.getfield 7, 3) := by decide +kernel
theorem dX7_buyer_112 : decode cX7_buyer 112 = .ok (.iconst 0, 1) := by decide +kernel
theorem dX7_buyer_113 : decode cX7_buyer 113 = .ok (.dup2, 1) := by decide +kernel
theorem dX7_buyer_114 : decode cX7_buyer 114 = .ok (.iaload, 1) := by decide +kernel
theorem dX7_buyer_115 : decode cX7_buyer 115 = .ok (.iconst 1, 1) := by decide +kernel
theorem dX7_buyer_116 : decode cX7_buyer 116 = .ok (.iadd, 1) := by decide +kernel
theorem dX7_buyer_117 : decode cX7_buyer 117 = .ok (.iastore, 1) := by decide +kernel
theorem dX7_buyer_118 : decode cX7_buyer 118 = .ok (.iload 5, 2) := by decide +kernel
theorem dX7_buyer_120 : decode cX7_buyer 120 = .ok (.ireturn, 1) := by decide +kernel
theorem dX7_four_0 : decode cX7_four 0 = .ok (.bipush 24, 2) := by decide +kernel
theorem dX7_four_2 : decode cX7_four 2 = .ok (.istore_n 2, 1) := by decide +kernel
theorem dX7_four_3 : decode cX7_four 3 = .ok (.iload_n 2, 1) := by decide +kernel
theorem dX7_four_4 : decode cX7_four 4 = .ok (.ifCond .lt 35, 3) := by decide +kernel
theorem dX7_four_7 : decode cX7_four 7 = .ok (.aload_n 0, 1) := by decide +kernel
theorem dX7_four_8 : decode cX7_four 8 = .ok (.getfield 19, 3) := by decide +kernel
theorem dX7_four_11 : decode cX7_four 11 = .ok (.aload_n 0, 1) := by decide +kernel
theorem dX7_four_12 : decode cX7_four 12 = .ok (.getfield 88, 3) := by decide +kernel
theorem dX7_four_15 : decode cX7_four 15 = .ok (.iload_n 1, 1) := by decide +kernel
theorem dX7_four_16 : decode cX7_four 16 = .ok (.iload_n 2, 1) := by decide +kernel
theorem dX7_four_17 : decode cX7_four 17 = .ok (.ishr, 1) := by decide +kernel
theorem dX7_four_18 : decode cX7_four 18 = .ok (.sipush 255, 3) := by decide +kernel
theorem dX7_four_21 : decode cX7_four 21 = .ok (.iand, 1) := by decide +kernel
theorem dX7_four_22 : decode cX7_four 22 = .ok (.iastore, 1) := by decide +kernel
theorem dX7_four_23 : decode cX7_four 23 = .ok (.aload_n 0, 1) := by decide +kernel
theorem dX7_four_24 : decode cX7_four 24 = .ok (.dup, 1) := by decide +kernel
theorem dX7_four_25 : decode cX7_four 25 = .ok (.getfield 88, 3) := by decide +kernel
theorem dX7_four_28 : decode cX7_four 28 = .ok (.iconst 1, 1) := by decide +kernel
theorem dX7_four_29 : decode cX7_four 29 = .ok (.iadd, 1) := by decide +kernel
theorem dX7_four_30 : decode cX7_four 30 = .ok (.putfield 88, 3) := by decide +kernel
theorem dX7_four_33 : decode cX7_four 33 = .ok (.iinc 2 (-8), 3) := by decide +kernel
theorem dX7_four_36 : decode cX7_four 36 = .ok (.goto (-33), 3) := by decide +kernel
theorem dX7_four_39 : decode cX7_four 39 = .ok (.return_, 1) := by decide +kernel
theorem dX7_feed_0 : decode cX7_feed 0 = .ok (.aload_n 0, 1) := by decide +kernel
theorem dX7_feed_1 : decode cX7_feed 1 = .ok (.getfield 88, 3) := by decide +kernel
theorem dX7_feed_4 : decode cX7_feed 4 = .ok (.bipush 20, 2) := by decide +kernel
theorem dX7_feed_6 : decode cX7_feed 6 = .ok (.iadd, 1) := by decide +kernel
theorem dX7_feed_7 : decode cX7_feed 7 = .ok (.sipush 300, 3) := by decide +kernel
theorem dX7_feed_10 : decode cX7_feed 10 = .ok (.if_icmp .le 5, 3) := by decide +kernel
theorem dX7_feed_13 : decode cX7_feed 13 = .ok (.iconst (-1), 1) := by decide +kernel
theorem dX7_feed_14 : decode cX7_feed 14 = .ok (.ireturn, 1) := by decide +kernel
theorem dX7_feed_15 : decode cX7_feed 15 = .ok (.aload_n 0, 1) := by decide +kernel
theorem dX7_feed_16 : decode cX7_feed 16 = .ok (.iload_n 1, 1) := by decide +kernel
theorem dX7_feed_17 : decode cX7_feed 17 = .ok (.invokevirtual 91, 3) := by decide +kernel
theorem dX7_feed_20 : decode cX7_feed 20 = .ok (.aload_n 0, 1) := by decide +kernel
theorem dX7_feed_21 : decode cX7_feed 21 = .ok (.iload_n 2, 1) := by decide +kernel
theorem dX7_feed_22 : decode cX7_feed 22 = .ok (.invokevirtual 91, 3) := by decide +kernel
theorem dX7_feed_25 : decode cX7_feed 25 = .ok (.aload_n 0, 1) := by decide +kernel
theorem dX7_feed_26 : decode cX7_feed 26 = .ok (.iload_n 3, 1) := by decide +kernel
theorem dX7_feed_27 : decode cX7_feed 27 = .ok (.invokevirtual 91, 3) := by decide +kernel
theorem dX7_feed_30 : decode cX7_feed 30 = .ok (.aload_n 0, 1) := by decide +kernel
theorem dX7_feed_31 : decode cX7_feed 31 = .ok (.iload 4, 2) := by decide +kernel
theorem dX7_feed_33 : decode cX7_feed 33 = .ok (.invokevirtual 91, 3) := by decide +kernel
theorem dX7_feed_36 : decode cX7_feed 36 = .ok (.aload_n 0, 1) := by decide +kernel
theorem dX7_feed_37 : decode cX7_feed 37 = .ok (.iload 5, 2) := by decide +kernel
theorem dX7_feed_39 : decode cX7_feed 39 = .ok (.invokevirtual 91, 3) := by decide +kernel
theorem dX7_feed_42 : decode cX7_feed 42 = .ok (.aload_n 0, 1) := by decide +kernel
theorem dX7_feed_43 : decode cX7_feed 43 = .ok (.getfield 88, 3) := by decide +kernel
theorem dX7_feed_46 : decode cX7_feed 46 = .ok (.ireturn, 1) := by decide +kernel
theorem dX7_end_0 : decode cX7_end 0 = .ok (.iload_n 1, 1) := by decide +kernel
theorem dX7_end_1 : decode cX7_end 1 = .ok (.iconst 0, 1) := by decide +kernel
theorem dX7_end_2 : decode cX7_end 2 = .ok (.aload_n 0, 1) := by decide +kernel
theorem dX7_end_3 : decode cX7_end 3 = .ok (.getfield 88, 3) := by decide +kernel
theorem dX7_end_6 : decode cX7_end 6 = .ok (.invokestatic 63, 3) := by decide +kernel
theorem dX7_end_9 : decode cX7_end 9 = .ok (.ifCond .ne 5, 3) := by decide +kernel
theorem dX7_end_12 : decode cX7_end 12 = .ok (.iconst (-1), 1) := by decide +kernel
theorem dX7_end_13 : decode cX7_end 13 = .ok (.ireturn, 1) := by decide +kernel
theorem dX7_end_14 : decode cX7_end 14 = .ok (.aload_n 0, 1) := by decide +kernel
theorem dX7_end_15 : decode cX7_end 15 = .ok (.iload_n 1, 1) := by decide +kernel
theorem dX7_end_16 : decode cX7_end 16 = .ok (.putfield 88, 3) := by decide +kernel
theorem dX7_end_19 : decode cX7_end 19 = .ok (.iload_n 1, 1) := by decide +kernel
theorem dX7_end_20 : decode cX7_end 20 = .ok (.ireturn, 1) := by decide +kernel
theorem dX7_byteAt_0 : decode cX7_byteAt 0 = .ok (.iload_n 1, 1) := by decide +kernel
theorem dX7_byteAt_1 : decode cX7_byteAt 1 = .ok (.aload_n 0, 1) := by decide +kernel
theorem dX7_byteAt_2 : decode cX7_byteAt 2 = .ok (.getfield 88, 3) := by decide +kernel
theorem dX7_byteAt_5 : decode cX7_byteAt 5 = .ok (.if_icmp .ge 12, 3) := by decide +kernel
theorem dX7_byteAt_8 : decode cX7_byteAt 8 = .ok (.aload_n 0, 1) := by decide +kernel
theorem dX7_byteAt_9 : decode cX7_byteAt 9 = .ok (.getfield 19, 3) := by decide +kernel
theorem dX7_byteAt_12 : decode cX7_byteAt 12 = .ok (.iload_n 1, 1) := by decide +kernel
theorem dX7_byteAt_13 : decode cX7_byteAt 13 = .ok (.iaload, 1) := by decide +kernel
theorem dX7_byteAt_14 : decode cX7_byteAt 14 = .ok (.goto 4, 3) := by decide +kernel
theorem dX7_byteAt_17 : decode cX7_byteAt 17 = .ok (.iconst (-1), 1) := by decide +kernel
theorem dX7_byteAt_18 : decode cX7_byteAt 18 = .ok (.ireturn, 1) := by decide +kernel
theorem dX7_isLetterByte_0 : decode cX7_isLetterByte 0 = .ok (.iload_n 0, 1) := by decide +kernel
theorem dX7_isLetterByte_1 : decode cX7_isLetterByte 1 = .ok (.bipush 97, 2) := by decide +kernel
theorem dX7_isLetterByte_3 : decode cX7_isLetterByte 3 = .ok (.if_icmp .lt 9, 3) := by decide +kernel
theorem dX7_isLetterByte_6 : decode cX7_isLetterByte 6 = .ok (.iload_n 0, 1) := by decide +kernel
theorem dX7_isLetterByte_7 : decode cX7_isLetterByte 7 = .ok (.bipush 122, 2) := by decide +kernel
theorem dX7_isLetterByte_9 : decode cX7_isLetterByte 9 = .ok (.if_icmp .le 15, 3) := by decide +kernel
theorem dX7_isLetterByte_12 : decode cX7_isLetterByte 12 = .ok (.iload_n 0, 1) := by decide +kernel
theorem dX7_isLetterByte_13 : decode cX7_isLetterByte 13 = .ok (.bipush 65, 2) := by decide +kernel
theorem dX7_isLetterByte_15 : decode cX7_isLetterByte 15 = .ok (.if_icmp .lt 13, 3) := by decide +kernel
theorem dX7_isLetterByte_18 : decode cX7_isLetterByte 18 = .ok (.iload_n 0, 1) := by decide +kernel
theorem dX7_isLetterByte_19 : decode cX7_isLetterByte 19 = .ok (.bipush 90, 2) := by decide +kernel
theorem dX7_isLetterByte_21 : decode cX7_isLetterByte 21 = .ok (.if_icmp .gt 7, 3) := by decide +kernel
theorem dX7_isLetterByte_24 : decode cX7_isLetterByte 24 = .ok (.iconst 1, 1) := by decide +kernel
theorem dX7_isLetterByte_25 : decode cX7_isLetterByte 25 = .ok (.goto 4, 3) := by decide +kernel
theorem dX7_isLetterByte_28 : decode cX7_isLetterByte 28 = .ok (.iconst 0, 1) := by decide +kernel
theorem dX7_isLetterByte_29 : decode cX7_isLetterByte 29 = .ok (.ireturn, 1) := by decide +kernel
theorem dX7_isFigure_0 : decode cX7_isFigure 0 = .ok (.iload_n 0, 1) := by decide +kernel
theorem dX7_isFigure_1 : decode cX7_isFigure 1 = .ok (.bipush 48, 2) := by decide +kernel
theorem dX7_isFigure_3 : decode cX7_isFigure 3 = .ok (.if_icmp .lt 13, 3) := by decide +kernel
theorem dX7_isFigure_6 : decode cX7_isFigure 6 = .ok (.iload_n 0, 1) := by decide +kernel
theorem dX7_isFigure_7 : decode cX7_isFigure 7 = .ok (.bipush 57, 2) := by decide +kernel
theorem dX7_isFigure_9 : decode cX7_isFigure 9 = .ok (.if_icmp .gt 7, 3) := by decide +kernel
theorem dX7_isFigure_12 : decode cX7_isFigure 12 = .ok (.iconst 1, 1) := by decide +kernel
theorem dX7_isFigure_13 : decode cX7_isFigure 13 = .ok (.goto 4, 3) := by decide +kernel
theorem dX7_isFigure_16 : decode cX7_isFigure 16 = .ok (.iconst 0, 1) := by decide +kernel
theorem dX7_isFigure_17 : decode cX7_isFigure 17 = .ok (.ireturn, 1) := by decide +kernel
theorem dX7_isSign_0 : decode cX7_isSign 0 = .ok (.iload_n 0, 1) := by decide +kernel
theorem dX7_isSign_1 : decode cX7_isSign 1 = .ok (.tableswitch 129 35 62 #[127, 129, 129, 129, 129, 127, 127, 127, 127, 129, 127, 129, 127, 129, 129, 129, 129, 129, 129, 129, 129, 129, 129, 127, 127, 127, 127, 127], 127) := by decide +kernel
theorem dX7_isSign_128 : decode cX7_isSign 128 = .ok (.iconst 1, 1) := by decide +kernel
theorem dX7_isSign_129 : decode cX7_isSign 129 = .ok (.ireturn, 1) := by decide +kernel
theorem dX7_isSign_130 : decode cX7_isSign 130 = .ok (.iconst 0, 1) := by decide +kernel
theorem dX7_isSign_131 : decode cX7_isSign 131 = .ok (.ireturn, 1) := by decide +kernel
theorem dX7_nextToken_0 : decode cX7_nextToken 0 = .ok (.aload_n 0, 1) := by decide +kernel
theorem dX7_nextToken_1 : decode cX7_nextToken 1 = .ok (.aload_n 0, 1) := by decide +kernel
theorem dX7_nextToken_2 : decode cX7_nextToken 2 = .ok (.getfield 95, 3) := by decide +kernel
theorem dX7_nextToken_5 : decode cX7_nextToken 5 = .ok (.invokevirtual 98, 3) := by decide +kernel
theorem dX7_nextToken_8 : decode cX7_nextToken 8 = .ok (.bipush 32, 2) := by decide +kernel
theorem dX7_nextToken_10 : decode cX7_nextToken 10 = .ok (.if_icmp .eq 16, 3) := by decide +kernel
theorem dX7_nextToken_13 : decode cX7_nextToken 13 = .ok (.aload_n 0, 1) := by decide +kernel
theorem dX7_nextToken_14 : decode cX7_nextToken 14 = .ok (.aload_n 0, 1) := by decide +kernel
theorem dX7_nextToken_15 : decode cX7_nextToken 15 = .ok (.getfield 95, 3) := by decide +kernel
theorem dX7_nextToken_18 : decode cX7_nextToken 18 = .ok (.invokevirtual 98, 3) := by decide +kernel
theorem dX7_nextToken_21 : decode cX7_nextToken 21 = .ok (.bipush 10, 2) := by decide +kernel
theorem dX7_nextToken_23 : decode cX7_nextToken 23 = .ok (.if_icmp .ne 16, 3) := by decide +kernel
theorem dX7_nextToken_26 : decode cX7_nextToken 26 = .ok (.aload_n 0, 1) := by decide +kernel
theorem dX7_nextToken_27 : decode cX7_nextToken 27 = .ok (.dup, 1) := by decide +kernel
theorem dX7_nextToken_28 : decode cX7_nextToken 28 = .ok (.getfield 95, 3) := by decide +kernel
theorem dX7_nextToken_31 : decode cX7_nextToken 31 = .ok (.iconst 1, 1) := by decide +kernel
theorem dX7_nextToken_32 : decode cX7_nextToken 32 = .ok (.iadd, 1) := by decide +kernel
theorem dX7_nextToken_33 : decode cX7_nextToken 33 = .ok (.putfield 95, 3) := by decide +kernel
theorem dX7_nextToken_36 : decode cX7_nextToken 36 = .ok (.goto (-36), 3) := by decide +kernel
theorem dX7_nextToken_39 : decode cX7_nextToken 39 = .ok (.aload_n 0, 1) := by decide +kernel
theorem dX7_nextToken_40 : decode cX7_nextToken 40 = .ok (.aload_n 0, 1) := by decide +kernel
theorem dX7_nextToken_41 : decode cX7_nextToken 41 = .ok (.getfield 95, 3) := by decide +kernel
theorem dX7_nextToken_44 : decode cX7_nextToken 44 = .ok (.putfield 101, 3) := by decide +kernel
theorem dX7_nextToken_47 : decode cX7_nextToken 47 = .ok (.aload_n 0, 1) := by decide +kernel
theorem dX7_nextToken_48 : decode cX7_nextToken 48 = .ok (.aload_n 0, 1) := by decide +kernel
theorem dX7_nextToken_49 : decode cX7_nextToken 49 = .ok (.getfield 95, 3) := by decide +kernel
theorem dX7_nextToken_52 : decode cX7_nextToken 52 = .ok (.invokevirtual 98, 3) := by decide +kernel
theorem dX7_nextToken_55 : decode cX7_nextToken 55 = .ok (.istore_n 1, 1) := by decide +kernel
theorem dX7_nextToken_56 : decode cX7_nextToken 56 = .ok (.iload_n 1, 1) := by decide +kernel
theorem dX7_nextToken_57 : decode cX7_nextToken 57 = .ok (.ifCond .ge 11, 3) := by decide +kernel
theorem dX7_nextToken_60 : decode cX7_nextToken 60 = .ok (.aload_n 0, 1) := by decide +kernel
theorem dX7_nextToken_61 : decode cX7_nextToken 61 = .ok (.iconst 0, 1) := by decide +kernel
theorem dX7_nextToken_62 : decode cX7_nextToken 62 = .ok (.putfield 104, 3) := by decide +kernel
theorem dX7_nextToken_65 : decode cX7_nextToken 65 = .ok (.goto 245, 3) := by decide +kernel
theorem dX7_nextToken_68 : decode cX7_nextToken 68 = .ok (.iload_n 1, 1) := by decide +kernel
theorem dX7_nextToken_69 : decode cX7_nextToken 69 = .ok (.invokestatic 107, 3) := by decide +kernel
theorem dX7_nextToken_72 : decode cX7_nextToken 72 = .ok (.ifCond .eq 79, 3) := by decide +kernel
theorem dX7_nextToken_75 : decode cX7_nextToken 75 = .ok (.aload_n 0, 1) := by decide +kernel
theorem dX7_nextToken_76 : decode cX7_nextToken 76 = .ok (.iconst 1, 1) := by decide +kernel
theorem dX7_nextToken_77 : decode cX7_nextToken 77 = .ok (.putfield 104, 3) := by decide +kernel
theorem dX7_nextToken_80 : decode cX7_nextToken 80 = .ok (.aload_n 0, 1) := by decide +kernel
theorem dX7_nextToken_81 : decode cX7_nextToken 81 = .ok (.iconst 0, 1) := by decide +kernel
theorem dX7_nextToken_82 : decode cX7_nextToken 82 = .ok (.putfield 110, 3) := by decide +kernel
theorem dX7_nextToken_85 : decode cX7_nextToken 85 = .ok (.aload_n 0, 1) := by decide +kernel
theorem dX7_nextToken_86 : decode cX7_nextToken 86 = .ok (.aload_n 0, 1) := by decide +kernel
theorem dX7_nextToken_87 : decode cX7_nextToken 87 = .ok (.getfield 95, 3) := by decide +kernel
theorem dX7_nextToken_90 : decode cX7_nextToken 90 = .ok (.invokevirtual 98, 3) := by decide +kernel
theorem dX7_nextToken_93 : decode cX7_nextToken 93 = .ok (.invokestatic 107, 3) := by decide +kernel
theorem dX7_nextToken_96 : decode cX7_nextToken 96 = .ok (.ifCond .eq 214, 3) := by decide +kernel
theorem dX7_nextToken_99 : decode cX7_nextToken 99 = .ok (.aload_n 0, 1) := by decide +kernel
theorem dX7_nextToken_100 : decode cX7_nextToken 100 = .ok (.aload_n 0, 1) := by decide +kernel
theorem dX7_nextToken_101 : decode cX7_nextToken 101 = .ok (.getfield 110, 3) := by decide +kernel
theorem dX7_nextToken_104 : decode cX7_nextToken 104 = .ok (.ldc 113, 2) := by decide +kernel
theorem dX7_nextToken_106 : decode cX7_nextToken 106 = .ok (.if_icmp .le 10, 3) := by decide +kernel
theorem dX7_nextToken_109 : decode cX7_nextToken 109 = .ok (.aload_n 0, 1) := by decide +kernel
theorem dX7_nextToken_110 : decode cX7_nextToken 110 = .ok (.getfield 110, 3) := by decide +kernel
theorem dX7_nextToken_113 : decode cX7_nextToken 113 = .ok (.goto 22, 3) := by decide +kernel
theorem dX7_nextToken_116 : decode cX7_nextToken 116 = .ok (.bipush 10, 2) := by decide +kernel
theorem dX7_nextToken_118 : decode cX7_nextToken 118 = .ok (.aload_n 0, 1) := by decide +kernel
theorem dX7_nextToken_119 : decode cX7_nextToken 119 = .ok (.getfield 110, 3) := by decide +kernel
theorem dX7_nextToken_122 : decode cX7_nextToken 122 = .ok (.imul, 1) := by decide +kernel
theorem dX7_nextToken_123 : decode cX7_nextToken 123 = .ok (.aload_n 0, 1) := by decide +kernel
theorem dX7_nextToken_124 : decode cX7_nextToken 124 = .ok (.aload_n 0, 1) := by decide +kernel
theorem dX7_nextToken_125 : decode cX7_nextToken 125 = .ok (.getfield 95, 3) := by decide +kernel
theorem dX7_nextToken_128 : decode cX7_nextToken 128 = .ok (.invokevirtual 98, 3) := by decide +kernel
theorem dX7_nextToken_131 : decode cX7_nextToken 131 = .ok (.iadd, 1) := by decide +kernel
theorem dX7_nextToken_132 : decode cX7_nextToken 132 = .ok (.bipush 48, 2) := by decide +kernel
theorem dX7_nextToken_134 : decode cX7_nextToken 134 = .ok (.isub, 1) := by decide +kernel
theorem dX7_nextToken_135 : decode cX7_nextToken 135 = .ok (.putfield 110, 3) := by decide +kernel
theorem dX7_nextToken_138 : decode cX7_nextToken 138 = .ok (.aload_n 0, 1) := by decide +kernel
theorem dX7_nextToken_139 : decode cX7_nextToken 139 = .ok (.dup, 1) := by decide +kernel
theorem dX7_nextToken_140 : decode cX7_nextToken 140 = .ok (.getfield 95, 3) := by decide +kernel
theorem dX7_nextToken_143 : decode cX7_nextToken 143 = .ok (.iconst 1, 1) := by decide +kernel
theorem dX7_nextToken_144 : decode cX7_nextToken 144 = .ok (.iadd, 1) := by decide +kernel
theorem dX7_nextToken_145 : decode cX7_nextToken 145 = .ok (.putfield 95, 3) := by decide +kernel
theorem dX7_nextToken_148 : decode cX7_nextToken 148 = .ok (.goto (-63), 3) := by decide +kernel
theorem dX7_nextToken_151 : decode cX7_nextToken 151 = .ok (.iload_n 1, 1) := by decide +kernel
theorem dX7_nextToken_152 : decode cX7_nextToken 152 = .ok (.invokestatic 114, 3) := by decide +kernel
theorem dX7_nextToken_155 : decode cX7_nextToken 155 = .ok (.ifCond .eq 79, 3) := by decide +kernel
theorem dX7_nextToken_158 : decode cX7_nextToken 158 = .ok (.aload_n 0, 1) := by decide +kernel
theorem dX7_nextToken_159 : decode cX7_nextToken 159 = .ok (.iconst 2, 1) := by decide +kernel
theorem dX7_nextToken_160 : decode cX7_nextToken 160 = .ok (.putfield 104, 3) := by decide +kernel
theorem dX7_nextToken_163 : decode cX7_nextToken 163 = .ok (.aload_n 0, 1) := by decide +kernel
theorem dX7_nextToken_164 : decode cX7_nextToken 164 = .ok (.lconst 0, 1) := by decide +kernel
theorem dX7_nextToken_165 : decode cX7_nextToken 165 = .ok (.putfield 117, 3) := by decide +kernel
theorem dX7_nextToken_168 : decode cX7_nextToken 168 = .ok (.aload_n 0, 1) := by decide +kernel
theorem dX7_nextToken_169 : decode cX7_nextToken 169 = .ok (.aload_n 0, 1) := by decide +kernel
theorem dX7_nextToken_170 : decode cX7_nextToken 170 = .ok (.getfield 95, 3) := by decide +kernel
theorem dX7_nextToken_173 : decode cX7_nextToken 173 = .ok (.invokevirtual 98, 3) := by decide +kernel
theorem dX7_nextToken_176 : decode cX7_nextToken 176 = .ok (.invokestatic 114, 3) := by decide +kernel
theorem dX7_nextToken_179 : decode cX7_nextToken 179 = .ok (.ifCond .eq 131, 3) := by decide +kernel
theorem dX7_nextToken_182 : decode cX7_nextToken 182 = .ok (.aload_n 0, 1) := by decide +kernel
theorem dX7_nextToken_183 : decode cX7_nextToken 183 = .ok (.aload_n 0, 1) := by decide +kernel
theorem dX7_nextToken_184 : decode cX7_nextToken 184 = .ok (.getfield 117, 3) := by decide +kernel
theorem dX7_nextToken_187 : decode cX7_nextToken 187 = .ok (.bipush 48, 2) := by decide +kernel
theorem dX7_nextToken_189 : decode cX7_nextToken 189 = .ok (.lshr, 1) := by decide +kernel
theorem dX7_nextToken_190 : decode cX7_nextToken 190 = .ok (.lconst 0, 1) := by decide +kernel
theorem dX7_nextToken_191 : decode cX7_nextToken 191 = .ok (.lcmp, 1) := by decide +kernel
theorem dX7_nextToken_192 : decode cX7_nextToken 192 = .ok (.ifCond .eq 9, 3) := by decide +kernel
theorem dX7_nextToken_195 : decode cX7_nextToken 195 = .ok (.ldc2_w 121, 3) := by decide +kernel
theorem dX7_nextToken_198 : decode cX7_nextToken 198 = .ok (.goto 20, 3) := by decide +kernel
theorem dX7_nextToken_201 : decode cX7_nextToken 201 = .ok (.aload_n 0, 1) := by decide +kernel
theorem dX7_nextToken_202 : decode cX7_nextToken 202 = .ok (.getfield 117, 3) := by decide +kernel
theorem dX7_nextToken_205 : decode cX7_nextToken 205 = .ok (.bipush 8, 2) := by decide +kernel
theorem dX7_nextToken_207 : decode cX7_nextToken 207 = .ok (.lshl, 1) := by decide +kernel
theorem dX7_nextToken_208 : decode cX7_nextToken 208 = .ok (.aload_n 0, 1) := by decide +kernel
theorem dX7_nextToken_209 : decode cX7_nextToken 209 = .ok (.aload_n 0, 1) := by decide +kernel
theorem dX7_nextToken_210 : decode cX7_nextToken 210 = .ok (.getfield 95, 3) := by decide +kernel
theorem dX7_nextToken_213 : decode cX7_nextToken 213 = .ok (.invokevirtual 98, 3) := by decide +kernel
theorem dX7_nextToken_216 : decode cX7_nextToken 216 = .ok (.i2l, 1) := by decide +kernel
theorem dX7_nextToken_217 : decode cX7_nextToken 217 = .ok (.lor, 1) := by decide +kernel
theorem dX7_nextToken_218 : decode cX7_nextToken 218 = .ok (.putfield 117, 3) := by decide +kernel
theorem dX7_nextToken_221 : decode cX7_nextToken 221 = .ok (.aload_n 0, 1) := by decide +kernel
theorem dX7_nextToken_222 : decode cX7_nextToken 222 = .ok (.dup, 1) := by decide +kernel
theorem dX7_nextToken_223 : decode cX7_nextToken 223 = .ok (.getfield 95, 3) := by decide +kernel
theorem dX7_nextToken_226 : decode cX7_nextToken 226 = .ok (.iconst 1, 1) := by decide +kernel
theorem dX7_nextToken_227 : decode cX7_nextToken 227 = .ok (.iadd, 1) := by decide +kernel
theorem dX7_nextToken_228 : decode cX7_nextToken 228 = .ok (.putfield 95, 3) := by decide +kernel
theorem dX7_nextToken_231 : decode cX7_nextToken 231 = .ok (.goto (-63), 3) := by decide +kernel
theorem dX7_nextToken_234 : decode cX7_nextToken 234 = .ok (.aload_n 0, 1) := by decide +kernel
theorem dX7_nextToken_235 : decode cX7_nextToken 235 = .ok (.iload_n 1, 1) := by decide +kernel
theorem dX7_nextToken_236 : decode cX7_nextToken 236 = .ok (.invokestatic 123, 3) := by decide +kernel
theorem dX7_nextToken_239 : decode cX7_nextToken 239 = .ok (.ifCond .eq 7, 3) := by decide +kernel
theorem dX7_nextToken_242 : decode cX7_nextToken 242 = .ok (.iload_n 1, 1) := by decide +kernel
theorem dX7_nextToken_243 : decode cX7_nextToken 243 = .ok (.goto 4, 3) := by decide +kernel
theorem dX7_nextToken_246 : decode cX7_nextToken 246 = .ok (.iconst 3, 1) := by decide +kernel
theorem dX7_nextToken_247 : decode cX7_nextToken 247 = .ok (.putfield 104, 3) := by decide +kernel
theorem dX7_nextToken_250 : decode cX7_nextToken 250 = .ok (.aload_n 0, 1) := by decide +kernel
theorem dX7_nextToken_251 : decode cX7_nextToken 251 = .ok (.dup, 1) := by decide +kernel
theorem dX7_nextToken_252 : decode cX7_nextToken 252 = .ok (.getfield 95, 3) := by decide +kernel
theorem dX7_nextToken_255 : decode cX7_nextToken 255 = .ok (.iconst 1, 1) := by decide +kernel
theorem dX7_nextToken_256 : decode cX7_nextToken 256 = .ok (.iadd, 1) := by decide +kernel
theorem dX7_nextToken_257 : decode cX7_nextToken 257 = .ok (.putfield 95, 3) := by decide +kernel
theorem dX7_nextToken_260 : decode cX7_nextToken 260 = .ok (.iload_n 1, 1) := by decide +kernel
theorem dX7_nextToken_261 : decode cX7_nextToken 261 = .ok (.bipush 60, 2) := by decide +kernel
theorem dX7_nextToken_263 : decode cX7_nextToken 263 = .ok (.if_icmp .eq 9, 3) := by decide +kernel
theorem dX7_nextToken_266 : decode cX7_nextToken 266 = .ok (.iload_n 1, 1) := by decide +kernel
theorem dX7_nextToken_267 : decode cX7_nextToken 267 = .ok (.bipush 62, 2) := by decide +kernel
theorem dX7_nextToken_269 : decode cX7_nextToken 269 = .ok (.if_icmp .ne 41, 3) := by decide +kernel
theorem dX7_nextToken_272 : decode cX7_nextToken 272 = .ok (.aload_n 0, 1) := by decide +kernel
theorem dX7_nextToken_273 : decode cX7_nextToken 273 = .ok (.aload_n 0, 1) := by decide +kernel
theorem dX7_nextToken_274 : decode cX7_nextToken 274 = .ok (.getfield 95, 3) := by decide +kernel
theorem dX7_nextToken_277 : decode cX7_nextToken 277 = .ok (.invokevirtual 98, 3) := by decide +kernel
theorem dX7_nextToken_280 : decode cX7_nextToken 280 = .ok (.bipush 61, 2) := by decide +kernel
theorem dX7_nextToken_282 : decode cX7_nextToken 282 = .ok (.if_icmp .ne 28, 3) := by decide +kernel
theorem dX7_nextToken_285 : decode cX7_nextToken 285 = .ok (.aload_n 0, 1) := by decide +kernel
theorem dX7_nextToken_286 : decode cX7_nextToken 286 = .ok (.iload_n 1, 1) := by decide +kernel
theorem dX7_nextToken_287 : decode cX7_nextToken 287 = .ok (.bipush 60, 2) := by decide +kernel
theorem dX7_nextToken_289 : decode cX7_nextToken 289 = .ok (.if_icmp .ne 7, 3) := by decide +kernel
theorem dX7_nextToken_292 : decode cX7_nextToken 292 = .ok (.iconst 4, 1) := by decide +kernel
theorem dX7_nextToken_293 : decode cX7_nextToken 293 = .ok (.goto 4, 3) := by decide +kernel
theorem dX7_nextToken_296 : decode cX7_nextToken 296 = .ok (.iconst 5, 1) := by decide +kernel
theorem dX7_nextToken_297 : decode cX7_nextToken 297 = .ok (.putfield 104, 3) := by decide +kernel
theorem dX7_nextToken_300 : decode cX7_nextToken 300 = .ok (.aload_n 0, 1) := by decide +kernel
theorem dX7_nextToken_301 : decode cX7_nextToken 301 = .ok (.dup, 1) := by decide +kernel
theorem dX7_nextToken_302 : decode cX7_nextToken 302 = .ok (.getfield 95, 3) := by decide +kernel
theorem dX7_nextToken_305 : decode cX7_nextToken 305 = .ok (.iconst 1, 1) := by decide +kernel
theorem dX7_nextToken_306 : decode cX7_nextToken 306 = .ok (.iadd, 1) := by decide +kernel
theorem dX7_nextToken_307 : decode cX7_nextToken 307 = .ok (.putfield 95, 3) := by decide +kernel
theorem dX7_nextToken_310 : decode cX7_nextToken 310 = .ok (.return_, 1) := by decide +kernel
theorem dX7_w2_0 : decode cX7_w2 0 = .ok (.iload_n 0, 1) := by decide +kernel
theorem dX7_w2_1 : decode cX7_w2 1 = .ok (.i2l, 1) := by decide +kernel
theorem dX7_w2_2 : decode cX7_w2 2 = .ok (.bipush 8, 2) := by decide +kernel
theorem dX7_w2_4 : decode cX7_w2 4 = .ok (.lshl, 1) := by decide +kernel
theorem dX7_w2_5 : decode cX7_w2 5 = .ok (.iload_n 1, 1) := by decide +kernel
theorem dX7_w2_6 : decode cX7_w2 6 = .ok (.i2l, 1) := by decide +kernel
theorem dX7_w2_7 : decode cX7_w2 7 = .ok (.lor, 1) := by decide +kernel
theorem dX7_w2_8 : decode cX7_w2 8 = .ok (.lreturn, 1) := by decide +kernel
theorem dX7_w3_0 : decode cX7_w3 0 = .ok (.iload_n 0, 1) := by decide +kernel
theorem dX7_w3_1 : decode cX7_w3 1 = .ok (.iload_n 1, 1) := by decide +kernel
theorem dX7_w3_2 : decode cX7_w3 2 = .ok (.invokestatic 126, 3) := by decide +kernel
theorem dX7_w3_5 : decode cX7_w3 5 = .ok (.bipush 8, 2) := by decide +kernel
theorem dX7_w3_7 : decode cX7_w3 7 = .ok (.lshl, 1) := by decide +kernel
theorem dX7_w3_8 : decode cX7_w3 8 = .ok (.iload_n 2, 1) := by decide +kernel
theorem dX7_w3_9 : decode cX7_w3 9 = .ok (.i2l, 1) := by decide +kernel
theorem dX7_w3_10 : decode cX7_w3 10 = .ok (.lor, 1) := by decide +kernel
theorem dX7_w3_11 : decode cX7_w3 11 = .ok (.lreturn, 1) := by decide +kernel
theorem dX7_w4_0 : decode cX7_w4 0 = .ok (.iload_n 0, 1) := by decide +kernel
theorem dX7_w4_1 : decode cX7_w4 1 = .ok (.iload_n 1, 1) := by decide +kernel
theorem dX7_w4_2 : decode cX7_w4 2 = .ok (.iload_n 2, 1) := by decide +kernel
theorem dX7_w4_3 : decode cX7_w4 3 = .ok (.invokestatic 130, 3) := by decide +kernel
theorem dX7_w4_6 : decode cX7_w4 6 = .ok (.bipush 8, 2) := by decide +kernel
theorem dX7_w4_8 : decode cX7_w4 8 = .ok (.lshl, 1) := by decide +kernel
theorem dX7_w4_9 : decode cX7_w4 9 = .ok (.iload_n 3, 1) := by decide +kernel
theorem dX7_w4_10 : decode cX7_w4 10 = .ok (.i2l, 1) := by decide +kernel
theorem dX7_w4_11 : decode cX7_w4 11 = .ok (.lor, 1) := by decide +kernel
theorem dX7_w4_12 : decode cX7_w4 12 = .ok (.lreturn, 1) := by decide +kernel
theorem dX7_w5_0 : decode cX7_w5 0 = .ok (.iload_n 0, 1) := by decide +kernel
theorem dX7_w5_1 : decode cX7_w5 1 = .ok (.iload_n 1, 1) := by decide +kernel
theorem dX7_w5_2 : decode cX7_w5 2 = .ok (.iload_n 2, 1) := by decide +kernel
theorem dX7_w5_3 : decode cX7_w5 3 = .ok (.iload_n 3, 1) := by decide +kernel
theorem dX7_w5_4 : decode cX7_w5 4 = .ok (.invokestatic 134, 3) := by decide +kernel
theorem dX7_w5_7 : decode cX7_w5 7 = .ok (.bipush 8, 2) := by decide +kernel
theorem dX7_w5_9 : decode cX7_w5 9 = .ok (.lshl, 1) := by decide +kernel
theorem dX7_w5_10 : decode cX7_w5 10 = .ok (.iload 4, 2) := by decide +kernel
theorem dX7_w5_12 : decode cX7_w5 12 = .ok (.i2l, 1) := by decide +kernel
theorem dX7_w5_13 : decode cX7_w5 13 = .ok (.lor, 1) := by decide +kernel
theorem dX7_w5_14 : decode cX7_w5 14 = .ok (.lreturn, 1) := by decide +kernel
theorem dX7_isWord_0 : decode cX7_isWord 0 = .ok (.aload_n 0, 1) := by decide +kernel
theorem dX7_isWord_1 : decode cX7_isWord 1 = .ok (.getfield 104, 3) := by decide +kernel
theorem dX7_isWord_4 : decode cX7_isWord 4 = .ok (.iconst 2, 1) := by decide +kernel
theorem dX7_isWord_5 : decode cX7_isWord 5 = .ok (.if_icmp .ne 16, 3) := by decide +kernel
theorem dX7_isWord_8 : decode cX7_isWord 8 = .ok (.aload_n 0, 1) := by decide +kernel
theorem dX7_isWord_9 : decode cX7_isWord 9 = .ok (.getfield 117, 3) := by decide +kernel
theorem dX7_isWord_12 : decode cX7_isWord 12 = .ok (.lload_n 1, 1) := by decide +kernel
theorem dX7_isWord_13 : decode cX7_isWord 13 = .ok (.lcmp, 1) := by decide +kernel
theorem dX7_isWord_14 : decode cX7_isWord 14 = .ok (.ifCond .ne 7, 3) := by decide +kernel
theorem dX7_isWord_17 : decode cX7_isWord 17 = .ok (.iconst 1, 1) := by decide +kernel
theorem dX7_isWord_18 : decode cX7_isWord 18 = .ok (.goto 4, 3) := by decide +kernel
theorem dX7_isWord_21 : decode cX7_isWord 21 = .ok (.iconst 0, 1) := by decide +kernel
theorem dX7_isWord_22 : decode cX7_isWord 22 = .ok (.ireturn, 1) := by decide +kernel
theorem dX7_emit_0 : decode cX7_emit 0 = .ok (.aload_n 0, 1) := by decide +kernel
theorem dX7_emit_1 : decode cX7_emit 1 = .ok (.getfield 16, 3) := by decide +kernel
theorem dX7_emit_4 : decode cX7_emit 4 = .ok (.aload_n 0, 1) := by decide +kernel
theorem dX7_emit_5 : decode cX7_emit 5 = .ok (.getfield 142, 3) := by decide +kernel
theorem dX7_emit_8 : decode cX7_emit 8 = .ok (.bipush 73, 2) := by decide +kernel
theorem dX7_emit_10 : decode cX7_emit 10 = .ok (.iadd, 1) := by decide +kernel
theorem dX7_emit_11 : decode cX7_emit 11 = .ok (.iconst 2, 1) := by decide +kernel
theorem dX7_emit_12 : decode cX7_emit 12 = .ok (.aload_n 0, 1) := by decide +kernel
theorem dX7_emit_13 : decode cX7_emit 13 = .ok (.getfield 145, 3) := by decide +kernel
theorem dX7_emit_16 : decode cX7_emit 16 = .ok (.imul, 1) := by decide +kernel
theorem dX7_emit_17 : decode cX7_emit 17 = .ok (.iadd, 1) := by decide +kernel
theorem dX7_emit_18 : decode cX7_emit 18 = .ok (.iload_n 1, 1) := by decide +kernel
theorem dX7_emit_19 : decode cX7_emit 19 = .ok (.iastore, 1) := by decide +kernel
theorem dX7_emit_20 : decode cX7_emit 20 = .ok (.aload_n 0, 1) := by decide +kernel
theorem dX7_emit_21 : decode cX7_emit 21 = .ok (.getfield 16, 3) := by decide +kernel
theorem dX7_emit_24 : decode cX7_emit 24 = .ok (.aload_n 0, 1) := by decide +kernel
theorem dX7_emit_25 : decode cX7_emit 25 = .ok (.getfield 142, 3) := by decide +kernel
theorem dX7_emit_28 : decode cX7_emit 28 = .ok (.bipush 73, 2) := by decide +kernel
theorem dX7_emit_30 : decode cX7_emit 30 = .ok (.iadd, 1) := by decide +kernel
theorem dX7_emit_31 : decode cX7_emit 31 = .ok (.iconst 2, 1) := by decide +kernel
theorem dX7_emit_32 : decode cX7_emit 32 = .ok (.aload_n 0, 1) := by decide +kernel
theorem dX7_emit_33 : decode cX7_emit 33 = .ok (.getfield 145, 3) := by decide +kernel
theorem dX7_emit_36 : decode cX7_emit 36 = .ok (.imul, 1) := by decide +kernel
theorem dX7_emit_37 : decode cX7_emit 37 = .ok (.iadd, 1) := by decide +kernel
theorem dX7_emit_38 : decode cX7_emit 38 = .ok (.iconst 1, 1) := by decide +kernel
theorem dX7_emit_39 : decode cX7_emit 39 = .ok (.iadd, 1) := by decide +kernel
theorem dX7_emit_40 : decode cX7_emit 40 = .ok (.iload_n 2, 1) := by decide +kernel
theorem dX7_emit_41 : decode cX7_emit 41 = .ok (.iastore, 1) := by decide +kernel
theorem dX7_emit_42 : decode cX7_emit 42 = .ok (.aload_n 0, 1) := by decide +kernel
theorem dX7_emit_43 : decode cX7_emit 43 = .ok (.dup, 1) := by decide +kernel
theorem dX7_emit_44 : decode cX7_emit 44 = .ok (.getfield 145, 3) := by decide +kernel
theorem dX7_emit_47 : decode cX7_emit 47 = .ok (.iconst 1, 1) := by decide +kernel
theorem dX7_emit_48 : decode cX7_emit 48 = .ok (.iadd, 1) := by decide +kernel
theorem dX7_emit_49 : decode cX7_emit 49 = .ok (.putfield 145, 3) := by decide +kernel
theorem dX7_emit_52 : decode cX7_emit 52 = .ok (.return_, 1) := by decide +kernel
theorem dX7_nameOf_0 : decode cX7_nameOf 0 = .ok (.aload_n 0, 1) := by decide +kernel
theorem dX7_nameOf_1 : decode cX7_nameOf 1 = .ok (.getfield 104, 3) := by decide +kernel
theorem dX7_nameOf_4 : decode cX7_nameOf 4 = .ok (.iconst 2, 1) := by decide +kernel
theorem dX7_nameOf_5 : decode cX7_nameOf 5 = .ok (.if_icmp .eq 5, 3) := by decide +kernel
theorem dX7_nameOf_8 : decode cX7_nameOf 8 = .ok (.iconst (-1), 1) := by decide +kernel
theorem dX7_nameOf_9 : decode cX7_nameOf 9 = .ok (.ireturn, 1) := by decide +kernel
theorem dX7_nameOf_10 : decode cX7_nameOf 10 = .ok (.aload_n 0, 1) := by decide +kernel
theorem dX7_nameOf_11 : decode cX7_nameOf 11 = .ok (.getfield 117, 3) := by decide +kernel
theorem dX7_nameOf_14 : decode cX7_nameOf 14 = .ok (.bipush 100, 2) := by decide +kernel
theorem dX7_nameOf_16 : decode cX7_nameOf 16 = .ok (.bipush 97, 2) := by decide +kernel
theorem dX7_nameOf_18 : decode cX7_nameOf 18 = .ok (.bipush 121, 2) := by decide +kernel
theorem dX7_nameOf_20 : decode cX7_nameOf 20 = .ok (.invokestatic 130, 3) := by decide +kernel
theorem dX7_nameOf_23 : decode cX7_nameOf 23 = .ok (.lcmp, 1) := by decide +kernel
theorem dX7_nameOf_24 : decode cX7_nameOf 24 = .ok (.ifCond .ne 5, 3) := by decide +kernel
theorem dX7_nameOf_27 : decode cX7_nameOf 27 = .ok (.iconst 0, 1) := by decide +kernel
theorem dX7_nameOf_28 : decode cX7_nameOf 28 = .ok (.ireturn, 1) := by decide +kernel
theorem dX7_nameOf_29 : decode cX7_nameOf 29 = .ok (.aload_n 0, 1) := by decide +kernel
theorem dX7_nameOf_30 : decode cX7_nameOf 30 = .ok (.getfield 117, 3) := by decide +kernel
theorem dX7_nameOf_33 : decode cX7_nameOf 33 = .ok (.bipush 98, 2) := by decide +kernel
theorem dX7_nameOf_35 : decode cX7_nameOf 35 = .ok (.bipush 117, 2) := by decide +kernel
theorem dX7_nameOf_37 : decode cX7_nameOf 37 = .ok (.bipush 121, 2) := by decide +kernel
theorem dX7_nameOf_39 : decode cX7_nameOf 39 = .ok (.bipush 101, 2) := by decide +kernel
theorem dX7_nameOf_41 : decode cX7_nameOf 41 = .ok (.bipush 114, 2) := by decide +kernel
theorem dX7_nameOf_43 : decode cX7_nameOf 43 = .ok (.invokestatic 138, 3) := by decide +kernel
theorem dX7_nameOf_46 : decode cX7_nameOf 46 = .ok (.lcmp, 1) := by decide +kernel
theorem dX7_nameOf_47 : decode cX7_nameOf 47 = .ok (.ifCond .ne 5, 3) := by decide +kernel
theorem dX7_nameOf_50 : decode cX7_nameOf 50 = .ok (.iconst 1, 1) := by decide +kernel
theorem dX7_nameOf_51 : decode cX7_nameOf 51 = .ok (.ireturn, 1) := by decide +kernel
theorem dX7_nameOf_52 : decode cX7_nameOf 52 = .ok (.aload_n 0, 1) := by decide +kernel
theorem dX7_nameOf_53 : decode cX7_nameOf 53 = .ok (.getfield 117, 3) := by decide +kernel
theorem dX7_nameOf_56 : decode cX7_nameOf 56 = .ok (.bipush 115, 2) := by decide +kernel
theorem dX7_nameOf_58 : decode cX7_nameOf 58 = .ok (.bipush 111, 2) := by decide +kernel
theorem dX7_nameOf_60 : decode cX7_nameOf 60 = .ok (.bipush 114, 2) := by decide +kernel
theorem dX7_nameOf_62 : decode cX7_nameOf 62 = .ok (.bipush 116, 2) := by decide +kernel
theorem dX7_nameOf_64 : decode cX7_nameOf 64 = .ok (.invokestatic 134, 3) := by decide +kernel
theorem dX7_nameOf_67 : decode cX7_nameOf 67 = .ok (.lcmp, 1) := by decide +kernel
theorem dX7_nameOf_68 : decode cX7_nameOf 68 = .ok (.ifCond .ne 5, 3) := by decide +kernel
theorem dX7_nameOf_71 : decode cX7_nameOf 71 = .ok (.iconst 2, 1) := by decide +kernel
theorem dX7_nameOf_72 : decode cX7_nameOf 72 = .ok (.ireturn, 1) := by decide +kernel
theorem dX7_nameOf_73 : decode cX7_nameOf 73 = .ok (.aload_n 0, 1) := by decide +kernel
theorem dX7_nameOf_74 : decode cX7_nameOf 74 = .ok (.getfield 117, 3) := by decide +kernel
theorem dX7_nameOf_77 : decode cX7_nameOf 77 = .ok (.bipush 108, 2) := by decide +kernel
theorem dX7_nameOf_79 : decode cX7_nameOf 79 = .ok (.bipush 111, 2) := by decide +kernel
theorem dX7_nameOf_81 : decode cX7_nameOf 81 = .ok (.bipush 110, 2) := by decide +kernel
theorem dX7_nameOf_83 : decode cX7_nameOf 83 = .ok (.bipush 103, 2) := by decide +kernel
theorem dX7_nameOf_85 : decode cX7_nameOf 85 = .ok (.invokestatic 134, 3) := by decide +kernel
theorem dX7_nameOf_88 : decode cX7_nameOf 88 = .ok (.lcmp, 1) := by decide +kernel
theorem dX7_nameOf_89 : decode cX7_nameOf 89 = .ok (.ifCond .ne 5, 3) := by decide +kernel
theorem dX7_nameOf_92 : decode cX7_nameOf 92 = .ok (.iconst 3, 1) := by decide +kernel
theorem dX7_nameOf_93 : decode cX7_nameOf 93 = .ok (.ireturn, 1) := by decide +kernel
theorem dX7_nameOf_94 : decode cX7_nameOf 94 = .ok (.aload_n 0, 1) := by decide +kernel
theorem dX7_nameOf_95 : decode cX7_nameOf 95 = .ok (.getfield 117, 3) := by decide +kernel
theorem dX7_nameOf_98 : decode cX7_nameOf 98 = .ok (.bipush 111, 2) := by decide +kernel
theorem dX7_nameOf_100 : decode cX7_nameOf 100 = .ok (.bipush 119, 2) := by decide +kernel
theorem dX7_nameOf_102 : decode cX7_nameOf 102 = .ok (.bipush 110, 2) := by decide +kernel
theorem dX7_nameOf_104 : decode cX7_nameOf 104 = .ok (.invokestatic 130, 3) := by decide +kernel
theorem dX7_nameOf_107 : decode cX7_nameOf 107 = .ok (.lcmp, 1) := by decide +kernel
theorem dX7_nameOf_108 : decode cX7_nameOf 108 = .ok (.ifCond .ne 5, 3) := by decide +kernel
theorem dX7_nameOf_111 : decode cX7_nameOf 111 = .ok (.iconst 4, 1) := by decide +kernel
theorem dX7_nameOf_112 : decode cX7_nameOf 112 = .ok (.ireturn, 1) := by decide +kernel
theorem dX7_nameOf_113 : decode cX7_nameOf 113 = .ok (.aload_n 0, 1) := by decide +kernel
theorem dX7_nameOf_114 : decode cX7_nameOf 114 = .ok (.getfield 117, 3) := by decide +kernel
theorem dX7_nameOf_117 : decode cX7_nameOf 117 = .ok (.bipush 102, 2) := by decide +kernel
theorem dX7_nameOf_119 : decode cX7_nameOf 119 = .ok (.bipush 114, 2) := by decide +kernel
theorem dX7_nameOf_121 : decode cX7_nameOf 121 = .ok (.bipush 101, 2) := by decide +kernel
theorem dX7_nameOf_123 : decode cX7_nameOf 123 = .ok (.bipush 101, 2) := by decide +kernel
theorem dX7_nameOf_125 : decode cX7_nameOf 125 = .ok (.invokestatic 134, 3) := by decide +kernel
theorem dX7_nameOf_128 : decode cX7_nameOf 128 = .ok (.lcmp, 1) := by decide +kernel
theorem dX7_nameOf_129 : decode cX7_nameOf 129 = .ok (.ifCond .ne 5, 3) := by decide +kernel
theorem dX7_nameOf_132 : decode cX7_nameOf 132 = .ok (.iconst 5, 1) := by decide +kernel
theorem dX7_nameOf_133 : decode cX7_nameOf 133 = .ok (.ireturn, 1) := by decide +kernel
theorem dX7_nameOf_134 : decode cX7_nameOf 134 = .ok (.aload_n 0, 1) := by decide +kernel
theorem dX7_nameOf_135 : decode cX7_nameOf 135 = .ok (.getfield 117, 3) := by decide +kernel
theorem dX7_nameOf_138 : decode cX7_nameOf 138 = .ok (.bipush 119, 2) := by decide +kernel
theorem dX7_nameOf_140 : decode cX7_nameOf 140 = .ok (.bipush 97, 2) := by decide +kernel
theorem dX7_nameOf_142 : decode cX7_nameOf 142 = .ok (.bipush 110, 2) := by decide +kernel
theorem dX7_nameOf_144 : decode cX7_nameOf 144 = .ok (.bipush 116, 2) := by decide +kernel
theorem dX7_nameOf_146 : decode cX7_nameOf 146 = .ok (.bipush 115, 2) := by decide +kernel
theorem dX7_nameOf_148 : decode cX7_nameOf 148 = .ok (.invokestatic 138, 3) := by decide +kernel
theorem dX7_nameOf_151 : decode cX7_nameOf 151 = .ok (.lcmp, 1) := by decide +kernel
theorem dX7_nameOf_152 : decode cX7_nameOf 152 = .ok (.ifCond .ne 8, 3) := by decide +kernel
theorem dX7_nameOf_155 : decode cX7_nameOf 155 = .ok (.bipush 6, 2) := by decide +kernel
theorem dX7_nameOf_157 : decode cX7_nameOf 157 = .ok (.goto 26, 3) := by decide +kernel
theorem dX7_nameOf_160 : decode cX7_nameOf 160 = .ok (.aload_n 0, 1) := by decide +kernel
theorem dX7_nameOf_161 : decode cX7_nameOf 161 = .ok (.getfield 117, 3) := by decide +kernel
theorem dX7_nameOf_164 : decode cX7_nameOf 164 = .ok (.bipush 104, 2) := by decide +kernel
theorem dX7_nameOf_166 : decode cX7_nameOf 166 = .ok (.bipush 97, 2) := by decide +kernel
theorem dX7_nameOf_168 : decode cX7_nameOf 168 = .ok (.bipush 115, 2) := by decide +kernel
theorem dX7_nameOf_170 : decode cX7_nameOf 170 = .ok (.invokestatic 130, 3) := by decide +kernel
theorem dX7_nameOf_173 : decode cX7_nameOf 173 = .ok (.lcmp, 1) := by decide +kernel
theorem dX7_nameOf_174 : decode cX7_nameOf 174 = .ok (.ifCond .ne 8, 3) := by decide +kernel
theorem dX7_nameOf_177 : decode cX7_nameOf 177 = .ok (.bipush 7, 2) := by decide +kernel
theorem dX7_nameOf_179 : decode cX7_nameOf 179 = .ok (.goto 4, 3) := by decide +kernel
theorem dX7_nameOf_182 : decode cX7_nameOf 182 = .ok (.iconst (-1), 1) := by decide +kernel
theorem dX7_nameOf_183 : decode cX7_nameOf 183 = .ok (.ireturn, 1) := by decide +kernel
theorem dX7_isOf_0 : decode cX7_isOf 0 = .ok (.iload_n 1, 1) := by decide +kernel
theorem dX7_isOf_1 : decode cX7_isOf 1 = .ok (.bipush 6, 2) := by decide +kernel
theorem dX7_isOf_3 : decode cX7_isOf 3 = .ok (.if_icmp .lt 27, 3) := by decide +kernel
theorem dX7_isOf_6 : decode cX7_isOf 6 = .ok (.iload_n 1, 1) := by decide +kernel
theorem dX7_isOf_7 : decode cX7_isOf 7 = .ok (.bipush 6, 2) := by decide +kernel
theorem dX7_isOf_9 : decode cX7_isOf 9 = .ok (.if_icmp .ne 13, 3) := by decide +kernel
theorem dX7_isOf_12 : decode cX7_isOf 12 = .ok (.aload_n 0, 1) := by decide +kernel
theorem dX7_isOf_13 : decode cX7_isOf 13 = .ok (.getfield 148, 3) := by decide +kernel
theorem dX7_isOf_16 : decode cX7_isOf 16 = .ok (.ifCond .ne 18, 3) := by decide +kernel
theorem dX7_isOf_19 : decode cX7_isOf 19 = .ok (.goto 11, 3) := by decide +kernel
theorem dX7_isOf_22 : decode cX7_isOf 22 = .ok (.aload_n 0, 1) := by decide +kernel
theorem dX7_isOf_23 : decode cX7_isOf 23 = .ok (.getfield 148, 3) := by decide +kernel
theorem dX7_isOf_26 : decode cX7_isOf 26 = .ok (.iconst 1, 1) := by decide +kernel
theorem dX7_isOf_27 : decode cX7_isOf 27 = .ok (.if_icmp .ne 7, 3) := by decide +kernel
theorem dX7_isOf_30 : decode cX7_isOf 30 = .ok (.iconst 1, 1) := by decide +kernel
theorem dX7_isOf_31 : decode cX7_isOf 31 = .ok (.goto 4, 3) := by decide +kernel
theorem dX7_isOf_34 : decode cX7_isOf 34 = .ok (.iconst 0, 1) := by decide +kernel
theorem dX7_isOf_35 : decode cX7_isOf 35 = .ok (.ireturn, 1) := by decide +kernel
theorem dX7_rank_0 : decode cX7_rank 0 = .ok (.iload_n 0, 1) := by decide +kernel
theorem dX7_rank_1 : decode cX7_rank 1 = .ok (.bipush 40, 2) := by decide +kernel
theorem dX7_rank_3 : decode cX7_rank 3 = .ok (.if_icmp .lt 7, 3) := by decide +kernel
theorem dX7_rank_6 : decode cX7_rank 6 = .ok (.iconst 0, 1) := by decide +kernel
theorem dX7_rank_7 : decode cX7_rank 7 = .ok (.goto 66, 3) := by decide +kernel
theorem dX7_rank_10 : decode cX7_rank 10 = .ok (.iload_n 0, 1) := by decide +kernel
theorem dX7_rank_11 : decode cX7_rank 11 = .ok (.bipush 22, 2) := by decide +kernel
theorem dX7_rank_13 : decode cX7_rank 13 = .ok (.if_icmp .ne 7, 3) := by decide +kernel
theorem dX7_rank_16 : decode cX7_rank 16 = .ok (.iconst 1, 1) := by decide +kernel
theorem dX7_rank_17 : decode cX7_rank 17 = .ok (.goto 56, 3) := by decide +kernel
theorem dX7_rank_20 : decode cX7_rank 20 = .ok (.iload_n 0, 1) := by decide +kernel
theorem dX7_rank_21 : decode cX7_rank 21 = .ok (.bipush 21, 2) := by decide +kernel
theorem dX7_rank_23 : decode cX7_rank 23 = .ok (.if_icmp .ne 7, 3) := by decide +kernel
theorem dX7_rank_26 : decode cX7_rank 26 = .ok (.iconst 2, 1) := by decide +kernel
theorem dX7_rank_27 : decode cX7_rank 27 = .ok (.goto 46, 3) := by decide +kernel
theorem dX7_rank_30 : decode cX7_rank 30 = .ok (.iload_n 0, 1) := by decide +kernel
theorem dX7_rank_31 : decode cX7_rank 31 = .ok (.bipush 20, 2) := by decide +kernel
theorem dX7_rank_33 : decode cX7_rank 33 = .ok (.if_icmp .ne 7, 3) := by decide +kernel
theorem dX7_rank_36 : decode cX7_rank 36 = .ok (.iconst 3, 1) := by decide +kernel
theorem dX7_rank_37 : decode cX7_rank 37 = .ok (.goto 36, 3) := by decide +kernel
theorem dX7_rank_40 : decode cX7_rank 40 = .ok (.iload_n 0, 1) := by decide +kernel
theorem dX7_rank_41 : decode cX7_rank 41 = .ok (.bipush 10, 2) := by decide +kernel
theorem dX7_rank_43 : decode cX7_rank 43 = .ok (.if_icmp .lt 7, 3) := by decide +kernel
theorem dX7_rank_46 : decode cX7_rank 46 = .ok (.iconst 4, 1) := by decide +kernel
theorem dX7_rank_47 : decode cX7_rank 47 = .ok (.goto 26, 3) := by decide +kernel
theorem dX7_rank_50 : decode cX7_rank 50 = .ok (.iload_n 0, 1) := by decide +kernel
theorem dX7_rank_51 : decode cX7_rank 51 = .ok (.bipush 8, 2) := by decide +kernel
theorem dX7_rank_53 : decode cX7_rank 53 = .ok (.if_icmp .lt 8, 3) := by decide +kernel
theorem dX7_rank_56 : decode cX7_rank 56 = .ok (.bipush 6, 2) := by decide +kernel
theorem dX7_rank_58 : decode cX7_rank 58 = .ok (.goto 15, 3) := by decide +kernel
theorem dX7_rank_61 : decode cX7_rank 61 = .ok (.iload_n 0, 1) := by decide +kernel
theorem dX7_rank_62 : decode cX7_rank 62 = .ok (.bipush 6, 2) := by decide +kernel
theorem dX7_rank_64 : decode cX7_rank 64 = .ok (.if_icmp .lt 7, 3) := by decide +kernel
theorem dX7_rank_67 : decode cX7_rank 67 = .ok (.iconst 5, 1) := by decide +kernel
theorem dX7_rank_68 : decode cX7_rank 68 = .ok (.goto 5, 3) := by decide +kernel
theorem dX7_rank_71 : decode cX7_rank 71 = .ok (.bipush 7, 2) := by decide +kernel
theorem dX7_rank_73 : decode cX7_rank 73 = .ok (.ireturn, 1) := by decide +kernel
theorem dX7_settle_0 : decode cX7_settle 0 = .ok (.aload_n 0, 1) := by decide +kernel
theorem dX7_settle_1 : decode cX7_settle 1 = .ok (.getfield 151, 3) := by decide +kernel
theorem dX7_settle_4 : decode cX7_settle 4 = .ok (.ifCond .le 89, 3) := by decide +kernel
theorem dX7_settle_7 : decode cX7_settle 7 = .ok (.aload_n 0, 1) := by decide +kernel
theorem dX7_settle_8 : decode cX7_settle 8 = .ok (.getfield 29, 3) := by decide +kernel
theorem dX7_settle_11 : decode cX7_settle 11 = .ok (.aload_n 0, 1) := by decide +kernel
theorem dX7_settle_12 : decode cX7_settle 12 = .ok (.getfield 151, 3) := by decide +kernel
theorem dX7_settle_15 : decode cX7_settle 15 = .ok (.iconst 1, 1) := by decide +kernel
theorem dX7_settle_16 : decode cX7_settle 16 = .ok (.isub, 1) := by decide +kernel
theorem dX7_settle_17 : decode cX7_settle 17 = .ok (.iaload, 1) := by decide +kernel
theorem dX7_settle_18 : decode cX7_settle 18 = .ok (.invokestatic 154, 3) := by decide +kernel
theorem dX7_settle_21 : decode cX7_settle 21 = .ok (.iload_n 1, 1) := by decide +kernel
theorem dX7_settle_22 : decode cX7_settle 22 = .ok (.if_icmp .lt 71, 3) := by decide +kernel
theorem dX7_settle_25 : decode cX7_settle 25 = .ok (.aload_n 0, 1) := by decide +kernel
theorem dX7_settle_26 : decode cX7_settle 26 = .ok (.dup, 1) := by decide +kernel
theorem dX7_settle_27 : decode cX7_settle 27 = .ok (.getfield 151, 3) := by decide +kernel
theorem dX7_settle_30 : decode cX7_settle 30 = .ok (.iconst 1, 1) := by decide +kernel
theorem dX7_settle_31 : decode cX7_settle 31 = .ok (.isub, 1) := by decide +kernel
theorem dX7_settle_32 : decode cX7_settle 32 = .ok (.putfield 151, 3) := by decide +kernel
theorem dX7_settle_35 : decode cX7_settle 35 = .ok (.aload_n 0, 1) := by decide +kernel
theorem dX7_settle_36 : decode cX7_settle 36 = .ok (.aload_n 0, 1) := by decide +kernel
theorem dX7_settle_37 : decode cX7_settle 37 = .ok (.getfield 29, 3) := by decide +kernel
theorem dX7_settle_40 : decode cX7_settle 40 = .ok (.aload_n 0, 1) := by decide +kernel
theorem dX7_settle_41 : decode cX7_settle 41 = .ok (.getfield 151, 3) := by decide +kernel
theorem dX7_settle_44 : decode cX7_settle 44 = .ok (.iaload, 1) := by decide +kernel
theorem dX7_settle_45 : decode cX7_settle 45 = .ok (.iconst 0, 1) := by decide +kernel
theorem dX7_settle_46 : decode cX7_settle 46 = .ok (.invokevirtual 157, 3) := by decide +kernel
theorem dX7_settle_49 : decode cX7_settle 49 = .ok (.aload_n 0, 1) := by decide +kernel
theorem dX7_settle_50 : decode cX7_settle 50 = .ok (.getfield 29, 3) := by decide +kernel
theorem dX7_settle_53 : decode cX7_settle 53 = .ok (.aload_n 0, 1) := by decide +kernel
theorem dX7_settle_54 : decode cX7_settle 54 = .ok (.getfield 151, 3) := by decide +kernel
theorem dX7_settle_57 : decode cX7_settle 57 = .ok (.iaload, 1) := by decide +kernel
theorem dX7_settle_58 : decode cX7_settle 58 = .ok (.invokestatic 154, 3) := by decide +kernel
theorem dX7_settle_61 : decode cX7_settle 61 = .ok (.bipush 7, 2) := by decide +kernel
theorem dX7_settle_63 : decode cX7_settle 63 = .ok (.if_icmp .eq 17, 3) := by decide +kernel
theorem dX7_settle_66 : decode cX7_settle 66 = .ok (.aload_n 0, 1) := by decide +kernel
theorem dX7_settle_67 : decode cX7_settle 67 = .ok (.getfield 29, 3) := by decide +kernel
theorem dX7_settle_70 : decode cX7_settle 70 = .ok (.aload_n 0, 1) := by decide +kernel
theorem dX7_settle_71 : decode cX7_settle 71 = .ok (.getfield 151, 3) := by decide +kernel
theorem dX7_settle_74 : decode cX7_settle 74 = .ok (.iaload, 1) := by decide +kernel
theorem dX7_settle_75 : decode cX7_settle 75 = .ok (.bipush 20, 2) := by decide +kernel
theorem dX7_settle_77 : decode cX7_settle 77 = .ok (.if_icmp .ne (-77), 3) := by decide +kernel
theorem dX7_settle_80 : decode cX7_settle 80 = .ok (.aload_n 0, 1) := by decide +kernel
theorem dX7_settle_81 : decode cX7_settle 81 = .ok (.dup, 1) := by decide +kernel
theorem dX7_settle_82 : decode cX7_settle 82 = .ok (.getfield 161, 3) := by decide +kernel
theorem dX7_settle_85 : decode cX7_settle 85 = .ok (.iconst 1, 1) := by decide +kernel
theorem dX7_settle_86 : decode cX7_settle 86 = .ok (.isub, 1) := by decide +kernel
theorem dX7_settle_87 : decode cX7_settle 87 = .ok (.putfield 161, 3) := by decide +kernel
theorem dX7_settle_90 : decode cX7_settle 90 = .ok (.goto (-90), 3) := by decide +kernel
theorem dX7_settle_93 : decode cX7_settle 93 = .ok (.return_, 1) := by decide +kernel
theorem dX7_openAt_0 : decode cX7_openAt 0 = .ok (.aload_n 0, 1) := by decide +kernel
theorem dX7_openAt_1 : decode cX7_openAt 1 = .ok (.getfield 151, 3) := by decide +kernel
theorem dX7_openAt_4 : decode cX7_openAt 4 = .ok (.iconst 1, 1) := by decide +kernel
theorem dX7_openAt_5 : decode cX7_openAt 5 = .ok (.isub, 1) := by decide +kernel
theorem dX7_openAt_6 : decode cX7_openAt 6 = .ok (.istore_n 1, 1) := by decide +kernel
theorem dX7_openAt_7 : decode cX7_openAt 7 = .ok (.iload_n 1, 1) := by decide +kernel
theorem dX7_openAt_8 : decode cX7_openAt 8 = .ok (.ifCond .lt 20, 3) := by decide +kernel
theorem dX7_openAt_11 : decode cX7_openAt 11 = .ok (.aload_n 0, 1) := by decide +kernel
theorem dX7_openAt_12 : decode cX7_openAt 12 = .ok (.getfield 29, 3) := by decide +kernel
theorem dX7_openAt_15 : decode cX7_openAt 15 = .ok (.iload_n 1, 1) := by decide +kernel
theorem dX7_openAt_16 : decode cX7_openAt 16 = .ok (.iaload, 1) := by decide +kernel
theorem dX7_openAt_17 : decode cX7_openAt 17 = .ok (.bipush 40, 2) := by decide +kernel
theorem dX7_openAt_19 : decode cX7_openAt 19 = .ok (.if_icmp .ge 9, 3) := by decide +kernel
theorem dX7_openAt_22 : decode cX7_openAt 22 = .ok (.iinc 1 (-1), 3) := by decide +kernel
theorem dX7_openAt_25 : decode cX7_openAt 25 = .ok (.goto (-18), 3) := by decide +kernel
theorem dX7_openAt_28 : decode cX7_openAt 28 = .ok (.iload_n 1, 1) := by decide +kernel
theorem dX7_openAt_29 : decode cX7_openAt 29 = .ok (.ireturn, 1) := by decide +kernel
theorem dX7_openNow_0 : decode cX7_openNow 0 = .ok (.aload_n 0, 1) := by decide +kernel
theorem dX7_openNow_1 : decode cX7_openNow 1 = .ok (.invokevirtual 164, 3) := by decide +kernel
theorem dX7_openNow_4 : decode cX7_openNow 4 = .ok (.ifCond .ge 7, 3) := by decide +kernel
theorem dX7_openNow_7 : decode cX7_openNow 7 = .ok (.iconst (-1), 1) := by decide +kernel
theorem dX7_openNow_8 : decode cX7_openNow 8 = .ok (.goto 12, 3) := by decide +kernel
theorem dX7_openNow_11 : decode cX7_openNow 11 = .ok (.aload_n 0, 1) := by decide +kernel
theorem dX7_openNow_12 : decode cX7_openNow 12 = .ok (.getfield 29, 3) := by decide +kernel
theorem dX7_openNow_15 : decode cX7_openNow 15 = .ok (.aload_n 0, 1) := by decide +kernel
theorem dX7_openNow_16 : decode cX7_openNow 16 = .ok (.invokevirtual 164, 3) := by decide +kernel
theorem dX7_openNow_19 : decode cX7_openNow 19 = .ok (.iaload, 1) := by decide +kernel
theorem dX7_openNow_20 : decode cX7_openNow 20 = .ok (.ireturn, 1) := by decide +kernel
theorem dX7_isCompared_0 : decode cX7_isCompared 0 = .ok (.aload_n 0, 1) := by decide +kernel
theorem dX7_isCompared_1 : decode cX7_isCompared 1 = .ok (.getfield 151, 3) := by decide +kernel
theorem dX7_isCompared_4 : decode cX7_isCompared 4 = .ok (.iconst 1, 1) := by decide +kernel
theorem dX7_isCompared_5 : decode cX7_isCompared 5 = .ok (.isub, 1) := by decide +kernel
theorem dX7_isCompared_6 : decode cX7_isCompared 6 = .ok (.istore_n 1, 1) := by decide +kernel
theorem dX7_isCompared_7 : decode cX7_isCompared 7 = .ok (.iload_n 1, 1) := by decide +kernel
theorem dX7_isCompared_8 : decode cX7_isCompared 8 = .ok (.ifCond .lt 22, 3) := by decide +kernel
theorem dX7_isCompared_11 : decode cX7_isCompared 11 = .ok (.aload_n 0, 1) := by decide +kernel
theorem dX7_isCompared_12 : decode cX7_isCompared 12 = .ok (.getfield 29, 3) := by decide +kernel
theorem dX7_isCompared_15 : decode cX7_isCompared 15 = .ok (.iload_n 1, 1) := by decide +kernel
theorem dX7_isCompared_16 : decode cX7_isCompared 16 = .ok (.iaload, 1) := by decide +kernel
theorem dX7_isCompared_17 : decode cX7_isCompared 17 = .ok (.invokestatic 154, 3) := by decide +kernel
theorem dX7_isCompared_20 : decode cX7_isCompared 20 = .ok (.iconst 4, 1) := by decide +kernel
theorem dX7_isCompared_21 : decode cX7_isCompared 21 = .ok (.if_icmp .le 9, 3) := by decide +kernel
theorem dX7_isCompared_24 : decode cX7_isCompared 24 = .ok (.iinc 1 (-1), 3) := by decide +kernel
theorem dX7_isCompared_27 : decode cX7_isCompared 27 = .ok (.goto (-20), 3) := by decide +kernel
theorem dX7_isCompared_30 : decode cX7_isCompared 30 = .ok (.iload_n 1, 1) := by decide +kernel
theorem dX7_isCompared_31 : decode cX7_isCompared 31 = .ok (.ifCond .lt 20, 3) := by decide +kernel
theorem dX7_isCompared_34 : decode cX7_isCompared 34 = .ok (.aload_n 0, 1) := by decide +kernel
theorem dX7_isCompared_35 : decode cX7_isCompared 35 = .ok (.getfield 29, 3) := by decide +kernel
theorem dX7_isCompared_38 : decode cX7_isCompared 38 = .ok (.iload_n 1, 1) := by decide +kernel
theorem dX7_isCompared_39 : decode cX7_isCompared 39 = .ok (.iaload, 1) := by decide +kernel
theorem dX7_isCompared_40 : decode cX7_isCompared 40 = .ok (.invokestatic 154, 3) := by decide +kernel
theorem dX7_isCompared_43 : decode cX7_isCompared 43 = .ok (.iconst 4, 1) := by decide +kernel
theorem dX7_isCompared_44 : decode cX7_isCompared 44 = .ok (.if_icmp .ne 7, 3) := by decide +kernel
theorem dX7_isCompared_47 : decode cX7_isCompared 47 = .ok (.iconst 1, 1) := by decide +kernel
theorem dX7_isCompared_48 : decode cX7_isCompared 48 = .ok (.goto 4, 3) := by decide +kernel
theorem dX7_isCompared_51 : decode cX7_isCompared 51 = .ok (.iconst 0, 1) := by decide +kernel
theorem dX7_isCompared_52 : decode cX7_isCompared 52 = .ok (.ireturn, 1) := by decide +kernel
theorem dX7_isAskAhead_0 : decode cX7_isAskAhead 0 = .ok (.aload_n 0, 1) := by decide +kernel
theorem dX7_isAskAhead_1 : decode cX7_isAskAhead 1 = .ok (.invokevirtual 168, 3) := by decide +kernel
theorem dX7_isAskAhead_4 : decode cX7_isAskAhead 4 = .ok (.bipush 41, 2) := by decide +kernel
theorem dX7_isAskAhead_6 : decode cX7_isAskAhead 6 = .ok (.if_icmp .ne 45, 3) := by decide +kernel
theorem dX7_isAskAhead_9 : decode cX7_isAskAhead 9 = .ok (.aload_n 0, 1) := by decide +kernel
theorem dX7_isAskAhead_10 : decode cX7_isAskAhead 10 = .ok (.getfield 29, 3) := by decide +kernel
theorem dX7_isAskAhead_13 : decode cX7_isAskAhead 13 = .ok (.aload_n 0, 1) := by decide +kernel
theorem dX7_isAskAhead_14 : decode cX7_isAskAhead 14 = .ok (.getfield 151, 3) := by decide +kernel
theorem dX7_isAskAhead_17 : decode cX7_isAskAhead 17 = .ok (.iconst 1, 1) := by decide +kernel
theorem dX7_isAskAhead_18 : decode cX7_isAskAhead 18 = .ok (.isub, 1) := by decide +kernel
theorem dX7_isAskAhead_19 : decode cX7_isAskAhead 19 = .ok (.iaload, 1) := by decide +kernel
theorem dX7_isAskAhead_20 : decode cX7_isAskAhead 20 = .ok (.bipush 40, 2) := by decide +kernel
theorem dX7_isAskAhead_22 : decode cX7_isAskAhead 22 = .ok (.if_icmp .ge 25, 3) := by decide +kernel
theorem dX7_isAskAhead_25 : decode cX7_isAskAhead 25 = .ok (.aload_n 0, 1) := by decide +kernel
theorem dX7_isAskAhead_26 : decode cX7_isAskAhead 26 = .ok (.getfield 29, 3) := by decide +kernel
theorem dX7_isAskAhead_29 : decode cX7_isAskAhead 29 = .ok (.aload_n 0, 1) := by decide +kernel
theorem dX7_isAskAhead_30 : decode cX7_isAskAhead 30 = .ok (.getfield 151, 3) := by decide +kernel
theorem dX7_isAskAhead_33 : decode cX7_isAskAhead 33 = .ok (.iconst 1, 1) := by decide +kernel
theorem dX7_isAskAhead_34 : decode cX7_isAskAhead 34 = .ok (.isub, 1) := by decide +kernel
theorem dX7_isAskAhead_35 : decode cX7_isAskAhead 35 = .ok (.iaload, 1) := by decide +kernel
theorem dX7_isAskAhead_36 : decode cX7_isAskAhead 36 = .ok (.invokestatic 154, 3) := by decide +kernel
theorem dX7_isAskAhead_39 : decode cX7_isAskAhead 39 = .ok (.iconst 1, 1) := by decide +kernel
theorem dX7_isAskAhead_40 : decode cX7_isAskAhead 40 = .ok (.iconst 3, 1) := by decide +kernel
theorem dX7_isAskAhead_41 : decode cX7_isAskAhead 41 = .ok (.invokestatic 63, 3) := by decide +kernel
theorem dX7_isAskAhead_44 : decode cX7_isAskAhead 44 = .ok (.ifCond .eq 7, 3) := by decide +kernel
theorem dX7_isAskAhead_47 : decode cX7_isAskAhead 47 = .ok (.iconst 1, 1) := by decide +kernel
theorem dX7_isAskAhead_48 : decode cX7_isAskAhead 48 = .ok (.goto 4, 3) := by decide +kernel
theorem dX7_isAskAhead_51 : decode cX7_isAskAhead 51 = .ok (.iconst 0, 1) := by decide +kernel
theorem dX7_isAskAhead_52 : decode cX7_isAskAhead 52 = .ok (.ireturn, 1) := by decide +kernel
theorem dX7_opened_0 : decode cX7_opened 0 = .ok (.aload_n 0, 1) := by decide +kernel
theorem dX7_opened_1 : decode cX7_opened 1 = .ok (.getfield 161, 3) := by decide +kernel
theorem dX7_opened_4 : decode cX7_opened 4 = .ok (.bipush 8, 2) := by decide +kernel
theorem dX7_opened_6 : decode cX7_opened 6 = .ok (.if_icmp .ne 5, 3) := by decide +kernel
theorem dX7_opened_9 : decode cX7_opened 9 = .ok (.iconst 3, 1) := by decide +kernel
theorem dX7_opened_10 : decode cX7_opened 10 = .ok (.ireturn, 1) := by decide +kernel
theorem dX7_opened_11 : decode cX7_opened 11 = .ok (.aload_n 0, 1) := by decide +kernel
theorem dX7_opened_12 : decode cX7_opened 12 = .ok (.dup, 1) := by decide +kernel
theorem dX7_opened_13 : decode cX7_opened 13 = .ok (.getfield 161, 3) := by decide +kernel
theorem dX7_opened_16 : decode cX7_opened 16 = .ok (.iconst 1, 1) := by decide +kernel
theorem dX7_opened_17 : decode cX7_opened 17 = .ok (.iadd, 1) := by decide +kernel
theorem dX7_opened_18 : decode cX7_opened 18 = .ok (.putfield 161, 3) := by decide +kernel
theorem dX7_opened_21 : decode cX7_opened 21 = .ok (.aload_n 0, 1) := by decide +kernel
theorem dX7_opened_22 : decode cX7_opened 22 = .ok (.getfield 29, 3) := by decide +kernel
theorem dX7_opened_25 : decode cX7_opened 25 = .ok (.aload_n 0, 1) := by decide +kernel
theorem dX7_opened_26 : decode cX7_opened 26 = .ok (.getfield 151, 3) := by decide +kernel
theorem dX7_opened_29 : decode cX7_opened 29 = .ok (.iload_n 1, 1) := by decide +kernel
theorem dX7_opened_30 : decode cX7_opened 30 = .ok (.iastore, 1) := by decide +kernel
theorem dX7_opened_31 : decode cX7_opened 31 = .ok (.aload_n 0, 1) := by decide +kernel
theorem dX7_opened_32 : decode cX7_opened 32 = .ok (.dup, 1) := by decide +kernel
theorem dX7_opened_33 : decode cX7_opened 33 = .ok (.getfield 151, 3) := by decide +kernel
theorem dX7_opened_36 : decode cX7_opened 36 = .ok (.iconst 1, 1) := by decide +kernel
theorem dX7_opened_37 : decode cX7_opened 37 = .ok (.iadd, 1) := by decide +kernel
theorem dX7_opened_38 : decode cX7_opened 38 = .ok (.putfield 151, 3) := by decide +kernel
theorem dX7_opened_41 : decode cX7_opened 41 = .ok (.aload_n 0, 1) := by decide +kernel
theorem dX7_opened_42 : decode cX7_opened 42 = .ok (.invokevirtual 171, 3) := by decide +kernel
theorem dX7_opened_45 : decode cX7_opened 45 = .ok (.iconst 0, 1) := by decide +kernel
theorem dX7_opened_46 : decode cX7_opened 46 = .ok (.ireturn, 1) := by decide +kernel
theorem dX7_beginOne_0 : decode cX7_beginOne 0 = .ok (.aload_n 0, 1) := by decide +kernel
theorem dX7_beginOne_1 : decode cX7_beginOne 1 = .ok (.getfield 104, 3) := by decide +kernel
theorem dX7_beginOne_4 : decode cX7_beginOne 4 = .ok (.iconst 1, 1) := by decide +kernel
theorem dX7_beginOne_5 : decode cX7_beginOne 5 = .ok (.if_icmp .ne 15, 3) := by decide +kernel
theorem dX7_beginOne_8 : decode cX7_beginOne 8 = .ok (.aload_n 0, 1) := by decide +kernel
theorem dX7_beginOne_9 : decode cX7_beginOne 9 = .ok (.getfield 110, 3) := by decide +kernel
theorem dX7_beginOne_12 : decode cX7_beginOne 12 = .ok (.sipush 9999, 3) := by decide +kernel
theorem dX7_beginOne_15 : decode cX7_beginOne 15 = .ok (.if_icmp .le 5, 3) := by decide +kernel
theorem dX7_beginOne_18 : decode cX7_beginOne 18 = .ok (.iconst 2, 1) := by decide +kernel
theorem dX7_beginOne_19 : decode cX7_beginOne 19 = .ok (.ireturn, 1) := by decide +kernel
theorem dX7_beginOne_20 : decode cX7_beginOne 20 = .ok (.aload_n 0, 1) := by decide +kernel
theorem dX7_beginOne_21 : decode cX7_beginOne 21 = .ok (.invokevirtual 174, 3) := by decide +kernel
theorem dX7_beginOne_24 : decode cX7_beginOne 24 = .ok (.istore_n 1, 1) := by decide +kernel
theorem dX7_beginOne_25 : decode cX7_beginOne 25 = .ok (.iload_n 1, 1) := by decide +kernel
theorem dX7_beginOne_26 : decode cX7_beginOne 26 = .ok (.ifCond .lt 13, 3) := by decide +kernel
theorem dX7_beginOne_29 : decode cX7_beginOne 29 = .ok (.aload_n 0, 1) := by decide +kernel
theorem dX7_beginOne_30 : decode cX7_beginOne 30 = .ok (.iload_n 1, 1) := by decide +kernel
theorem dX7_beginOne_31 : decode cX7_beginOne 31 = .ok (.invokevirtual 177, 3) := by decide +kernel
theorem dX7_beginOne_34 : decode cX7_beginOne 34 = .ok (.ifCond .ne 5, 3) := by decide +kernel
theorem dX7_beginOne_37 : decode cX7_beginOne 37 = .ok (.iconst 5, 1) := by decide +kernel
theorem dX7_beginOne_38 : decode cX7_beginOne 38 = .ok (.ireturn, 1) := by decide +kernel
theorem dX7_beginOne_39 : decode cX7_beginOne 39 = .ok (.aload_n 0, 1) := by decide +kernel
theorem dX7_beginOne_40 : decode cX7_beginOne 40 = .ok (.getfield 104, 3) := by decide +kernel
theorem dX7_beginOne_43 : decode cX7_beginOne 43 = .ok (.iconst 1, 1) := by decide +kernel
theorem dX7_beginOne_44 : decode cX7_beginOne 44 = .ok (.if_icmp .eq 7, 3) := by decide +kernel
theorem dX7_beginOne_47 : decode cX7_beginOne 47 = .ok (.iload_n 1, 1) := by decide +kernel
theorem dX7_beginOne_48 : decode cX7_beginOne 48 = .ok (.ifCond .lt 53, 3) := by decide +kernel
theorem dX7_beginOne_51 : decode cX7_beginOne 51 = .ok (.aload_n 0, 1) := by decide +kernel
theorem dX7_beginOne_52 : decode cX7_beginOne 52 = .ok (.aload_n 0, 1) := by decide +kernel
theorem dX7_beginOne_53 : decode cX7_beginOne 53 = .ok (.getfield 104, 3) := by decide +kernel
theorem dX7_beginOne_56 : decode cX7_beginOne 56 = .ok (.iconst 1, 1) := by decide +kernel
theorem dX7_beginOne_57 : decode cX7_beginOne 57 = .ok (.if_icmp .ne 7, 3) := by decide +kernel
theorem dX7_beginOne_60 : decode cX7_beginOne 60 = .ok (.iconst 0, 1) := by decide +kernel
theorem dX7_beginOne_61 : decode cX7_beginOne 61 = .ok (.goto 4, 3) := by decide +kernel
theorem dX7_beginOne_64 : decode cX7_beginOne 64 = .ok (.iconst 1, 1) := by decide +kernel
theorem dX7_beginOne_65 : decode cX7_beginOne 65 = .ok (.aload_n 0, 1) := by decide +kernel
theorem dX7_beginOne_66 : decode cX7_beginOne 66 = .ok (.getfield 104, 3) := by decide +kernel
theorem dX7_beginOne_69 : decode cX7_beginOne 69 = .ok (.iconst 1, 1) := by decide +kernel
theorem dX7_beginOne_70 : decode cX7_beginOne 70 = .ok (.if_icmp .ne 10, 3) := by decide +kernel
theorem dX7_beginOne_73 : decode cX7_beginOne 73 = .ok (.aload_n 0, 1) := by decide +kernel
theorem dX7_beginOne_74 : decode cX7_beginOne 74 = .ok (.getfield 110, 3) := by decide +kernel
theorem dX7_beginOne_77 : decode cX7_beginOne 77 = .ok (.goto 4, 3) := by decide +kernel
theorem dX7_beginOne_80 : decode cX7_beginOne 80 = .ok (.iload_n 1, 1) := by decide +kernel
theorem dX7_beginOne_81 : decode cX7_beginOne 81 = .ok (.invokevirtual 157, 3) := by decide +kernel
theorem dX7_beginOne_84 : decode cX7_beginOne 84 = .ok (.aload_n 0, 1) := by decide +kernel
theorem dX7_beginOne_85 : decode cX7_beginOne 85 = .ok (.invokevirtual 171, 3) := by decide +kernel
theorem dX7_beginOne_88 : decode cX7_beginOne 88 = .ok (.aload_n 0, 1) := by decide +kernel
theorem dX7_beginOne_89 : decode cX7_beginOne 89 = .ok (.iconst 1, 1) := by decide +kernel
theorem dX7_beginOne_90 : decode cX7_beginOne 90 = .ok (.putfield 180, 3) := by decide +kernel
theorem dX7_beginOne_93 : decode cX7_beginOne 93 = .ok (.aload_n 0, 1) := by decide +kernel
theorem dX7_beginOne_94 : decode cX7_beginOne 94 = .ok (.bipush 7, 2) := by decide +kernel
theorem dX7_beginOne_96 : decode cX7_beginOne 96 = .ok (.invokevirtual 183, 3) := by decide +kernel
theorem dX7_beginOne_99 : decode cX7_beginOne 99 = .ok (.iconst 0, 1) := by decide +kernel
theorem dX7_beginOne_100 : decode cX7_beginOne 100 = .ok (.ireturn, 1) := by decide +kernel
theorem dX7_beginOne_101 : decode cX7_beginOne 101 = .ok (.aload_n 0, 1) := by decide +kernel
theorem dX7_beginOne_102 : decode cX7_beginOne 102 = .ok (.getfield 104, 3) := by decide +kernel
theorem dX7_beginOne_105 : decode cX7_beginOne 105 = .ok (.bipush 40, 2) := by decide +kernel
theorem dX7_beginOne_107 : decode cX7_beginOne 107 = .ok (.if_icmp .ne 10, 3) := by decide +kernel
theorem dX7_beginOne_110 : decode cX7_beginOne 110 = .ok (.aload_n 0, 1) := by decide +kernel
theorem dX7_beginOne_111 : decode cX7_beginOne 111 = .ok (.bipush 40, 2) := by decide +kernel
theorem dX7_beginOne_113 : decode cX7_beginOne 113 = .ok (.invokevirtual 186, 3) := by decide +kernel
theorem dX7_beginOne_116 : decode cX7_beginOne 116 = .ok (.ireturn, 1) := by decide +kernel
theorem dX7_beginOne_117 : decode cX7_beginOne 117 = .ok (.aload_n 0, 1) := by decide +kernel
theorem dX7_beginOne_118 : decode cX7_beginOne 118 = .ok (.getfield 104, 3) := by decide +kernel
theorem dX7_beginOne_121 : decode cX7_beginOne 121 = .ok (.bipush 45, 2) := by decide +kernel
theorem dX7_beginOne_123 : decode cX7_beginOne 123 = .ok (.if_icmp .ne 9, 3) := by decide +kernel
theorem dX7_beginOne_126 : decode cX7_beginOne 126 = .ok (.aload_n 0, 1) := by decide +kernel
theorem dX7_beginOne_127 : decode cX7_beginOne 127 = .ok (.iconst 5, 1) := by decide +kernel
theorem dX7_beginOne_128 : decode cX7_beginOne 128 = .ok (.invokevirtual 186, 3) := by decide +kernel
theorem dX7_beginOne_131 : decode cX7_beginOne 131 = .ok (.ireturn, 1) := by decide +kernel
theorem dX7_beginOne_132 : decode cX7_beginOne 132 = .ok (.aload_n 0, 1) := by decide +kernel
theorem dX7_beginOne_133 : decode cX7_beginOne 133 = .ok (.bipush 119, 2) := by decide +kernel
theorem dX7_beginOne_135 : decode cX7_beginOne 135 = .ok (.bipush 111, 2) := by decide +kernel
theorem dX7_beginOne_137 : decode cX7_beginOne 137 = .ok (.bipush 114, 2) := by decide +kernel
theorem dX7_beginOne_139 : decode cX7_beginOne 139 = .ok (.bipush 116, 2) := by decide +kernel
theorem dX7_beginOne_141 : decode cX7_beginOne 141 = .ok (.bipush 104, 2) := by decide +kernel
theorem dX7_beginOne_143 : decode cX7_beginOne 143 = .ok (.invokestatic 138, 3) := by decide +kernel
theorem dX7_beginOne_146 : decode cX7_beginOne 146 = .ok (.invokevirtual 189, 3) := by decide +kernel
theorem dX7_beginOne_149 : decode cX7_beginOne 149 = .ok (.ifCond .eq 9, 3) := by decide +kernel
theorem dX7_beginOne_152 : decode cX7_beginOne 152 = .ok (.aload_n 0, 1) := by decide +kernel
theorem dX7_beginOne_153 : decode cX7_beginOne 153 = .ok (.iconst 2, 1) := by decide +kernel
theorem dX7_beginOne_154 : decode cX7_beginOne 154 = .ok (.invokevirtual 186, 3) := by decide +kernel
theorem dX7_beginOne_157 : decode cX7_beginOne 157 = .ok (.ireturn, 1) := by decide +kernel
theorem dX7_beginOne_158 : decode cX7_beginOne 158 = .ok (.aload_n 0, 1) := by decide +kernel
theorem dX7_beginOne_159 : decode cX7_beginOne 159 = .ok (.bipush 112, 2) := by decide +kernel
theorem dX7_beginOne_161 : decode cX7_beginOne 161 = .ok (.bipush 117, 2) := by decide +kernel
theorem dX7_beginOne_163 : decode cX7_beginOne 163 = .ok (.bipush 114, 2) := by decide +kernel
theorem dX7_beginOne_165 : decode cX7_beginOne 165 = .ok (.bipush 115, 2) := by decide +kernel
theorem dX7_beginOne_167 : decode cX7_beginOne 167 = .ok (.bipush 101, 2) := by decide +kernel
theorem dX7_beginOne_169 : decode cX7_beginOne 169 = .ok (.invokestatic 138, 3) := by decide +kernel
theorem dX7_beginOne_172 : decode cX7_beginOne 172 = .ok (.invokevirtual 189, 3) := by decide +kernel
theorem dX7_beginOne_175 : decode cX7_beginOne 175 = .ok (.ifCond .eq 9, 3) := by decide +kernel
theorem dX7_beginOne_178 : decode cX7_beginOne 178 = .ok (.aload_n 0, 1) := by decide +kernel
theorem dX7_beginOne_179 : decode cX7_beginOne 179 = .ok (.iconst 4, 1) := by decide +kernel
theorem dX7_beginOne_180 : decode cX7_beginOne 180 = .ok (.invokevirtual 186, 3) := by decide +kernel
theorem dX7_beginOne_183 : decode cX7_beginOne 183 = .ok (.ireturn, 1) := by decide +kernel
theorem dX7_beginOne_184 : decode cX7_beginOne 184 = .ok (.aload_n 0, 1) := by decide +kernel
theorem dX7_beginOne_185 : decode cX7_beginOne 185 = .ok (.bipush 105, 2) := by decide +kernel
theorem dX7_beginOne_187 : decode cX7_beginOne 187 = .ok (.bipush 102, 2) := by decide +kernel
theorem dX7_beginOne_189 : decode cX7_beginOne 189 = .ok (.invokestatic 126, 3) := by decide +kernel
theorem dX7_beginOne_192 : decode cX7_beginOne 192 = .ok (.invokevirtual 189, 3) := by decide +kernel
theorem dX7_beginOne_195 : decode cX7_beginOne 195 = .ok (.ifCond .eq 10, 3) := by decide +kernel
theorem dX7_beginOne_198 : decode cX7_beginOne 198 = .ok (.aload_n 0, 1) := by decide +kernel
theorem dX7_beginOne_199 : decode cX7_beginOne 199 = .ok (.bipush 41, 2) := by decide +kernel
theorem dX7_beginOne_201 : decode cX7_beginOne 201 = .ok (.invokevirtual 186, 3) := by decide +kernel
theorem dX7_beginOne_204 : decode cX7_beginOne 204 = .ok (.ireturn, 1) := by decide +kernel
theorem dX7_beginOne_205 : decode cX7_beginOne 205 = .ok (.aload_n 0, 1) := by decide +kernel
theorem dX7_beginOne_206 : decode cX7_beginOne 206 = .ok (.bipush 110, 2) := by decide +kernel
theorem dX7_beginOne_208 : decode cX7_beginOne 208 = .ok (.bipush 111, 2) := by decide +kernel
theorem dX7_beginOne_210 : decode cX7_beginOne 210 = .ok (.bipush 116, 2) := by decide +kernel
theorem dX7_beginOne_212 : decode cX7_beginOne 212 = .ok (.invokestatic 130, 3) := by decide +kernel
theorem dX7_beginOne_215 : decode cX7_beginOne 215 = .ok (.invokevirtual 189, 3) := by decide +kernel
theorem dX7_beginOne_218 : decode cX7_beginOne 218 = .ok (.ifCond .eq 19, 3) := by decide +kernel
theorem dX7_beginOne_221 : decode cX7_beginOne 221 = .ok (.aload_n 0, 1) := by decide +kernel
theorem dX7_beginOne_222 : decode cX7_beginOne 222 = .ok (.invokevirtual 193, 3) := by decide +kernel
theorem dX7_beginOne_225 : decode cX7_beginOne 225 = .ok (.ifCond .eq 12, 3) := by decide +kernel
theorem dX7_beginOne_228 : decode cX7_beginOne 228 = .ok (.aload_n 0, 1) := by decide +kernel
theorem dX7_beginOne_229 : decode cX7_beginOne 229 = .ok (.bipush 20, 2) := by decide +kernel
theorem dX7_beginOne_231 : decode cX7_beginOne 231 = .ok (.invokevirtual 186, 3) := by decide +kernel
theorem dX7_beginOne_234 : decode cX7_beginOne 234 = .ok (.goto 4, 3) := by decide +kernel
theorem dX7_beginOne_237 : decode cX7_beginOne 237 = .ok (.iconst 1, 1) := by decide +kernel
theorem dX7_beginOne_238 : decode cX7_beginOne 238 = .ok (.ireturn, 1) := by decide +kernel
theorem dX7_compareOf_0 : decode cX7_compareOf 0 = .ok (.aload_n 0, 1) := by decide +kernel
theorem dX7_compareOf_1 : decode cX7_compareOf 1 = .ok (.getfield 104, 3) := by decide +kernel
theorem dX7_compareOf_4 : decode cX7_compareOf 4 = .ok (.bipush 60, 2) := by decide +kernel
theorem dX7_compareOf_6 : decode cX7_compareOf 6 = .ok (.if_icmp .ne 8, 3) := by decide +kernel
theorem dX7_compareOf_9 : decode cX7_compareOf 9 = .ok (.bipush 10, 2) := by decide +kernel
theorem dX7_compareOf_11 : decode cX7_compareOf 11 = .ok (.goto 72, 3) := by decide +kernel
theorem dX7_compareOf_14 : decode cX7_compareOf 14 = .ok (.aload_n 0, 1) := by decide +kernel
theorem dX7_compareOf_15 : decode cX7_compareOf 15 = .ok (.getfield 104, 3) := by decide +kernel
theorem dX7_compareOf_18 : decode cX7_compareOf 18 = .ok (.iconst 4, 1) := by decide +kernel
theorem dX7_compareOf_19 : decode cX7_compareOf 19 = .ok (.if_icmp .ne 8, 3) := by decide +kernel
theorem dX7_compareOf_22 : decode cX7_compareOf 22 = .ok (.bipush 11, 2) := by decide +kernel
theorem dX7_compareOf_24 : decode cX7_compareOf 24 = .ok (.goto 59, 3) := by decide +kernel
theorem dX7_compareOf_27 : decode cX7_compareOf 27 = .ok (.aload_n 0, 1) := by decide +kernel
theorem dX7_compareOf_28 : decode cX7_compareOf 28 = .ok (.getfield 104, 3) := by decide +kernel
theorem dX7_compareOf_31 : decode cX7_compareOf 31 = .ok (.bipush 62, 2) := by decide +kernel
theorem dX7_compareOf_33 : decode cX7_compareOf 33 = .ok (.if_icmp .ne 8, 3) := by decide +kernel
theorem dX7_compareOf_36 : decode cX7_compareOf 36 = .ok (.bipush 12, 2) := by decide +kernel
theorem dX7_compareOf_38 : decode cX7_compareOf 38 = .ok (.goto 45, 3) := by decide +kernel
theorem dX7_compareOf_41 : decode cX7_compareOf 41 = .ok (.aload_n 0, 1) := by decide +kernel
theorem dX7_compareOf_42 : decode cX7_compareOf 42 = .ok (.getfield 104, 3) := by decide +kernel
theorem dX7_compareOf_45 : decode cX7_compareOf 45 = .ok (.iconst 5, 1) := by decide +kernel
theorem dX7_compareOf_46 : decode cX7_compareOf 46 = .ok (.if_icmp .ne 8, 3) := by decide +kernel
theorem dX7_compareOf_49 : decode cX7_compareOf 49 = .ok (.bipush 13, 2) := by decide +kernel
theorem dX7_compareOf_51 : decode cX7_compareOf 51 = .ok (.goto 32, 3) := by decide +kernel
theorem dX7_compareOf_54 : decode cX7_compareOf 54 = .ok (.aload_n 0, 1) := by decide +kernel
theorem dX7_compareOf_55 : decode cX7_compareOf 55 = .ok (.getfield 104, 3) := by decide +kernel
theorem dX7_compareOf_58 : decode cX7_compareOf 58 = .ok (.bipush 61, 2) := by decide +kernel
theorem dX7_compareOf_60 : decode cX7_compareOf 60 = .ok (.if_icmp .ne 8, 3) := by decide +kernel
theorem dX7_compareOf_63 : decode cX7_compareOf 63 = .ok (.bipush 14, 2) := by decide +kernel
theorem dX7_compareOf_65 : decode cX7_compareOf 65 = .ok (.goto 18, 3) := by decide +kernel
theorem dX7_compareOf_68 : decode cX7_compareOf 68 = .ok (.aload_n 0, 1) := by decide +kernel
theorem dX7_compareOf_69 : decode cX7_compareOf 69 = .ok (.getfield 104, 3) := by decide +kernel
theorem dX7_compareOf_72 : decode cX7_compareOf 72 = .ok (.bipush 35, 2) := by decide +kernel
theorem dX7_compareOf_74 : decode cX7_compareOf 74 = .ok (.if_icmp .ne 8, 3) := by decide +kernel
theorem dX7_compareOf_77 : decode cX7_compareOf 77 = .ok (.bipush 15, 2) := by decide +kernel
theorem dX7_compareOf_79 : decode cX7_compareOf 79 = .ok (.goto 4, 3) := by decide +kernel
theorem dX7_compareOf_82 : decode cX7_compareOf 82 = .ok (.iconst (-1), 1) := by decide +kernel
theorem dX7_compareOf_83 : decode cX7_compareOf 83 = .ok (.ireturn, 1) := by decide +kernel
theorem dX7_betweenOf_0 : decode cX7_betweenOf 0 = .ok (.aload_n 0, 1) := by decide +kernel
theorem dX7_betweenOf_1 : decode cX7_betweenOf 1 = .ok (.getfield 104, 3) := by decide +kernel
theorem dX7_betweenOf_4 : decode cX7_betweenOf 4 = .ok (.bipush 43, 2) := by decide +kernel
theorem dX7_betweenOf_6 : decode cX7_betweenOf 6 = .ok (.if_icmp .ne 6, 3) := by decide +kernel
theorem dX7_betweenOf_9 : decode cX7_betweenOf 9 = .ok (.bipush 6, 2) := by decide +kernel
theorem dX7_betweenOf_11 : decode cX7_betweenOf 11 = .ok (.ireturn, 1) := by decide +kernel
theorem dX7_betweenOf_12 : decode cX7_betweenOf 12 = .ok (.aload_n 0, 1) := by decide +kernel
theorem dX7_betweenOf_13 : decode cX7_betweenOf 13 = .ok (.getfield 104, 3) := by decide +kernel
theorem dX7_betweenOf_16 : decode cX7_betweenOf 16 = .ok (.bipush 45, 2) := by decide +kernel
theorem dX7_betweenOf_18 : decode cX7_betweenOf 18 = .ok (.if_icmp .ne 6, 3) := by decide +kernel
theorem dX7_betweenOf_21 : decode cX7_betweenOf 21 = .ok (.bipush 7, 2) := by decide +kernel
theorem dX7_betweenOf_23 : decode cX7_betweenOf 23 = .ok (.ireturn, 1) := by decide +kernel
theorem dX7_betweenOf_24 : decode cX7_betweenOf 24 = .ok (.aload_n 0, 1) := by decide +kernel
theorem dX7_betweenOf_25 : decode cX7_betweenOf 25 = .ok (.getfield 104, 3) := by decide +kernel
theorem dX7_betweenOf_28 : decode cX7_betweenOf 28 = .ok (.bipush 42, 2) := by decide +kernel
theorem dX7_betweenOf_30 : decode cX7_betweenOf 30 = .ok (.if_icmp .ne 6, 3) := by decide +kernel
theorem dX7_betweenOf_33 : decode cX7_betweenOf 33 = .ok (.bipush 8, 2) := by decide +kernel
theorem dX7_betweenOf_35 : decode cX7_betweenOf 35 = .ok (.ireturn, 1) := by decide +kernel
theorem dX7_betweenOf_36 : decode cX7_betweenOf 36 = .ok (.aload_n 0, 1) := by decide +kernel
theorem dX7_betweenOf_37 : decode cX7_betweenOf 37 = .ok (.getfield 104, 3) := by decide +kernel
theorem dX7_betweenOf_40 : decode cX7_betweenOf 40 = .ok (.bipush 47, 2) := by decide +kernel
theorem dX7_betweenOf_42 : decode cX7_betweenOf 42 = .ok (.if_icmp .ne 6, 3) := by decide +kernel
theorem dX7_betweenOf_45 : decode cX7_betweenOf 45 = .ok (.bipush 9, 2) := by decide +kernel
theorem dX7_betweenOf_47 : decode cX7_betweenOf 47 = .ok (.ireturn, 1) := by decide +kernel
theorem dX7_betweenOf_48 : decode cX7_betweenOf 48 = .ok (.aload_n 0, 1) := by decide +kernel
theorem dX7_betweenOf_49 : decode cX7_betweenOf 49 = .ok (.invokevirtual 168, 3) := by decide +kernel
theorem dX7_betweenOf_52 : decode cX7_betweenOf 52 = .ok (.bipush 41, 2) := by decide +kernel
theorem dX7_betweenOf_54 : decode cX7_betweenOf 54 = .ok (.if_icmp .eq 5, 3) := by decide +kernel
theorem dX7_betweenOf_57 : decode cX7_betweenOf 57 = .ok (.iconst (-1), 1) := by decide +kernel
theorem dX7_betweenOf_58 : decode cX7_betweenOf 58 = .ok (.ireturn, 1) := by decide +kernel
theorem dX7_betweenOf_59 : decode cX7_betweenOf 59 = .ok (.aload_n 0, 1) := by decide +kernel
theorem dX7_betweenOf_60 : decode cX7_betweenOf 60 = .ok (.invokevirtual 197, 3) := by decide +kernel
theorem dX7_betweenOf_63 : decode cX7_betweenOf 63 = .ok (.ifCond .ne 8, 3) := by decide +kernel
theorem dX7_betweenOf_66 : decode cX7_betweenOf 66 = .ok (.aload_n 0, 1) := by decide +kernel
theorem dX7_betweenOf_67 : decode cX7_betweenOf 67 = .ok (.invokevirtual 200, 3) := by decide +kernel
theorem dX7_betweenOf_70 : decode cX7_betweenOf 70 = .ok (.ireturn, 1) := by decide +kernel
theorem dX7_betweenOf_71 : decode cX7_betweenOf 71 = .ok (.aload_n 0, 1) := by decide +kernel
theorem dX7_betweenOf_72 : decode cX7_betweenOf 72 = .ok (.bipush 97, 2) := by decide +kernel
theorem dX7_betweenOf_74 : decode cX7_betweenOf 74 = .ok (.bipush 110, 2) := by decide +kernel
theorem dX7_betweenOf_76 : decode cX7_betweenOf 76 = .ok (.bipush 100, 2) := by decide +kernel
theorem dX7_betweenOf_78 : decode cX7_betweenOf 78 = .ok (.invokestatic 130, 3) := by decide +kernel
theorem dX7_betweenOf_81 : decode cX7_betweenOf 81 = .ok (.invokevirtual 189, 3) := by decide +kernel
theorem dX7_betweenOf_84 : decode cX7_betweenOf 84 = .ok (.ifCond .eq 8, 3) := by decide +kernel
theorem dX7_betweenOf_87 : decode cX7_betweenOf 87 = .ok (.bipush 21, 2) := by decide +kernel
theorem dX7_betweenOf_89 : decode cX7_betweenOf 89 = .ok (.goto 23, 3) := by decide +kernel
theorem dX7_betweenOf_92 : decode cX7_betweenOf 92 = .ok (.aload_n 0, 1) := by decide +kernel
theorem dX7_betweenOf_93 : decode cX7_betweenOf 93 = .ok (.bipush 111, 2) := by decide +kernel
theorem dX7_betweenOf_95 : decode cX7_betweenOf 95 = .ok (.bipush 114, 2) := by decide +kernel
theorem dX7_betweenOf_97 : decode cX7_betweenOf 97 = .ok (.invokestatic 126, 3) := by decide +kernel
theorem dX7_betweenOf_100 : decode cX7_betweenOf 100 = .ok (.invokevirtual 189, 3) := by decide +kernel
theorem dX7_betweenOf_103 : decode cX7_betweenOf 103 = .ok (.ifCond .eq 8, 3) := by decide +kernel
theorem dX7_betweenOf_106 : decode cX7_betweenOf 106 = .ok (.bipush 22, 2) := by decide +kernel
theorem dX7_betweenOf_108 : decode cX7_betweenOf 108 = .ok (.goto 4, 3) := by decide +kernel
theorem dX7_betweenOf_111 : decode cX7_betweenOf 111 = .ok (.iconst (-1), 1) := by decide +kernel
theorem dX7_betweenOf_112 : decode cX7_betweenOf 112 = .ok (.ireturn, 1) := by decide +kernel
theorem dX7_partOf_0 : decode cX7_partOf 0 = .ok (.iload_n 1, 1) := by decide +kernel
theorem dX7_partOf_1 : decode cX7_partOf 1 = .ok (.tableswitch 125 40 43 #[31, 46, 78, 103], 31) := by decide +kernel
theorem dX7_partOf_32 : decode cX7_partOf 32 = .ok (.aload_n 0, 1) := by decide +kernel
theorem dX7_partOf_33 : decode cX7_partOf 33 = .ok (.getfield 104, 3) := by decide +kernel
theorem dX7_partOf_36 : decode cX7_partOf 36 = .ok (.bipush 41, 2) := by decide +kernel
theorem dX7_partOf_38 : decode cX7_partOf 38 = .ok (.if_icmp .ne 7, 3) := by decide +kernel
theorem dX7_partOf_41 : decode cX7_partOf 41 = .ok (.iconst 0, 1) := by decide +kernel
theorem dX7_partOf_42 : decode cX7_partOf 42 = .ok (.goto 4, 3) := by decide +kernel
theorem dX7_partOf_45 : decode cX7_partOf 45 = .ok (.iconst (-1), 1) := by decide +kernel
theorem dX7_partOf_46 : decode cX7_partOf 46 = .ok (.ireturn, 1) := by decide +kernel
theorem dX7_partOf_47 : decode cX7_partOf 47 = .ok (.aload_n 0, 1) := by decide +kernel
theorem dX7_partOf_48 : decode cX7_partOf 48 = .ok (.bipush 116, 2) := by decide +kernel
theorem dX7_partOf_50 : decode cX7_partOf 50 = .ok (.bipush 104, 2) := by decide +kernel
theorem dX7_partOf_52 : decode cX7_partOf 52 = .ok (.bipush 101, 2) := by decide +kernel
theorem dX7_partOf_54 : decode cX7_partOf 54 = .ok (.bipush 110, 2) := by decide +kernel
theorem dX7_partOf_56 : decode cX7_partOf 56 = .ok (.invokestatic 134, 3) := by decide +kernel
theorem dX7_partOf_59 : decode cX7_partOf 59 = .ok (.invokevirtual 189, 3) := by decide +kernel
theorem dX7_partOf_62 : decode cX7_partOf 62 = .ok (.ifCond .eq 15, 3) := by decide +kernel
theorem dX7_partOf_65 : decode cX7_partOf 65 = .ok (.aload_n 0, 1) := by decide +kernel
theorem dX7_partOf_66 : decode cX7_partOf 66 = .ok (.invokevirtual 197, 3) := by decide +kernel
theorem dX7_partOf_69 : decode cX7_partOf 69 = .ok (.ifCond .eq 8, 3) := by decide +kernel
theorem dX7_partOf_72 : decode cX7_partOf 72 = .ok (.bipush 42, 2) := by decide +kernel
theorem dX7_partOf_74 : decode cX7_partOf 74 = .ok (.goto 4, 3) := by decide +kernel
theorem dX7_partOf_77 : decode cX7_partOf 77 = .ok (.iconst (-1), 1) := by decide +kernel
theorem dX7_partOf_78 : decode cX7_partOf 78 = .ok (.ireturn, 1) := by decide +kernel
theorem dX7_partOf_79 : decode cX7_partOf 79 = .ok (.aload_n 0, 1) := by decide +kernel
theorem dX7_partOf_80 : decode cX7_partOf 80 = .ok (.bipush 101, 2) := by decide +kernel
theorem dX7_partOf_82 : decode cX7_partOf 82 = .ok (.bipush 108, 2) := by decide +kernel
theorem dX7_partOf_84 : decode cX7_partOf 84 = .ok (.bipush 115, 2) := by decide +kernel
theorem dX7_partOf_86 : decode cX7_partOf 86 = .ok (.bipush 101, 2) := by decide +kernel
theorem dX7_partOf_88 : decode cX7_partOf 88 = .ok (.invokestatic 134, 3) := by decide +kernel
theorem dX7_partOf_91 : decode cX7_partOf 91 = .ok (.invokevirtual 189, 3) := by decide +kernel
theorem dX7_partOf_94 : decode cX7_partOf 94 = .ok (.ifCond .eq 8, 3) := by decide +kernel
theorem dX7_partOf_97 : decode cX7_partOf 97 = .ok (.bipush 43, 2) := by decide +kernel
theorem dX7_partOf_99 : decode cX7_partOf 99 = .ok (.goto 4, 3) := by decide +kernel
theorem dX7_partOf_102 : decode cX7_partOf 102 = .ok (.iconst (-1), 1) := by decide +kernel
theorem dX7_partOf_103 : decode cX7_partOf 103 = .ok (.ireturn, 1) := by decide +kernel
theorem dX7_partOf_104 : decode cX7_partOf 104 = .ok (.aload_n 0, 1) := by decide +kernel
theorem dX7_partOf_105 : decode cX7_partOf 105 = .ok (.bipush 101, 2) := by decide +kernel
theorem dX7_partOf_107 : decode cX7_partOf 107 = .ok (.bipush 110, 2) := by decide +kernel
theorem dX7_partOf_109 : decode cX7_partOf 109 = .ok (.bipush 100, 2) := by decide +kernel
theorem dX7_partOf_111 : decode cX7_partOf 111 = .ok (.invokestatic 130, 3) := by decide +kernel
theorem dX7_partOf_114 : decode cX7_partOf 114 = .ok (.invokevirtual 189, 3) := by decide +kernel
theorem dX7_partOf_117 : decode cX7_partOf 117 = .ok (.ifCond .eq 7, 3) := by decide +kernel
theorem dX7_partOf_120 : decode cX7_partOf 120 = .ok (.iconst 0, 1) := by decide +kernel
theorem dX7_partOf_121 : decode cX7_partOf 121 = .ok (.goto 4, 3) := by decide +kernel
theorem dX7_partOf_124 : decode cX7_partOf 124 = .ok (.iconst (-1), 1) := by decide +kernel
theorem dX7_partOf_125 : decode cX7_partOf 125 = .ok (.ireturn, 1) := by decide +kernel
theorem dX7_partOf_126 : decode cX7_partOf 126 = .ok (.iconst (-1), 1) := by decide +kernel
theorem dX7_partOf_127 : decode cX7_partOf 127 = .ok (.ireturn, 1) := by decide +kernel
theorem dX7_behindOne_0 : decode cX7_behindOne 0 = .ok (.aload_n 0, 1) := by decide +kernel
theorem dX7_behindOne_1 : decode cX7_behindOne 1 = .ok (.invokevirtual 203, 3) := by decide +kernel
theorem dX7_behindOne_4 : decode cX7_behindOne 4 = .ok (.istore_n 1, 1) := by decide +kernel
theorem dX7_behindOne_5 : decode cX7_behindOne 5 = .ok (.iload_n 1, 1) := by decide +kernel
theorem dX7_behindOne_6 : decode cX7_behindOne 6 = .ok (.ifCond .lt 54, 3) := by decide +kernel
theorem dX7_behindOne_9 : decode cX7_behindOne 9 = .ok (.aload_n 0, 1) := by decide +kernel
theorem dX7_behindOne_10 : decode cX7_behindOne 10 = .ok (.iload_n 1, 1) := by decide +kernel
theorem dX7_behindOne_11 : decode cX7_behindOne 11 = .ok (.invokestatic 154, 3) := by decide +kernel
theorem dX7_behindOne_14 : decode cX7_behindOne 14 = .ok (.iconst 4, 1) := by decide +kernel
theorem dX7_behindOne_15 : decode cX7_behindOne 15 = .ok (.if_icmp .ne 7, 3) := by decide +kernel
theorem dX7_behindOne_18 : decode cX7_behindOne 18 = .ok (.iconst 5, 1) := by decide +kernel
theorem dX7_behindOne_19 : decode cX7_behindOne 19 = .ok (.goto 7, 3) := by decide +kernel
theorem dX7_behindOne_22 : decode cX7_behindOne 22 = .ok (.iload_n 1, 1) := by decide +kernel
theorem dX7_behindOne_23 : decode cX7_behindOne 23 = .ok (.invokestatic 154, 3) := by decide +kernel
theorem dX7_behindOne_26 : decode cX7_behindOne 26 = .ok (.invokevirtual 183, 3) := by decide +kernel
theorem dX7_behindOne_29 : decode cX7_behindOne 29 = .ok (.aload_n 0, 1) := by decide +kernel
theorem dX7_behindOne_30 : decode cX7_behindOne 30 = .ok (.getfield 29, 3) := by decide +kernel
theorem dX7_behindOne_33 : decode cX7_behindOne 33 = .ok (.aload_n 0, 1) := by decide +kernel
theorem dX7_behindOne_34 : decode cX7_behindOne 34 = .ok (.getfield 151, 3) := by decide +kernel
theorem dX7_behindOne_37 : decode cX7_behindOne 37 = .ok (.iload_n 1, 1) := by decide +kernel
theorem dX7_behindOne_38 : decode cX7_behindOne 38 = .ok (.iastore, 1) := by decide +kernel
theorem dX7_behindOne_39 : decode cX7_behindOne 39 = .ok (.aload_n 0, 1) := by decide +kernel
theorem dX7_behindOne_40 : decode cX7_behindOne 40 = .ok (.dup, 1) := by decide +kernel
theorem dX7_behindOne_41 : decode cX7_behindOne 41 = .ok (.getfield 151, 3) := by decide +kernel
theorem dX7_behindOne_44 : decode cX7_behindOne 44 = .ok (.iconst 1, 1) := by decide +kernel
theorem dX7_behindOne_45 : decode cX7_behindOne 45 = .ok (.iadd, 1) := by decide +kernel
theorem dX7_behindOne_46 : decode cX7_behindOne 46 = .ok (.putfield 151, 3) := by decide +kernel
theorem dX7_behindOne_49 : decode cX7_behindOne 49 = .ok (.aload_n 0, 1) := by decide +kernel
theorem dX7_behindOne_50 : decode cX7_behindOne 50 = .ok (.iconst 0, 1) := by decide +kernel
theorem dX7_behindOne_51 : decode cX7_behindOne 51 = .ok (.putfield 180, 3) := by decide +kernel
theorem dX7_behindOne_54 : decode cX7_behindOne 54 = .ok (.aload_n 0, 1) := by decide +kernel
theorem dX7_behindOne_55 : decode cX7_behindOne 55 = .ok (.invokevirtual 171, 3) := by decide +kernel
theorem dX7_behindOne_58 : decode cX7_behindOne 58 = .ok (.iconst 1, 1) := by decide +kernel
theorem dX7_behindOne_59 : decode cX7_behindOne 59 = .ok (.ireturn, 1) := by decide +kernel
theorem dX7_behindOne_60 : decode cX7_behindOne 60 = .ok (.aload_n 0, 1) := by decide +kernel
theorem dX7_behindOne_61 : decode cX7_behindOne 61 = .ok (.invokevirtual 168, 3) := by decide +kernel
theorem dX7_behindOne_64 : decode cX7_behindOne 64 = .ok (.istore_n 2, 1) := by decide +kernel
theorem dX7_behindOne_65 : decode cX7_behindOne 65 = .ok (.aload_n 0, 1) := by decide +kernel
theorem dX7_behindOne_66 : decode cX7_behindOne 66 = .ok (.iload_n 2, 1) := by decide +kernel
theorem dX7_behindOne_67 : decode cX7_behindOne 67 = .ok (.invokevirtual 206, 3) := by decide +kernel
theorem dX7_behindOne_70 : decode cX7_behindOne 70 = .ok (.istore_n 3, 1) := by decide +kernel
theorem dX7_behindOne_71 : decode cX7_behindOne 71 = .ok (.iload_n 3, 1) := by decide +kernel
theorem dX7_behindOne_72 : decode cX7_behindOne 72 = .ok (.ifCond .ge 5, 3) := by decide +kernel
theorem dX7_behindOne_75 : decode cX7_behindOne 75 = .ok (.iconst 0, 1) := by decide +kernel
theorem dX7_behindOne_76 : decode cX7_behindOne 76 = .ok (.ireturn, 1) := by decide +kernel
theorem dX7_behindOne_77 : decode cX7_behindOne 77 = .ok (.aload_n 0, 1) := by decide +kernel
theorem dX7_behindOne_78 : decode cX7_behindOne 78 = .ok (.iconst 1, 1) := by decide +kernel
theorem dX7_behindOne_79 : decode cX7_behindOne 79 = .ok (.invokevirtual 183, 3) := by decide +kernel
theorem dX7_behindOne_82 : decode cX7_behindOne 82 = .ok (.aload_n 0, 1) := by decide +kernel
theorem dX7_behindOne_83 : decode cX7_behindOne 83 = .ok (.invokevirtual 171, 3) := by decide +kernel
theorem dX7_behindOne_86 : decode cX7_behindOne 86 = .ok (.iload_n 3, 1) := by decide +kernel
theorem dX7_behindOne_87 : decode cX7_behindOne 87 = .ok (.ifCond .le 20, 3) := by decide +kernel
theorem dX7_behindOne_90 : decode cX7_behindOne 90 = .ok (.aload_n 0, 1) := by decide +kernel
theorem dX7_behindOne_91 : decode cX7_behindOne 91 = .ok (.getfield 29, 3) := by decide +kernel
theorem dX7_behindOne_94 : decode cX7_behindOne 94 = .ok (.aload_n 0, 1) := by decide +kernel
theorem dX7_behindOne_95 : decode cX7_behindOne 95 = .ok (.invokevirtual 164, 3) := by decide +kernel
theorem dX7_behindOne_98 : decode cX7_behindOne 98 = .ok (.iload_n 3, 1) := by decide +kernel
theorem dX7_behindOne_99 : decode cX7_behindOne 99 = .ok (.iastore, 1) := by decide +kernel
theorem dX7_behindOne_100 : decode cX7_behindOne 100 = .ok (.aload_n 0, 1) := by decide +kernel
theorem dX7_behindOne_101 : decode cX7_behindOne 101 = .ok (.iconst 0, 1) := by decide +kernel
theorem dX7_behindOne_102 : decode cX7_behindOne 102 = .ok (.putfield 180, 3) := by decide +kernel
theorem dX7_behindOne_105 : decode cX7_behindOne 105 = .ok (.iconst 1, 1) := by decide +kernel
theorem dX7_behindOne_106 : decode cX7_behindOne 106 = .ok (.ireturn, 1) := by decide +kernel
theorem dX7_behindOne_107 : decode cX7_behindOne 107 = .ok (.aload_n 0, 1) := by decide +kernel
theorem dX7_behindOne_108 : decode cX7_behindOne 108 = .ok (.dup, 1) := by decide +kernel
theorem dX7_behindOne_109 : decode cX7_behindOne 109 = .ok (.getfield 161, 3) := by decide +kernel
theorem dX7_behindOne_112 : decode cX7_behindOne 112 = .ok (.iconst 1, 1) := by decide +kernel
theorem dX7_behindOne_113 : decode cX7_behindOne 113 = .ok (.isub, 1) := by decide +kernel
theorem dX7_behindOne_114 : decode cX7_behindOne 114 = .ok (.putfield 161, 3) := by decide +kernel
theorem dX7_behindOne_117 : decode cX7_behindOne 117 = .ok (.aload_n 0, 1) := by decide +kernel
theorem dX7_behindOne_118 : decode cX7_behindOne 118 = .ok (.dup, 1) := by decide +kernel
theorem dX7_behindOne_119 : decode cX7_behindOne 119 = .ok (.getfield 151, 3) := by decide +kernel
theorem dX7_behindOne_122 : decode cX7_behindOne 122 = .ok (.iconst 1, 1) := by decide +kernel
theorem dX7_behindOne_123 : decode cX7_behindOne 123 = .ok (.isub, 1) := by decide +kernel
theorem dX7_behindOne_124 : decode cX7_behindOne 124 = .ok (.putfield 151, 3) := by decide +kernel
theorem dX7_behindOne_127 : decode cX7_behindOne 127 = .ok (.iload_n 2, 1) := by decide +kernel
theorem dX7_behindOne_128 : decode cX7_behindOne 128 = .ok (.bipush 43, 2) := by decide +kernel
theorem dX7_behindOne_130 : decode cX7_behindOne 130 = .ok (.if_icmp .ne 9, 3) := by decide +kernel
theorem dX7_behindOne_133 : decode cX7_behindOne 133 = .ok (.aload_n 0, 1) := by decide +kernel
theorem dX7_behindOne_134 : decode cX7_behindOne 134 = .ok (.iconst 3, 1) := by decide +kernel
theorem dX7_behindOne_135 : decode cX7_behindOne 135 = .ok (.iconst 0, 1) := by decide +kernel
theorem dX7_behindOne_136 : decode cX7_behindOne 136 = .ok (.invokevirtual 157, 3) := by decide +kernel
theorem dX7_behindOne_139 : decode cX7_behindOne 139 = .ok (.aload_n 0, 1) := by decide +kernel
theorem dX7_behindOne_140 : decode cX7_behindOne 140 = .ok (.bipush 7, 2) := by decide +kernel
theorem dX7_behindOne_142 : decode cX7_behindOne 142 = .ok (.invokevirtual 183, 3) := by decide +kernel
theorem dX7_behindOne_145 : decode cX7_behindOne 145 = .ok (.iconst 1, 1) := by decide +kernel
theorem dX7_behindOne_146 : decode cX7_behindOne 146 = .ok (.ireturn, 1) := by decide +kernel
theorem dX7_summed_0 : decode cX7_summed 0 = .ok (.aload_n 0, 1) := by decide +kernel
theorem dX7_summed_1 : decode cX7_summed 1 = .ok (.iconst 0, 1) := by decide +kernel
theorem dX7_summed_2 : decode cX7_summed 2 = .ok (.putfield 151, 3) := by decide +kernel
theorem dX7_summed_5 : decode cX7_summed 5 = .ok (.aload_n 0, 1) := by decide +kernel
theorem dX7_summed_6 : decode cX7_summed 6 = .ok (.iconst 0, 1) := by decide +kernel
theorem dX7_summed_7 : decode cX7_summed 7 = .ok (.putfield 161, 3) := by decide +kernel
theorem dX7_summed_10 : decode cX7_summed 10 = .ok (.aload_n 0, 1) := by decide +kernel
theorem dX7_summed_11 : decode cX7_summed 11 = .ok (.iconst 0, 1) := by decide +kernel
theorem dX7_summed_12 : decode cX7_summed 12 = .ok (.putfield 180, 3) := by decide +kernel
theorem dX7_summed_15 : decode cX7_summed 15 = .ok (.aload_n 0, 1) := by decide +kernel
theorem dX7_summed_16 : decode cX7_summed 16 = .ok (.getfield 180, 3) := by decide +kernel
theorem dX7_summed_19 : decode cX7_summed 19 = .ok (.ifCond .eq 29, 3) := by decide +kernel
theorem dX7_summed_22 : decode cX7_summed 22 = .ok (.aload_n 0, 1) := by decide +kernel
theorem dX7_summed_23 : decode cX7_summed 23 = .ok (.invokevirtual 209, 3) := by decide +kernel
theorem dX7_summed_26 : decode cX7_summed 26 = .ok (.ifCond .eq 6, 3) := by decide +kernel
theorem dX7_summed_29 : decode cX7_summed 29 = .ok (.goto (-14), 3) := by decide +kernel
theorem dX7_summed_32 : decode cX7_summed 32 = .ok (.aload_n 0, 1) := by decide +kernel
theorem dX7_summed_33 : decode cX7_summed 33 = .ok (.invokevirtual 168, 3) := by decide +kernel
theorem dX7_summed_36 : decode cX7_summed 36 = .ok (.ifCond .lt 5, 3) := by decide +kernel
theorem dX7_summed_39 : decode cX7_summed 39 = .ok (.iconst 1, 1) := by decide +kernel
theorem dX7_summed_40 : decode cX7_summed 40 = .ok (.ireturn, 1) := by decide +kernel
theorem dX7_summed_41 : decode cX7_summed 41 = .ok (.aload_n 0, 1) := by decide +kernel
theorem dX7_summed_42 : decode cX7_summed 42 = .ok (.iconst 1, 1) := by decide +kernel
theorem dX7_summed_43 : decode cX7_summed 43 = .ok (.invokevirtual 183, 3) := by decide +kernel
theorem dX7_summed_46 : decode cX7_summed 46 = .ok (.iconst 0, 1) := by decide +kernel
theorem dX7_summed_47 : decode cX7_summed 47 = .ok (.ireturn, 1) := by decide +kernel
theorem dX7_summed_48 : decode cX7_summed 48 = .ok (.aload_n 0, 1) := by decide +kernel
theorem dX7_summed_49 : decode cX7_summed 49 = .ok (.invokevirtual 212, 3) := by decide +kernel
theorem dX7_summed_52 : decode cX7_summed 52 = .ok (.istore_n 1, 1) := by decide +kernel
theorem dX7_summed_53 : decode cX7_summed 53 = .ok (.iload_n 1, 1) := by decide +kernel
theorem dX7_summed_54 : decode cX7_summed 54 = .ok (.ifCond .eq 5, 3) := by decide +kernel
theorem dX7_summed_57 : decode cX7_summed 57 = .ok (.iload_n 1, 1) := by decide +kernel
theorem dX7_summed_58 : decode cX7_summed 58 = .ok (.ireturn, 1) := by decide +kernel
theorem dX7_summed_59 : decode cX7_summed 59 = .ok (.goto (-44), 3) := by decide +kernel
theorem dX7_figure_0 : decode cX7_figure 0 = .ok (.aload_n 0, 1) := by decide +kernel
theorem dX7_figure_1 : decode cX7_figure 1 = .ok (.getfield 104, 3) := by decide +kernel
theorem dX7_figure_4 : decode cX7_figure 4 = .ok (.iconst 1, 1) := by decide +kernel
theorem dX7_figure_5 : decode cX7_figure 5 = .ok (.if_icmp .eq 5, 3) := by decide +kernel
theorem dX7_figure_8 : decode cX7_figure 8 = .ok (.iconst 1, 1) := by decide +kernel
theorem dX7_figure_9 : decode cX7_figure 9 = .ok (.ireturn, 1) := by decide +kernel
theorem dX7_figure_10 : decode cX7_figure 10 = .ok (.aload_n 0, 1) := by decide +kernel
theorem dX7_figure_11 : decode cX7_figure 11 = .ok (.getfield 110, 3) := by decide +kernel
theorem dX7_figure_14 : decode cX7_figure 14 = .ok (.iload_n 2, 1) := by decide +kernel
theorem dX7_figure_15 : decode cX7_figure 15 = .ok (.iload_n 3, 1) := by decide +kernel
theorem dX7_figure_16 : decode cX7_figure 16 = .ok (.invokestatic 63, 3) := by decide +kernel
theorem dX7_figure_19 : decode cX7_figure 19 = .ok (.ifCond .ne 5, 3) := by decide +kernel
theorem dX7_figure_22 : decode cX7_figure 22 = .ok (.iconst 2, 1) := by decide +kernel
theorem dX7_figure_23 : decode cX7_figure 23 = .ok (.ireturn, 1) := by decide +kernel
theorem dX7_figure_24 : decode cX7_figure 24 = .ok (.aload_n 0, 1) := by decide +kernel
theorem dX7_figure_25 : decode cX7_figure 25 = .ok (.getfield 16, 3) := by decide +kernel
theorem dX7_figure_28 : decode cX7_figure 28 = .ok (.iload_n 1, 1) := by decide +kernel
theorem dX7_figure_29 : decode cX7_figure 29 = .ok (.aload_n 0, 1) := by decide +kernel
theorem dX7_figure_30 : decode cX7_figure 30 = .ok (.getfield 110, 3) := by decide +kernel
theorem dX7_figure_33 : decode cX7_figure 33 = .ok (.iastore, 1) := by decide +kernel
theorem dX7_figure_34 : decode cX7_figure 34 = .ok (.aload_n 0, 1) := by decide +kernel
theorem dX7_figure_35 : decode cX7_figure 35 = .ok (.invokevirtual 171, 3) := by decide +kernel
theorem dX7_figure_38 : decode cX7_figure 38 = .ok (.iconst 0, 1) := by decide +kernel
theorem dX7_figure_39 : decode cX7_figure 39 = .ok (.ireturn, 1) := by decide +kernel
theorem dX7_lawClause_0 : decode cX7_lawClause 0 = .ok (.aload_n 0, 1) := by decide +kernel
theorem dX7_lawClause_1 : decode cX7_lawClause 1 = .ok (.getfield 16, 3) := by decide +kernel
theorem dX7_lawClause_4 : decode cX7_lawClause 4 = .ok (.iload_n 1, 1) := by decide +kernel
theorem dX7_lawClause_5 : decode cX7_lawClause 5 = .ok (.iconst 1, 1) := by decide +kernel
theorem dX7_lawClause_6 : decode cX7_lawClause 6 = .ok (.iadd, 1) := by decide +kernel
theorem dX7_lawClause_7 : decode cX7_lawClause 7 = .ok (.aload_n 0, 1) := by decide +kernel
theorem dX7_lawClause_8 : decode cX7_lawClause 8 = .ok (.getfield 145, 3) := by decide +kernel
theorem dX7_lawClause_11 : decode cX7_lawClause 11 = .ok (.iastore, 1) := by decide +kernel
theorem dX7_lawClause_12 : decode cX7_lawClause 12 = .ok (.aload_n 0, 1) := by decide +kernel
theorem dX7_lawClause_13 : decode cX7_lawClause 13 = .ok (.invokevirtual 215, 3) := by decide +kernel
theorem dX7_lawClause_16 : decode cX7_lawClause 16 = .ok (.istore_n 2, 1) := by decide +kernel
theorem dX7_lawClause_17 : decode cX7_lawClause 17 = .ok (.aload_n 0, 1) := by decide +kernel
theorem dX7_lawClause_18 : decode cX7_lawClause 18 = .ok (.getfield 16, 3) := by decide +kernel
theorem dX7_lawClause_21 : decode cX7_lawClause 21 = .ok (.iload_n 1, 1) := by decide +kernel
theorem dX7_lawClause_22 : decode cX7_lawClause 22 = .ok (.iconst 2, 1) := by decide +kernel
theorem dX7_lawClause_23 : decode cX7_lawClause 23 = .ok (.iadd, 1) := by decide +kernel
theorem dX7_lawClause_24 : decode cX7_lawClause 24 = .ok (.aload_n 0, 1) := by decide +kernel
theorem dX7_lawClause_25 : decode cX7_lawClause 25 = .ok (.getfield 145, 3) := by decide +kernel
theorem dX7_lawClause_28 : decode cX7_lawClause 28 = .ok (.iastore, 1) := by decide +kernel
theorem dX7_lawClause_29 : decode cX7_lawClause 29 = .ok (.iload_n 2, 1) := by decide +kernel
theorem dX7_lawClause_30 : decode cX7_lawClause 30 = .ok (.ireturn, 1) := by decide +kernel
theorem dX7_buyerClause_0 : decode cX7_buyerClause 0 = .ok (.aload_n 0, 1) := by decide +kernel
theorem dX7_buyerClause_1 : decode cX7_buyerClause 1 = .ok (.iload_n 1, 1) := by decide +kernel
theorem dX7_buyerClause_2 : decode cX7_buyerClause 2 = .ok (.iconst 1, 1) := by decide +kernel
theorem dX7_buyerClause_3 : decode cX7_buyerClause 3 = .ok (.iadd, 1) := by decide +kernel
theorem dX7_buyerClause_4 : decode cX7_buyerClause 4 = .ok (.iconst 0, 1) := by decide +kernel
theorem dX7_buyerClause_5 : decode cX7_buyerClause 5 = .ok (.bipush 11, 2) := by decide +kernel
theorem dX7_buyerClause_7 : decode cX7_buyerClause 7 = .ok (.invokevirtual 218, 3) := by decide +kernel
theorem dX7_buyerClause_10 : decode cX7_buyerClause 10 = .ok (.istore_n 2, 1) := by decide +kernel
theorem dX7_buyerClause_11 : decode cX7_buyerClause 11 = .ok (.iload_n 2, 1) := by decide +kernel
theorem dX7_buyerClause_12 : decode cX7_buyerClause 12 = .ok (.ifCond .eq 5, 3) := by decide +kernel
theorem dX7_buyerClause_15 : decode cX7_buyerClause 15 = .ok (.iload_n 2, 1) := by decide +kernel
theorem dX7_buyerClause_16 : decode cX7_buyerClause 16 = .ok (.ireturn, 1) := by decide +kernel
theorem dX7_buyerClause_17 : decode cX7_buyerClause 17 = .ok (.aload_n 0, 1) := by decide +kernel
theorem dX7_buyerClause_18 : decode cX7_buyerClause 18 = .ok (.bipush 116, 2) := by decide +kernel
theorem dX7_buyerClause_20 : decode cX7_buyerClause 20 = .ok (.bipush 111, 2) := by decide +kernel
theorem dX7_buyerClause_22 : decode cX7_buyerClause 22 = .ok (.invokestatic 126, 3) := by decide +kernel
theorem dX7_buyerClause_25 : decode cX7_buyerClause 25 = .ok (.invokevirtual 189, 3) := by decide +kernel
theorem dX7_buyerClause_28 : decode cX7_buyerClause 28 = .ok (.ifCond .ne 5, 3) := by decide +kernel
theorem dX7_buyerClause_31 : decode cX7_buyerClause 31 = .ok (.iconst 1, 1) := by decide +kernel
theorem dX7_buyerClause_32 : decode cX7_buyerClause 32 = .ok (.ireturn, 1) := by decide +kernel
theorem dX7_buyerClause_33 : decode cX7_buyerClause 33 = .ok (.aload_n 0, 1) := by decide +kernel
theorem dX7_buyerClause_34 : decode cX7_buyerClause 34 = .ok (.invokevirtual 171, 3) := by decide +kernel
theorem dX7_buyerClause_37 : decode cX7_buyerClause 37 = .ok (.aload_n 0, 1) := by decide +kernel
theorem dX7_buyerClause_38 : decode cX7_buyerClause 38 = .ok (.iload_n 1, 1) := by decide +kernel
theorem dX7_buyerClause_39 : decode cX7_buyerClause 39 = .ok (.iconst 2, 1) := by decide +kernel
theorem dX7_buyerClause_40 : decode cX7_buyerClause 40 = .ok (.iadd, 1) := by decide +kernel
theorem dX7_buyerClause_41 : decode cX7_buyerClause 41 = .ok (.aload_n 0, 1) := by decide +kernel
theorem dX7_buyerClause_42 : decode cX7_buyerClause 42 = .ok (.getfield 16, 3) := by decide +kernel
theorem dX7_buyerClause_45 : decode cX7_buyerClause 45 = .ok (.iload_n 1, 1) := by decide +kernel
theorem dX7_buyerClause_46 : decode cX7_buyerClause 46 = .ok (.iconst 1, 1) := by decide +kernel
theorem dX7_buyerClause_47 : decode cX7_buyerClause 47 = .ok (.iadd, 1) := by decide +kernel
theorem dX7_buyerClause_48 : decode cX7_buyerClause 48 = .ok (.iaload, 1) := by decide +kernel
theorem dX7_buyerClause_49 : decode cX7_buyerClause 49 = .ok (.bipush 11, 2) := by decide +kernel
theorem dX7_buyerClause_51 : decode cX7_buyerClause 51 = .ok (.invokevirtual 218, 3) := by decide +kernel
theorem dX7_buyerClause_54 : decode cX7_buyerClause 54 = .ok (.ireturn, 1) := by decide +kernel
theorem dX7_sortClause_0 : decode cX7_sortClause 0 = .ok (.aload_n 0, 1) := by decide +kernel
theorem dX7_sortClause_1 : decode cX7_sortClause 1 = .ok (.iload_n 1, 1) := by decide +kernel
theorem dX7_sortClause_2 : decode cX7_sortClause 2 = .ok (.iconst 1, 1) := by decide +kernel
theorem dX7_sortClause_3 : decode cX7_sortClause 3 = .ok (.iadd, 1) := by decide +kernel
theorem dX7_sortClause_4 : decode cX7_sortClause 4 = .ok (.iconst 0, 1) := by decide +kernel
theorem dX7_sortClause_5 : decode cX7_sortClause 5 = .ok (.iconst 4, 1) := by decide +kernel
theorem dX7_sortClause_6 : decode cX7_sortClause 6 = .ok (.invokevirtual 218, 3) := by decide +kernel
theorem dX7_sortClause_9 : decode cX7_sortClause 9 = .ok (.istore_n 2, 1) := by decide +kernel
theorem dX7_sortClause_10 : decode cX7_sortClause 10 = .ok (.iload_n 2, 1) := by decide +kernel
theorem dX7_sortClause_11 : decode cX7_sortClause 11 = .ok (.ifCond .eq 5, 3) := by decide +kernel
theorem dX7_sortClause_14 : decode cX7_sortClause 14 = .ok (.iload_n 2, 1) := by decide +kernel
theorem dX7_sortClause_15 : decode cX7_sortClause 15 = .ok (.ireturn, 1) := by decide +kernel
theorem dX7_sortClause_16 : decode cX7_sortClause 16 = .ok (.aload_n 0, 1) := by decide +kernel
theorem dX7_sortClause_17 : decode cX7_sortClause 17 = .ok (.bipush 98, 2) := by decide +kernel
theorem dX7_sortClause_19 : decode cX7_sortClause 19 = .ok (.bipush 121, 2) := by decide +kernel
theorem dX7_sortClause_21 : decode cX7_sortClause 21 = .ok (.invokestatic 126, 3) := by decide +kernel
theorem dX7_sortClause_24 : decode cX7_sortClause 24 = .ok (.invokevirtual 189, 3) := by decide +kernel
theorem dX7_sortClause_27 : decode cX7_sortClause 27 = .ok (.ifCond .ne 5, 3) := by decide +kernel
theorem dX7_sortClause_30 : decode cX7_sortClause 30 = .ok (.iconst 1, 1) := by decide +kernel
theorem dX7_sortClause_31 : decode cX7_sortClause 31 = .ok (.ireturn, 1) := by decide +kernel
theorem dX7_sortClause_32 : decode cX7_sortClause 32 = .ok (.aload_n 0, 1) := by decide +kernel
theorem dX7_sortClause_33 : decode cX7_sortClause 33 = .ok (.invokevirtual 171, 3) := by decide +kernel
theorem dX7_sortClause_36 : decode cX7_sortClause 36 = .ok (.aload_n 0, 1) := by decide +kernel
theorem dX7_sortClause_37 : decode cX7_sortClause 37 = .ok (.iload_n 1, 1) := by decide +kernel
theorem dX7_sortClause_38 : decode cX7_sortClause 38 = .ok (.iconst 2, 1) := by decide +kernel
theorem dX7_sortClause_39 : decode cX7_sortClause 39 = .ok (.iadd, 1) := by decide +kernel
theorem dX7_sortClause_40 : decode cX7_sortClause 40 = .ok (.iconst 0, 1) := by decide +kernel
theorem dX7_sortClause_41 : decode cX7_sortClause 41 = .ok (.bipush 9, 2) := by decide +kernel
theorem dX7_sortClause_43 : decode cX7_sortClause 43 = .ok (.invokevirtual 218, 3) := by decide +kernel
theorem dX7_sortClause_46 : decode cX7_sortClause 46 = .ok (.ireturn, 1) := by decide +kernel
theorem dX7_body_0 : decode cX7_body 0 = .ok (.iload_n 1, 1) := by decide +kernel
theorem dX7_body_1 : decode cX7_body 1 = .ok (.tableswitch 93 2 7 #[39, 45, 51, 61, 72, 82], 39) := by decide +kernel
theorem dX7_body_40 : decode cX7_body 40 = .ok (.aload_n 0, 1) := by decide +kernel
theorem dX7_body_41 : decode cX7_body 41 = .ok (.iload_n 2, 1) := by decide +kernel
theorem dX7_body_42 : decode cX7_body 42 = .ok (.invokevirtual 222, 3) := by decide +kernel
theorem dX7_body_45 : decode cX7_body 45 = .ok (.ireturn, 1) := by decide +kernel
theorem dX7_body_46 : decode cX7_body 46 = .ok (.aload_n 0, 1) := by decide +kernel
theorem dX7_body_47 : decode cX7_body 47 = .ok (.iload_n 2, 1) := by decide +kernel
theorem dX7_body_48 : decode cX7_body 48 = .ok (.invokevirtual 225, 3) := by decide +kernel
theorem dX7_body_51 : decode cX7_body 51 = .ok (.ireturn, 1) := by decide +kernel
theorem dX7_body_52 : decode cX7_body 52 = .ok (.aload_n 0, 1) := by decide +kernel
theorem dX7_body_53 : decode cX7_body 53 = .ok (.iload_n 2, 1) := by decide +kernel
theorem dX7_body_54 : decode cX7_body 54 = .ok (.iconst 1, 1) := by decide +kernel
theorem dX7_body_55 : decode cX7_body 55 = .ok (.iadd, 1) := by decide +kernel
theorem dX7_body_56 : decode cX7_body 56 = .ok (.iconst 0, 1) := by decide +kernel
theorem dX7_body_57 : decode cX7_body 57 = .ok (.iconst 5, 1) := by decide +kernel
theorem dX7_body_58 : decode cX7_body 58 = .ok (.invokevirtual 218, 3) := by decide +kernel
theorem dX7_body_61 : decode cX7_body 61 = .ok (.ireturn, 1) := by decide +kernel
theorem dX7_body_62 : decode cX7_body 62 = .ok (.aload_n 0, 1) := by decide +kernel
theorem dX7_body_63 : decode cX7_body 63 = .ok (.iload_n 2, 1) := by decide +kernel
theorem dX7_body_64 : decode cX7_body 64 = .ok (.iconst 1, 1) := by decide +kernel
theorem dX7_body_65 : decode cX7_body 65 = .ok (.iadd, 1) := by decide +kernel
theorem dX7_body_66 : decode cX7_body 66 = .ok (.iconst 0, 1) := by decide +kernel
theorem dX7_body_67 : decode cX7_body 67 = .ok (.bipush 11, 2) := by decide +kernel
theorem dX7_body_69 : decode cX7_body 69 = .ok (.invokevirtual 218, 3) := by decide +kernel
theorem dX7_body_72 : decode cX7_body 72 = .ok (.ireturn, 1) := by decide +kernel
theorem dX7_body_73 : decode cX7_body 73 = .ok (.aload_n 0, 1) := by decide +kernel
theorem dX7_body_74 : decode cX7_body 74 = .ok (.iload_n 2, 1) := by decide +kernel
theorem dX7_body_75 : decode cX7_body 75 = .ok (.iconst 1, 1) := by decide +kernel
theorem dX7_body_76 : decode cX7_body 76 = .ok (.iadd, 1) := by decide +kernel
theorem dX7_body_77 : decode cX7_body 77 = .ok (.iconst 0, 1) := by decide +kernel
theorem dX7_body_78 : decode cX7_body 78 = .ok (.iconst 5, 1) := by decide +kernel
theorem dX7_body_79 : decode cX7_body 79 = .ok (.invokevirtual 218, 3) := by decide +kernel
theorem dX7_body_82 : decode cX7_body 82 = .ok (.ireturn, 1) := by decide +kernel
theorem dX7_body_83 : decode cX7_body 83 = .ok (.aload_n 0, 1) := by decide +kernel
theorem dX7_body_84 : decode cX7_body 84 = .ok (.iload_n 2, 1) := by decide +kernel
theorem dX7_body_85 : decode cX7_body 85 = .ok (.iconst 1, 1) := by decide +kernel
theorem dX7_body_86 : decode cX7_body 86 = .ok (.iadd, 1) := by decide +kernel
theorem dX7_body_87 : decode cX7_body 87 = .ok (.iconst 1, 1) := by decide +kernel
theorem dX7_body_88 : decode cX7_body 88 = .ok (.bipush 60, 2) := by decide +kernel
theorem dX7_body_90 : decode cX7_body 90 = .ok (.invokevirtual 218, 3) := by decide +kernel
theorem dX7_body_93 : decode cX7_body 93 = .ok (.ireturn, 1) := by decide +kernel
theorem dX7_body_94 : decode cX7_body 94 = .ok (.aload_n 0, 1) := by decide +kernel
theorem dX7_body_95 : decode cX7_body 95 = .ok (.iload_n 2, 1) := by decide +kernel
theorem dX7_body_96 : decode cX7_body 96 = .ok (.invokevirtual 228, 3) := by decide +kernel
theorem dX7_body_99 : decode cX7_body 99 = .ok (.ireturn, 1) := by decide +kernel
theorem dX7_sortOf_0 : decode cX7_sortOf 0 = .ok (.aload_n 0, 1) := by decide +kernel
theorem dX7_sortOf_1 : decode cX7_sortOf 1 = .ok (.bipush 98, 2) := by decide +kernel
theorem dX7_sortOf_3 : decode cX7_sortOf 3 = .ok (.bipush 105, 2) := by decide +kernel
theorem dX7_sortOf_5 : decode cX7_sortOf 5 = .ok (.bipush 100, 2) := by decide +kernel
theorem dX7_sortOf_7 : decode cX7_sortOf 7 = .ok (.bipush 115, 2) := by decide +kernel
theorem dX7_sortOf_9 : decode cX7_sortOf 9 = .ok (.invokestatic 134, 3) := by decide +kernel
theorem dX7_sortOf_12 : decode cX7_sortOf 12 = .ok (.invokevirtual 189, 3) := by decide +kernel
theorem dX7_sortOf_15 : decode cX7_sortOf 15 = .ok (.ifCond .eq 5, 3) := by decide +kernel
theorem dX7_sortOf_18 : decode cX7_sortOf 18 = .ok (.iconst 0, 1) := by decide +kernel
theorem dX7_sortOf_19 : decode cX7_sortOf 19 = .ok (.ireturn, 1) := by decide +kernel
theorem dX7_sortOf_20 : decode cX7_sortOf 20 = .ok (.aload_n 0, 1) := by decide +kernel
theorem dX7_sortOf_21 : decode cX7_sortOf 21 = .ok (.bipush 101, 2) := by decide +kernel
theorem dX7_sortOf_23 : decode cX7_sortOf 23 = .ok (.bipush 97, 2) := by decide +kernel
theorem dX7_sortOf_25 : decode cX7_sortOf 25 = .ok (.bipush 114, 2) := by decide +kernel
theorem dX7_sortOf_27 : decode cX7_sortOf 27 = .ok (.bipush 110, 2) := by decide +kernel
theorem dX7_sortOf_29 : decode cX7_sortOf 29 = .ok (.bipush 115, 2) := by decide +kernel
theorem dX7_sortOf_31 : decode cX7_sortOf 31 = .ok (.invokestatic 138, 3) := by decide +kernel
theorem dX7_sortOf_34 : decode cX7_sortOf 34 = .ok (.invokevirtual 189, 3) := by decide +kernel
theorem dX7_sortOf_37 : decode cX7_sortOf 37 = .ok (.ifCond .eq 5, 3) := by decide +kernel
theorem dX7_sortOf_40 : decode cX7_sortOf 40 = .ok (.iconst 1, 1) := by decide +kernel
theorem dX7_sortOf_41 : decode cX7_sortOf 41 = .ok (.ireturn, 1) := by decide +kernel
theorem dX7_sortOf_42 : decode cX7_sortOf 42 = .ok (.aload_n 0, 1) := by decide +kernel
theorem dX7_sortOf_43 : decode cX7_sortOf 43 = .ok (.bipush 98, 2) := by decide +kernel
theorem dX7_sortOf_45 : decode cX7_sortOf 45 = .ok (.bipush 117, 2) := by decide +kernel
theorem dX7_sortOf_47 : decode cX7_sortOf 47 = .ok (.bipush 121, 2) := by decide +kernel
theorem dX7_sortOf_49 : decode cX7_sortOf 49 = .ok (.bipush 101, 2) := by decide +kernel
theorem dX7_sortOf_51 : decode cX7_sortOf 51 = .ok (.bipush 114, 2) := by decide +kernel
theorem dX7_sortOf_53 : decode cX7_sortOf 53 = .ok (.invokestatic 138, 3) := by decide +kernel
theorem dX7_sortOf_56 : decode cX7_sortOf 56 = .ok (.invokevirtual 189, 3) := by decide +kernel
theorem dX7_sortOf_59 : decode cX7_sortOf 59 = .ok (.ifCond .eq 5, 3) := by decide +kernel
theorem dX7_sortOf_62 : decode cX7_sortOf 62 = .ok (.iconst 2, 1) := by decide +kernel
theorem dX7_sortOf_63 : decode cX7_sortOf 63 = .ok (.ireturn, 1) := by decide +kernel
theorem dX7_sortOf_64 : decode cX7_sortOf 64 = .ok (.aload_n 0, 1) := by decide +kernel
theorem dX7_sortOf_65 : decode cX7_sortOf 65 = .ok (.bipush 115, 2) := by decide +kernel
theorem dX7_sortOf_67 : decode cX7_sortOf 67 = .ok (.bipush 111, 2) := by decide +kernel
theorem dX7_sortOf_69 : decode cX7_sortOf 69 = .ok (.bipush 114, 2) := by decide +kernel
theorem dX7_sortOf_71 : decode cX7_sortOf 71 = .ok (.bipush 116, 2) := by decide +kernel
theorem dX7_sortOf_73 : decode cX7_sortOf 73 = .ok (.invokestatic 134, 3) := by decide +kernel
theorem dX7_sortOf_76 : decode cX7_sortOf 76 = .ok (.invokevirtual 189, 3) := by decide +kernel
theorem dX7_sortOf_79 : decode cX7_sortOf 79 = .ok (.ifCond .eq 5, 3) := by decide +kernel
theorem dX7_sortOf_82 : decode cX7_sortOf 82 = .ok (.iconst 3, 1) := by decide +kernel
theorem dX7_sortOf_83 : decode cX7_sortOf 83 = .ok (.ireturn, 1) := by decide +kernel
theorem dX7_sortOf_84 : decode cX7_sortOf 84 = .ok (.aload_n 0, 1) := by decide +kernel
theorem dX7_sortOf_85 : decode cX7_sortOf 85 = .ok (.bipush 115, 2) := by decide +kernel
theorem dX7_sortOf_87 : decode cX7_sortOf 87 = .ok (.bipush 101, 2) := by decide +kernel
theorem dX7_sortOf_89 : decode cX7_sortOf 89 = .ok (.bipush 108, 2) := by decide +kernel
theorem dX7_sortOf_91 : decode cX7_sortOf 91 = .ok (.bipush 108, 2) := by decide +kernel
theorem dX7_sortOf_93 : decode cX7_sortOf 93 = .ok (.invokestatic 134, 3) := by decide +kernel
theorem dX7_sortOf_96 : decode cX7_sortOf 96 = .ok (.invokevirtual 189, 3) := by decide +kernel
theorem dX7_sortOf_99 : decode cX7_sortOf 99 = .ok (.ifCond .eq 5, 3) := by decide +kernel
theorem dX7_sortOf_102 : decode cX7_sortOf 102 = .ok (.iconst 4, 1) := by decide +kernel
theorem dX7_sortOf_103 : decode cX7_sortOf 103 = .ok (.ireturn, 1) := by decide +kernel
theorem dX7_sortOf_104 : decode cX7_sortOf 104 = .ok (.aload_n 0, 1) := by decide +kernel
theorem dX7_sortOf_105 : decode cX7_sortOf 105 = .ok (.bipush 103, 2) := by decide +kernel
theorem dX7_sortOf_107 : decode cX7_sortOf 107 = .ok (.bipush 105, 2) := by decide +kernel
theorem dX7_sortOf_109 : decode cX7_sortOf 109 = .ok (.bipush 118, 2) := by decide +kernel
theorem dX7_sortOf_111 : decode cX7_sortOf 111 = .ok (.bipush 101, 2) := by decide +kernel
theorem dX7_sortOf_113 : decode cX7_sortOf 113 = .ok (.invokestatic 134, 3) := by decide +kernel
theorem dX7_sortOf_116 : decode cX7_sortOf 116 = .ok (.invokevirtual 189, 3) := by decide +kernel
theorem dX7_sortOf_119 : decode cX7_sortOf 119 = .ok (.ifCond .eq 5, 3) := by decide +kernel
theorem dX7_sortOf_122 : decode cX7_sortOf 122 = .ok (.iconst 5, 1) := by decide +kernel
theorem dX7_sortOf_123 : decode cX7_sortOf 123 = .ok (.ireturn, 1) := by decide +kernel
theorem dX7_sortOf_124 : decode cX7_sortOf 124 = .ok (.aload_n 0, 1) := by decide +kernel
theorem dX7_sortOf_125 : decode cX7_sortOf 125 = .ok (.bipush 116, 2) := by decide +kernel
theorem dX7_sortOf_127 : decode cX7_sortOf 127 = .ok (.bipush 117, 2) := by decide +kernel
theorem dX7_sortOf_129 : decode cX7_sortOf 129 = .ok (.bipush 114, 2) := by decide +kernel
theorem dX7_sortOf_131 : decode cX7_sortOf 131 = .ok (.bipush 110, 2) := by decide +kernel
theorem dX7_sortOf_133 : decode cX7_sortOf 133 = .ok (.invokestatic 134, 3) := by decide +kernel
theorem dX7_sortOf_136 : decode cX7_sortOf 136 = .ok (.invokevirtual 189, 3) := by decide +kernel
theorem dX7_sortOf_139 : decode cX7_sortOf 139 = .ok (.ifCond .eq 8, 3) := by decide +kernel
theorem dX7_sortOf_142 : decode cX7_sortOf 142 = .ok (.bipush 6, 2) := by decide +kernel
theorem dX7_sortOf_144 : decode cX7_sortOf 144 = .ok (.goto 25, 3) := by decide +kernel
theorem dX7_sortOf_147 : decode cX7_sortOf 147 = .ok (.aload_n 0, 1) := by decide +kernel
theorem dX7_sortOf_148 : decode cX7_sortOf 148 = .ok (.bipush 100, 2) := by decide +kernel
theorem dX7_sortOf_150 : decode cX7_sortOf 150 = .ok (.bipush 97, 2) := by decide +kernel
theorem dX7_sortOf_152 : decode cX7_sortOf 152 = .ok (.bipush 121, 2) := by decide +kernel
theorem dX7_sortOf_154 : decode cX7_sortOf 154 = .ok (.invokestatic 130, 3) := by decide +kernel
theorem dX7_sortOf_157 : decode cX7_sortOf 157 = .ok (.invokevirtual 189, 3) := by decide +kernel
theorem dX7_sortOf_160 : decode cX7_sortOf 160 = .ok (.ifCond .eq 8, 3) := by decide +kernel
theorem dX7_sortOf_163 : decode cX7_sortOf 163 = .ok (.bipush 7, 2) := by decide +kernel
theorem dX7_sortOf_165 : decode cX7_sortOf 165 = .ok (.goto 4, 3) := by decide +kernel
theorem dX7_sortOf_168 : decode cX7_sortOf 168 = .ok (.iconst (-1), 1) := by decide +kernel
theorem dX7_sortOf_169 : decode cX7_sortOf 169 = .ok (.ireturn, 1) := by decide +kernel
theorem dX7_clause_0 : decode cX7_clause 0 = .ok (.aload_n 0, 1) := by decide +kernel
theorem dX7_clause_1 : decode cX7_clause 1 = .ok (.invokevirtual 231, 3) := by decide +kernel
theorem dX7_clause_4 : decode cX7_clause 4 = .ok (.istore_n 1, 1) := by decide +kernel
theorem dX7_clause_5 : decode cX7_clause 5 = .ok (.iload_n 1, 1) := by decide +kernel
theorem dX7_clause_6 : decode cX7_clause 6 = .ok (.ifCond .ge 5, 3) := by decide +kernel
theorem dX7_clause_9 : decode cX7_clause 9 = .ok (.iconst 1, 1) := by decide +kernel
theorem dX7_clause_10 : decode cX7_clause 10 = .ok (.ireturn, 1) := by decide +kernel
theorem dX7_clause_11 : decode cX7_clause 11 = .ok (.iload_n 1, 1) := by decide +kernel
theorem dX7_clause_12 : decode cX7_clause 12 = .ok (.iconst 1, 1) := by decide +kernel
theorem dX7_clause_13 : decode cX7_clause 13 = .ok (.if_icmp .gt 16, 3) := by decide +kernel
theorem dX7_clause_16 : decode cX7_clause 16 = .ok (.aload_n 0, 1) := by decide +kernel
theorem dX7_clause_17 : decode cX7_clause 17 = .ok (.getfield 234, 3) := by decide +kernel
theorem dX7_clause_20 : decode cX7_clause 20 = .ok (.iload_n 1, 1) := by decide +kernel
theorem dX7_clause_21 : decode cX7_clause 21 = .ok (.invokestatic 67, 3) := by decide +kernel
theorem dX7_clause_24 : decode cX7_clause 24 = .ok (.ifCond .eq 5, 3) := by decide +kernel
theorem dX7_clause_27 : decode cX7_clause 27 = .ok (.iconst 4, 1) := by decide +kernel
theorem dX7_clause_28 : decode cX7_clause 28 = .ok (.ireturn, 1) := by decide +kernel
theorem dX7_clause_29 : decode cX7_clause 29 = .ok (.aload_n 0, 1) := by decide +kernel
theorem dX7_clause_30 : decode cX7_clause 30 = .ok (.getfield 16, 3) := by decide +kernel
theorem dX7_clause_33 : decode cX7_clause 33 = .ok (.aload_n 0, 1) := by decide +kernel
theorem dX7_clause_34 : decode cX7_clause 34 = .ok (.getfield 142, 3) := by decide +kernel
theorem dX7_clause_37 : decode cX7_clause 37 = .ok (.iaload, 1) := by decide +kernel
theorem dX7_clause_38 : decode cX7_clause 38 = .ok (.istore_n 2, 1) := by decide +kernel
theorem dX7_clause_39 : decode cX7_clause 39 = .ok (.iload_n 2, 1) := by decide +kernel
theorem dX7_clause_40 : decode cX7_clause 40 = .ok (.bipush 24, 2) := by decide +kernel
theorem dX7_clause_42 : decode cX7_clause 42 = .ok (.if_icmp .ne 6, 3) := by decide +kernel
theorem dX7_clause_45 : decode cX7_clause 45 = .ok (.bipush 6, 2) := by decide +kernel
theorem dX7_clause_47 : decode cX7_clause 47 = .ok (.ireturn, 1) := by decide +kernel
theorem dX7_clause_48 : decode cX7_clause 48 = .ok (.iload_n 1, 1) := by decide +kernel
theorem dX7_clause_49 : decode cX7_clause 49 = .ok (.iconst 1, 1) := by decide +kernel
theorem dX7_clause_50 : decode cX7_clause 50 = .ok (.if_icmp .gt 15, 3) := by decide +kernel
theorem dX7_clause_53 : decode cX7_clause 53 = .ok (.aload_n 0, 1) := by decide +kernel
theorem dX7_clause_54 : decode cX7_clause 54 = .ok (.dup, 1) := by decide +kernel
theorem dX7_clause_55 : decode cX7_clause 55 = .ok (.getfield 234, 3) := by decide +kernel
theorem dX7_clause_58 : decode cX7_clause 58 = .ok (.iconst 1, 1) := by decide +kernel
theorem dX7_clause_59 : decode cX7_clause 59 = .ok (.iload_n 1, 1) := by decide +kernel
theorem dX7_clause_60 : decode cX7_clause 60 = .ok (.ishl, 1) := by decide +kernel
theorem dX7_clause_61 : decode cX7_clause 61 = .ok (.ior, 1) := by decide +kernel
theorem dX7_clause_62 : decode cX7_clause 62 = .ok (.putfield 234, 3) := by decide +kernel
theorem dX7_clause_65 : decode cX7_clause 65 = .ok (.aload_n 0, 1) := by decide +kernel
theorem dX7_clause_66 : decode cX7_clause 66 = .ok (.iload_n 1, 1) := by decide +kernel
theorem dX7_clause_67 : decode cX7_clause 67 = .ok (.putfield 148, 3) := by decide +kernel
theorem dX7_clause_70 : decode cX7_clause 70 = .ok (.aload_n 0, 1) := by decide +kernel
theorem dX7_clause_71 : decode cX7_clause 71 = .ok (.invokevirtual 171, 3) := by decide +kernel
theorem dX7_clause_74 : decode cX7_clause 74 = .ok (.aload_n 0, 1) := by decide +kernel
theorem dX7_clause_75 : decode cX7_clause 75 = .ok (.getfield 142, 3) := by decide +kernel
theorem dX7_clause_78 : decode cX7_clause 78 = .ok (.iconst 1, 1) := by decide +kernel
theorem dX7_clause_79 : decode cX7_clause 79 = .ok (.iadd, 1) := by decide +kernel
theorem dX7_clause_80 : decode cX7_clause 80 = .ok (.iconst 3, 1) := by decide +kernel
theorem dX7_clause_81 : decode cX7_clause 81 = .ok (.iload_n 2, 1) := by decide +kernel
theorem dX7_clause_82 : decode cX7_clause 82 = .ok (.imul, 1) := by decide +kernel
theorem dX7_clause_83 : decode cX7_clause 83 = .ok (.iadd, 1) := by decide +kernel
theorem dX7_clause_84 : decode cX7_clause 84 = .ok (.istore_n 3, 1) := by decide +kernel
theorem dX7_clause_85 : decode cX7_clause 85 = .ok (.aload_n 0, 1) := by decide +kernel
theorem dX7_clause_86 : decode cX7_clause 86 = .ok (.getfield 16, 3) := by decide +kernel
theorem dX7_clause_89 : decode cX7_clause 89 = .ok (.iload_n 3, 1) := by decide +kernel
theorem dX7_clause_90 : decode cX7_clause 90 = .ok (.iload_n 1, 1) := by decide +kernel
theorem dX7_clause_91 : decode cX7_clause 91 = .ok (.iastore, 1) := by decide +kernel
theorem dX7_clause_92 : decode cX7_clause 92 = .ok (.aload_n 0, 1) := by decide +kernel
theorem dX7_clause_93 : decode cX7_clause 93 = .ok (.iload_n 1, 1) := by decide +kernel
theorem dX7_clause_94 : decode cX7_clause 94 = .ok (.iload_n 3, 1) := by decide +kernel
theorem dX7_clause_95 : decode cX7_clause 95 = .ok (.invokevirtual 237, 3) := by decide +kernel
theorem dX7_clause_98 : decode cX7_clause 98 = .ok (.istore 4, 2) := by decide +kernel
theorem dX7_clause_100 : decode cX7_clause 100 = .ok (.iload 4, 2) := by decide +kernel
theorem dX7_clause_102 : decode cX7_clause 102 = .ok (.ifCond .eq 6, 3) := by decide +kernel
theorem dX7_clause_105 : decode cX7_clause 105 = .ok (.iload 4, 2) := by decide +kernel
theorem dX7_clause_107 : decode cX7_clause 107 = .ok (.ireturn, 1) := by decide +kernel
theorem dX7_clause_108 : decode cX7_clause 108 = .ok (.aload_n 0, 1) := by decide +kernel
theorem dX7_clause_109 : decode cX7_clause 109 = .ok (.getfield 16, 3) := by decide +kernel
theorem dX7_clause_112 : decode cX7_clause 112 = .ok (.aload_n 0, 1) := by decide +kernel
theorem dX7_clause_113 : decode cX7_clause 113 = .ok (.getfield 142, 3) := by decide +kernel
theorem dX7_clause_116 : decode cX7_clause 116 = .ok (.dup2, 1) := by decide +kernel
theorem dX7_clause_117 : decode cX7_clause 117 = .ok (.iaload, 1) := by decide +kernel
theorem dX7_clause_118 : decode cX7_clause 118 = .ok (.iconst 1, 1) := by decide +kernel
theorem dX7_clause_119 : decode cX7_clause 119 = .ok (.iadd, 1) := by decide +kernel
theorem dX7_clause_120 : decode cX7_clause 120 = .ok (.iastore, 1) := by decide +kernel
theorem dX7_clause_121 : decode cX7_clause 121 = .ok (.aload_n 0, 1) := by decide +kernel
theorem dX7_clause_122 : decode cX7_clause 122 = .ok (.getfield 104, 3) := by decide +kernel
theorem dX7_clause_125 : decode cX7_clause 125 = .ok (.bipush 59, 2) := by decide +kernel
theorem dX7_clause_127 : decode cX7_clause 127 = .ok (.if_icmp .eq 5, 3) := by decide +kernel
theorem dX7_clause_130 : decode cX7_clause 130 = .ok (.iconst 1, 1) := by decide +kernel
theorem dX7_clause_131 : decode cX7_clause 131 = .ok (.ireturn, 1) := by decide +kernel
theorem dX7_clause_132 : decode cX7_clause 132 = .ok (.aload_n 0, 1) := by decide +kernel
theorem dX7_clause_133 : decode cX7_clause 133 = .ok (.invokevirtual 171, 3) := by decide +kernel
theorem dX7_clause_136 : decode cX7_clause 136 = .ok (.iconst 0, 1) := by decide +kernel
theorem dX7_clause_137 : decode cX7_clause 137 = .ok (.ireturn, 1) := by decide +kernel
theorem dX7_readText_0 : decode cX7_readText 0 = .ok (.aload_n 0, 1) := by decide +kernel
theorem dX7_readText_1 : decode cX7_readText 1 = .ok (.sipush 681, 3) := by decide +kernel
theorem dX7_readText_4 : decode cX7_readText 4 = .ok (.aload_n 0, 1) := by decide +kernel
theorem dX7_readText_5 : decode cX7_readText 5 = .ok (.getfield 7, 3) := by decide +kernel
theorem dX7_readText_8 : decode cX7_readText 8 = .ok (.iconst 1, 1) := by decide +kernel
theorem dX7_readText_9 : decode cX7_readText 9 = .ok (.iaload, 1) := by decide +kernel
theorem dX7_readText_10 : decode cX7_readText 10 = .ok (.imul, 1) := by decide +kernel
theorem dX7_readText_11 : decode cX7_readText 11 = .ok (.putfield 142, 3) := by decide +kernel
theorem dX7_readText_14 : decode cX7_readText 14 = .ok (.aload_n 0, 1) := by decide +kernel
theorem dX7_readText_15 : decode cX7_readText 15 = .ok (.getfield 16, 3) := by decide +kernel
theorem dX7_readText_18 : decode cX7_readText 18 = .ok (.aload_n 0, 1) := by decide +kernel
theorem dX7_readText_19 : decode cX7_readText 19 = .ok (.getfield 142, 3) := by decide +kernel
theorem dX7_readText_22 : decode cX7_readText 22 = .ok (.iconst 0, 1) := by decide +kernel
theorem dX7_readText_23 : decode cX7_readText 23 = .ok (.iastore, 1) := by decide +kernel
theorem dX7_readText_24 : decode cX7_readText 24 = .ok (.aload_n 0, 1) := by decide +kernel
theorem dX7_readText_25 : decode cX7_readText 25 = .ok (.iconst 0, 1) := by decide +kernel
theorem dX7_readText_26 : decode cX7_readText 26 = .ok (.putfield 145, 3) := by decide +kernel
theorem dX7_readText_29 : decode cX7_readText 29 = .ok (.aload_n 0, 1) := by decide +kernel
theorem dX7_readText_30 : decode cX7_readText 30 = .ok (.iconst 0, 1) := by decide +kernel
theorem dX7_readText_31 : decode cX7_readText 31 = .ok (.putfield 234, 3) := by decide +kernel
theorem dX7_readText_34 : decode cX7_readText 34 = .ok (.aload_n 0, 1) := by decide +kernel
theorem dX7_readText_35 : decode cX7_readText 35 = .ok (.iconst 0, 1) := by decide +kernel
theorem dX7_readText_36 : decode cX7_readText 36 = .ok (.putfield 95, 3) := by decide +kernel
theorem dX7_readText_39 : decode cX7_readText 39 = .ok (.aload_n 0, 1) := by decide +kernel
theorem dX7_readText_40 : decode cX7_readText 40 = .ok (.invokevirtual 171, 3) := by decide +kernel
theorem dX7_readText_43 : decode cX7_readText 43 = .ok (.aload_n 0, 1) := by decide +kernel
theorem dX7_readText_44 : decode cX7_readText 44 = .ok (.getfield 104, 3) := by decide +kernel
theorem dX7_readText_47 : decode cX7_readText 47 = .ok (.ifCond .eq 17, 3) := by decide +kernel
theorem dX7_readText_50 : decode cX7_readText 50 = .ok (.aload_n 0, 1) := by decide +kernel
theorem dX7_readText_51 : decode cX7_readText 51 = .ok (.invokevirtual 241, 3) := by decide +kernel
theorem dX7_readText_54 : decode cX7_readText 54 = .ok (.istore_n 1, 1) := by decide +kernel
theorem dX7_readText_55 : decode cX7_readText 55 = .ok (.iload_n 1, 1) := by decide +kernel
theorem dX7_readText_56 : decode cX7_readText 56 = .ok (.ifCond .eq 5, 3) := by decide +kernel
theorem dX7_readText_59 : decode cX7_readText 59 = .ok (.iload_n 1, 1) := by decide +kernel
theorem dX7_readText_60 : decode cX7_readText 60 = .ok (.ireturn, 1) := by decide +kernel
theorem dX7_readText_61 : decode cX7_readText 61 = .ok (.goto (-18), 3) := by decide +kernel
theorem dX7_readText_64 : decode cX7_readText 64 = .ok (.iconst 0, 1) := by decide +kernel
theorem dX7_readText_65 : decode cX7_readText 65 = .ok (.ireturn, 1) := by decide +kernel
theorem dX7_text_0 : decode cX7_text 0 = .ok (.aload_n 0, 1) := by decide +kernel
theorem dX7_text_1 : decode cX7_text 1 = .ok (.getfield 7, 3) := by decide +kernel
theorem dX7_text_4 : decode cX7_text 4 = .ok (.iconst 1, 1) := by decide +kernel
theorem dX7_text_5 : decode cX7_text 5 = .ok (.iaload, 1) := by decide +kernel
theorem dX7_text_6 : decode cX7_text 6 = .ok (.iconst 4, 1) := by decide +kernel
theorem dX7_text_7 : decode cX7_text 7 = .ok (.if_icmp .ne 5, 3) := by decide +kernel
theorem dX7_text_10 : decode cX7_text 10 = .ok (.iconst (-1), 1) := by decide +kernel
theorem dX7_text_11 : decode cX7_text 11 = .ok (.ireturn, 1) := by decide +kernel
theorem dX7_text_12 : decode cX7_text 12 = .ok (.aload_n 0, 1) := by decide +kernel
theorem dX7_text_13 : decode cX7_text 13 = .ok (.aload_n 0, 1) := by decide +kernel
theorem dX7_text_14 : decode cX7_text 14 = .ok (.invokevirtual 244, 3) := by decide +kernel
theorem dX7_text_17 : decode cX7_text 17 = .ok (.putfield 22, 3) := by decide +kernel
theorem dX7_text_20 : decode cX7_text 20 = .ok (.aload_n 0, 1) := by decide +kernel
theorem dX7_text_21 : decode cX7_text 21 = .ok (.aload_n 0, 1) := by decide +kernel
theorem dX7_text_22 : decode cX7_text 22 = .ok (.getfield 22, 3) := by decide +kernel
theorem dX7_text_25 : decode cX7_text 25 = .ok (.ifCond .ne 7, 3) := by decide +kernel
theorem dX7_text_28 : decode cX7_text 28 = .ok (.iconst (-1), 1) := by decide +kernel
theorem dX7_text_29 : decode cX7_text 29 = .ok (.goto 7, 3) := by decide +kernel
theorem dX7_text_32 : decode cX7_text 32 = .ok (.aload_n 0, 1) := by decide +kernel
theorem dX7_text_33 : decode cX7_text 33 = .ok (.getfield 101, 3) := by decide +kernel
theorem dX7_text_36 : decode cX7_text 36 = .ok (.putfield 26, 3) := by decide +kernel
theorem dX7_text_39 : decode cX7_text 39 = .ok (.aload_n 0, 1) := by decide +kernel
theorem dX7_text_40 : decode cX7_text 40 = .ok (.iconst 0, 1) := by decide +kernel
theorem dX7_text_41 : decode cX7_text 41 = .ok (.putfield 88, 3) := by decide +kernel
theorem dX7_text_44 : decode cX7_text 44 = .ok (.aload_n 0, 1) := by decide +kernel
theorem dX7_text_45 : decode cX7_text 45 = .ok (.getfield 22, 3) := by decide +kernel
theorem dX7_text_48 : decode cX7_text 48 = .ok (.ifCond .eq 5, 3) := by decide +kernel
theorem dX7_text_51 : decode cX7_text 51 = .ok (.iconst (-1), 1) := by decide +kernel
theorem dX7_text_52 : decode cX7_text 52 = .ok (.ireturn, 1) := by decide +kernel
theorem dX7_text_53 : decode cX7_text 53 = .ok (.aload_n 0, 1) := by decide +kernel
theorem dX7_text_54 : decode cX7_text 54 = .ok (.getfield 7, 3) := by decide +kernel
theorem dX7_text_57 : decode cX7_text 57 = .ok (.iconst 1, 1) := by decide +kernel
theorem dX7_text_58 : decode cX7_text 58 = .ok (.dup2, 1) := by decide +kernel
theorem dX7_text_59 : decode cX7_text 59 = .ok (.iaload, 1) := by decide +kernel
theorem dX7_text_60 : decode cX7_text 60 = .ok (.iconst 1, 1) := by decide +kernel
theorem dX7_text_61 : decode cX7_text 61 = .ok (.iadd, 1) := by decide +kernel
theorem dX7_text_62 : decode cX7_text 62 = .ok (.iastore, 1) := by decide +kernel
theorem dX7_text_63 : decode cX7_text 63 = .ok (.aload_n 0, 1) := by decide +kernel
theorem dX7_text_64 : decode cX7_text 64 = .ok (.getfield 7, 3) := by decide +kernel
theorem dX7_text_67 : decode cX7_text 67 = .ok (.iconst 1, 1) := by decide +kernel
theorem dX7_text_68 : decode cX7_text 68 = .ok (.iaload, 1) := by decide +kernel
theorem dX7_text_69 : decode cX7_text 69 = .ok (.iconst 1, 1) := by decide +kernel
theorem dX7_text_70 : decode cX7_text 70 = .ok (.isub, 1) := by decide +kernel
theorem dX7_text_71 : decode cX7_text 71 = .ok (.ireturn, 1) := by decide +kernel
theorem dX7_fault_0 : decode cX7_fault 0 = .ok (.iload_n 1, 1) := by decide +kernel
theorem dX7_fault_1 : decode cX7_fault 1 = .ok (.ifCond .ne 10, 3) := by decide +kernel
theorem dX7_fault_4 : decode cX7_fault 4 = .ok (.aload_n 0, 1) := by decide +kernel
theorem dX7_fault_5 : decode cX7_fault 5 = .ok (.getfield 22, 3) := by decide +kernel
theorem dX7_fault_8 : decode cX7_fault 8 = .ok (.goto 16, 3) := by decide +kernel
theorem dX7_fault_11 : decode cX7_fault 11 = .ok (.iload_n 1, 1) := by decide +kernel
theorem dX7_fault_12 : decode cX7_fault 12 = .ok (.iconst 1, 1) := by decide +kernel
theorem dX7_fault_13 : decode cX7_fault 13 = .ok (.if_icmp .ne 10, 3) := by decide +kernel
theorem dX7_fault_16 : decode cX7_fault 16 = .ok (.aload_n 0, 1) := by decide +kernel
theorem dX7_fault_17 : decode cX7_fault 17 = .ok (.getfield 26, 3) := by decide +kernel
theorem dX7_fault_20 : decode cX7_fault 20 = .ok (.goto 4, 3) := by decide +kernel
theorem dX7_fault_23 : decode cX7_fault 23 = .ok (.iconst (-1), 1) := by decide +kernel
theorem dX7_fault_24 : decode cX7_fault 24 = .ok (.ireturn, 1) := by decide +kernel
theorem dX7_by_0 : decode cX7_by 0 = .ok (.iload_n 1, 1) := by decide +kernel
theorem dX7_by_1 : decode cX7_by 1 = .ok (.iconst (-1), 1) := by decide +kernel
theorem dX7_by_2 : decode cX7_by 2 = .ok (.aload_n 0, 1) := by decide +kernel
theorem dX7_by_3 : decode cX7_by 3 = .ok (.getfield 7, 3) := by decide +kernel
theorem dX7_by_6 : decode cX7_by 6 = .ok (.iconst 1, 1) := by decide +kernel
theorem dX7_by_7 : decode cX7_by 7 = .ok (.iaload, 1) := by decide +kernel
theorem dX7_by_8 : decode cX7_by 8 = .ok (.iconst 1, 1) := by decide +kernel
theorem dX7_by_9 : decode cX7_by 9 = .ok (.isub, 1) := by decide +kernel
theorem dX7_by_10 : decode cX7_by 10 = .ok (.invokestatic 63, 3) := by decide +kernel
theorem dX7_by_13 : decode cX7_by 13 = .ok (.ifCond .ne 5, 3) := by decide +kernel
theorem dX7_by_16 : decode cX7_by 16 = .ok (.iconst 0, 1) := by decide +kernel
theorem dX7_by_17 : decode cX7_by 17 = .ok (.ireturn, 1) := by decide +kernel
theorem dX7_by_18 : decode cX7_by 18 = .ok (.aload_n 0, 1) := by decide +kernel
theorem dX7_by_19 : decode cX7_by 19 = .ok (.getfield 7, 3) := by decide +kernel
theorem dX7_by_22 : decode cX7_by 22 = .ok (.iconst 2, 1) := by decide +kernel
theorem dX7_by_23 : decode cX7_by 23 = .ok (.iload_n 1, 1) := by decide +kernel
theorem dX7_by_24 : decode cX7_by 24 = .ok (.iastore, 1) := by decide +kernel
theorem dX7_by_25 : decode cX7_by 25 = .ok (.iconst 1, 1) := by decide +kernel
theorem dX7_by_26 : decode cX7_by 26 = .ok (.ireturn, 1) := by decide +kernel
theorem dX7_clip_0 : decode cX7_clip 0 = .ok (.lload_n 0, 1) := by decide +kernel
theorem dX7_clip_1 : decode cX7_clip 1 = .ok (.ldc2_w 247, 3) := by decide +kernel
theorem dX7_clip_4 : decode cX7_clip 4 = .ok (.lcmp, 1) := by decide +kernel
theorem dX7_clip_5 : decode cX7_clip 5 = .ok (.ifCond .le 9, 3) := by decide +kernel
theorem dX7_clip_8 : decode cX7_clip 8 = .ok (.ldc2_w 247, 3) := by decide +kernel
theorem dX7_clip_11 : decode cX7_clip 11 = .ok (.goto 18, 3) := by decide +kernel
theorem dX7_clip_14 : decode cX7_clip 14 = .ok (.lload_n 0, 1) := by decide +kernel
theorem dX7_clip_15 : decode cX7_clip 15 = .ok (.ldc2_w 249, 3) := by decide +kernel
theorem dX7_clip_18 : decode cX7_clip 18 = .ok (.lcmp, 1) := by decide +kernel
theorem dX7_clip_19 : decode cX7_clip 19 = .ok (.ifCond .ge 9, 3) := by decide +kernel
theorem dX7_clip_22 : decode cX7_clip 22 = .ok (.ldc2_w 249, 3) := by decide +kernel
theorem dX7_clip_25 : decode cX7_clip 25 = .ok (.goto 4, 3) := by decide +kernel
theorem dX7_clip_28 : decode cX7_clip 28 = .ok (.lload_n 0, 1) := by decide +kernel
theorem dX7_clip_29 : decode cX7_clip 29 = .ok (.lreturn, 1) := by decide +kernel
theorem dX7_two_0 : decode cX7_two 0 = .ok (.iload_n 0, 1) := by decide +kernel
theorem dX7_two_1 : decode cX7_two 1 = .ok (.tableswitch 48 6 8 #[27, 34, 41], 27) := by decide +kernel
theorem dX7_two_28 : decode cX7_two 28 = .ok (.lload_n 1, 1) := by decide +kernel
theorem dX7_two_29 : decode cX7_two 29 = .ok (.lload_n 3, 1) := by decide +kernel
theorem dX7_two_30 : decode cX7_two 30 = .ok (.ladd, 1) := by decide +kernel
theorem dX7_two_31 : decode cX7_two 31 = .ok (.invokestatic 251, 3) := by decide +kernel
theorem dX7_two_34 : decode cX7_two 34 = .ok (.lreturn, 1) := by decide +kernel
theorem dX7_two_35 : decode cX7_two 35 = .ok (.lload_n 1, 1) := by decide +kernel
theorem dX7_two_36 : decode cX7_two 36 = .ok (.lload_n 3, 1) := by decide +kernel
theorem dX7_two_37 : decode cX7_two 37 = .ok (.lsub, 1) := by decide +kernel
theorem dX7_two_38 : decode cX7_two 38 = .ok (.invokestatic 251, 3) := by decide +kernel
theorem dX7_two_41 : decode cX7_two 41 = .ok (.lreturn, 1) := by decide +kernel
theorem dX7_two_42 : decode cX7_two 42 = .ok (.lload_n 1, 1) := by decide +kernel
theorem dX7_two_43 : decode cX7_two 43 = .ok (.lload_n 3, 1) := by decide +kernel
theorem dX7_two_44 : decode cX7_two 44 = .ok (.lmul, 1) := by decide +kernel
theorem dX7_two_45 : decode cX7_two 45 = .ok (.invokestatic 251, 3) := by decide +kernel
theorem dX7_two_48 : decode cX7_two 48 = .ok (.lreturn, 1) := by decide +kernel
theorem dX7_two_49 : decode cX7_two 49 = .ok (.lload_n 3, 1) := by decide +kernel
theorem dX7_two_50 : decode cX7_two 50 = .ok (.lconst 0, 1) := by decide +kernel
theorem dX7_two_51 : decode cX7_two 51 = .ok (.lcmp, 1) := by decide +kernel
theorem dX7_two_52 : decode cX7_two 52 = .ok (.ifCond .ne 7, 3) := by decide +kernel
theorem dX7_two_55 : decode cX7_two 55 = .ok (.lconst 0, 1) := by decide +kernel
theorem dX7_two_56 : decode cX7_two 56 = .ok (.goto 9, 3) := by decide +kernel
theorem dX7_two_59 : decode cX7_two 59 = .ok (.lload_n 1, 1) := by decide +kernel
theorem dX7_two_60 : decode cX7_two 60 = .ok (.lload_n 3, 1) := by decide +kernel
theorem dX7_two_61 : decode cX7_two 61 = .ok (.ldiv, 1) := by decide +kernel
theorem dX7_two_62 : decode cX7_two 62 = .ok (.invokestatic 251, 3) := by decide +kernel
theorem dX7_two_65 : decode cX7_two 65 = .ok (.lreturn, 1) := by decide +kernel
theorem dX7_isAsked_0 : decode cX7_isAsked 0 = .ok (.iload_n 0, 1) := by decide +kernel
theorem dX7_isAsked_1 : decode cX7_isAsked 1 = .ok (.bipush 10, 2) := by decide +kernel
theorem dX7_isAsked_3 : decode cX7_isAsked 3 = .ok (.if_icmp .ne 17, 3) := by decide +kernel
theorem dX7_isAsked_6 : decode cX7_isAsked 6 = .ok (.lload_n 1, 1) := by decide +kernel
theorem dX7_isAsked_7 : decode cX7_isAsked 7 = .ok (.lload_n 3, 1) := by decide +kernel
theorem dX7_isAsked_8 : decode cX7_isAsked 8 = .ok (.lcmp, 1) := by decide +kernel
theorem dX7_isAsked_9 : decode cX7_isAsked 9 = .ok (.ifCond .ge 7, 3) := by decide +kernel
theorem dX7_isAsked_12 : decode cX7_isAsked 12 = .ok (.iconst 1, 1) := by decide +kernel
theorem dX7_isAsked_13 : decode cX7_isAsked 13 = .ok (.goto 98, 3) := by decide +kernel
theorem dX7_isAsked_16 : decode cX7_isAsked 16 = .ok (.iconst 0, 1) := by decide +kernel
theorem dX7_isAsked_17 : decode cX7_isAsked 17 = .ok (.goto 94, 3) := by decide +kernel
theorem dX7_isAsked_20 : decode cX7_isAsked 20 = .ok (.iload_n 0, 1) := by decide +kernel
theorem dX7_isAsked_21 : decode cX7_isAsked 21 = .ok (.bipush 11, 2) := by decide +kernel
theorem dX7_isAsked_23 : decode cX7_isAsked 23 = .ok (.if_icmp .ne 17, 3) := by decide +kernel
theorem dX7_isAsked_26 : decode cX7_isAsked 26 = .ok (.lload_n 1, 1) := by decide +kernel
theorem dX7_isAsked_27 : decode cX7_isAsked 27 = .ok (.lload_n 3, 1) := by decide +kernel
theorem dX7_isAsked_28 : decode cX7_isAsked 28 = .ok (.lcmp, 1) := by decide +kernel
theorem dX7_isAsked_29 : decode cX7_isAsked 29 = .ok (.ifCond .gt 7, 3) := by decide +kernel
theorem dX7_isAsked_32 : decode cX7_isAsked 32 = .ok (.iconst 1, 1) := by decide +kernel
theorem dX7_isAsked_33 : decode cX7_isAsked 33 = .ok (.goto 78, 3) := by decide +kernel
theorem dX7_isAsked_36 : decode cX7_isAsked 36 = .ok (.iconst 0, 1) := by decide +kernel
theorem dX7_isAsked_37 : decode cX7_isAsked 37 = .ok (.goto 74, 3) := by decide +kernel
theorem dX7_isAsked_40 : decode cX7_isAsked 40 = .ok (.iload_n 0, 1) := by decide +kernel
theorem dX7_isAsked_41 : decode cX7_isAsked 41 = .ok (.bipush 12, 2) := by decide +kernel
theorem dX7_isAsked_43 : decode cX7_isAsked 43 = .ok (.if_icmp .ne 17, 3) := by decide +kernel
theorem dX7_isAsked_46 : decode cX7_isAsked 46 = .ok (.lload_n 1, 1) := by decide +kernel
theorem dX7_isAsked_47 : decode cX7_isAsked 47 = .ok (.lload_n 3, 1) := by decide +kernel
theorem dX7_isAsked_48 : decode cX7_isAsked 48 = .ok (.lcmp, 1) := by decide +kernel
theorem dX7_isAsked_49 : decode cX7_isAsked 49 = .ok (.ifCond .le 7, 3) := by decide +kernel
theorem dX7_isAsked_52 : decode cX7_isAsked 52 = .ok (.iconst 1, 1) := by decide +kernel
theorem dX7_isAsked_53 : decode cX7_isAsked 53 = .ok (.goto 58, 3) := by decide +kernel
theorem dX7_isAsked_56 : decode cX7_isAsked 56 = .ok (.iconst 0, 1) := by decide +kernel
theorem dX7_isAsked_57 : decode cX7_isAsked 57 = .ok (.goto 54, 3) := by decide +kernel
theorem dX7_isAsked_60 : decode cX7_isAsked 60 = .ok (.iload_n 0, 1) := by decide +kernel
theorem dX7_isAsked_61 : decode cX7_isAsked 61 = .ok (.bipush 13, 2) := by decide +kernel
theorem dX7_isAsked_63 : decode cX7_isAsked 63 = .ok (.if_icmp .ne 17, 3) := by decide +kernel
theorem dX7_isAsked_66 : decode cX7_isAsked 66 = .ok (.lload_n 1, 1) := by decide +kernel
theorem dX7_isAsked_67 : decode cX7_isAsked 67 = .ok (.lload_n 3, 1) := by decide +kernel
theorem dX7_isAsked_68 : decode cX7_isAsked 68 = .ok (.lcmp, 1) := by decide +kernel
theorem dX7_isAsked_69 : decode cX7_isAsked 69 = .ok (.ifCond .lt 7, 3) := by decide +kernel
theorem dX7_isAsked_72 : decode cX7_isAsked 72 = .ok (.iconst 1, 1) := by decide +kernel
theorem dX7_isAsked_73 : decode cX7_isAsked 73 = .ok (.goto 38, 3) := by decide +kernel
theorem dX7_isAsked_76 : decode cX7_isAsked 76 = .ok (.iconst 0, 1) := by decide +kernel
theorem dX7_isAsked_77 : decode cX7_isAsked 77 = .ok (.goto 34, 3) := by decide +kernel
theorem dX7_isAsked_80 : decode cX7_isAsked 80 = .ok (.iload_n 0, 1) := by decide +kernel
theorem dX7_isAsked_81 : decode cX7_isAsked 81 = .ok (.bipush 14, 2) := by decide +kernel
theorem dX7_isAsked_83 : decode cX7_isAsked 83 = .ok (.if_icmp .ne 17, 3) := by decide +kernel
theorem dX7_isAsked_86 : decode cX7_isAsked 86 = .ok (.lload_n 1, 1) := by decide +kernel
theorem dX7_isAsked_87 : decode cX7_isAsked 87 = .ok (.lload_n 3, 1) := by decide +kernel
theorem dX7_isAsked_88 : decode cX7_isAsked 88 = .ok (.lcmp, 1) := by decide +kernel
theorem dX7_isAsked_89 : decode cX7_isAsked 89 = .ok (.ifCond .ne 7, 3) := by decide +kernel
theorem dX7_isAsked_92 : decode cX7_isAsked 92 = .ok (.iconst 1, 1) := by decide +kernel
theorem dX7_isAsked_93 : decode cX7_isAsked 93 = .ok (.goto 18, 3) := by decide +kernel
theorem dX7_isAsked_96 : decode cX7_isAsked 96 = .ok (.iconst 0, 1) := by decide +kernel
theorem dX7_isAsked_97 : decode cX7_isAsked 97 = .ok (.goto 14, 3) := by decide +kernel
theorem dX7_isAsked_100 : decode cX7_isAsked 100 = .ok (.lload_n 1, 1) := by decide +kernel
theorem dX7_isAsked_101 : decode cX7_isAsked 101 = .ok (.lload_n 3, 1) := by decide +kernel
theorem dX7_isAsked_102 : decode cX7_isAsked 102 = .ok (.lcmp, 1) := by decide +kernel
theorem dX7_isAsked_103 : decode cX7_isAsked 103 = .ok (.ifCond .eq 7, 3) := by decide +kernel
theorem dX7_isAsked_106 : decode cX7_isAsked 106 = .ok (.iconst 1, 1) := by decide +kernel
theorem dX7_isAsked_107 : decode cX7_isAsked 107 = .ok (.goto 4, 3) := by decide +kernel
theorem dX7_isAsked_110 : decode cX7_isAsked 110 = .ok (.iconst 0, 1) := by decide +kernel
theorem dX7_isAsked_111 : decode cX7_isAsked 111 = .ok (.ireturn, 1) := by decide +kernel
theorem dX7_ofOne_0 : decode cX7_ofOne 0 = .ok (.iload_n 1, 1) := by decide +kernel
theorem dX7_ofOne_1 : decode cX7_ofOne 1 = .ok (.iconst 5, 1) := by decide +kernel
theorem dX7_ofOne_2 : decode cX7_ofOne 2 = .ok (.if_icmp .ne 6, 3) := by decide +kernel
theorem dX7_ofOne_5 : decode cX7_ofOne 5 = .ok (.lload_n 2, 1) := by decide +kernel
theorem dX7_ofOne_6 : decode cX7_ofOne 6 = .ok (.lneg, 1) := by decide +kernel
theorem dX7_ofOne_7 : decode cX7_ofOne 7 = .ok (.lreturn, 1) := by decide +kernel
theorem dX7_ofOne_8 : decode cX7_ofOne 8 = .ok (.iload_n 1, 1) := by decide +kernel
theorem dX7_ofOne_9 : decode cX7_ofOne 9 = .ok (.iconst 2, 1) := by decide +kernel
theorem dX7_ofOne_10 : decode cX7_ofOne 10 = .ok (.if_icmp .ne 33, 3) := by decide +kernel
theorem dX7_ofOne_13 : decode cX7_ofOne 13 = .ok (.lload_n 2, 1) := by decide +kernel
theorem dX7_ofOne_14 : decode cX7_ofOne 14 = .ok (.lconst 0, 1) := by decide +kernel
theorem dX7_ofOne_15 : decode cX7_ofOne 15 = .ok (.lcmp, 1) := by decide +kernel
theorem dX7_ofOne_16 : decode cX7_ofOne 16 = .ok (.ifCond .lt 25, 3) := by decide +kernel
theorem dX7_ofOne_19 : decode cX7_ofOne 19 = .ok (.lload_n 2, 1) := by decide +kernel
theorem dX7_ofOne_20 : decode cX7_ofOne 20 = .ok (.ldc2_w 255, 3) := by decide +kernel
theorem dX7_ofOne_23 : decode cX7_ofOne 23 = .ok (.lcmp, 1) := by decide +kernel
theorem dX7_ofOne_24 : decode cX7_ofOne 24 = .ok (.ifCond .ge 17, 3) := by decide +kernel
theorem dX7_ofOne_27 : decode cX7_ofOne 27 = .ok (.aload_n 0, 1) := by decide +kernel
theorem dX7_ofOne_28 : decode cX7_ofOne 28 = .ok (.getfield 7, 3) := by decide +kernel
theorem dX7_ofOne_31 : decode cX7_ofOne 31 = .ok (.bipush 34, 2) := by decide +kernel
theorem dX7_ofOne_33 : decode cX7_ofOne 33 = .ok (.lload_n 2, 1) := by decide +kernel
theorem dX7_ofOne_34 : decode cX7_ofOne 34 = .ok (.l2i, 1) := by decide +kernel
theorem dX7_ofOne_35 : decode cX7_ofOne 35 = .ok (.iadd, 1) := by decide +kernel
theorem dX7_ofOne_36 : decode cX7_ofOne 36 = .ok (.iaload, 1) := by decide +kernel
theorem dX7_ofOne_37 : decode cX7_ofOne 37 = .ok (.i2l, 1) := by decide +kernel
theorem dX7_ofOne_38 : decode cX7_ofOne 38 = .ok (.goto 4, 3) := by decide +kernel
theorem dX7_ofOne_41 : decode cX7_ofOne 41 = .ok (.lconst 0, 1) := by decide +kernel
theorem dX7_ofOne_42 : decode cX7_ofOne 42 = .ok (.lreturn, 1) := by decide +kernel
theorem dX7_ofOne_43 : decode cX7_ofOne 43 = .ok (.lload_n 2, 1) := by decide +kernel
theorem dX7_ofOne_44 : decode cX7_ofOne 44 = .ok (.lconst 0, 1) := by decide +kernel
theorem dX7_ofOne_45 : decode cX7_ofOne 45 = .ok (.lcmp, 1) := by decide +kernel
theorem dX7_ofOne_46 : decode cX7_ofOne 46 = .ok (.ifCond .lt 29, 3) := by decide +kernel
theorem dX7_ofOne_49 : decode cX7_ofOne 49 = .ok (.lload_n 2, 1) := by decide +kernel
theorem dX7_ofOne_50 : decode cX7_ofOne 50 = .ok (.aload_n 0, 1) := by decide +kernel
theorem dX7_ofOne_51 : decode cX7_ofOne 51 = .ok (.getfield 7, 3) := by decide +kernel
theorem dX7_ofOne_54 : decode cX7_ofOne 54 = .ok (.iconst 0, 1) := by decide +kernel
theorem dX7_ofOne_55 : decode cX7_ofOne 55 = .ok (.iaload, 1) := by decide +kernel
theorem dX7_ofOne_56 : decode cX7_ofOne 56 = .ok (.i2l, 1) := by decide +kernel
theorem dX7_ofOne_57 : decode cX7_ofOne 57 = .ok (.lcmp, 1) := by decide +kernel
theorem dX7_ofOne_58 : decode cX7_ofOne 58 = .ok (.ifCond .ge 17, 3) := by decide +kernel
theorem dX7_ofOne_61 : decode cX7_ofOne 61 = .ok (.aload_n 0, 1) := by decide +kernel
theorem dX7_ofOne_62 : decode cX7_ofOne 62 = .ok (.getfield 7, 3) := by decide +kernel
theorem dX7_ofOne_65 : decode cX7_ofOne 65 = .ok (.bipush 23, 2) := by decide +kernel
theorem dX7_ofOne_67 : decode cX7_ofOne 67 = .ok (.lload_n 2, 1) := by decide +kernel
theorem dX7_ofOne_68 : decode cX7_ofOne 68 = .ok (.l2i, 1) := by decide +kernel
theorem dX7_ofOne_69 : decode cX7_ofOne 69 = .ok (.iadd, 1) := by decide +kernel
theorem dX7_ofOne_70 : decode cX7_ofOne 70 = .ok (.iaload, 1) := by decide +kernel
theorem dX7_ofOne_71 : decode cX7_ofOne 71 = .ok (.i2l, 1) := by decide +kernel
theorem dX7_ofOne_72 : decode cX7_ofOne 72 = .ok (.goto 4, 3) := by decide +kernel
theorem dX7_ofOne_75 : decode cX7_ofOne 75 = .ok (.lconst 0, 1) := by decide +kernel
theorem dX7_ofOne_76 : decode cX7_ofOne 76 = .ok (.lreturn, 1) := by decide +kernel
theorem dX7_joined_0 : decode cX7_joined 0 = .ok (.iload_n 0, 1) := by decide +kernel
theorem dX7_joined_1 : decode cX7_joined 1 = .ok (.bipush 21, 2) := by decide +kernel
theorem dX7_joined_3 : decode cX7_joined 3 = .ok (.if_icmp .ne 19, 3) := by decide +kernel
theorem dX7_joined_6 : decode cX7_joined 6 = .ok (.iload_n 1, 1) := by decide +kernel
theorem dX7_joined_7 : decode cX7_joined 7 = .ok (.ifCond .eq 11, 3) := by decide +kernel
theorem dX7_joined_10 : decode cX7_joined 10 = .ok (.iload_n 2, 1) := by decide +kernel
theorem dX7_joined_11 : decode cX7_joined 11 = .ok (.ifCond .eq 7, 3) := by decide +kernel
theorem dX7_joined_14 : decode cX7_joined 14 = .ok (.iconst 1, 1) := by decide +kernel
theorem dX7_joined_15 : decode cX7_joined 15 = .ok (.goto 20, 3) := by decide +kernel
theorem dX7_joined_18 : decode cX7_joined 18 = .ok (.iconst 0, 1) := by decide +kernel
theorem dX7_joined_19 : decode cX7_joined 19 = .ok (.goto 16, 3) := by decide +kernel
theorem dX7_joined_22 : decode cX7_joined 22 = .ok (.iload_n 1, 1) := by decide +kernel
theorem dX7_joined_23 : decode cX7_joined 23 = .ok (.ifCond .ne 7, 3) := by decide +kernel
theorem dX7_joined_26 : decode cX7_joined 26 = .ok (.iload_n 2, 1) := by decide +kernel
theorem dX7_joined_27 : decode cX7_joined 27 = .ok (.ifCond .eq 7, 3) := by decide +kernel
theorem dX7_joined_30 : decode cX7_joined 30 = .ok (.iconst 1, 1) := by decide +kernel
theorem dX7_joined_31 : decode cX7_joined 31 = .ok (.goto 4, 3) := by decide +kernel
theorem dX7_joined_34 : decode cX7_joined 34 = .ok (.iconst 0, 1) := by decide +kernel
theorem dX7_joined_35 : decode cX7_joined 35 = .ok (.ireturn, 1) := by decide +kernel
theorem dX7_summedUp_0 : decode cX7_summedUp 0 = .ok (.sipush 681, 3) := by decide +kernel
theorem dX7_summedUp_3 : decode cX7_summedUp 3 = .ok (.iload_n 1, 1) := by decide +kernel
theorem dX7_summedUp_4 : decode cX7_summedUp 4 = .ok (.imul, 1) := by decide +kernel
theorem dX7_summedUp_5 : decode cX7_summedUp 5 = .ok (.iconst 1, 1) := by decide +kernel
theorem dX7_summedUp_6 : decode cX7_summedUp 6 = .ok (.iadd, 1) := by decide +kernel
theorem dX7_summedUp_7 : decode cX7_summedUp 7 = .ok (.iconst 3, 1) := by decide +kernel
theorem dX7_summedUp_8 : decode cX7_summedUp 8 = .ok (.iload_n 2, 1) := by decide +kernel
theorem dX7_summedUp_9 : decode cX7_summedUp 9 = .ok (.imul, 1) := by decide +kernel
theorem dX7_summedUp_10 : decode cX7_summedUp 10 = .ok (.iadd, 1) := by decide +kernel
theorem dX7_summedUp_11 : decode cX7_summedUp 11 = .ok (.istore_n 3, 1) := by decide +kernel
theorem dX7_summedUp_12 : decode cX7_summedUp 12 = .ok (.sipush 681, 3) := by decide +kernel
theorem dX7_summedUp_15 : decode cX7_summedUp 15 = .ok (.iload_n 1, 1) := by decide +kernel
theorem dX7_summedUp_16 : decode cX7_summedUp 16 = .ok (.imul, 1) := by decide +kernel
theorem dX7_summedUp_17 : decode cX7_summedUp 17 = .ok (.bipush 73, 2) := by decide +kernel
theorem dX7_summedUp_19 : decode cX7_summedUp 19 = .ok (.iadd, 1) := by decide +kernel
theorem dX7_summedUp_20 : decode cX7_summedUp 20 = .ok (.istore 4, 2) := by decide +kernel
theorem dX7_summedUp_22 : decode cX7_summedUp 22 = .ok (.iconst 0, 1) := by decide +kernel
theorem dX7_summedUp_23 : decode cX7_summedUp 23 = .ok (.istore 5, 2) := by decide +kernel
theorem dX7_summedUp_25 : decode cX7_summedUp 25 = .ok (.iconst 0, 1) := by decide +kernel
theorem dX7_summedUp_26 : decode cX7_summedUp 26 = .ok (.istore 6, 2) := by decide +kernel
theorem dX7_summedUp_28 : decode cX7_summedUp 28 = .ok (.aload_n 0, 1) := by decide +kernel
theorem dX7_summedUp_29 : decode cX7_summedUp 29 = .ok (.getfield 16, 3) := by decide +kernel
theorem dX7_summedUp_32 : decode cX7_summedUp 32 = .ok (.iload_n 3, 1) := by decide +kernel
theorem dX7_summedUp_33 : decode cX7_summedUp 33 = .ok (.iconst 1, 1) := by decide +kernel
theorem dX7_summedUp_34 : decode cX7_summedUp 34 = .ok (.iadd, 1) := by decide +kernel
theorem dX7_summedUp_35 : decode cX7_summedUp 35 = .ok (.iaload, 1) := by decide +kernel
theorem dX7_summedUp_36 : decode cX7_summedUp 36 = .ok (.istore 7, 2) := by decide +kernel
theorem dX7_summedUp_38 : decode cX7_summedUp 38 = .ok (.iload 7, 2) := by decide +kernel
theorem dX7_summedUp_40 : decode cX7_summedUp 40 = .ok (.aload_n 0, 1) := by decide +kernel
theorem dX7_summedUp_41 : decode cX7_summedUp 41 = .ok (.getfield 16, 3) := by decide +kernel
theorem dX7_summedUp_44 : decode cX7_summedUp 44 = .ok (.iload_n 3, 1) := by decide +kernel
theorem dX7_summedUp_45 : decode cX7_summedUp 45 = .ok (.iconst 2, 1) := by decide +kernel
theorem dX7_summedUp_46 : decode cX7_summedUp 46 = .ok (.iadd, 1) := by decide +kernel
theorem dX7_summedUp_47 : decode cX7_summedUp 47 = .ok (.iaload, 1) := by decide +kernel
theorem dX7_summedUp_48 : decode cX7_summedUp 48 = .ok (.if_icmp .ge 307, 3) := by decide +kernel
theorem dX7_summedUp_51 : decode cX7_summedUp 51 = .ok (.aload_n 0, 1) := by decide +kernel
theorem dX7_summedUp_52 : decode cX7_summedUp 52 = .ok (.getfield 16, 3) := by decide +kernel
theorem dX7_summedUp_55 : decode cX7_summedUp 55 = .ok (.iload 4, 2) := by decide +kernel
theorem dX7_summedUp_57 : decode cX7_summedUp 57 = .ok (.iconst 2, 1) := by decide +kernel
theorem dX7_summedUp_58 : decode cX7_summedUp 58 = .ok (.iload 7, 2) := by decide +kernel
theorem dX7_summedUp_60 : decode cX7_summedUp 60 = .ok (.imul, 1) := by decide +kernel
theorem dX7_summedUp_61 : decode cX7_summedUp 61 = .ok (.iadd, 1) := by decide +kernel
theorem dX7_summedUp_62 : decode cX7_summedUp 62 = .ok (.iaload, 1) := by decide +kernel
theorem dX7_summedUp_63 : decode cX7_summedUp 63 = .ok (.istore 8, 2) := by decide +kernel
theorem dX7_summedUp_65 : decode cX7_summedUp 65 = .ok (.aload_n 0, 1) := by decide +kernel
theorem dX7_summedUp_66 : decode cX7_summedUp 66 = .ok (.getfield 16, 3) := by decide +kernel
theorem dX7_summedUp_69 : decode cX7_summedUp 69 = .ok (.iload 4, 2) := by decide +kernel
theorem dX7_summedUp_71 : decode cX7_summedUp 71 = .ok (.iconst 2, 1) := by decide +kernel
theorem dX7_summedUp_72 : decode cX7_summedUp 72 = .ok (.iload 7, 2) := by decide +kernel
theorem dX7_summedUp_74 : decode cX7_summedUp 74 = .ok (.imul, 1) := by decide +kernel
theorem dX7_summedUp_75 : decode cX7_summedUp 75 = .ok (.iadd, 1) := by decide +kernel
theorem dX7_summedUp_76 : decode cX7_summedUp 76 = .ok (.iconst 1, 1) := by decide +kernel
theorem dX7_summedUp_77 : decode cX7_summedUp 77 = .ok (.iadd, 1) := by decide +kernel
theorem dX7_summedUp_78 : decode cX7_summedUp 78 = .ok (.iaload, 1) := by decide +kernel
theorem dX7_summedUp_79 : decode cX7_summedUp 79 = .ok (.istore 9, 2) := by decide +kernel
theorem dX7_summedUp_81 : decode cX7_summedUp 81 = .ok (.iload 8, 2) := by decide +kernel
theorem dX7_summedUp_83 : decode cX7_summedUp 83 = .ok (.iconst 1, 1) := by decide +kernel
theorem dX7_summedUp_84 : decode cX7_summedUp 84 = .ok (.if_icmp .gt 35, 3) := by decide +kernel
theorem dX7_summedUp_87 : decode cX7_summedUp 87 = .ok (.aload_n 0, 1) := by decide +kernel
theorem dX7_summedUp_88 : decode cX7_summedUp 88 = .ok (.getfield 35, 3) := by decide +kernel
theorem dX7_summedUp_91 : decode cX7_summedUp 91 = .ok (.iload 5, 2) := by decide +kernel
theorem dX7_summedUp_93 : decode cX7_summedUp 93 = .ok (.iload 8, 2) := by decide +kernel
theorem dX7_summedUp_95 : decode cX7_summedUp 95 = .ok (.ifCond .ne 9, 3) := by decide +kernel
theorem dX7_summedUp_98 : decode cX7_summedUp 98 = .ok (.iload 9, 2) := by decide +kernel
theorem dX7_summedUp_100 : decode cX7_summedUp 100 = .ok (.i2l, 1) := by decide +kernel
theorem dX7_summedUp_101 : decode cX7_summedUp 101 = .ok (.goto 11, 3) := by decide +kernel
theorem dX7_summedUp_104 : decode cX7_summedUp 104 = .ok (.aload_n 0, 1) := by decide +kernel
theorem dX7_summedUp_105 : decode cX7_summedUp 105 = .ok (.getfield 32, 3) := by decide +kernel
theorem dX7_summedUp_108 : decode cX7_summedUp 108 = .ok (.iload 9, 2) := by decide +kernel
theorem dX7_summedUp_110 : decode cX7_summedUp 110 = .ok (.iaload, 1) := by decide +kernel
theorem dX7_summedUp_111 : decode cX7_summedUp 111 = .ok (.i2l, 1) := by decide +kernel
theorem dX7_summedUp_112 : decode cX7_summedUp 112 = .ok (.lastore, 1) := by decide +kernel
theorem dX7_summedUp_113 : decode cX7_summedUp 113 = .ok (.iinc 5 1, 3) := by decide +kernel
theorem dX7_summedUp_116 : decode cX7_summedUp 116 = .ok (.goto 233, 3) := by decide +kernel
theorem dX7_summedUp_119 : decode cX7_summedUp 119 = .ok (.iload 8, 2) := by decide +kernel
theorem dX7_summedUp_121 : decode cX7_summedUp 121 = .ok (.iconst 3, 1) := by decide +kernel
theorem dX7_summedUp_122 : decode cX7_summedUp 122 = .ok (.if_icmp .ne 38, 3) := by decide +kernel
theorem dX7_summedUp_125 : decode cX7_summedUp 125 = .ok (.iinc 5 (-1), 3) := by decide +kernel
theorem dX7_summedUp_128 : decode cX7_summedUp 128 = .ok (.iinc 6 (-1), 3) := by decide +kernel
theorem dX7_summedUp_131 : decode cX7_summedUp 131 = .ok (.aload_n 0, 1) := by decide +kernel
theorem dX7_summedUp_132 : decode cX7_summedUp 132 = .ok (.getfield 39, 3) := by decide +kernel
theorem dX7_summedUp_135 : decode cX7_summedUp 135 = .ok (.iload 6, 2) := by decide +kernel
theorem dX7_summedUp_137 : decode cX7_summedUp 137 = .ok (.baload, 1) := by decide +kernel
theorem dX7_summedUp_138 : decode cX7_summedUp 138 = .ok (.ifCond .ne 211, 3) := by decide +kernel
theorem dX7_summedUp_141 : decode cX7_summedUp 141 = .ok (.aload_n 0, 1) := by decide +kernel
theorem dX7_summedUp_142 : decode cX7_summedUp 142 = .ok (.getfield 35, 3) := by decide +kernel
theorem dX7_summedUp_145 : decode cX7_summedUp 145 = .ok (.iload 5, 2) := by decide +kernel
theorem dX7_summedUp_147 : decode cX7_summedUp 147 = .ok (.iconst 1, 1) := by decide +kernel
theorem dX7_summedUp_148 : decode cX7_summedUp 148 = .ok (.isub, 1) := by decide +kernel
theorem dX7_summedUp_149 : decode cX7_summedUp 149 = .ok (.aload_n 0, 1) := by decide +kernel
theorem dX7_summedUp_150 : decode cX7_summedUp 150 = .ok (.getfield 35, 3) := by decide +kernel
theorem dX7_summedUp_153 : decode cX7_summedUp 153 = .ok (.iload 5, 2) := by decide +kernel
theorem dX7_summedUp_155 : decode cX7_summedUp 155 = .ok (.laload, 1) := by decide +kernel
theorem dX7_summedUp_156 : decode cX7_summedUp 156 = .ok (.lastore, 1) := by decide +kernel
theorem dX7_summedUp_157 : decode cX7_summedUp 157 = .ok (.goto 192, 3) := by decide +kernel
theorem dX7_summedUp_160 : decode cX7_summedUp 160 = .ok (.iload 8, 2) := by decide +kernel
theorem dX7_summedUp_162 : decode cX7_summedUp 162 = .ok (.iconst 5, 1) := by decide +kernel
theorem dX7_summedUp_163 : decode cX7_summedUp 163 = .ok (.if_icmp .gt 30, 3) := by decide +kernel
theorem dX7_summedUp_166 : decode cX7_summedUp 166 = .ok (.aload_n 0, 1) := by decide +kernel
theorem dX7_summedUp_167 : decode cX7_summedUp 167 = .ok (.getfield 35, 3) := by decide +kernel
theorem dX7_summedUp_170 : decode cX7_summedUp 170 = .ok (.iload 5, 2) := by decide +kernel
theorem dX7_summedUp_172 : decode cX7_summedUp 172 = .ok (.iconst 1, 1) := by decide +kernel
theorem dX7_summedUp_173 : decode cX7_summedUp 173 = .ok (.isub, 1) := by decide +kernel
theorem dX7_summedUp_174 : decode cX7_summedUp 174 = .ok (.aload_n 0, 1) := by decide +kernel
theorem dX7_summedUp_175 : decode cX7_summedUp 175 = .ok (.iload 8, 2) := by decide +kernel
theorem dX7_summedUp_177 : decode cX7_summedUp 177 = .ok (.aload_n 0, 1) := by decide +kernel
theorem dX7_summedUp_178 : decode cX7_summedUp 178 = .ok (.getfield 35, 3) := by decide +kernel
theorem dX7_summedUp_181 : decode cX7_summedUp 181 = .ok (.iload 5, 2) := by decide +kernel
theorem dX7_summedUp_183 : decode cX7_summedUp 183 = .ok (.iconst 1, 1) := by decide +kernel
theorem dX7_summedUp_184 : decode cX7_summedUp 184 = .ok (.isub, 1) := by decide +kernel
theorem dX7_summedUp_185 : decode cX7_summedUp 185 = .ok (.laload, 1) := by decide +kernel
theorem dX7_summedUp_186 : decode cX7_summedUp 186 = .ok (.invokevirtual 257, 3) := by decide +kernel
theorem dX7_summedUp_189 : decode cX7_summedUp 189 = .ok (.lastore, 1) := by decide +kernel
theorem dX7_summedUp_190 : decode cX7_summedUp 190 = .ok (.goto 159, 3) := by decide +kernel
theorem dX7_summedUp_193 : decode cX7_summedUp 193 = .ok (.iload 8, 2) := by decide +kernel
theorem dX7_summedUp_195 : decode cX7_summedUp 195 = .ok (.bipush 10, 2) := by decide +kernel
theorem dX7_summedUp_197 : decode cX7_summedUp 197 = .ok (.if_icmp .ge 39, 3) := by decide +kernel
theorem dX7_summedUp_200 : decode cX7_summedUp 200 = .ok (.iinc 5 (-1), 3) := by decide +kernel
theorem dX7_summedUp_203 : decode cX7_summedUp 203 = .ok (.aload_n 0, 1) := by decide +kernel
theorem dX7_summedUp_204 : decode cX7_summedUp 204 = .ok (.getfield 35, 3) := by decide +kernel
theorem dX7_summedUp_207 : decode cX7_summedUp 207 = .ok (.iload 5, 2) := by decide +kernel
theorem dX7_summedUp_209 : decode cX7_summedUp 209 = .ok (.iconst 1, 1) := by decide +kernel
theorem dX7_summedUp_210 : decode cX7_summedUp 210 = .ok (.isub, 1) := by decide +kernel
theorem dX7_summedUp_211 : decode cX7_summedUp 211 = .ok (.iload 8, 2) := by decide +kernel
theorem dX7_summedUp_213 : decode cX7_summedUp 213 = .ok (.aload_n 0, 1) := by decide +kernel
theorem dX7_summedUp_214 : decode cX7_summedUp 214 = .ok (.getfield 35, 3) := by decide +kernel
theorem dX7_summedUp_217 : decode cX7_summedUp 217 = .ok (.iload 5, 2) := by decide +kernel
theorem dX7_summedUp_219 : decode cX7_summedUp 219 = .ok (.iconst 1, 1) := by decide +kernel
theorem dX7_summedUp_220 : decode cX7_summedUp 220 = .ok (.isub, 1) := by decide +kernel
theorem dX7_summedUp_221 : decode cX7_summedUp 221 = .ok (.laload, 1) := by decide +kernel
theorem dX7_summedUp_222 : decode cX7_summedUp 222 = .ok (.aload_n 0, 1) := by decide +kernel
theorem dX7_summedUp_223 : decode cX7_summedUp 223 = .ok (.getfield 35, 3) := by decide +kernel
theorem dX7_summedUp_226 : decode cX7_summedUp 226 = .ok (.iload 5, 2) := by decide +kernel
theorem dX7_summedUp_228 : decode cX7_summedUp 228 = .ok (.laload, 1) := by decide +kernel
theorem dX7_summedUp_229 : decode cX7_summedUp 229 = .ok (.invokestatic 261, 3) := by decide +kernel
theorem dX7_summedUp_232 : decode cX7_summedUp 232 = .ok (.lastore, 1) := by decide +kernel
theorem dX7_summedUp_233 : decode cX7_summedUp 233 = .ok (.goto 116, 3) := by decide +kernel
theorem dX7_summedUp_236 : decode cX7_summedUp 236 = .ok (.iload 8, 2) := by decide +kernel
theorem dX7_summedUp_238 : decode cX7_summedUp 238 = .ok (.bipush 20, 2) := by decide +kernel
theorem dX7_summedUp_240 : decode cX7_summedUp 240 = .ok (.if_icmp .ge 40, 3) := by decide +kernel
theorem dX7_summedUp_243 : decode cX7_summedUp 243 = .ok (.iinc 5 (-2), 3) := by decide +kernel
theorem dX7_summedUp_246 : decode cX7_summedUp 246 = .ok (.aload_n 0, 1) := by decide +kernel
theorem dX7_summedUp_247 : decode cX7_summedUp 247 = .ok (.getfield 39, 3) := by decide +kernel
theorem dX7_summedUp_250 : decode cX7_summedUp 250 = .ok (.iload 6, 2) := by decide +kernel
theorem dX7_summedUp_252 : decode cX7_summedUp 252 = .ok (.iload 8, 2) := by decide +kernel
theorem dX7_summedUp_254 : decode cX7_summedUp 254 = .ok (.aload_n 0, 1) := by decide +kernel
theorem dX7_summedUp_255 : decode cX7_summedUp 255 = .ok (.getfield 35, 3) := by decide +kernel
theorem dX7_summedUp_258 : decode cX7_summedUp 258 = .ok (.iload 5, 2) := by decide +kernel
theorem dX7_summedUp_260 : decode cX7_summedUp 260 = .ok (.laload, 1) := by decide +kernel
theorem dX7_summedUp_261 : decode cX7_summedUp 261 = .ok (.aload_n 0, 1) := by decide +kernel
theorem dX7_summedUp_262 : decode cX7_summedUp 262 = .ok (.getfield 35, 3) := by decide +kernel
theorem dX7_summedUp_265 : decode cX7_summedUp 265 = .ok (.iload 5, 2) := by decide +kernel
theorem dX7_summedUp_267 : decode cX7_summedUp 267 = .ok (.iconst 1, 1) := by decide +kernel
theorem dX7_summedUp_268 : decode cX7_summedUp 268 = .ok (.iadd, 1) := by decide +kernel
theorem dX7_summedUp_269 : decode cX7_summedUp 269 = .ok (.laload, 1) := by decide +kernel
theorem dX7_summedUp_270 : decode cX7_summedUp 270 = .ok (.invokestatic 265, 3) := by decide +kernel
theorem dX7_summedUp_273 : decode cX7_summedUp 273 = .ok (.bastore, 1) := by decide +kernel
theorem dX7_summedUp_274 : decode cX7_summedUp 274 = .ok (.iinc 6 1, 3) := by decide +kernel
theorem dX7_summedUp_277 : decode cX7_summedUp 277 = .ok (.goto 72, 3) := by decide +kernel
theorem dX7_summedUp_280 : decode cX7_summedUp 280 = .ok (.iload 8, 2) := by decide +kernel
theorem dX7_summedUp_282 : decode cX7_summedUp 282 = .ok (.bipush 20, 2) := by decide +kernel
theorem dX7_summedUp_284 : decode cX7_summedUp 284 = .ok (.if_icmp .ne 32, 3) := by decide +kernel
theorem dX7_summedUp_287 : decode cX7_summedUp 287 = .ok (.aload_n 0, 1) := by decide +kernel
theorem dX7_summedUp_288 : decode cX7_summedUp 288 = .ok (.getfield 39, 3) := by decide +kernel
theorem dX7_summedUp_291 : decode cX7_summedUp 291 = .ok (.iload 6, 2) := by decide +kernel
theorem dX7_summedUp_293 : decode cX7_summedUp 293 = .ok (.iconst 1, 1) := by decide +kernel
theorem dX7_summedUp_294 : decode cX7_summedUp 294 = .ok (.isub, 1) := by decide +kernel
theorem dX7_summedUp_295 : decode cX7_summedUp 295 = .ok (.aload_n 0, 1) := by decide +kernel
theorem dX7_summedUp_296 : decode cX7_summedUp 296 = .ok (.getfield 39, 3) := by decide +kernel
theorem dX7_summedUp_299 : decode cX7_summedUp 299 = .ok (.iload 6, 2) := by decide +kernel
theorem dX7_summedUp_301 : decode cX7_summedUp 301 = .ok (.iconst 1, 1) := by decide +kernel
theorem dX7_summedUp_302 : decode cX7_summedUp 302 = .ok (.isub, 1) := by decide +kernel
theorem dX7_summedUp_303 : decode cX7_summedUp 303 = .ok (.baload, 1) := by decide +kernel
theorem dX7_summedUp_304 : decode cX7_summedUp 304 = .ok (.ifCond .ne 7, 3) := by decide +kernel
theorem dX7_summedUp_307 : decode cX7_summedUp 307 = .ok (.iconst 1, 1) := by decide +kernel
theorem dX7_summedUp_308 : decode cX7_summedUp 308 = .ok (.goto 4, 3) := by decide +kernel
theorem dX7_summedUp_311 : decode cX7_summedUp 311 = .ok (.iconst 0, 1) := by decide +kernel
theorem dX7_summedUp_312 : decode cX7_summedUp 312 = .ok (.bastore, 1) := by decide +kernel
theorem dX7_summedUp_313 : decode cX7_summedUp 313 = .ok (.goto 36, 3) := by decide +kernel
theorem dX7_summedUp_316 : decode cX7_summedUp 316 = .ok (.iinc 6 (-1), 3) := by decide +kernel
theorem dX7_summedUp_319 : decode cX7_summedUp 319 = .ok (.aload_n 0, 1) := by decide +kernel
theorem dX7_summedUp_320 : decode cX7_summedUp 320 = .ok (.getfield 39, 3) := by decide +kernel
theorem dX7_summedUp_323 : decode cX7_summedUp 323 = .ok (.iload 6, 2) := by decide +kernel
theorem dX7_summedUp_325 : decode cX7_summedUp 325 = .ok (.iconst 1, 1) := by decide +kernel
theorem dX7_summedUp_326 : decode cX7_summedUp 326 = .ok (.isub, 1) := by decide +kernel
theorem dX7_summedUp_327 : decode cX7_summedUp 327 = .ok (.iload 8, 2) := by decide +kernel
theorem dX7_summedUp_329 : decode cX7_summedUp 329 = .ok (.aload_n 0, 1) := by decide +kernel
theorem dX7_summedUp_330 : decode cX7_summedUp 330 = .ok (.getfield 39, 3) := by decide +kernel
theorem dX7_summedUp_333 : decode cX7_summedUp 333 = .ok (.iload 6, 2) := by decide +kernel
theorem dX7_summedUp_335 : decode cX7_summedUp 335 = .ok (.iconst 1, 1) := by decide +kernel
theorem dX7_summedUp_336 : decode cX7_summedUp 336 = .ok (.isub, 1) := by decide +kernel
theorem dX7_summedUp_337 : decode cX7_summedUp 337 = .ok (.baload, 1) := by decide +kernel
theorem dX7_summedUp_338 : decode cX7_summedUp 338 = .ok (.aload_n 0, 1) := by decide +kernel
theorem dX7_summedUp_339 : decode cX7_summedUp 339 = .ok (.getfield 39, 3) := by decide +kernel
theorem dX7_summedUp_342 : decode cX7_summedUp 342 = .ok (.iload 6, 2) := by decide +kernel
theorem dX7_summedUp_344 : decode cX7_summedUp 344 = .ok (.baload, 1) := by decide +kernel
theorem dX7_summedUp_345 : decode cX7_summedUp 345 = .ok (.invokestatic 269, 3) := by decide +kernel
theorem dX7_summedUp_348 : decode cX7_summedUp 348 = .ok (.bastore, 1) := by decide +kernel
theorem dX7_summedUp_349 : decode cX7_summedUp 349 = .ok (.iinc 7 1, 3) := by decide +kernel
theorem dX7_summedUp_352 : decode cX7_summedUp 352 = .ok (.goto (-314), 3) := by decide +kernel
theorem dX7_summedUp_355 : decode cX7_summedUp 355 = .ok (.aload_n 0, 1) := by decide +kernel
theorem dX7_summedUp_356 : decode cX7_summedUp 356 = .ok (.getfield 35, 3) := by decide +kernel
theorem dX7_summedUp_359 : decode cX7_summedUp 359 = .ok (.iconst 0, 1) := by decide +kernel
theorem dX7_summedUp_360 : decode cX7_summedUp 360 = .ok (.laload, 1) := by decide +kernel
theorem dX7_summedUp_361 : decode cX7_summedUp 361 = .ok (.lreturn, 1) := by decide +kernel
theorem dX7_says_0 : decode cX7_says 0 = .ok (.iconst 0, 1) := by decide +kernel
theorem dX7_says_1 : decode cX7_says 1 = .ok (.istore 6, 2) := by decide +kernel
theorem dX7_says_3 : decode cX7_says 3 = .ok (.iload_n 1, 1) := by decide +kernel
theorem dX7_says_4 : decode cX7_says 4 = .ok (.ifCond .lt 60, 3) := by decide +kernel
theorem dX7_says_7 : decode cX7_says 7 = .ok (.iload 6, 2) := by decide +kernel
theorem dX7_says_9 : decode cX7_says 9 = .ok (.aload_n 0, 1) := by decide +kernel
theorem dX7_says_10 : decode cX7_says 10 = .ok (.getfield 16, 3) := by decide +kernel
theorem dX7_says_13 : decode cX7_says 13 = .ok (.sipush 681, 3) := by decide +kernel
theorem dX7_says_16 : decode cX7_says 16 = .ok (.iload_n 1, 1) := by decide +kernel
theorem dX7_says_17 : decode cX7_says 17 = .ok (.imul, 1) := by decide +kernel
theorem dX7_says_18 : decode cX7_says 18 = .ok (.iaload, 1) := by decide +kernel
theorem dX7_says_19 : decode cX7_says 19 = .ok (.if_icmp .ge 45, 3) := by decide +kernel
theorem dX7_says_22 : decode cX7_says 22 = .ok (.aload_n 0, 1) := by decide +kernel
theorem dX7_says_23 : decode cX7_says 23 = .ok (.getfield 16, 3) := by decide +kernel
theorem dX7_says_26 : decode cX7_says 26 = .ok (.sipush 681, 3) := by decide +kernel
theorem dX7_says_29 : decode cX7_says 29 = .ok (.iload_n 1, 1) := by decide +kernel
theorem dX7_says_30 : decode cX7_says 30 = .ok (.imul, 1) := by decide +kernel
theorem dX7_says_31 : decode cX7_says 31 = .ok (.iconst 1, 1) := by decide +kernel
theorem dX7_says_32 : decode cX7_says 32 = .ok (.iadd, 1) := by decide +kernel
theorem dX7_says_33 : decode cX7_says 33 = .ok (.iconst 3, 1) := by decide +kernel
theorem dX7_says_34 : decode cX7_says 34 = .ok (.iload 6, 2) := by decide +kernel
theorem dX7_says_36 : decode cX7_says 36 = .ok (.imul, 1) := by decide +kernel
theorem dX7_says_37 : decode cX7_says 37 = .ok (.iadd, 1) := by decide +kernel
theorem dX7_says_38 : decode cX7_says 38 = .ok (.iaload, 1) := by decide +kernel
theorem dX7_says_39 : decode cX7_says 39 = .ok (.iload_n 2, 1) := by decide +kernel
theorem dX7_says_40 : decode cX7_says 40 = .ok (.if_icmp .ne 18, 3) := by decide +kernel
theorem dX7_says_43 : decode cX7_says 43 = .ok (.aload_n 0, 1) := by decide +kernel
theorem dX7_says_44 : decode cX7_says 44 = .ok (.iload_n 1, 1) := by decide +kernel
theorem dX7_says_45 : decode cX7_says 45 = .ok (.iload 6, 2) := by decide +kernel
theorem dX7_says_47 : decode cX7_says 47 = .ok (.invokevirtual 273, 3) := by decide +kernel
theorem dX7_says_50 : decode cX7_says 50 = .ok (.iload 4, 2) := by decide +kernel
theorem dX7_says_52 : decode cX7_says 52 = .ok (.iload 5, 2) := by decide +kernel
theorem dX7_says_54 : decode cX7_says 54 = .ok (.invokestatic 276, 3) := by decide +kernel
theorem dX7_says_57 : decode cX7_says 57 = .ok (.ireturn, 1) := by decide +kernel
theorem dX7_says_58 : decode cX7_says 58 = .ok (.iinc 6 1, 3) := by decide +kernel
theorem dX7_says_61 : decode cX7_says 61 = .ok (.goto (-58), 3) := by decide +kernel
theorem dX7_says_64 : decode cX7_says 64 = .ok (.iload_n 3, 1) := by decide +kernel
theorem dX7_says_65 : decode cX7_says 65 = .ok (.ireturn, 1) := by decide +kernel
theorem dX7_name_0 : decode cX7_name 0 = .ok (.aload_n 0, 1) := by decide +kernel
theorem dX7_name_1 : decode cX7_name 1 = .ok (.getfield 32, 3) := by decide +kernel
theorem dX7_name_4 : decode cX7_name 4 = .ok (.iconst 0, 1) := by decide +kernel
theorem dX7_name_5 : decode cX7_name 5 = .ok (.aload_n 0, 1) := by decide +kernel
theorem dX7_name_6 : decode cX7_name 6 = .ok (.getfield 7, 3) := by decide +kernel
theorem dX7_name_9 : decode cX7_name 9 = .ok (.bipush 6, 2) := by decide +kernel
theorem dX7_name_11 : decode cX7_name 11 = .ok (.iaload, 1) := by decide +kernel
theorem dX7_name_12 : decode cX7_name 12 = .ok (.iastore, 1) := by decide +kernel
theorem dX7_name_13 : decode cX7_name 13 = .ok (.aload_n 0, 1) := by decide +kernel
theorem dX7_name_14 : decode cX7_name 14 = .ok (.getfield 32, 3) := by decide +kernel
theorem dX7_name_17 : decode cX7_name 17 = .ok (.iconst 1, 1) := by decide +kernel
theorem dX7_name_18 : decode cX7_name 18 = .ok (.iload_n 1, 1) := by decide +kernel
theorem dX7_name_19 : decode cX7_name 19 = .ok (.iastore, 1) := by decide +kernel
theorem dX7_name_20 : decode cX7_name 20 = .ok (.aload_n 0, 1) := by decide +kernel
theorem dX7_name_21 : decode cX7_name 21 = .ok (.getfield 32, 3) := by decide +kernel
theorem dX7_name_24 : decode cX7_name 24 = .ok (.iconst 2, 1) := by decide +kernel
theorem dX7_name_25 : decode cX7_name 25 = .ok (.iload_n 2, 1) := by decide +kernel
theorem dX7_name_26 : decode cX7_name 26 = .ok (.iastore, 1) := by decide +kernel
theorem dX7_name_27 : decode cX7_name 27 = .ok (.aload_n 0, 1) := by decide +kernel
theorem dX7_name_28 : decode cX7_name 28 = .ok (.getfield 32, 3) := by decide +kernel
theorem dX7_name_31 : decode cX7_name 31 = .ok (.iconst 3, 1) := by decide +kernel
theorem dX7_name_32 : decode cX7_name 32 = .ok (.aload_n 0, 1) := by decide +kernel
theorem dX7_name_33 : decode cX7_name 33 = .ok (.iload_n 1, 1) := by decide +kernel
theorem dX7_name_34 : decode cX7_name 34 = .ok (.invokevirtual 71, 3) := by decide +kernel
theorem dX7_name_37 : decode cX7_name 37 = .ok (.iastore, 1) := by decide +kernel
theorem dX7_name_38 : decode cX7_name 38 = .ok (.aload_n 0, 1) := by decide +kernel
theorem dX7_name_39 : decode cX7_name 39 = .ok (.getfield 32, 3) := by decide +kernel
theorem dX7_name_42 : decode cX7_name 42 = .ok (.iconst 4, 1) := by decide +kernel
theorem dX7_name_43 : decode cX7_name 43 = .ok (.aload_n 0, 1) := by decide +kernel
theorem dX7_name_44 : decode cX7_name 44 = .ok (.getfield 7, 3) := by decide +kernel
theorem dX7_name_47 : decode cX7_name 47 = .ok (.bipush 23, 2) := by decide +kernel
theorem dX7_name_49 : decode cX7_name 49 = .ok (.iload_n 1, 1) := by decide +kernel
theorem dX7_name_50 : decode cX7_name 50 = .ok (.iadd, 1) := by decide +kernel
theorem dX7_name_51 : decode cX7_name 51 = .ok (.iaload, 1) := by decide +kernel
theorem dX7_name_52 : decode cX7_name 52 = .ok (.iastore, 1) := by decide +kernel
theorem dX7_name_53 : decode cX7_name 53 = .ok (.aload_n 0, 1) := by decide +kernel
theorem dX7_name_54 : decode cX7_name 54 = .ok (.getfield 32, 3) := by decide +kernel
theorem dX7_name_57 : decode cX7_name 57 = .ok (.iconst 5, 1) := by decide +kernel
theorem dX7_name_58 : decode cX7_name 58 = .ok (.aload_n 0, 1) := by decide +kernel
theorem dX7_name_59 : decode cX7_name 59 = .ok (.invokevirtual 280, 3) := by decide +kernel
theorem dX7_name_62 : decode cX7_name 62 = .ok (.invokestatic 78, 3) := by decide +kernel
theorem dX7_name_65 : decode cX7_name 65 = .ok (.iastore, 1) := by decide +kernel
theorem dX7_name_66 : decode cX7_name 66 = .ok (.aload_n 0, 1) := by decide +kernel
theorem dX7_name_67 : decode cX7_name 67 = .ok (.getfield 32, 3) := by decide +kernel
theorem dX7_name_70 : decode cX7_name 70 = .ok (.bipush 6, 2) := by decide +kernel
theorem dX7_name_72 : decode cX7_name 72 = .ok (.aload_n 0, 1) := by decide +kernel
theorem dX7_name_73 : decode cX7_name 73 = .ok (.iload_n 1, 1) := by decide +kernel
theorem dX7_name_74 : decode cX7_name 74 = .ok (.iload_n 2, 1) := by decide +kernel
theorem dX7_name_75 : decode cX7_name 75 = .ok (.invokevirtual 283, 3) := by decide +kernel
theorem dX7_name_78 : decode cX7_name 78 = .ok (.ifCond .eq 7, 3) := by decide +kernel
theorem dX7_name_81 : decode cX7_name 81 = .ok (.iconst 1, 1) := by decide +kernel
theorem dX7_name_82 : decode cX7_name 82 = .ok (.goto 4, 3) := by decide +kernel
theorem dX7_name_85 : decode cX7_name 85 = .ok (.iconst 0, 1) := by decide +kernel
theorem dX7_name_86 : decode cX7_name 86 = .ok (.iastore, 1) := by decide +kernel
theorem dX7_name_87 : decode cX7_name 87 = .ok (.aload_n 0, 1) := by decide +kernel
theorem dX7_name_88 : decode cX7_name 88 = .ok (.getfield 32, 3) := by decide +kernel
theorem dX7_name_91 : decode cX7_name 91 = .ok (.bipush 7, 2) := by decide +kernel
theorem dX7_name_93 : decode cX7_name 93 = .ok (.aload_n 0, 1) := by decide +kernel
theorem dX7_name_94 : decode cX7_name 94 = .ok (.iload_n 1, 1) := by decide +kernel
theorem dX7_name_95 : decode cX7_name 95 = .ok (.invokevirtual 286, 3) := by decide +kernel
theorem dX7_name_98 : decode cX7_name 98 = .ok (.iastore, 1) := by decide +kernel
theorem dX7_name_99 : decode cX7_name 99 = .ok (.return_, 1) := by decide +kernel
theorem dX7_bidsOf_0 : decode cX7_bidsOf 0 = .ok (.aload_n 0, 1) := by decide +kernel
theorem dX7_bidsOf_1 : decode cX7_bidsOf 1 = .ok (.iload_n 2, 1) := by decide +kernel
theorem dX7_bidsOf_2 : decode cX7_bidsOf 2 = .ok (.iload_n 3, 1) := by decide +kernel
theorem dX7_bidsOf_3 : decode cX7_bidsOf 3 = .ok (.invokevirtual 289, 3) := by decide +kernel
theorem dX7_bidsOf_6 : decode cX7_bidsOf 6 = .ok (.aload_n 0, 1) := by decide +kernel
theorem dX7_bidsOf_7 : decode cX7_bidsOf 7 = .ok (.iload_n 1, 1) := by decide +kernel
theorem dX7_bidsOf_8 : decode cX7_bidsOf 8 = .ok (.iconst 0, 1) := by decide +kernel
theorem dX7_bidsOf_9 : decode cX7_bidsOf 9 = .ok (.aload_n 0, 1) := by decide +kernel
theorem dX7_bidsOf_10 : decode cX7_bidsOf 10 = .ok (.getfield 7, 3) := by decide +kernel
theorem dX7_bidsOf_13 : decode cX7_bidsOf 13 = .ok (.bipush 34, 2) := by decide +kernel
theorem dX7_bidsOf_15 : decode cX7_bidsOf 15 = .ok (.iload_n 3, 1) := by decide +kernel
theorem dX7_bidsOf_16 : decode cX7_bidsOf 16 = .ok (.iadd, 1) := by decide +kernel
theorem dX7_bidsOf_17 : decode cX7_bidsOf 17 = .ok (.iaload, 1) := by decide +kernel
theorem dX7_bidsOf_18 : decode cX7_bidsOf 18 = .ok (.aload_n 0, 1) := by decide +kernel
theorem dX7_bidsOf_19 : decode cX7_bidsOf 19 = .ok (.iload_n 2, 1) := by decide +kernel
theorem dX7_bidsOf_20 : decode cX7_bidsOf 20 = .ok (.invokevirtual 71, 3) := by decide +kernel
theorem dX7_bidsOf_23 : decode cX7_bidsOf 23 = .ok (.imul, 1) := by decide +kernel
theorem dX7_bidsOf_24 : decode cX7_bidsOf 24 = .ok (.bipush 12, 2) := by decide +kernel
theorem dX7_bidsOf_26 : decode cX7_bidsOf 26 = .ok (.idiv, 1) := by decide +kernel
theorem dX7_bidsOf_27 : decode cX7_bidsOf 27 = .ok (.iconst 0, 1) := by decide +kernel
theorem dX7_bidsOf_28 : decode cX7_bidsOf 28 = .ok (.bipush 99, 2) := by decide +kernel
theorem dX7_bidsOf_30 : decode cX7_bidsOf 30 = .ok (.invokevirtual 292, 3) := by decide +kernel
theorem dX7_bidsOf_33 : decode cX7_bidsOf 33 = .ok (.ireturn, 1) := by decide +kernel
theorem dX7_bidsNow_0 : decode cX7_bidsNow 0 = .ok (.aload_n 0, 1) := by decide +kernel
theorem dX7_bidsNow_1 : decode cX7_bidsNow 1 = .ok (.aload_n 0, 1) := by decide +kernel
theorem dX7_bidsNow_2 : decode cX7_bidsNow 2 = .ok (.getfield 7, 3) := by decide +kernel
theorem dX7_bidsNow_5 : decode cX7_bidsNow 5 = .ok (.iconst 2, 1) := by decide +kernel
theorem dX7_bidsNow_6 : decode cX7_bidsNow 6 = .ok (.iaload, 1) := by decide +kernel
theorem dX7_bidsNow_7 : decode cX7_bidsNow 7 = .ok (.iload_n 1, 1) := by decide +kernel
theorem dX7_bidsNow_8 : decode cX7_bidsNow 8 = .ok (.aload_n 0, 1) := by decide +kernel
theorem dX7_bidsNow_9 : decode cX7_bidsNow 9 = .ok (.getfield 7, 3) := by decide +kernel
theorem dX7_bidsNow_12 : decode cX7_bidsNow 12 = .ok (.bipush 9, 2) := by decide +kernel
theorem dX7_bidsNow_14 : decode cX7_bidsNow 14 = .ok (.iaload, 1) := by decide +kernel
theorem dX7_bidsNow_15 : decode cX7_bidsNow 15 = .ok (.invokevirtual 296, 3) := by decide +kernel
theorem dX7_bidsNow_18 : decode cX7_bidsNow 18 = .ok (.ireturn, 1) := by decide +kernel
theorem dX7_earnsOf_0 : decode cX7_earnsOf 0 = .ok (.aload_n 0, 1) := by decide +kernel
theorem dX7_earnsOf_1 : decode cX7_earnsOf 1 = .ok (.iload_n 1, 1) := by decide +kernel
theorem dX7_earnsOf_2 : decode cX7_earnsOf 2 = .ok (.aload_n 0, 1) := by decide +kernel
theorem dX7_earnsOf_3 : decode cX7_earnsOf 3 = .ok (.getfield 7, 3) := by decide +kernel
theorem dX7_earnsOf_6 : decode cX7_earnsOf 6 = .ok (.bipush 9, 2) := by decide +kernel
theorem dX7_earnsOf_8 : decode cX7_earnsOf 8 = .ok (.iaload, 1) := by decide +kernel
theorem dX7_earnsOf_9 : decode cX7_earnsOf 9 = .ok (.invokevirtual 289, 3) := by decide +kernel
theorem dX7_earnsOf_12 : decode cX7_earnsOf 12 = .ok (.aload_n 0, 1) := by decide +kernel
theorem dX7_earnsOf_13 : decode cX7_earnsOf 13 = .ok (.aload_n 0, 1) := by decide +kernel
theorem dX7_earnsOf_14 : decode cX7_earnsOf 14 = .ok (.getfield 7, 3) := by decide +kernel
theorem dX7_earnsOf_17 : decode cX7_earnsOf 17 = .ok (.iconst 2, 1) := by decide +kernel
theorem dX7_earnsOf_18 : decode cX7_earnsOf 18 = .ok (.iaload, 1) := by decide +kernel
theorem dX7_earnsOf_19 : decode cX7_earnsOf 19 = .ok (.iconst 1, 1) := by decide +kernel
theorem dX7_earnsOf_20 : decode cX7_earnsOf 20 = .ok (.iconst 1, 1) := by decide +kernel
theorem dX7_earnsOf_21 : decode cX7_earnsOf 21 = .ok (.bipush (-9), 2) := by decide +kernel
theorem dX7_earnsOf_23 : decode cX7_earnsOf 23 = .ok (.bipush 9, 2) := by decide +kernel
theorem dX7_earnsOf_25 : decode cX7_earnsOf 25 = .ok (.invokevirtual 292, 3) := by decide +kernel
theorem dX7_earnsOf_28 : decode cX7_earnsOf 28 = .ok (.ireturn, 1) := by decide +kernel
theorem dX7_write_0 : decode cX7_write 0 = .ok (.aload_n 0, 1) := by decide +kernel
theorem dX7_write_1 : decode cX7_write 1 = .ok (.getfield 43, 3) := by decide +kernel
theorem dX7_write_4 : decode cX7_write 4 = .ok (.ifCond .ne 4, 3) := by decide +kernel
theorem dX7_write_7 : decode cX7_write 7 = .ok (.return_, 1) := by decide +kernel
theorem dX7_write_8 : decode cX7_write 8 = .ok (.aload_n 0, 1) := by decide +kernel
theorem dX7_write_9 : decode cX7_write 9 = .ok (.getfield 7, 3) := by decide +kernel
theorem dX7_write_12 : decode cX7_write 12 = .ok (.bipush 10, 2) := by decide +kernel
theorem dX7_write_14 : decode cX7_write 14 = .ok (.iaload, 1) := by decide +kernel
theorem dX7_write_15 : decode cX7_write 15 = .ok (.bipush 25, 2) := by decide +kernel
theorem dX7_write_17 : decode cX7_write 17 = .ok (.if_icmp .ne 54, 3) := by decide +kernel
theorem dX7_write_20 : decode cX7_write 20 = .ok (.iconst 1, 1) := by decide +kernel
theorem dX7_write_21 : decode cX7_write 21 = .ok (.istore 4, 2) := by decide +kernel
theorem dX7_write_23 : decode cX7_write 23 = .ok (.iload 4, 2) := by decide +kernel
theorem dX7_write_25 : decode cX7_write 25 = .ok (.bipush 25, 2) := by decide +kernel
theorem dX7_write_27 : decode cX7_write 27 = .ok (.if_icmp .ge 33, 3) := by decide +kernel
theorem dX7_write_30 : decode cX7_write 30 = .ok (.aload_n 0, 1) := by decide +kernel
theorem dX7_write_31 : decode cX7_write 31 = .ok (.getfield 7, 3) := by decide +kernel
theorem dX7_write_34 : decode cX7_write 34 = .ok (.sipush 1567, 3) := by decide +kernel
theorem dX7_write_37 : decode cX7_write 37 = .ok (.iload 4, 2) := by decide +kernel
theorem dX7_write_39 : decode cX7_write 39 = .ok (.iadd, 1) := by decide +kernel
theorem dX7_write_40 : decode cX7_write 40 = .ok (.iconst 1, 1) := by decide +kernel
theorem dX7_write_41 : decode cX7_write 41 = .ok (.isub, 1) := by decide +kernel
theorem dX7_write_42 : decode cX7_write 42 = .ok (.aload_n 0, 1) := by decide +kernel
theorem dX7_write_43 : decode cX7_write 43 = .ok (.getfield 7, 3) := by decide +kernel
theorem dX7_write_46 : decode cX7_write 46 = .ok (.sipush 1567, 3) := by decide +kernel
theorem dX7_write_49 : decode cX7_write 49 = .ok (.iload 4, 2) := by decide +kernel
theorem dX7_write_51 : decode cX7_write 51 = .ok (.iadd, 1) := by decide +kernel
theorem dX7_write_52 : decode cX7_write 52 = .ok (.iaload, 1) := by decide +kernel
theorem dX7_write_53 : decode cX7_write 53 = .ok (.iastore, 1) := by decide +kernel
theorem dX7_write_54 : decode cX7_write 54 = .ok (.iinc 4 1, 3) := by decide +kernel
theorem dX7_write_57 : decode cX7_write 57 = .ok (.goto (-34), 3) := by decide +kernel
theorem dX7_write_60 : decode cX7_write 60 = .ok (.aload_n 0, 1) := by decide +kernel
theorem dX7_write_61 : decode cX7_write 61 = .ok (.getfield 7, 3) := by decide +kernel
theorem dX7_write_64 : decode cX7_write 64 = .ok (.bipush 10, 2) := by decide +kernel
theorem dX7_write_66 : decode cX7_write 66 = .ok (.dup2, 1) := by decide +kernel
theorem dX7_write_67 : decode cX7_write 67 = .ok (.iaload, 1) := by decide +kernel
theorem dX7_write_68 : decode cX7_write 68 = .ok (.iconst 1, 1) := by decide +kernel
theorem dX7_write_69 : decode cX7_write 69 = .ok (.isub, 1) := by decide +kernel
theorem dX7_write_70 : decode cX7_write 70 = .ok (.iastore, 1) := by decide +kernel
theorem dX7_write_71 : decode cX7_write 71 = .ok (.aload_n 0, 1) := by decide +kernel
theorem dX7_write_72 : decode cX7_write 72 = .ok (.getfield 7, 3) := by decide +kernel
theorem dX7_write_75 : decode cX7_write 75 = .ok (.sipush 1567, 3) := by decide +kernel
theorem dX7_write_78 : decode cX7_write 78 = .ok (.aload_n 0, 1) := by decide +kernel
theorem dX7_write_79 : decode cX7_write 79 = .ok (.getfield 7, 3) := by decide +kernel
theorem dX7_write_82 : decode cX7_write 82 = .ok (.bipush 10, 2) := by decide +kernel
theorem dX7_write_84 : decode cX7_write 84 = .ok (.iaload, 1) := by decide +kernel
theorem dX7_write_85 : decode cX7_write 85 = .ok (.iadd, 1) := by decide +kernel
theorem dX7_write_86 : decode cX7_write 86 = .ok (.aload_n 0, 1) := by decide +kernel
theorem dX7_write_87 : decode cX7_write 87 = .ok (.getfield 7, 3) := by decide +kernel
theorem dX7_write_90 : decode cX7_write 90 = .ok (.bipush 6, 2) := by decide +kernel
theorem dX7_write_92 : decode cX7_write 92 = .ok (.iaload, 1) := by decide +kernel
theorem dX7_write_93 : decode cX7_write 93 = .ok (.iconst 5, 1) := by decide +kernel
theorem dX7_write_94 : decode cX7_write 94 = .ok (.imul, 1) := by decide +kernel
theorem dX7_write_95 : decode cX7_write 95 = .ok (.iload_n 1, 1) := by decide +kernel
theorem dX7_write_96 : decode cX7_write 96 = .ok (.iadd, 1) := by decide +kernel
theorem dX7_write_97 : decode cX7_write 97 = .ok (.bipush 12, 2) := by decide +kernel
theorem dX7_write_99 : decode cX7_write 99 = .ok (.imul, 1) := by decide +kernel
theorem dX7_write_100 : decode cX7_write 100 = .ok (.iload_n 2, 1) := by decide +kernel
theorem dX7_write_101 : decode cX7_write 101 = .ok (.iadd, 1) := by decide +kernel
theorem dX7_write_102 : decode cX7_write 102 = .ok (.bipush 100, 2) := by decide +kernel
theorem dX7_write_104 : decode cX7_write 104 = .ok (.imul, 1) := by decide +kernel
theorem dX7_write_105 : decode cX7_write 105 = .ok (.iload_n 3, 1) := by decide +kernel
theorem dX7_write_106 : decode cX7_write 106 = .ok (.iadd, 1) := by decide +kernel
theorem dX7_write_107 : decode cX7_write 107 = .ok (.iastore, 1) := by decide +kernel
theorem dX7_write_108 : decode cX7_write 108 = .ok (.aload_n 0, 1) := by decide +kernel
theorem dX7_write_109 : decode cX7_write 109 = .ok (.getfield 7, 3) := by decide +kernel
theorem dX7_write_112 : decode cX7_write 112 = .ok (.bipush 10, 2) := by decide +kernel
theorem dX7_write_114 : decode cX7_write 114 = .ok (.dup2, 1) := by decide +kernel
theorem dX7_write_115 : decode cX7_write 115 = .ok (.iaload, 1) := by decide +kernel
theorem dX7_write_116 : decode cX7_write 116 = .ok (.iconst 1, 1) := by decide +kernel
theorem dX7_write_117 : decode cX7_write 117 = .ok (.iadd, 1) := by decide +kernel
theorem dX7_write_118 : decode cX7_write 118 = .ok (.iastore, 1) := by decide +kernel
theorem dX7_write_119 : decode cX7_write 119 = .ok (.return_, 1) := by decide +kernel
theorem dX7_drawnBy_0 : decode cX7_drawnBy 0 = .ok (.aload_n 0, 1) := by decide +kernel
theorem dX7_drawnBy_1 : decode cX7_drawnBy 1 = .ok (.getfield 7, 3) := by decide +kernel
theorem dX7_drawnBy_4 : decode cX7_drawnBy 4 = .ok (.bipush 7, 2) := by decide +kernel
theorem dX7_drawnBy_6 : decode cX7_drawnBy 6 = .ok (.iaload, 1) := by decide +kernel
theorem dX7_drawnBy_7 : decode cX7_drawnBy 7 = .ok (.iload_n 1, 1) := by decide +kernel
theorem dX7_drawnBy_8 : decode cX7_drawnBy 8 = .ok (.irem, 1) := by decide +kernel
theorem dX7_drawnBy_9 : decode cX7_drawnBy 9 = .ok (.istore_n 2, 1) := by decide +kernel
theorem dX7_drawnBy_10 : decode cX7_drawnBy 10 = .ok (.aload_n 0, 1) := by decide +kernel
theorem dX7_drawnBy_11 : decode cX7_drawnBy 11 = .ok (.invokevirtual 299, 3) := by decide +kernel
theorem dX7_drawnBy_14 : decode cX7_drawnBy 14 = .ok (.iload_n 2, 1) := by decide +kernel
theorem dX7_drawnBy_15 : decode cX7_drawnBy 15 = .ok (.ireturn, 1) := by decide +kernel
theorem dX7_anew_0 : decode cX7_anew 0 = .ok (.aload_n 0, 1) := by decide +kernel
theorem dX7_anew_1 : decode cX7_anew 1 = .ok (.getfield 7, 3) := by decide +kernel
theorem dX7_anew_4 : decode cX7_anew 4 = .ok (.bipush 7, 2) := by decide +kernel
theorem dX7_anew_6 : decode cX7_anew 6 = .ok (.aload_n 0, 1) := by decide +kernel
theorem dX7_anew_7 : decode cX7_anew 7 = .ok (.getfield 7, 3) := by decide +kernel
theorem dX7_anew_10 : decode cX7_anew 10 = .ok (.bipush 7, 2) := by decide +kernel
theorem dX7_anew_12 : decode cX7_anew 12 = .ok (.iaload, 1) := by decide +kernel
theorem dX7_anew_13 : decode cX7_anew 13 = .ok (.i2l, 1) := by decide +kernel
theorem dX7_anew_14 : decode cX7_anew 14 = .ok (.ldc2_w 302, 3) := by decide +kernel
theorem dX7_anew_17 : decode cX7_anew 17 = .ok (.lmul, 1) := by decide +kernel
theorem dX7_anew_18 : decode cX7_anew 18 = .ok (.ldc2_w 304, 3) := by decide +kernel
theorem dX7_anew_21 : decode cX7_anew 21 = .ok (.ladd, 1) := by decide +kernel
theorem dX7_anew_22 : decode cX7_anew 22 = .ok (.ldc2_w 306, 3) := by decide +kernel
theorem dX7_anew_25 : decode cX7_anew 25 = .ok (.lrem, 1) := by decide +kernel
theorem dX7_anew_26 : decode cX7_anew 26 = .ok (.l2i, 1) := by decide +kernel
theorem dX7_anew_27 : decode cX7_anew 27 = .ok (.iastore, 1) := by decide +kernel
theorem dX7_anew_28 : decode cX7_anew 28 = .ok (.return_, 1) := by decide +kernel
theorem dX7_canSell_0 : decode cX7_canSell 0 = .ok (.aload_n 0, 1) := by decide +kernel
theorem dX7_canSell_1 : decode cX7_canSell 1 = .ok (.iload_n 1, 1) := by decide +kernel
theorem dX7_canSell_2 : decode cX7_canSell 2 = .ok (.invokevirtual 308, 3) := by decide +kernel
theorem dX7_canSell_5 : decode cX7_canSell 5 = .ok (.ifCond .eq 54, 3) := by decide +kernel
theorem dX7_canSell_8 : decode cX7_canSell 8 = .ok (.aload_n 0, 1) := by decide +kernel
theorem dX7_canSell_9 : decode cX7_canSell 9 = .ok (.iload_n 1, 1) := by decide +kernel
theorem dX7_canSell_10 : decode cX7_canSell 10 = .ok (.aload_n 0, 1) := by decide +kernel
theorem dX7_canSell_11 : decode cX7_canSell 11 = .ok (.getfield 7, 3) := by decide +kernel
theorem dX7_canSell_14 : decode cX7_canSell 14 = .ok (.bipush 9, 2) := by decide +kernel
theorem dX7_canSell_16 : decode cX7_canSell 16 = .ok (.iaload, 1) := by decide +kernel
theorem dX7_canSell_17 : decode cX7_canSell 17 = .ok (.invokevirtual 283, 3) := by decide +kernel
theorem dX7_canSell_20 : decode cX7_canSell 20 = .ok (.ifCond .eq 39, 3) := by decide +kernel
theorem dX7_canSell_23 : decode cX7_canSell 23 = .ok (.aload_n 0, 1) := by decide +kernel
theorem dX7_canSell_24 : decode cX7_canSell 24 = .ok (.iload_n 1, 1) := by decide +kernel
theorem dX7_canSell_25 : decode cX7_canSell 25 = .ok (.invokevirtual 311, 3) := by decide +kernel
theorem dX7_canSell_28 : decode cX7_canSell 28 = .ok (.aload_n 0, 1) := by decide +kernel
theorem dX7_canSell_29 : decode cX7_canSell 29 = .ok (.invokevirtual 280, 3) := by decide +kernel
theorem dX7_canSell_32 : decode cX7_canSell 32 = .ok (.iconst (-1), 1) := by decide +kernel
theorem dX7_canSell_33 : decode cX7_canSell 33 = .ok (.ixor, 1) := by decide +kernel
theorem dX7_canSell_34 : decode cX7_canSell 34 = .ok (.iand, 1) := by decide +kernel
theorem dX7_canSell_35 : decode cX7_canSell 35 = .ok (.ifCond .ne 24, 3) := by decide +kernel
theorem dX7_canSell_38 : decode cX7_canSell 38 = .ok (.aload_n 0, 1) := by decide +kernel
theorem dX7_canSell_39 : decode cX7_canSell 39 = .ok (.getfield 7, 3) := by decide +kernel
theorem dX7_canSell_42 : decode cX7_canSell 42 = .ok (.bipush 23, 2) := by decide +kernel
theorem dX7_canSell_44 : decode cX7_canSell 44 = .ok (.iload_n 1, 1) := by decide +kernel
theorem dX7_canSell_45 : decode cX7_canSell 45 = .ok (.iadd, 1) := by decide +kernel
theorem dX7_canSell_46 : decode cX7_canSell 46 = .ok (.iaload, 1) := by decide +kernel
theorem dX7_canSell_47 : decode cX7_canSell 47 = .ok (.aload_n 0, 1) := by decide +kernel
theorem dX7_canSell_48 : decode cX7_canSell 48 = .ok (.iload_n 1, 1) := by decide +kernel
theorem dX7_canSell_49 : decode cX7_canSell 49 = .ok (.invokevirtual 314, 3) := by decide +kernel
theorem dX7_canSell_52 : decode cX7_canSell 52 = .ok (.if_icmp .lt 7, 3) := by decide +kernel
theorem dX7_canSell_55 : decode cX7_canSell 55 = .ok (.iconst 1, 1) := by decide +kernel
theorem dX7_canSell_56 : decode cX7_canSell 56 = .ok (.goto 4, 3) := by decide +kernel
theorem dX7_canSell_59 : decode cX7_canSell 59 = .ok (.iconst 0, 1) := by decide +kernel
theorem dX7_canSell_60 : decode cX7_canSell 60 = .ok (.ireturn, 1) := by decide +kernel
theorem dX7_sellNow_0 : decode cX7_sellNow 0 = .ok (.aload_n 0, 1) := by decide +kernel
theorem dX7_sellNow_1 : decode cX7_sellNow 1 = .ok (.iload_n 1, 1) := by decide +kernel
theorem dX7_sellNow_2 : decode cX7_sellNow 2 = .ok (.invokevirtual 314, 3) := by decide +kernel
theorem dX7_sellNow_5 : decode cX7_sellNow 5 = .ok (.istore_n 2, 1) := by decide +kernel
theorem dX7_sellNow_6 : decode cX7_sellNow 6 = .ok (.aload_n 0, 1) := by decide +kernel
theorem dX7_sellNow_7 : decode cX7_sellNow 7 = .ok (.getfield 7, 3) := by decide +kernel
theorem dX7_sellNow_10 : decode cX7_sellNow 10 = .ok (.bipush 23, 2) := by decide +kernel
theorem dX7_sellNow_12 : decode cX7_sellNow 12 = .ok (.iload_n 1, 1) := by decide +kernel
theorem dX7_sellNow_13 : decode cX7_sellNow 13 = .ok (.iadd, 1) := by decide +kernel
theorem dX7_sellNow_14 : decode cX7_sellNow 14 = .ok (.dup2, 1) := by decide +kernel
theorem dX7_sellNow_15 : decode cX7_sellNow 15 = .ok (.iaload, 1) := by decide +kernel
theorem dX7_sellNow_16 : decode cX7_sellNow 16 = .ok (.iload_n 2, 1) := by decide +kernel
theorem dX7_sellNow_17 : decode cX7_sellNow 17 = .ok (.isub, 1) := by decide +kernel
theorem dX7_sellNow_18 : decode cX7_sellNow 18 = .ok (.iastore, 1) := by decide +kernel
theorem dX7_sellNow_19 : decode cX7_sellNow 19 = .ok (.aload_n 0, 1) := by decide +kernel
theorem dX7_sellNow_20 : decode cX7_sellNow 20 = .ok (.getfield 7, 3) := by decide +kernel
theorem dX7_sellNow_23 : decode cX7_sellNow 23 = .ok (.bipush 8, 2) := by decide +kernel
theorem dX7_sellNow_25 : decode cX7_sellNow 25 = .ok (.aload_n 0, 1) := by decide +kernel
theorem dX7_sellNow_26 : decode cX7_sellNow 26 = .ok (.getfield 7, 3) := by decide +kernel
theorem dX7_sellNow_29 : decode cX7_sellNow 29 = .ok (.bipush 8, 2) := by decide +kernel
theorem dX7_sellNow_31 : decode cX7_sellNow 31 = .ok (.iaload, 1) := by decide +kernel
theorem dX7_sellNow_32 : decode cX7_sellNow 32 = .ok (.iload_n 2, 1) := by decide +kernel
theorem dX7_sellNow_33 : decode cX7_sellNow 33 = .ok (.iadd, 1) := by decide +kernel
theorem dX7_sellNow_34 : decode cX7_sellNow 34 = .ok (.i2l, 1) := by decide +kernel
theorem dX7_sellNow_35 : decode cX7_sellNow 35 = .ok (.iconst 0, 1) := by decide +kernel
theorem dX7_sellNow_36 : decode cX7_sellNow 36 = .ok (.ldc 113, 2) := by decide +kernel
theorem dX7_sellNow_38 : decode cX7_sellNow 38 = .ok (.invokestatic 276, 3) := by decide +kernel
theorem dX7_sellNow_41 : decode cX7_sellNow 41 = .ok (.iastore, 1) := by decide +kernel
theorem dX7_sellNow_42 : decode cX7_sellNow 42 = .ok (.aload_n 0, 1) := by decide +kernel
theorem dX7_sellNow_43 : decode cX7_sellNow 43 = .ok (.getfield 7, 3) := by decide +kernel
theorem dX7_sellNow_46 : decode cX7_sellNow 46 = .ok (.bipush 45, 2) := by decide +kernel
theorem dX7_sellNow_48 : decode cX7_sellNow 48 = .ok (.iload_n 1, 1) := by decide +kernel
theorem dX7_sellNow_49 : decode cX7_sellNow 49 = .ok (.iadd, 1) := by decide +kernel
theorem dX7_sellNow_50 : decode cX7_sellNow 50 = .ok (.iaload, 1) := by decide +kernel
theorem dX7_sellNow_51 : decode cX7_sellNow 51 = .ok (.istore_n 3, 1) := by decide +kernel
theorem dX7_sellNow_52 : decode cX7_sellNow 52 = .ok (.iload_n 3, 1) := by decide +kernel
theorem dX7_sellNow_53 : decode cX7_sellNow 53 = .ok (.aload_n 0, 1) := by decide +kernel
theorem dX7_sellNow_54 : decode cX7_sellNow 54 = .ok (.getfield 7, 3) := by decide +kernel
theorem dX7_sellNow_57 : decode cX7_sellNow 57 = .ok (.bipush 51, 2) := by decide +kernel
theorem dX7_sellNow_59 : decode cX7_sellNow 59 = .ok (.iload_n 1, 1) := by decide +kernel
theorem dX7_sellNow_60 : decode cX7_sellNow 60 = .ok (.iadd, 1) := by decide +kernel
theorem dX7_sellNow_61 : decode cX7_sellNow 61 = .ok (.iaload, 1) := by decide +kernel
theorem dX7_sellNow_62 : decode cX7_sellNow 62 = .ok (.if_icmp .gt 19, 3) := by decide +kernel
theorem dX7_sellNow_65 : decode cX7_sellNow 65 = .ok (.aload_n 0, 1) := by decide +kernel
theorem dX7_sellNow_66 : decode cX7_sellNow 66 = .ok (.getfield 7, 3) := by decide +kernel
theorem dX7_sellNow_69 : decode cX7_sellNow 69 = .ok (.bipush 11, 2) := by decide +kernel
theorem dX7_sellNow_71 : decode cX7_sellNow 71 = .ok (.iload_n 3, 1) := by decide +kernel
theorem dX7_sellNow_72 : decode cX7_sellNow 72 = .ok (.iadd, 1) := by decide +kernel
theorem dX7_sellNow_73 : decode cX7_sellNow 73 = .ok (.iload_n 1, 1) := by decide +kernel
theorem dX7_sellNow_74 : decode cX7_sellNow 74 = .ok (.iastore, 1) := by decide +kernel
theorem dX7_sellNow_75 : decode cX7_sellNow 75 = .ok (.iinc 3 1, 3) := by decide +kernel
theorem dX7_sellNow_78 : decode cX7_sellNow 78 = .ok (.goto (-26), 3) := by decide +kernel
theorem dX7_sellNow_81 : decode cX7_sellNow 81 = .ok (.aload_n 0, 1) := by decide +kernel
theorem dX7_sellNow_82 : decode cX7_sellNow 82 = .ok (.iconst 0, 1) := by decide +kernel
theorem dX7_sellNow_83 : decode cX7_sellNow 83 = .ok (.iload_n 1, 1) := by decide +kernel
theorem dX7_sellNow_84 : decode cX7_sellNow 84 = .ok (.iload_n 2, 1) := by decide +kernel
theorem dX7_sellNow_85 : decode cX7_sellNow 85 = .ok (.invokevirtual 317, 3) := by decide +kernel
theorem dX7_sellNow_88 : decode cX7_sellNow 88 = .ok (.iload_n 2, 1) := by decide +kernel
theorem dX7_sellNow_89 : decode cX7_sellNow 89 = .ok (.ireturn, 1) := by decide +kernel
theorem dX7_canGive_0 : decode cX7_canGive 0 = .ok (.iload_n 1, 1) := by decide +kernel
theorem dX7_canGive_1 : decode cX7_canGive 1 = .ok (.invokestatic 321, 3) := by decide +kernel
theorem dX7_canGive_4 : decode cX7_canGive 4 = .ok (.ifCond .eq 20, 3) := by decide +kernel
theorem dX7_canGive_7 : decode cX7_canGive 7 = .ok (.aload_n 0, 1) := by decide +kernel
theorem dX7_canGive_8 : decode cX7_canGive 8 = .ok (.getfield 7, 3) := by decide +kernel
theorem dX7_canGive_11 : decode cX7_canGive 11 = .ok (.bipush 11, 2) := by decide +kernel
theorem dX7_canGive_13 : decode cX7_canGive 13 = .ok (.iload_n 1, 1) := by decide +kernel
theorem dX7_canGive_14 : decode cX7_canGive 14 = .ok (.iadd, 1) := by decide +kernel
theorem dX7_canGive_15 : decode cX7_canGive 15 = .ok (.iaload, 1) := by decide +kernel
theorem dX7_canGive_16 : decode cX7_canGive 16 = .ok (.iconst (-1), 1) := by decide +kernel
theorem dX7_canGive_17 : decode cX7_canGive 17 = .ok (.if_icmp .ne 7, 3) := by decide +kernel
theorem dX7_canGive_20 : decode cX7_canGive 20 = .ok (.iconst 1, 1) := by decide +kernel
theorem dX7_canGive_21 : decode cX7_canGive 21 = .ok (.goto 4, 3) := by decide +kernel
theorem dX7_canGive_24 : decode cX7_canGive 24 = .ok (.iconst 0, 1) := by decide +kernel
theorem dX7_canGive_25 : decode cX7_canGive 25 = .ok (.ireturn, 1) := by decide +kernel
theorem dX7_giveNow_0 : decode cX7_giveNow 0 = .ok (.aload_n 0, 1) := by decide +kernel
theorem dX7_giveNow_1 : decode cX7_giveNow 1 = .ok (.getfield 7, 3) := by decide +kernel
theorem dX7_giveNow_4 : decode cX7_giveNow 4 = .ok (.bipush 11, 2) := by decide +kernel
theorem dX7_giveNow_6 : decode cX7_giveNow 6 = .ok (.iload_n 1, 1) := by decide +kernel
theorem dX7_giveNow_7 : decode cX7_giveNow 7 = .ok (.iadd, 1) := by decide +kernel
theorem dX7_giveNow_8 : decode cX7_giveNow 8 = .ok (.bipush 6, 2) := by decide +kernel
theorem dX7_giveNow_10 : decode cX7_giveNow 10 = .ok (.iastore, 1) := by decide +kernel
theorem dX7_giveNow_11 : decode cX7_giveNow 11 = .ok (.aload_n 0, 1) := by decide +kernel
theorem dX7_giveNow_12 : decode cX7_giveNow 12 = .ok (.iconst 1, 1) := by decide +kernel
theorem dX7_giveNow_13 : decode cX7_giveNow 13 = .ok (.iload_n 1, 1) := by decide +kernel
theorem dX7_giveNow_14 : decode cX7_giveNow 14 = .ok (.iconst 0, 1) := by decide +kernel
theorem dX7_giveNow_15 : decode cX7_giveNow 15 = .ok (.invokevirtual 317, 3) := by decide +kernel
theorem dX7_giveNow_18 : decode cX7_giveNow 18 = .ok (.return_, 1) := by decide +kernel
theorem dX7_canTurn_0 : decode cX7_canTurn 0 = .ok (.aload_n 0, 1) := by decide +kernel
theorem dX7_canTurn_1 : decode cX7_canTurn 1 = .ok (.iload_n 1, 1) := by decide +kernel
theorem dX7_canTurn_2 : decode cX7_canTurn 2 = .ok (.invokevirtual 308, 3) := by decide +kernel
theorem dX7_canTurn_5 : decode cX7_canTurn 5 = .ok (.ifCond .eq 15, 3) := by decide +kernel
theorem dX7_canTurn_8 : decode cX7_canTurn 8 = .ok (.aload_n 0, 1) := by decide +kernel
theorem dX7_canTurn_9 : decode cX7_canTurn 9 = .ok (.iload_n 1, 1) := by decide +kernel
theorem dX7_canTurn_10 : decode cX7_canTurn 10 = .ok (.invokevirtual 286, 3) := by decide +kernel
theorem dX7_canTurn_13 : decode cX7_canTurn 13 = .ok (.ifCond .le 7, 3) := by decide +kernel
theorem dX7_canTurn_16 : decode cX7_canTurn 16 = .ok (.iconst 1, 1) := by decide +kernel
theorem dX7_canTurn_17 : decode cX7_canTurn 17 = .ok (.goto 4, 3) := by decide +kernel
theorem dX7_canTurn_20 : decode cX7_canTurn 20 = .ok (.iconst 0, 1) := by decide +kernel
theorem dX7_canTurn_21 : decode cX7_canTurn 21 = .ok (.ireturn, 1) := by decide +kernel
theorem dX7_turnNow_0 : decode cX7_turnNow 0 = .ok (.iconst 0, 1) := by decide +kernel
theorem dX7_turnNow_1 : decode cX7_turnNow 1 = .ok (.istore_n 2, 1) := by decide +kernel
theorem dX7_turnNow_2 : decode cX7_turnNow 2 = .ok (.iload_n 2, 1) := by decide +kernel
theorem dX7_turnNow_3 : decode cX7_turnNow 3 = .ok (.bipush 12, 2) := by decide +kernel
theorem dX7_turnNow_5 : decode cX7_turnNow 5 = .ok (.if_icmp .ge 32, 3) := by decide +kernel
theorem dX7_turnNow_8 : decode cX7_turnNow 8 = .ok (.aload_n 0, 1) := by decide +kernel
theorem dX7_turnNow_9 : decode cX7_turnNow 9 = .ok (.getfield 7, 3) := by decide +kernel
theorem dX7_turnNow_12 : decode cX7_turnNow 12 = .ok (.bipush 11, 2) := by decide +kernel
theorem dX7_turnNow_14 : decode cX7_turnNow 14 = .ok (.iload_n 2, 1) := by decide +kernel
theorem dX7_turnNow_15 : decode cX7_turnNow 15 = .ok (.iadd, 1) := by decide +kernel
theorem dX7_turnNow_16 : decode cX7_turnNow 16 = .ok (.iaload, 1) := by decide +kernel
theorem dX7_turnNow_17 : decode cX7_turnNow 17 = .ok (.iload_n 1, 1) := by decide +kernel
theorem dX7_turnNow_18 : decode cX7_turnNow 18 = .ok (.if_icmp .ne 13, 3) := by decide +kernel
theorem dX7_turnNow_21 : decode cX7_turnNow 21 = .ok (.aload_n 0, 1) := by decide +kernel
theorem dX7_turnNow_22 : decode cX7_turnNow 22 = .ok (.getfield 7, 3) := by decide +kernel
theorem dX7_turnNow_25 : decode cX7_turnNow 25 = .ok (.bipush 11, 2) := by decide +kernel
theorem dX7_turnNow_27 : decode cX7_turnNow 27 = .ok (.iload_n 2, 1) := by decide +kernel
theorem dX7_turnNow_28 : decode cX7_turnNow 28 = .ok (.iadd, 1) := by decide +kernel
theorem dX7_turnNow_29 : decode cX7_turnNow 29 = .ok (.iconst (-1), 1) := by decide +kernel
theorem dX7_turnNow_30 : decode cX7_turnNow 30 = .ok (.iastore, 1) := by decide +kernel
theorem dX7_turnNow_31 : decode cX7_turnNow 31 = .ok (.iinc 2 1, 3) := by decide +kernel
theorem dX7_turnNow_34 : decode cX7_turnNow 34 = .ok (.goto (-32), 3) := by decide +kernel
theorem dX7_turnNow_37 : decode cX7_turnNow 37 = .ok (.aload_n 0, 1) := by decide +kernel
theorem dX7_turnNow_38 : decode cX7_turnNow 38 = .ok (.iconst 2, 1) := by decide +kernel
theorem dX7_turnNow_39 : decode cX7_turnNow 39 = .ok (.iload_n 1, 1) := by decide +kernel
theorem dX7_turnNow_40 : decode cX7_turnNow 40 = .ok (.iconst 0, 1) := by decide +kernel
theorem dX7_turnNow_41 : decode cX7_turnNow 41 = .ok (.invokevirtual 317, 3) := by decide +kernel
theorem dX7_turnNow_44 : decode cX7_turnNow 44 = .ok (.return_, 1) := by decide +kernel
theorem dX7_nextSort_0 : decode cX7_nextSort 0 = .ok (.aload_n 0, 1) := by decide +kernel
theorem dX7_nextSort_1 : decode cX7_nextSort 1 = .ok (.invokevirtual 324, 3) := by decide +kernel
theorem dX7_nextSort_4 : decode cX7_nextSort 4 = .ok (.ifCond .ne 5, 3) := by decide +kernel
theorem dX7_nextSort_7 : decode cX7_nextSort 7 = .ok (.iconst 0, 1) := by decide +kernel
theorem dX7_nextSort_8 : decode cX7_nextSort 8 = .ok (.ireturn, 1) := by decide +kernel
theorem dX7_nextSort_9 : decode cX7_nextSort 9 = .ok (.aload_n 0, 1) := by decide +kernel
theorem dX7_nextSort_10 : decode cX7_nextSort 10 = .ok (.aload_n 0, 1) := by decide +kernel
theorem dX7_nextSort_11 : decode cX7_nextSort 11 = .ok (.invokevirtual 324, 3) := by decide +kernel
theorem dX7_nextSort_14 : decode cX7_nextSort 14 = .ok (.invokevirtual 327, 3) := by decide +kernel
theorem dX7_nextSort_17 : decode cX7_nextSort 17 = .ok (.istore_n 1, 1) := by decide +kernel
theorem dX7_nextSort_18 : decode cX7_nextSort 18 = .ok (.iconst 0, 1) := by decide +kernel
theorem dX7_nextSort_19 : decode cX7_nextSort 19 = .ok (.istore_n 2, 1) := by decide +kernel
theorem dX7_nextSort_20 : decode cX7_nextSort 20 = .ok (.aload_n 0, 1) := by decide +kernel
theorem dX7_nextSort_21 : decode cX7_nextSort 21 = .ok (.getfield 7, 3) := by decide +kernel
theorem dX7_nextSort_24 : decode cX7_nextSort 24 = .ok (.bipush 29, 2) := by decide +kernel
theorem dX7_nextSort_26 : decode cX7_nextSort 26 = .ok (.iaload, 1) := by decide +kernel
theorem dX7_nextSort_27 : decode cX7_nextSort 27 = .ok (.istore_n 3, 1) := by decide +kernel
theorem dX7_nextSort_28 : decode cX7_nextSort 28 = .ok (.iload_n 3, 1) := by decide +kernel
theorem dX7_nextSort_29 : decode cX7_nextSort 29 = .ok (.iload_n 1, 1) := by decide +kernel
theorem dX7_nextSort_30 : decode cX7_nextSort 30 = .ok (.if_icmp .gt 21, 3) := by decide +kernel
theorem dX7_nextSort_33 : decode cX7_nextSort 33 = .ok (.iinc 2 1, 3) := by decide +kernel
theorem dX7_nextSort_36 : decode cX7_nextSort 36 = .ok (.iload_n 3, 1) := by decide +kernel
theorem dX7_nextSort_37 : decode cX7_nextSort 37 = .ok (.aload_n 0, 1) := by decide +kernel
theorem dX7_nextSort_38 : decode cX7_nextSort 38 = .ok (.getfield 7, 3) := by decide +kernel
theorem dX7_nextSort_41 : decode cX7_nextSort 41 = .ok (.bipush 29, 2) := by decide +kernel
theorem dX7_nextSort_43 : decode cX7_nextSort 43 = .ok (.iload_n 2, 1) := by decide +kernel
theorem dX7_nextSort_44 : decode cX7_nextSort 44 = .ok (.iadd, 1) := by decide +kernel
theorem dX7_nextSort_45 : decode cX7_nextSort 45 = .ok (.iaload, 1) := by decide +kernel
theorem dX7_nextSort_46 : decode cX7_nextSort 46 = .ok (.iadd, 1) := by decide +kernel
theorem dX7_nextSort_47 : decode cX7_nextSort 47 = .ok (.istore_n 3, 1) := by decide +kernel
theorem dX7_nextSort_48 : decode cX7_nextSort 48 = .ok (.goto (-20), 3) := by decide +kernel
theorem dX7_nextSort_51 : decode cX7_nextSort 51 = .ok (.iload_n 2, 1) := by decide +kernel
theorem dX7_nextSort_52 : decode cX7_nextSort 52 = .ok (.ireturn, 1) := by decide +kernel
theorem dX7_passDay_0 : decode cX7_passDay 0 = .ok (.iconst 0, 1) := by decide +kernel
theorem dX7_passDay_1 : decode cX7_passDay 1 = .ok (.istore_n 1, 1) := by decide +kernel
theorem dX7_passDay_2 : decode cX7_passDay 2 = .ok (.iload_n 1, 1) := by decide +kernel
theorem dX7_passDay_3 : decode cX7_passDay 3 = .ok (.aload_n 0, 1) := by decide +kernel
theorem dX7_passDay_4 : decode cX7_passDay 4 = .ok (.getfield 7, 3) := by decide +kernel
theorem dX7_passDay_7 : decode cX7_passDay 7 = .ok (.iconst 0, 1) := by decide +kernel
theorem dX7_passDay_8 : decode cX7_passDay 8 = .ok (.iaload, 1) := by decide +kernel
theorem dX7_passDay_9 : decode cX7_passDay 9 = .ok (.if_icmp .ge 41, 3) := by decide +kernel
theorem dX7_passDay_12 : decode cX7_passDay 12 = .ok (.aload_n 0, 1) := by decide +kernel
theorem dX7_passDay_13 : decode cX7_passDay 13 = .ok (.getfield 7, 3) := by decide +kernel
theorem dX7_passDay_16 : decode cX7_passDay 16 = .ok (.bipush 23, 2) := by decide +kernel
theorem dX7_passDay_18 : decode cX7_passDay 18 = .ok (.iload_n 1, 1) := by decide +kernel
theorem dX7_passDay_19 : decode cX7_passDay 19 = .ok (.iadd, 1) := by decide +kernel
theorem dX7_passDay_20 : decode cX7_passDay 20 = .ok (.aload_n 0, 1) := by decide +kernel
theorem dX7_passDay_21 : decode cX7_passDay 21 = .ok (.getfield 7, 3) := by decide +kernel
theorem dX7_passDay_24 : decode cX7_passDay 24 = .ok (.bipush 23, 2) := by decide +kernel
theorem dX7_passDay_26 : decode cX7_passDay 26 = .ok (.iload_n 1, 1) := by decide +kernel
theorem dX7_passDay_27 : decode cX7_passDay 27 = .ok (.iadd, 1) := by decide +kernel
theorem dX7_passDay_28 : decode cX7_passDay 28 = .ok (.iaload, 1) := by decide +kernel
theorem dX7_passDay_29 : decode cX7_passDay 29 = .ok (.aload_n 0, 1) := by decide +kernel
theorem dX7_passDay_30 : decode cX7_passDay 30 = .ok (.iload_n 1, 1) := by decide +kernel
theorem dX7_passDay_31 : decode cX7_passDay 31 = .ok (.invokevirtual 330, 3) := by decide +kernel
theorem dX7_passDay_34 : decode cX7_passDay 34 = .ok (.iadd, 1) := by decide +kernel
theorem dX7_passDay_35 : decode cX7_passDay 35 = .ok (.i2l, 1) := by decide +kernel
theorem dX7_passDay_36 : decode cX7_passDay 36 = .ok (.iconst 0, 1) := by decide +kernel
theorem dX7_passDay_37 : decode cX7_passDay 37 = .ok (.sipush 999, 3) := by decide +kernel
theorem dX7_passDay_40 : decode cX7_passDay 40 = .ok (.invokestatic 276, 3) := by decide +kernel
theorem dX7_passDay_43 : decode cX7_passDay 43 = .ok (.iastore, 1) := by decide +kernel
theorem dX7_passDay_44 : decode cX7_passDay 44 = .ok (.iinc 1 1, 3) := by decide +kernel
theorem dX7_passDay_47 : decode cX7_passDay 47 = .ok (.goto (-45), 3) := by decide +kernel
theorem dX7_passDay_50 : decode cX7_passDay 50 = .ok (.iconst 0, 1) := by decide +kernel
theorem dX7_passDay_51 : decode cX7_passDay 51 = .ok (.istore_n 1, 1) := by decide +kernel
theorem dX7_passDay_52 : decode cX7_passDay 52 = .ok (.iload_n 1, 1) := by decide +kernel
theorem dX7_passDay_53 : decode cX7_passDay 53 = .ok (.bipush 12, 2) := by decide +kernel
theorem dX7_passDay_55 : decode cX7_passDay 55 = .ok (.if_icmp .ge 19, 3) := by decide +kernel
theorem dX7_passDay_58 : decode cX7_passDay 58 = .ok (.aload_n 0, 1) := by decide +kernel
theorem dX7_passDay_59 : decode cX7_passDay 59 = .ok (.getfield 7, 3) := by decide +kernel
theorem dX7_passDay_62 : decode cX7_passDay 62 = .ok (.bipush 11, 2) := by decide +kernel
theorem dX7_passDay_64 : decode cX7_passDay 64 = .ok (.iload_n 1, 1) := by decide +kernel
theorem dX7_passDay_65 : decode cX7_passDay 65 = .ok (.iadd, 1) := by decide +kernel
theorem dX7_passDay_66 : decode cX7_passDay 66 = .ok (.iconst (-1), 1) := by decide +kernel
theorem dX7_passDay_67 : decode cX7_passDay 67 = .ok (.iastore, 1) := by decide +kernel
theorem dX7_passDay_68 : decode cX7_passDay 68 = .ok (.iinc 1 1, 3) := by decide +kernel
theorem dX7_passDay_71 : decode cX7_passDay 71 = .ok (.goto (-19), 3) := by decide +kernel
theorem dX7_passDay_74 : decode cX7_passDay 74 = .ok (.aload_n 0, 1) := by decide +kernel
theorem dX7_passDay_75 : decode cX7_passDay 75 = .ok (.getfield 7, 3) := by decide +kernel
theorem dX7_passDay_78 : decode cX7_passDay 78 = .ok (.bipush 9, 2) := by decide +kernel
theorem dX7_passDay_80 : decode cX7_passDay 80 = .ok (.aload_n 0, 1) := by decide +kernel
theorem dX7_passDay_81 : decode cX7_passDay 81 = .ok (.invokevirtual 333, 3) := by decide +kernel
theorem dX7_passDay_84 : decode cX7_passDay 84 = .ok (.iastore, 1) := by decide +kernel
theorem dX7_passDay_85 : decode cX7_passDay 85 = .ok (.aload_n 0, 1) := by decide +kernel
theorem dX7_passDay_86 : decode cX7_passDay 86 = .ok (.getfield 7, 3) := by decide +kernel
theorem dX7_passDay_89 : decode cX7_passDay 89 = .ok (.bipush 6, 2) := by decide +kernel
theorem dX7_passDay_91 : decode cX7_passDay 91 = .ok (.dup2, 1) := by decide +kernel
theorem dX7_passDay_92 : decode cX7_passDay 92 = .ok (.iaload, 1) := by decide +kernel
theorem dX7_passDay_93 : decode cX7_passDay 93 = .ok (.iconst 1, 1) := by decide +kernel
theorem dX7_passDay_94 : decode cX7_passDay 94 = .ok (.iadd, 1) := by decide +kernel
theorem dX7_passDay_95 : decode cX7_passDay 95 = .ok (.iastore, 1) := by decide +kernel
theorem dX7_passDay_96 : decode cX7_passDay 96 = .ok (.aload_n 0, 1) := by decide +kernel
theorem dX7_passDay_97 : decode cX7_passDay 97 = .ok (.iconst 3, 1) := by decide +kernel
theorem dX7_passDay_98 : decode cX7_passDay 98 = .ok (.aload_n 0, 1) := by decide +kernel
theorem dX7_passDay_99 : decode cX7_passDay 99 = .ok (.getfield 7, 3) := by decide +kernel
theorem dX7_passDay_102 : decode cX7_passDay 102 = .ok (.bipush 9, 2) := by decide +kernel
theorem dX7_passDay_104 : decode cX7_passDay 104 = .ok (.iaload, 1) := by decide +kernel
theorem dX7_passDay_105 : decode cX7_passDay 105 = .ok (.iconst 0, 1) := by decide +kernel
theorem dX7_passDay_106 : decode cX7_passDay 106 = .ok (.invokevirtual 317, 3) := by decide +kernel
theorem dX7_passDay_109 : decode cX7_passDay 109 = .ok (.return_, 1) := by decide +kernel
theorem dX7_keepStep_0 : decode cX7_keepStep 0 = .ok (.aload_n 0, 1) := by decide +kernel
theorem dX7_keepStep_1 : decode cX7_keepStep 1 = .ok (.getfield 7, 3) := by decide +kernel
theorem dX7_keepStep_4 : decode cX7_keepStep 4 = .ok (.iconst 3, 1) := by decide +kernel
theorem dX7_keepStep_5 : decode cX7_keepStep 5 = .ok (.iaload, 1) := by decide +kernel
theorem dX7_keepStep_6 : decode cX7_keepStep 6 = .ok (.bipush 30, 2) := by decide +kernel
theorem dX7_keepStep_8 : decode cX7_keepStep 8 = .ok (.if_icmp .ne 47, 3) := by decide +kernel
theorem dX7_keepStep_11 : decode cX7_keepStep 11 = .ok (.iconst 0, 1) := by decide +kernel
theorem dX7_keepStep_12 : decode cX7_keepStep 12 = .ok (.istore_n 1, 1) := by decide +kernel
theorem dX7_keepStep_13 : decode cX7_keepStep 13 = .ok (.iload_n 1, 1) := by decide +kernel
theorem dX7_keepStep_14 : decode cX7_keepStep 14 = .ok (.sipush 1421, 3) := by decide +kernel
theorem dX7_keepStep_17 : decode cX7_keepStep 17 = .ok (.if_icmp .ge 28, 3) := by decide +kernel
theorem dX7_keepStep_20 : decode cX7_keepStep 20 = .ok (.aload_n 0, 1) := by decide +kernel
theorem dX7_keepStep_21 : decode cX7_keepStep 21 = .ok (.getfield 7, 3) := by decide +kernel
theorem dX7_keepStep_24 : decode cX7_keepStep 24 = .ok (.bipush 97, 2) := by decide +kernel
theorem dX7_keepStep_26 : decode cX7_keepStep 26 = .ok (.iload_n 1, 1) := by decide +kernel
theorem dX7_keepStep_27 : decode cX7_keepStep 27 = .ok (.iadd, 1) := by decide +kernel
theorem dX7_keepStep_28 : decode cX7_keepStep 28 = .ok (.aload_n 0, 1) := by decide +kernel
theorem dX7_keepStep_29 : decode cX7_keepStep 29 = .ok (.getfield 7, 3) := by decide +kernel
theorem dX7_keepStep_32 : decode cX7_keepStep 32 = .ok (.sipush 146, 3) := by decide +kernel
theorem dX7_keepStep_35 : decode cX7_keepStep 35 = .ok (.iload_n 1, 1) := by decide +kernel
theorem dX7_keepStep_36 : decode cX7_keepStep 36 = .ok (.iadd, 1) := by decide +kernel
theorem dX7_keepStep_37 : decode cX7_keepStep 37 = .ok (.iaload, 1) := by decide +kernel
theorem dX7_keepStep_38 : decode cX7_keepStep 38 = .ok (.iastore, 1) := by decide +kernel
theorem dX7_keepStep_39 : decode cX7_keepStep 39 = .ok (.iinc 1 1, 3) := by decide +kernel
theorem dX7_keepStep_42 : decode cX7_keepStep 42 = .ok (.goto (-29), 3) := by decide +kernel
theorem dX7_keepStep_45 : decode cX7_keepStep 45 = .ok (.aload_n 0, 1) := by decide +kernel
theorem dX7_keepStep_46 : decode cX7_keepStep 46 = .ok (.getfield 7, 3) := by decide +kernel
theorem dX7_keepStep_49 : decode cX7_keepStep 49 = .ok (.iconst 3, 1) := by decide +kernel
theorem dX7_keepStep_50 : decode cX7_keepStep 50 = .ok (.dup2, 1) := by decide +kernel
theorem dX7_keepStep_51 : decode cX7_keepStep 51 = .ok (.iaload, 1) := by decide +kernel
theorem dX7_keepStep_52 : decode cX7_keepStep 52 = .ok (.iconst 1, 1) := by decide +kernel
theorem dX7_keepStep_53 : decode cX7_keepStep 53 = .ok (.isub, 1) := by decide +kernel
theorem dX7_keepStep_54 : decode cX7_keepStep 54 = .ok (.iastore, 1) := by decide +kernel
theorem dX7_keepStep_55 : decode cX7_keepStep 55 = .ok (.bipush 97, 2) := by decide +kernel
theorem dX7_keepStep_57 : decode cX7_keepStep 57 = .ok (.bipush 49, 2) := by decide +kernel
theorem dX7_keepStep_59 : decode cX7_keepStep 59 = .ok (.aload_n 0, 1) := by decide +kernel
theorem dX7_keepStep_60 : decode cX7_keepStep 60 = .ok (.getfield 7, 3) := by decide +kernel
theorem dX7_keepStep_63 : decode cX7_keepStep 63 = .ok (.iconst 3, 1) := by decide +kernel
theorem dX7_keepStep_64 : decode cX7_keepStep 64 = .ok (.iaload, 1) := by decide +kernel
theorem dX7_keepStep_65 : decode cX7_keepStep 65 = .ok (.imul, 1) := by decide +kernel
theorem dX7_keepStep_66 : decode cX7_keepStep 66 = .ok (.iadd, 1) := by decide +kernel
theorem dX7_keepStep_67 : decode cX7_keepStep 67 = .ok (.istore_n 1, 1) := by decide +kernel
theorem dX7_keepStep_68 : decode cX7_keepStep 68 = .ok (.aload_n 0, 1) := by decide +kernel
theorem dX7_keepStep_69 : decode cX7_keepStep 69 = .ok (.getfield 7, 3) := by decide +kernel
theorem dX7_keepStep_72 : decode cX7_keepStep 72 = .ok (.iload_n 1, 1) := by decide +kernel
theorem dX7_keepStep_73 : decode cX7_keepStep 73 = .ok (.aload_n 0, 1) := by decide +kernel
theorem dX7_keepStep_74 : decode cX7_keepStep 74 = .ok (.getfield 7, 3) := by decide +kernel
theorem dX7_keepStep_77 : decode cX7_keepStep 77 = .ok (.iconst 0, 1) := by decide +kernel
theorem dX7_keepStep_78 : decode cX7_keepStep 78 = .ok (.iaload, 1) := by decide +kernel
theorem dX7_keepStep_79 : decode cX7_keepStep 79 = .ok (.iastore, 1) := by decide +kernel
theorem dX7_keepStep_80 : decode cX7_keepStep 80 = .ok (.iconst 0, 1) := by decide +kernel
theorem dX7_keepStep_81 : decode cX7_keepStep 81 = .ok (.istore_n 2, 1) := by decide +kernel
theorem dX7_keepStep_82 : decode cX7_keepStep 82 = .ok (.iload_n 2, 1) := by decide +kernel
theorem dX7_keepStep_83 : decode cX7_keepStep 83 = .ok (.bipush 23, 2) := by decide +kernel
theorem dX7_keepStep_85 : decode cX7_keepStep 85 = .ok (.if_icmp .ge 28, 3) := by decide +kernel
theorem dX7_keepStep_88 : decode cX7_keepStep 88 = .ok (.aload_n 0, 1) := by decide +kernel
theorem dX7_keepStep_89 : decode cX7_keepStep 89 = .ok (.getfield 7, 3) := by decide +kernel
theorem dX7_keepStep_92 : decode cX7_keepStep 92 = .ok (.iload_n 1, 1) := by decide +kernel
theorem dX7_keepStep_93 : decode cX7_keepStep 93 = .ok (.iconst 1, 1) := by decide +kernel
theorem dX7_keepStep_94 : decode cX7_keepStep 94 = .ok (.iadd, 1) := by decide +kernel
theorem dX7_keepStep_95 : decode cX7_keepStep 95 = .ok (.iload_n 2, 1) := by decide +kernel
theorem dX7_keepStep_96 : decode cX7_keepStep 96 = .ok (.iadd, 1) := by decide +kernel
theorem dX7_keepStep_97 : decode cX7_keepStep 97 = .ok (.aload_n 0, 1) := by decide +kernel
theorem dX7_keepStep_98 : decode cX7_keepStep 98 = .ok (.getfield 7, 3) := by decide +kernel
theorem dX7_keepStep_101 : decode cX7_keepStep 101 = .ok (.bipush 6, 2) := by decide +kernel
theorem dX7_keepStep_103 : decode cX7_keepStep 103 = .ok (.iload_n 2, 1) := by decide +kernel
theorem dX7_keepStep_104 : decode cX7_keepStep 104 = .ok (.iadd, 1) := by decide +kernel
theorem dX7_keepStep_105 : decode cX7_keepStep 105 = .ok (.iaload, 1) := by decide +kernel
theorem dX7_keepStep_106 : decode cX7_keepStep 106 = .ok (.iastore, 1) := by decide +kernel
theorem dX7_keepStep_107 : decode cX7_keepStep 107 = .ok (.iinc 2 1, 3) := by decide +kernel
theorem dX7_keepStep_110 : decode cX7_keepStep 110 = .ok (.goto (-28), 3) := by decide +kernel
theorem dX7_keepStep_113 : decode cX7_keepStep 113 = .ok (.iconst 0, 1) := by decide +kernel
theorem dX7_keepStep_114 : decode cX7_keepStep 114 = .ok (.istore_n 2, 1) := by decide +kernel
theorem dX7_keepStep_115 : decode cX7_keepStep 115 = .ok (.iload_n 2, 1) := by decide +kernel
theorem dX7_keepStep_116 : decode cX7_keepStep 116 = .ok (.bipush 25, 2) := by decide +kernel
theorem dX7_keepStep_118 : decode cX7_keepStep 118 = .ok (.if_icmp .ge 32, 3) := by decide +kernel
theorem dX7_keepStep_121 : decode cX7_keepStep 121 = .ok (.aload_n 0, 1) := by decide +kernel
theorem dX7_keepStep_122 : decode cX7_keepStep 122 = .ok (.getfield 7, 3) := by decide +kernel
theorem dX7_keepStep_125 : decode cX7_keepStep 125 = .ok (.iload_n 1, 1) := by decide +kernel
theorem dX7_keepStep_126 : decode cX7_keepStep 126 = .ok (.iconst 1, 1) := by decide +kernel
theorem dX7_keepStep_127 : decode cX7_keepStep 127 = .ok (.iadd, 1) := by decide +kernel
theorem dX7_keepStep_128 : decode cX7_keepStep 128 = .ok (.bipush 23, 2) := by decide +kernel
theorem dX7_keepStep_130 : decode cX7_keepStep 130 = .ok (.iadd, 1) := by decide +kernel
theorem dX7_keepStep_131 : decode cX7_keepStep 131 = .ok (.iload_n 2, 1) := by decide +kernel
theorem dX7_keepStep_132 : decode cX7_keepStep 132 = .ok (.iadd, 1) := by decide +kernel
theorem dX7_keepStep_133 : decode cX7_keepStep 133 = .ok (.aload_n 0, 1) := by decide +kernel
theorem dX7_keepStep_134 : decode cX7_keepStep 134 = .ok (.getfield 7, 3) := by decide +kernel
theorem dX7_keepStep_137 : decode cX7_keepStep 137 = .ok (.sipush 1567, 3) := by decide +kernel
theorem dX7_keepStep_140 : decode cX7_keepStep 140 = .ok (.iload_n 2, 1) := by decide +kernel
theorem dX7_keepStep_141 : decode cX7_keepStep 141 = .ok (.iadd, 1) := by decide +kernel
theorem dX7_keepStep_142 : decode cX7_keepStep 142 = .ok (.iaload, 1) := by decide +kernel
theorem dX7_keepStep_143 : decode cX7_keepStep 143 = .ok (.iastore, 1) := by decide +kernel
theorem dX7_keepStep_144 : decode cX7_keepStep 144 = .ok (.iinc 2 1, 3) := by decide +kernel
theorem dX7_keepStep_147 : decode cX7_keepStep 147 = .ok (.goto (-32), 3) := by decide +kernel
theorem dX7_keepStep_150 : decode cX7_keepStep 150 = .ok (.aload_n 0, 1) := by decide +kernel
theorem dX7_keepStep_151 : decode cX7_keepStep 151 = .ok (.getfield 7, 3) := by decide +kernel
theorem dX7_keepStep_154 : decode cX7_keepStep 154 = .ok (.iconst 3, 1) := by decide +kernel
theorem dX7_keepStep_155 : decode cX7_keepStep 155 = .ok (.dup2, 1) := by decide +kernel
theorem dX7_keepStep_156 : decode cX7_keepStep 156 = .ok (.iaload, 1) := by decide +kernel
theorem dX7_keepStep_157 : decode cX7_keepStep 157 = .ok (.iconst 1, 1) := by decide +kernel
theorem dX7_keepStep_158 : decode cX7_keepStep 158 = .ok (.iadd, 1) := by decide +kernel
theorem dX7_keepStep_159 : decode cX7_keepStep 159 = .ok (.iastore, 1) := by decide +kernel
theorem dX7_keepStep_160 : decode cX7_keepStep 160 = .ok (.return_, 1) := by decide +kernel
theorem dX7_undo_0 : decode cX7_undo 0 = .ok (.aload_n 0, 1) := by decide +kernel
theorem dX7_undo_1 : decode cX7_undo 1 = .ok (.getfield 7, 3) := by decide +kernel
theorem dX7_undo_4 : decode cX7_undo 4 = .ok (.iconst 3, 1) := by decide +kernel
theorem dX7_undo_5 : decode cX7_undo 5 = .ok (.iaload, 1) := by decide +kernel
theorem dX7_undo_6 : decode cX7_undo 6 = .ok (.ifCond .ne 5, 3) := by decide +kernel
theorem dX7_undo_9 : decode cX7_undo 9 = .ok (.iconst (-1), 1) := by decide +kernel
theorem dX7_undo_10 : decode cX7_undo 10 = .ok (.ireturn, 1) := by decide +kernel
theorem dX7_undo_11 : decode cX7_undo 11 = .ok (.aload_n 0, 1) := by decide +kernel
theorem dX7_undo_12 : decode cX7_undo 12 = .ok (.getfield 7, 3) := by decide +kernel
theorem dX7_undo_15 : decode cX7_undo 15 = .ok (.iconst 3, 1) := by decide +kernel
theorem dX7_undo_16 : decode cX7_undo 16 = .ok (.dup2, 1) := by decide +kernel
theorem dX7_undo_17 : decode cX7_undo 17 = .ok (.iaload, 1) := by decide +kernel
theorem dX7_undo_18 : decode cX7_undo 18 = .ok (.iconst 1, 1) := by decide +kernel
theorem dX7_undo_19 : decode cX7_undo 19 = .ok (.isub, 1) := by decide +kernel
theorem dX7_undo_20 : decode cX7_undo 20 = .ok (.iastore, 1) := by decide +kernel
theorem dX7_undo_21 : decode cX7_undo 21 = .ok (.bipush 97, 2) := by decide +kernel
theorem dX7_undo_23 : decode cX7_undo 23 = .ok (.bipush 49, 2) := by decide +kernel
theorem dX7_undo_25 : decode cX7_undo 25 = .ok (.aload_n 0, 1) := by decide +kernel
theorem dX7_undo_26 : decode cX7_undo 26 = .ok (.getfield 7, 3) := by decide +kernel
theorem dX7_undo_29 : decode cX7_undo 29 = .ok (.iconst 3, 1) := by decide +kernel
theorem dX7_undo_30 : decode cX7_undo 30 = .ok (.iaload, 1) := by decide +kernel
theorem dX7_undo_31 : decode cX7_undo 31 = .ok (.imul, 1) := by decide +kernel
theorem dX7_undo_32 : decode cX7_undo 32 = .ok (.iadd, 1) := by decide +kernel
theorem dX7_undo_33 : decode cX7_undo 33 = .ok (.istore_n 1, 1) := by decide +kernel
theorem dX7_undo_34 : decode cX7_undo 34 = .ok (.iconst 0, 1) := by decide +kernel
theorem dX7_undo_35 : decode cX7_undo 35 = .ok (.istore_n 2, 1) := by decide +kernel
theorem dX7_undo_36 : decode cX7_undo 36 = .ok (.iload_n 2, 1) := by decide +kernel
theorem dX7_undo_37 : decode cX7_undo 37 = .ok (.bipush 23, 2) := by decide +kernel
theorem dX7_undo_39 : decode cX7_undo 39 = .ok (.if_icmp .ge 28, 3) := by decide +kernel
theorem dX7_undo_42 : decode cX7_undo 42 = .ok (.aload_n 0, 1) := by decide +kernel
theorem dX7_undo_43 : decode cX7_undo 43 = .ok (.getfield 7, 3) := by decide +kernel
theorem dX7_undo_46 : decode cX7_undo 46 = .ok (.bipush 6, 2) := by decide +kernel
theorem dX7_undo_48 : decode cX7_undo 48 = .ok (.iload_n 2, 1) := by decide +kernel
theorem dX7_undo_49 : decode cX7_undo 49 = .ok (.iadd, 1) := by decide +kernel
theorem dX7_undo_50 : decode cX7_undo 50 = .ok (.aload_n 0, 1) := by decide +kernel
theorem dX7_undo_51 : decode cX7_undo 51 = .ok (.getfield 7, 3) := by decide +kernel
theorem dX7_undo_54 : decode cX7_undo 54 = .ok (.iload_n 1, 1) := by decide +kernel
theorem dX7_undo_55 : decode cX7_undo 55 = .ok (.iconst 1, 1) := by decide +kernel
theorem dX7_undo_56 : decode cX7_undo 56 = .ok (.iadd, 1) := by decide +kernel
theorem dX7_undo_57 : decode cX7_undo 57 = .ok (.iload_n 2, 1) := by decide +kernel
theorem dX7_undo_58 : decode cX7_undo 58 = .ok (.iadd, 1) := by decide +kernel
theorem dX7_undo_59 : decode cX7_undo 59 = .ok (.iaload, 1) := by decide +kernel
theorem dX7_undo_60 : decode cX7_undo 60 = .ok (.iastore, 1) := by decide +kernel
theorem dX7_undo_61 : decode cX7_undo 61 = .ok (.iinc 2 1, 3) := by decide +kernel
theorem dX7_undo_64 : decode cX7_undo 64 = .ok (.goto (-28), 3) := by decide +kernel
theorem dX7_undo_67 : decode cX7_undo 67 = .ok (.aload_n 0, 1) := by decide +kernel
theorem dX7_undo_68 : decode cX7_undo 68 = .ok (.getfield 7, 3) := by decide +kernel
theorem dX7_undo_71 : decode cX7_undo 71 = .ok (.iload_n 1, 1) := by decide +kernel
theorem dX7_undo_72 : decode cX7_undo 72 = .ok (.iaload, 1) := by decide +kernel
theorem dX7_undo_73 : decode cX7_undo 73 = .ok (.istore_n 2, 1) := by decide +kernel
theorem dX7_undo_74 : decode cX7_undo 74 = .ok (.iload_n 2, 1) := by decide +kernel
theorem dX7_undo_75 : decode cX7_undo 75 = .ok (.aload_n 0, 1) := by decide +kernel
theorem dX7_undo_76 : decode cX7_undo 76 = .ok (.getfield 7, 3) := by decide +kernel
theorem dX7_undo_79 : decode cX7_undo 79 = .ok (.iconst 0, 1) := by decide +kernel
theorem dX7_undo_80 : decode cX7_undo 80 = .ok (.iaload, 1) := by decide +kernel
theorem dX7_undo_81 : decode cX7_undo 81 = .ok (.if_icmp .ge 27, 3) := by decide +kernel
theorem dX7_undo_84 : decode cX7_undo 84 = .ok (.aload_n 0, 1) := by decide +kernel
theorem dX7_undo_85 : decode cX7_undo 85 = .ok (.getfield 7, 3) := by decide +kernel
theorem dX7_undo_88 : decode cX7_undo 88 = .ok (.bipush 23, 2) := by decide +kernel
theorem dX7_undo_90 : decode cX7_undo 90 = .ok (.iload_n 2, 1) := by decide +kernel
theorem dX7_undo_91 : decode cX7_undo 91 = .ok (.iadd, 1) := by decide +kernel
theorem dX7_undo_92 : decode cX7_undo 92 = .ok (.aload_n 0, 1) := by decide +kernel
theorem dX7_undo_93 : decode cX7_undo 93 = .ok (.getfield 7, 3) := by decide +kernel
theorem dX7_undo_96 : decode cX7_undo 96 = .ok (.bipush 57, 2) := by decide +kernel
theorem dX7_undo_98 : decode cX7_undo 98 = .ok (.iload_n 2, 1) := by decide +kernel
theorem dX7_undo_99 : decode cX7_undo 99 = .ok (.iadd, 1) := by decide +kernel
theorem dX7_undo_100 : decode cX7_undo 100 = .ok (.iaload, 1) := by decide +kernel
theorem dX7_undo_101 : decode cX7_undo 101 = .ok (.iastore, 1) := by decide +kernel
theorem dX7_undo_102 : decode cX7_undo 102 = .ok (.iinc 2 1, 3) := by decide +kernel
theorem dX7_undo_105 : decode cX7_undo 105 = .ok (.goto (-31), 3) := by decide +kernel
theorem dX7_undo_108 : decode cX7_undo 108 = .ok (.iconst 0, 1) := by decide +kernel
theorem dX7_undo_109 : decode cX7_undo 109 = .ok (.istore_n 2, 1) := by decide +kernel
theorem dX7_undo_110 : decode cX7_undo 110 = .ok (.iload_n 2, 1) := by decide +kernel
theorem dX7_undo_111 : decode cX7_undo 111 = .ok (.bipush 25, 2) := by decide +kernel
theorem dX7_undo_113 : decode cX7_undo 113 = .ok (.if_icmp .ge 32, 3) := by decide +kernel
theorem dX7_undo_116 : decode cX7_undo 116 = .ok (.aload_n 0, 1) := by decide +kernel
theorem dX7_undo_117 : decode cX7_undo 117 = .ok (.getfield 7, 3) := by decide +kernel
theorem dX7_undo_120 : decode cX7_undo 120 = .ok (.sipush 1567, 3) := by decide +kernel
theorem dX7_undo_123 : decode cX7_undo 123 = .ok (.iload_n 2, 1) := by decide +kernel
theorem dX7_undo_124 : decode cX7_undo 124 = .ok (.iadd, 1) := by decide +kernel
theorem dX7_undo_125 : decode cX7_undo 125 = .ok (.aload_n 0, 1) := by decide +kernel
theorem dX7_undo_126 : decode cX7_undo 126 = .ok (.getfield 7, 3) := by decide +kernel
theorem dX7_undo_129 : decode cX7_undo 129 = .ok (.iload_n 1, 1) := by decide +kernel
theorem dX7_undo_130 : decode cX7_undo 130 = .ok (.iconst 1, 1) := by decide +kernel
theorem dX7_undo_131 : decode cX7_undo 131 = .ok (.iadd, 1) := by decide +kernel
theorem dX7_undo_132 : decode cX7_undo 132 = .ok (.bipush 23, 2) := by decide +kernel
theorem dX7_undo_134 : decode cX7_undo 134 = .ok (.iadd, 1) := by decide +kernel
theorem dX7_undo_135 : decode cX7_undo 135 = .ok (.iload_n 2, 1) := by decide +kernel
theorem dX7_undo_136 : decode cX7_undo 136 = .ok (.iadd, 1) := by decide +kernel
theorem dX7_undo_137 : decode cX7_undo 137 = .ok (.iaload, 1) := by decide +kernel
theorem dX7_undo_138 : decode cX7_undo 138 = .ok (.iastore, 1) := by decide +kernel
theorem dX7_undo_139 : decode cX7_undo 139 = .ok (.iinc 2 1, 3) := by decide +kernel
theorem dX7_undo_142 : decode cX7_undo 142 = .ok (.goto (-32), 3) := by decide +kernel
theorem dX7_undo_145 : decode cX7_undo 145 = .ok (.aload_n 0, 1) := by decide +kernel
theorem dX7_undo_146 : decode cX7_undo 146 = .ok (.getfield 7, 3) := by decide +kernel
theorem dX7_undo_149 : decode cX7_undo 149 = .ok (.iconst 3, 1) := by decide +kernel
theorem dX7_undo_150 : decode cX7_undo 150 = .ok (.iaload, 1) := by decide +kernel
theorem dX7_undo_151 : decode cX7_undo 151 = .ok (.ireturn, 1) := by decide +kernel
theorem dX7_sell_0 : decode cX7_sell 0 = .ok (.aload_n 0, 1) := by decide +kernel
theorem dX7_sell_1 : decode cX7_sell 1 = .ok (.iload_n 1, 1) := by decide +kernel
theorem dX7_sell_2 : decode cX7_sell 2 = .ok (.invokevirtual 336, 3) := by decide +kernel
theorem dX7_sell_5 : decode cX7_sell 5 = .ok (.ifCond .ne 5, 3) := by decide +kernel
theorem dX7_sell_8 : decode cX7_sell 8 = .ok (.iconst (-1), 1) := by decide +kernel
theorem dX7_sell_9 : decode cX7_sell 9 = .ok (.ireturn, 1) := by decide +kernel
theorem dX7_sell_10 : decode cX7_sell 10 = .ok (.aload_n 0, 1) := by decide +kernel
theorem dX7_sell_11 : decode cX7_sell 11 = .ok (.invokevirtual 339, 3) := by decide +kernel
theorem dX7_sell_14 : decode cX7_sell 14 = .ok (.aload_n 0, 1) := by decide +kernel
theorem dX7_sell_15 : decode cX7_sell 15 = .ok (.iload_n 1, 1) := by decide +kernel
theorem dX7_sell_16 : decode cX7_sell 16 = .ok (.invokevirtual 342, 3) := by decide +kernel
theorem dX7_sell_19 : decode cX7_sell 19 = .ok (.ireturn, 1) := by decide +kernel
theorem dX7_give_0 : decode cX7_give 0 = .ok (.aload_n 0, 1) := by decide +kernel
theorem dX7_give_1 : decode cX7_give 1 = .ok (.iload_n 1, 1) := by decide +kernel
theorem dX7_give_2 : decode cX7_give 2 = .ok (.invokevirtual 345, 3) := by decide +kernel
theorem dX7_give_5 : decode cX7_give 5 = .ok (.ifCond .ne 5, 3) := by decide +kernel
theorem dX7_give_8 : decode cX7_give 8 = .ok (.iconst 0, 1) := by decide +kernel
theorem dX7_give_9 : decode cX7_give 9 = .ok (.ireturn, 1) := by decide +kernel
theorem dX7_give_10 : decode cX7_give 10 = .ok (.aload_n 0, 1) := by decide +kernel
theorem dX7_give_11 : decode cX7_give 11 = .ok (.invokevirtual 339, 3) := by decide +kernel
theorem dX7_give_14 : decode cX7_give 14 = .ok (.aload_n 0, 1) := by decide +kernel
theorem dX7_give_15 : decode cX7_give 15 = .ok (.iload_n 1, 1) := by decide +kernel
theorem dX7_give_16 : decode cX7_give 16 = .ok (.invokevirtual 348, 3) := by decide +kernel
theorem dX7_give_19 : decode cX7_give 19 = .ok (.iconst 1, 1) := by decide +kernel
theorem dX7_give_20 : decode cX7_give 20 = .ok (.ireturn, 1) := by decide +kernel
theorem dX7_turn_0 : decode cX7_turn 0 = .ok (.aload_n 0, 1) := by decide +kernel
theorem dX7_turn_1 : decode cX7_turn 1 = .ok (.iload_n 1, 1) := by decide +kernel
theorem dX7_turn_2 : decode cX7_turn 2 = .ok (.invokevirtual 351, 3) := by decide +kernel
theorem dX7_turn_5 : decode cX7_turn 5 = .ok (.ifCond .ne 5, 3) := by decide +kernel
theorem dX7_turn_8 : decode cX7_turn 8 = .ok (.iconst 0, 1) := by decide +kernel
theorem dX7_turn_9 : decode cX7_turn 9 = .ok (.ireturn, 1) := by decide +kernel
theorem dX7_turn_10 : decode cX7_turn 10 = .ok (.aload_n 0, 1) := by decide +kernel
theorem dX7_turn_11 : decode cX7_turn 11 = .ok (.invokevirtual 339, 3) := by decide +kernel
theorem dX7_turn_14 : decode cX7_turn 14 = .ok (.aload_n 0, 1) := by decide +kernel
theorem dX7_turn_15 : decode cX7_turn 15 = .ok (.iload_n 1, 1) := by decide +kernel
theorem dX7_turn_16 : decode cX7_turn 16 = .ok (.invokevirtual 354, 3) := by decide +kernel
theorem dX7_turn_19 : decode cX7_turn 19 = .ok (.iconst 1, 1) := by decide +kernel
theorem dX7_turn_20 : decode cX7_turn 20 = .ok (.ireturn, 1) := by decide +kernel
theorem dX7_canPass_0 : decode cX7_canPass 0 = .ok (.aload_n 0, 1) := by decide +kernel
theorem dX7_canPass_1 : decode cX7_canPass 1 = .ok (.iload_n 1, 1) := by decide +kernel
theorem dX7_canPass_2 : decode cX7_canPass 2 = .ok (.invokevirtual 308, 3) := by decide +kernel
theorem dX7_canPass_5 : decode cX7_canPass 5 = .ok (.ifCond .eq 27, 3) := by decide +kernel
theorem dX7_canPass_8 : decode cX7_canPass 8 = .ok (.aload_n 0, 1) := by decide +kernel
theorem dX7_canPass_9 : decode cX7_canPass 9 = .ok (.iload_n 2, 1) := by decide +kernel
theorem dX7_canPass_10 : decode cX7_canPass 10 = .ok (.invokevirtual 308, 3) := by decide +kernel
theorem dX7_canPass_13 : decode cX7_canPass 13 = .ok (.ifCond .eq 19, 3) := by decide +kernel
theorem dX7_canPass_16 : decode cX7_canPass 16 = .ok (.aload_n 0, 1) := by decide +kernel
theorem dX7_canPass_17 : decode cX7_canPass 17 = .ok (.iload_n 1, 1) := by decide +kernel
theorem dX7_canPass_18 : decode cX7_canPass 18 = .ok (.invokevirtual 75, 3) := by decide +kernel
theorem dX7_canPass_21 : decode cX7_canPass 21 = .ok (.ifCond .eq 11, 3) := by decide +kernel
theorem dX7_canPass_24 : decode cX7_canPass 24 = .ok (.aload_n 0, 1) := by decide +kernel
theorem dX7_canPass_25 : decode cX7_canPass 25 = .ok (.iload_n 2, 1) := by decide +kernel
theorem dX7_canPass_26 : decode cX7_canPass 26 = .ok (.invokevirtual 75, 3) := by decide +kernel
theorem dX7_canPass_29 : decode cX7_canPass 29 = .ok (.ifCond .eq 5, 3) := by decide +kernel
theorem dX7_canPass_32 : decode cX7_canPass 32 = .ok (.iconst 0, 1) := by decide +kernel
theorem dX7_canPass_33 : decode cX7_canPass 33 = .ok (.ireturn, 1) := by decide +kernel
theorem dX7_canPass_34 : decode cX7_canPass 34 = .ok (.aload_n 0, 1) := by decide +kernel
theorem dX7_canPass_35 : decode cX7_canPass 35 = .ok (.iload_n 2, 1) := by decide +kernel
theorem dX7_canPass_36 : decode cX7_canPass 36 = .ok (.aload_n 0, 1) := by decide +kernel
theorem dX7_canPass_37 : decode cX7_canPass 37 = .ok (.getfield 7, 3) := by decide +kernel
theorem dX7_canPass_40 : decode cX7_canPass 40 = .ok (.bipush 9, 2) := by decide +kernel
theorem dX7_canPass_42 : decode cX7_canPass 42 = .ok (.iaload, 1) := by decide +kernel
theorem dX7_canPass_43 : decode cX7_canPass 43 = .ok (.invokevirtual 283, 3) := by decide +kernel
theorem dX7_canPass_46 : decode cX7_canPass 46 = .ok (.ifCond .eq 32, 3) := by decide +kernel
theorem dX7_canPass_49 : decode cX7_canPass 49 = .ok (.aload_n 0, 1) := by decide +kernel
theorem dX7_canPass_50 : decode cX7_canPass 50 = .ok (.iload_n 1, 1) := by decide +kernel
theorem dX7_canPass_51 : decode cX7_canPass 51 = .ok (.invokevirtual 75, 3) := by decide +kernel
theorem dX7_canPass_54 : decode cX7_canPass 54 = .ok (.aload_n 0, 1) := by decide +kernel
theorem dX7_canPass_55 : decode cX7_canPass 55 = .ok (.iload_n 2, 1) := by decide +kernel
theorem dX7_canPass_56 : decode cX7_canPass 56 = .ok (.invokevirtual 311, 3) := by decide +kernel
theorem dX7_canPass_59 : decode cX7_canPass 59 = .ok (.iconst (-1), 1) := by decide +kernel
theorem dX7_canPass_60 : decode cX7_canPass 60 = .ok (.ixor, 1) := by decide +kernel
theorem dX7_canPass_61 : decode cX7_canPass 61 = .ok (.iand, 1) := by decide +kernel
theorem dX7_canPass_62 : decode cX7_canPass 62 = .ok (.ifCond .ne 16, 3) := by decide +kernel
theorem dX7_canPass_65 : decode cX7_canPass 65 = .ok (.aload_n 0, 1) := by decide +kernel
theorem dX7_canPass_66 : decode cX7_canPass 66 = .ok (.iload_n 2, 1) := by decide +kernel
theorem dX7_canPass_67 : decode cX7_canPass 67 = .ok (.invokevirtual 314, 3) := by decide +kernel
theorem dX7_canPass_70 : decode cX7_canPass 70 = .ok (.aload_n 0, 1) := by decide +kernel
theorem dX7_canPass_71 : decode cX7_canPass 71 = .ok (.iload_n 1, 1) := by decide +kernel
theorem dX7_canPass_72 : decode cX7_canPass 72 = .ok (.invokevirtual 314, 3) := by decide +kernel
theorem dX7_canPass_75 : decode cX7_canPass 75 = .ok (.if_icmp .gt 5, 3) := by decide +kernel
theorem dX7_canPass_78 : decode cX7_canPass 78 = .ok (.iconst 0, 1) := by decide +kernel
theorem dX7_canPass_79 : decode cX7_canPass 79 = .ok (.ireturn, 1) := by decide +kernel
theorem dX7_canPass_80 : decode cX7_canPass 80 = .ok (.aload_n 0, 1) := by decide +kernel
theorem dX7_canPass_81 : decode cX7_canPass 81 = .ok (.getfield 7, 3) := by decide +kernel
theorem dX7_canPass_84 : decode cX7_canPass 84 = .ok (.bipush 23, 2) := by decide +kernel
theorem dX7_canPass_86 : decode cX7_canPass 86 = .ok (.iload_n 2, 1) := by decide +kernel
theorem dX7_canPass_87 : decode cX7_canPass 87 = .ok (.iadd, 1) := by decide +kernel
theorem dX7_canPass_88 : decode cX7_canPass 88 = .ok (.iaload, 1) := by decide +kernel
theorem dX7_canPass_89 : decode cX7_canPass 89 = .ok (.aload_n 0, 1) := by decide +kernel
theorem dX7_canPass_90 : decode cX7_canPass 90 = .ok (.iload_n 1, 1) := by decide +kernel
theorem dX7_canPass_91 : decode cX7_canPass 91 = .ok (.invokevirtual 314, 3) := by decide +kernel
theorem dX7_canPass_94 : decode cX7_canPass 94 = .ok (.aload_n 0, 1) := by decide +kernel
theorem dX7_canPass_95 : decode cX7_canPass 95 = .ok (.iload_n 2, 1) := by decide +kernel
theorem dX7_canPass_96 : decode cX7_canPass 96 = .ok (.invokevirtual 314, 3) := by decide +kernel
theorem dX7_canPass_99 : decode cX7_canPass 99 = .ok (.iadd, 1) := by decide +kernel
theorem dX7_canPass_100 : decode cX7_canPass 100 = .ok (.iconst 2, 1) := by decide +kernel
theorem dX7_canPass_101 : decode cX7_canPass 101 = .ok (.idiv, 1) := by decide +kernel
theorem dX7_canPass_102 : decode cX7_canPass 102 = .ok (.if_icmp .lt 7, 3) := by decide +kernel
theorem dX7_canPass_105 : decode cX7_canPass 105 = .ok (.iconst 1, 1) := by decide +kernel
theorem dX7_canPass_106 : decode cX7_canPass 106 = .ok (.goto 4, 3) := by decide +kernel
theorem dX7_canPass_109 : decode cX7_canPass 109 = .ok (.iconst 0, 1) := by decide +kernel
theorem dX7_canPass_110 : decode cX7_canPass 110 = .ok (.ireturn, 1) := by decide +kernel
theorem dX7_pass_0 : decode cX7_pass 0 = .ok (.aload_n 0, 1) := by decide +kernel
theorem dX7_pass_1 : decode cX7_pass 1 = .ok (.iload_n 1, 1) := by decide +kernel
theorem dX7_pass_2 : decode cX7_pass 2 = .ok (.iload_n 2, 1) := by decide +kernel
theorem dX7_pass_3 : decode cX7_pass 3 = .ok (.invokevirtual 357, 3) := by decide +kernel
theorem dX7_pass_6 : decode cX7_pass 6 = .ok (.ifCond .ne 5, 3) := by decide +kernel
theorem dX7_pass_9 : decode cX7_pass 9 = .ok (.iconst (-1), 1) := by decide +kernel
theorem dX7_pass_10 : decode cX7_pass 10 = .ok (.ireturn, 1) := by decide +kernel
theorem dX7_pass_11 : decode cX7_pass 11 = .ok (.aload_n 0, 1) := by decide +kernel
theorem dX7_pass_12 : decode cX7_pass 12 = .ok (.invokevirtual 339, 3) := by decide +kernel
theorem dX7_pass_15 : decode cX7_pass 15 = .ok (.aload_n 0, 1) := by decide +kernel
theorem dX7_pass_16 : decode cX7_pass 16 = .ok (.iload_n 1, 1) := by decide +kernel
theorem dX7_pass_17 : decode cX7_pass 17 = .ok (.invokevirtual 314, 3) := by decide +kernel
theorem dX7_pass_20 : decode cX7_pass 20 = .ok (.aload_n 0, 1) := by decide +kernel
theorem dX7_pass_21 : decode cX7_pass 21 = .ok (.iload_n 2, 1) := by decide +kernel
theorem dX7_pass_22 : decode cX7_pass 22 = .ok (.invokevirtual 314, 3) := by decide +kernel
theorem dX7_pass_25 : decode cX7_pass 25 = .ok (.iadd, 1) := by decide +kernel
theorem dX7_pass_26 : decode cX7_pass 26 = .ok (.iconst 2, 1) := by decide +kernel
theorem dX7_pass_27 : decode cX7_pass 27 = .ok (.idiv, 1) := by decide +kernel
theorem dX7_pass_28 : decode cX7_pass 28 = .ok (.istore_n 3, 1) := by decide +kernel
theorem dX7_pass_29 : decode cX7_pass 29 = .ok (.aload_n 0, 1) := by decide +kernel
theorem dX7_pass_30 : decode cX7_pass 30 = .ok (.getfield 7, 3) := by decide +kernel
theorem dX7_pass_33 : decode cX7_pass 33 = .ok (.bipush 23, 2) := by decide +kernel
theorem dX7_pass_35 : decode cX7_pass 35 = .ok (.iload_n 2, 1) := by decide +kernel
theorem dX7_pass_36 : decode cX7_pass 36 = .ok (.iadd, 1) := by decide +kernel
theorem dX7_pass_37 : decode cX7_pass 37 = .ok (.dup2, 1) := by decide +kernel
theorem dX7_pass_38 : decode cX7_pass 38 = .ok (.iaload, 1) := by decide +kernel
theorem dX7_pass_39 : decode cX7_pass 39 = .ok (.iload_n 3, 1) := by decide +kernel
theorem dX7_pass_40 : decode cX7_pass 40 = .ok (.isub, 1) := by decide +kernel
theorem dX7_pass_41 : decode cX7_pass 41 = .ok (.iastore, 1) := by decide +kernel
theorem dX7_pass_42 : decode cX7_pass 42 = .ok (.aload_n 0, 1) := by decide +kernel
theorem dX7_pass_43 : decode cX7_pass 43 = .ok (.getfield 7, 3) := by decide +kernel
theorem dX7_pass_46 : decode cX7_pass 46 = .ok (.bipush 23, 2) := by decide +kernel
theorem dX7_pass_48 : decode cX7_pass 48 = .ok (.iload_n 1, 1) := by decide +kernel
theorem dX7_pass_49 : decode cX7_pass 49 = .ok (.iadd, 1) := by decide +kernel
theorem dX7_pass_50 : decode cX7_pass 50 = .ok (.aload_n 0, 1) := by decide +kernel
theorem dX7_pass_51 : decode cX7_pass 51 = .ok (.getfield 7, 3) := by decide +kernel
theorem dX7_pass_54 : decode cX7_pass 54 = .ok (.bipush 23, 2) := by decide +kernel
theorem dX7_pass_56 : decode cX7_pass 56 = .ok (.iload_n 1, 1) := by decide +kernel
theorem dX7_pass_57 : decode cX7_pass 57 = .ok (.iadd, 1) := by decide +kernel
theorem dX7_pass_58 : decode cX7_pass 58 = .ok (.iaload, 1) := by decide +kernel
theorem dX7_pass_59 : decode cX7_pass 59 = .ok (.iload_n 3, 1) := by decide +kernel
theorem dX7_pass_60 : decode cX7_pass 60 = .ok (.iadd, 1) := by decide +kernel
theorem dX7_pass_61 : decode cX7_pass 61 = .ok (.i2l, 1) := by decide +kernel
theorem dX7_pass_62 : decode cX7_pass 62 = .ok (.iconst 0, 1) := by decide +kernel
theorem dX7_pass_63 : decode cX7_pass 63 = .ok (.sipush 999, 3) := by decide +kernel
theorem dX7_pass_66 : decode cX7_pass 66 = .ok (.invokestatic 276, 3) := by decide +kernel
theorem dX7_pass_69 : decode cX7_pass 69 = .ok (.iastore, 1) := by decide +kernel
theorem dX7_pass_70 : decode cX7_pass 70 = .ok (.iconst 0, 1) := by decide +kernel
theorem dX7_pass_71 : decode cX7_pass 71 = .ok (.istore 4, 2) := by decide +kernel
theorem dX7_pass_73 : decode cX7_pass 73 = .ok (.iload 4, 2) := by decide +kernel
theorem dX7_pass_75 : decode cX7_pass 75 = .ok (.bipush 12, 2) := by decide +kernel
theorem dX7_pass_77 : decode cX7_pass 77 = .ok (.if_icmp .ge 34, 3) := by decide +kernel
theorem dX7_pass_80 : decode cX7_pass 80 = .ok (.aload_n 0, 1) := by decide +kernel
theorem dX7_pass_81 : decode cX7_pass 81 = .ok (.getfield 7, 3) := by decide +kernel
theorem dX7_pass_84 : decode cX7_pass 84 = .ok (.bipush 11, 2) := by decide +kernel
theorem dX7_pass_86 : decode cX7_pass 86 = .ok (.iload 4, 2) := by decide +kernel
theorem dX7_pass_88 : decode cX7_pass 88 = .ok (.iadd, 1) := by decide +kernel
theorem dX7_pass_89 : decode cX7_pass 89 = .ok (.iaload, 1) := by decide +kernel
theorem dX7_pass_90 : decode cX7_pass 90 = .ok (.iload_n 1, 1) := by decide +kernel
theorem dX7_pass_91 : decode cX7_pass 91 = .ok (.if_icmp .ne 14, 3) := by decide +kernel
theorem dX7_pass_94 : decode cX7_pass 94 = .ok (.aload_n 0, 1) := by decide +kernel
theorem dX7_pass_95 : decode cX7_pass 95 = .ok (.getfield 7, 3) := by decide +kernel
theorem dX7_pass_98 : decode cX7_pass 98 = .ok (.bipush 11, 2) := by decide +kernel
theorem dX7_pass_100 : decode cX7_pass 100 = .ok (.iload 4, 2) := by decide +kernel
theorem dX7_pass_102 : decode cX7_pass 102 = .ok (.iadd, 1) := by decide +kernel
theorem dX7_pass_103 : decode cX7_pass 103 = .ok (.iload_n 2, 1) := by decide +kernel
theorem dX7_pass_104 : decode cX7_pass 104 = .ok (.iastore, 1) := by decide +kernel
theorem dX7_pass_105 : decode cX7_pass 105 = .ok (.iinc 4 1, 3) := by decide +kernel
theorem dX7_pass_108 : decode cX7_pass 108 = .ok (.goto (-35), 3) := by decide +kernel
theorem dX7_pass_111 : decode cX7_pass 111 = .ok (.aload_n 0, 1) := by decide +kernel
theorem dX7_pass_112 : decode cX7_pass 112 = .ok (.iconst 4, 1) := by decide +kernel
theorem dX7_pass_113 : decode cX7_pass 113 = .ok (.iload_n 2, 1) := by decide +kernel
theorem dX7_pass_114 : decode cX7_pass 114 = .ok (.iload_n 3, 1) := by decide +kernel
theorem dX7_pass_115 : decode cX7_pass 115 = .ok (.invokevirtual 317, 3) := by decide +kernel
theorem dX7_pass_118 : decode cX7_pass 118 = .ok (.iload_n 3, 1) := by decide +kernel
theorem dX7_pass_119 : decode cX7_pass 119 = .ok (.ireturn, 1) := by decide +kernel
theorem dX7_arePassed_0 : decode cX7_arePassed 0 = .ok (.iconst 0, 1) := by decide +kernel
theorem dX7_arePassed_1 : decode cX7_arePassed 1 = .ok (.istore_n 2, 1) := by decide +kernel
theorem dX7_arePassed_2 : decode cX7_arePassed 2 = .ok (.iload_n 2, 1) := by decide +kernel
theorem dX7_arePassed_3 : decode cX7_arePassed 3 = .ok (.iload_n 1, 1) := by decide +kernel
theorem dX7_arePassed_4 : decode cX7_arePassed 4 = .ok (.if_icmp .ge 32, 3) := by decide +kernel
theorem dX7_arePassed_7 : decode cX7_arePassed 7 = .ok (.aload_n 0, 1) := by decide +kernel
theorem dX7_arePassed_8 : decode cX7_arePassed 8 = .ok (.getfield 7, 3) := by decide +kernel
theorem dX7_arePassed_11 : decode cX7_arePassed 11 = .ok (.bipush 6, 2) := by decide +kernel
theorem dX7_arePassed_13 : decode cX7_arePassed 13 = .ok (.iaload, 1) := by decide +kernel
theorem dX7_arePassed_14 : decode cX7_arePassed 14 = .ok (.sipush 9999, 3) := by decide +kernel
theorem dX7_arePassed_17 : decode cX7_arePassed 17 = .ok (.if_icmp .ne 5, 3) := by decide +kernel
theorem dX7_arePassed_20 : decode cX7_arePassed 20 = .ok (.iconst 0, 1) := by decide +kernel
theorem dX7_arePassed_21 : decode cX7_arePassed 21 = .ok (.ireturn, 1) := by decide +kernel
theorem dX7_arePassed_22 : decode cX7_arePassed 22 = .ok (.aload_n 0, 1) := by decide +kernel
theorem dX7_arePassed_23 : decode cX7_arePassed 23 = .ok (.invokevirtual 339, 3) := by decide +kernel
theorem dX7_arePassed_26 : decode cX7_arePassed 26 = .ok (.aload_n 0, 1) := by decide +kernel
theorem dX7_arePassed_27 : decode cX7_arePassed 27 = .ok (.invokevirtual 360, 3) := by decide +kernel
theorem dX7_arePassed_30 : decode cX7_arePassed 30 = .ok (.iinc 2 1, 3) := by decide +kernel
theorem dX7_arePassed_33 : decode cX7_arePassed 33 = .ok (.goto (-31), 3) := by decide +kernel
theorem dX7_arePassed_36 : decode cX7_arePassed 36 = .ok (.iconst 1, 1) := by decide +kernel
theorem dX7_arePassed_37 : decode cX7_arePassed 37 = .ok (.ireturn, 1) := by decide +kernel
theorem dX7_day_0 : decode cX7_day 0 = .ok (.iload_n 1, 1) := by decide +kernel
theorem dX7_day_1 : decode cX7_day 1 = .ok (.iconst 1, 1) := by decide +kernel
theorem dX7_day_2 : decode cX7_day 2 = .ok (.bipush 60, 2) := by decide +kernel
theorem dX7_day_4 : decode cX7_day 4 = .ok (.invokestatic 63, 3) := by decide +kernel
theorem dX7_day_7 : decode cX7_day 7 = .ok (.ifCond .eq 36, 3) := by decide +kernel
theorem dX7_day_10 : decode cX7_day 10 = .ok (.aload_n 0, 1) := by decide +kernel
theorem dX7_day_11 : decode cX7_day 11 = .ok (.getfield 7, 3) := by decide +kernel
theorem dX7_day_14 : decode cX7_day 14 = .ok (.bipush 6, 2) := by decide +kernel
theorem dX7_day_16 : decode cX7_day 16 = .ok (.iaload, 1) := by decide +kernel
theorem dX7_day_17 : decode cX7_day 17 = .ok (.iload_n 1, 1) := by decide +kernel
theorem dX7_day_18 : decode cX7_day 18 = .ok (.iadd, 1) := by decide +kernel
theorem dX7_day_19 : decode cX7_day 19 = .ok (.sipush 9999, 3) := by decide +kernel
theorem dX7_day_22 : decode cX7_day 22 = .ok (.if_icmp .gt 21, 3) := by decide +kernel
theorem dX7_day_25 : decode cX7_day 25 = .ok (.aload_n 0, 1) := by decide +kernel
theorem dX7_day_26 : decode cX7_day 26 = .ok (.iload_n 1, 1) := by decide +kernel
theorem dX7_day_27 : decode cX7_day 27 = .ok (.invokevirtual 363, 3) := by decide +kernel
theorem dX7_day_30 : decode cX7_day 30 = .ok (.ifCond .eq 13, 3) := by decide +kernel
theorem dX7_day_33 : decode cX7_day 33 = .ok (.aload_n 0, 1) := by decide +kernel
theorem dX7_day_34 : decode cX7_day 34 = .ok (.getfield 7, 3) := by decide +kernel
theorem dX7_day_37 : decode cX7_day 37 = .ok (.bipush 9, 2) := by decide +kernel
theorem dX7_day_39 : decode cX7_day 39 = .ok (.iaload, 1) := by decide +kernel
theorem dX7_day_40 : decode cX7_day 40 = .ok (.goto 4, 3) := by decide +kernel
theorem dX7_day_43 : decode cX7_day 43 = .ok (.iconst (-1), 1) := by decide +kernel
theorem dX7_day_44 : decode cX7_day 44 = .ok (.ireturn, 1) := by decide +kernel
theorem dX7_isPlayed_0 : decode cX7_isPlayed 0 = .ok (.aload_n 0, 1) := by decide +kernel
theorem dX7_isPlayed_1 : decode cX7_isPlayed 1 = .ok (.getfield 16, 3) := by decide +kernel
theorem dX7_isPlayed_4 : decode cX7_isPlayed 4 = .ok (.iload_n 1, 1) := by decide +kernel
theorem dX7_isPlayed_5 : decode cX7_isPlayed 5 = .ok (.iconst 1, 1) := by decide +kernel
theorem dX7_isPlayed_6 : decode cX7_isPlayed 6 = .ok (.iadd, 1) := by decide +kernel
theorem dX7_isPlayed_7 : decode cX7_isPlayed 7 = .ok (.iaload, 1) := by decide +kernel
theorem dX7_isPlayed_8 : decode cX7_isPlayed 8 = .ok (.istore_n 2, 1) := by decide +kernel
theorem dX7_isPlayed_9 : decode cX7_isPlayed 9 = .ok (.aload_n 0, 1) := by decide +kernel
theorem dX7_isPlayed_10 : decode cX7_isPlayed 10 = .ok (.getfield 16, 3) := by decide +kernel
theorem dX7_isPlayed_13 : decode cX7_isPlayed 13 = .ok (.iload_n 1, 1) := by decide +kernel
theorem dX7_isPlayed_14 : decode cX7_isPlayed 14 = .ok (.iconst 2, 1) := by decide +kernel
theorem dX7_isPlayed_15 : decode cX7_isPlayed 15 = .ok (.iadd, 1) := by decide +kernel
theorem dX7_isPlayed_16 : decode cX7_isPlayed 16 = .ok (.iaload, 1) := by decide +kernel
theorem dX7_isPlayed_17 : decode cX7_isPlayed 17 = .ok (.istore_n 3, 1) := by decide +kernel
theorem dX7_isPlayed_18 : decode cX7_isPlayed 18 = .ok (.aload_n 0, 1) := by decide +kernel
theorem dX7_isPlayed_19 : decode cX7_isPlayed 19 = .ok (.getfield 16, 3) := by decide +kernel
theorem dX7_isPlayed_22 : decode cX7_isPlayed 22 = .ok (.iload_n 1, 1) := by decide +kernel
theorem dX7_isPlayed_23 : decode cX7_isPlayed 23 = .ok (.iaload, 1) := by decide +kernel
theorem dX7_isPlayed_24 : decode cX7_isPlayed 24 = .ok (.tableswitch 107 2 7 #[40, 59, 75, 89, 95, 101], 40) := by decide +kernel
theorem dX7_isPlayed_64 : decode cX7_isPlayed 64 = .ok (.aload_n 0, 1) := by decide +kernel
theorem dX7_isPlayed_65 : decode cX7_isPlayed 65 = .ok (.bipush 31, 2) := by decide +kernel
theorem dX7_isPlayed_67 : decode cX7_isPlayed 67 = .ok (.iload_n 2, 1) := by decide +kernel
theorem dX7_isPlayed_68 : decode cX7_isPlayed 68 = .ok (.iload_n 3, 1) := by decide +kernel
theorem dX7_isPlayed_69 : decode cX7_isPlayed 69 = .ok (.bipush 50, 2) := by decide +kernel
theorem dX7_isPlayed_71 : decode cX7_isPlayed 71 = .ok (.invokevirtual 366, 3) := by decide +kernel
theorem dX7_isPlayed_74 : decode cX7_isPlayed 74 = .ok (.ifCond .lt 7, 3) := by decide +kernel
theorem dX7_isPlayed_77 : decode cX7_isPlayed 77 = .ok (.iconst 1, 1) := by decide +kernel
theorem dX7_isPlayed_78 : decode cX7_isPlayed 78 = .ok (.goto 4, 3) := by decide +kernel
theorem dX7_isPlayed_81 : decode cX7_isPlayed 81 = .ok (.iconst 0, 1) := by decide +kernel
theorem dX7_isPlayed_82 : decode cX7_isPlayed 82 = .ok (.ireturn, 1) := by decide +kernel
theorem dX7_isPlayed_83 : decode cX7_isPlayed 83 = .ok (.aload_n 0, 1) := by decide +kernel
theorem dX7_isPlayed_84 : decode cX7_isPlayed 84 = .ok (.iload_n 2, 1) := by decide +kernel
theorem dX7_isPlayed_85 : decode cX7_isPlayed 85 = .ok (.iload_n 3, 1) := by decide +kernel
theorem dX7_isPlayed_86 : decode cX7_isPlayed 86 = .ok (.aload_n 0, 1) := by decide +kernel
theorem dX7_isPlayed_87 : decode cX7_isPlayed 87 = .ok (.getfield 7, 3) := by decide +kernel
theorem dX7_isPlayed_90 : decode cX7_isPlayed 90 = .ok (.bipush 34, 2) := by decide +kernel
theorem dX7_isPlayed_92 : decode cX7_isPlayed 92 = .ok (.iload_n 2, 1) := by decide +kernel
theorem dX7_isPlayed_93 : decode cX7_isPlayed 93 = .ok (.iadd, 1) := by decide +kernel
theorem dX7_isPlayed_94 : decode cX7_isPlayed 94 = .ok (.iaload, 1) := by decide +kernel
theorem dX7_isPlayed_95 : decode cX7_isPlayed 95 = .ok (.invokevirtual 370, 3) := by decide +kernel
theorem dX7_isPlayed_98 : decode cX7_isPlayed 98 = .ok (.ireturn, 1) := by decide +kernel
theorem dX7_isPlayed_99 : decode cX7_isPlayed 99 = .ok (.aload_n 0, 1) := by decide +kernel
theorem dX7_isPlayed_100 : decode cX7_isPlayed 100 = .ok (.iload_n 2, 1) := by decide +kernel
theorem dX7_isPlayed_101 : decode cX7_isPlayed 101 = .ok (.invokevirtual 373, 3) := by decide +kernel
theorem dX7_isPlayed_104 : decode cX7_isPlayed 104 = .ok (.ifCond .lt 7, 3) := by decide +kernel
theorem dX7_isPlayed_107 : decode cX7_isPlayed 107 = .ok (.iconst 1, 1) := by decide +kernel
theorem dX7_isPlayed_108 : decode cX7_isPlayed 108 = .ok (.goto 4, 3) := by decide +kernel
theorem dX7_isPlayed_111 : decode cX7_isPlayed 111 = .ok (.iconst 0, 1) := by decide +kernel
theorem dX7_isPlayed_112 : decode cX7_isPlayed 112 = .ok (.ireturn, 1) := by decide +kernel
theorem dX7_isPlayed_113 : decode cX7_isPlayed 113 = .ok (.aload_n 0, 1) := by decide +kernel
theorem dX7_isPlayed_114 : decode cX7_isPlayed 114 = .ok (.iload_n 2, 1) := by decide +kernel
theorem dX7_isPlayed_115 : decode cX7_isPlayed 115 = .ok (.invokevirtual 376, 3) := by decide +kernel
theorem dX7_isPlayed_118 : decode cX7_isPlayed 118 = .ok (.ireturn, 1) := by decide +kernel
theorem dX7_isPlayed_119 : decode cX7_isPlayed 119 = .ok (.aload_n 0, 1) := by decide +kernel
theorem dX7_isPlayed_120 : decode cX7_isPlayed 120 = .ok (.iload_n 2, 1) := by decide +kernel
theorem dX7_isPlayed_121 : decode cX7_isPlayed 121 = .ok (.invokevirtual 379, 3) := by decide +kernel
theorem dX7_isPlayed_124 : decode cX7_isPlayed 124 = .ok (.ireturn, 1) := by decide +kernel
theorem dX7_isPlayed_125 : decode cX7_isPlayed 125 = .ok (.aload_n 0, 1) := by decide +kernel
theorem dX7_isPlayed_126 : decode cX7_isPlayed 126 = .ok (.iload_n 2, 1) := by decide +kernel
theorem dX7_isPlayed_127 : decode cX7_isPlayed 127 = .ok (.invokevirtual 363, 3) := by decide +kernel
theorem dX7_isPlayed_130 : decode cX7_isPlayed 130 = .ok (.ireturn, 1) := by decide +kernel
theorem dX7_isPlayed_131 : decode cX7_isPlayed 131 = .ok (.iconst 1, 1) := by decide +kernel
theorem dX7_isPlayed_132 : decode cX7_isPlayed 132 = .ok (.ireturn, 1) := by decide +kernel
theorem dX7_played_0 : decode cX7_played 0 = .ok (.iload_n 1, 1) := by decide +kernel
theorem dX7_played_1 : decode cX7_played 1 = .ok (.iconst 0, 1) := by decide +kernel
theorem dX7_played_2 : decode cX7_played 2 = .ok (.aload_n 0, 1) := by decide +kernel
theorem dX7_played_3 : decode cX7_played 3 = .ok (.getfield 7, 3) := by decide +kernel
theorem dX7_played_6 : decode cX7_played 6 = .ok (.iconst 1, 1) := by decide +kernel
theorem dX7_played_7 : decode cX7_played 7 = .ok (.iaload, 1) := by decide +kernel
theorem dX7_played_8 : decode cX7_played 8 = .ok (.iconst 1, 1) := by decide +kernel
theorem dX7_played_9 : decode cX7_played 9 = .ok (.isub, 1) := by decide +kernel
theorem dX7_played_10 : decode cX7_played 10 = .ok (.invokestatic 63, 3) := by decide +kernel
theorem dX7_played_13 : decode cX7_played 13 = .ok (.ifCond .ne 6, 3) := by decide +kernel
theorem dX7_played_16 : decode cX7_played 16 = .ok (.bipush (-2), 2) := by decide +kernel
theorem dX7_played_18 : decode cX7_played 18 = .ok (.ireturn, 1) := by decide +kernel
theorem dX7_played_19 : decode cX7_played 19 = .ok (.iconst 0, 1) := by decide +kernel
theorem dX7_played_20 : decode cX7_played 20 = .ok (.istore_n 2, 1) := by decide +kernel
theorem dX7_played_21 : decode cX7_played 21 = .ok (.iload_n 2, 1) := by decide +kernel
theorem dX7_played_22 : decode cX7_played 22 = .ok (.aload_n 0, 1) := by decide +kernel
theorem dX7_played_23 : decode cX7_played 23 = .ok (.getfield 16, 3) := by decide +kernel
theorem dX7_played_26 : decode cX7_played 26 = .ok (.sipush 681, 3) := by decide +kernel
theorem dX7_played_29 : decode cX7_played 29 = .ok (.iload_n 1, 1) := by decide +kernel
theorem dX7_played_30 : decode cX7_played 30 = .ok (.imul, 1) := by decide +kernel
theorem dX7_played_31 : decode cX7_played 31 = .ok (.iaload, 1) := by decide +kernel
theorem dX7_played_32 : decode cX7_played 32 = .ok (.if_icmp .ge 29, 3) := by decide +kernel
theorem dX7_played_35 : decode cX7_played 35 = .ok (.aload_n 0, 1) := by decide +kernel
theorem dX7_played_36 : decode cX7_played 36 = .ok (.sipush 681, 3) := by decide +kernel
theorem dX7_played_39 : decode cX7_played 39 = .ok (.iload_n 1, 1) := by decide +kernel
theorem dX7_played_40 : decode cX7_played 40 = .ok (.imul, 1) := by decide +kernel
theorem dX7_played_41 : decode cX7_played 41 = .ok (.iconst 1, 1) := by decide +kernel
theorem dX7_played_42 : decode cX7_played 42 = .ok (.iadd, 1) := by decide +kernel
theorem dX7_played_43 : decode cX7_played 43 = .ok (.iconst 3, 1) := by decide +kernel
theorem dX7_played_44 : decode cX7_played 44 = .ok (.iload_n 2, 1) := by decide +kernel
theorem dX7_played_45 : decode cX7_played 45 = .ok (.imul, 1) := by decide +kernel
theorem dX7_played_46 : decode cX7_played 46 = .ok (.iadd, 1) := by decide +kernel
theorem dX7_played_47 : decode cX7_played 47 = .ok (.invokevirtual 382, 3) := by decide +kernel
theorem dX7_played_50 : decode cX7_played 50 = .ok (.ifCond .ne 5, 3) := by decide +kernel
theorem dX7_played_53 : decode cX7_played 53 = .ok (.iload_n 2, 1) := by decide +kernel
theorem dX7_played_54 : decode cX7_played 54 = .ok (.ireturn, 1) := by decide +kernel
theorem dX7_played_55 : decode cX7_played 55 = .ok (.iinc 2 1, 3) := by decide +kernel
theorem dX7_played_58 : decode cX7_played 58 = .ok (.goto (-37), 3) := by decide +kernel
theorem dX7_played_61 : decode cX7_played 61 = .ok (.iconst (-1), 1) := by decide +kernel
theorem dX7_played_62 : decode cX7_played 62 = .ok (.ireturn, 1) := by decide +kernel
theorem dX7_happens_0 : decode cX7_happens 0 = .ok (.iload_n 1, 1) := by decide +kernel
theorem dX7_happens_1 : decode cX7_happens 1 = .ok (.bipush 6, 2) := by decide +kernel
theorem dX7_happens_3 : decode cX7_happens 3 = .ok (.idiv, 1) := by decide +kernel
theorem dX7_happens_4 : decode cX7_happens 4 = .ok (.bipush 6, 2) := by decide +kernel
theorem dX7_happens_6 : decode cX7_happens 6 = .ok (.irem, 1) := by decide +kernel
theorem dX7_happens_7 : decode cX7_happens 7 = .ok (.istore_n 2, 1) := by decide +kernel
theorem dX7_happens_8 : decode cX7_happens 8 = .ok (.iload_n 1, 1) := by decide +kernel
theorem dX7_happens_9 : decode cX7_happens 9 = .ok (.bipush 6, 2) := by decide +kernel
theorem dX7_happens_11 : decode cX7_happens 11 = .ok (.irem, 1) := by decide +kernel
theorem dX7_happens_12 : decode cX7_happens 12 = .ok (.tableswitch 104 0 3 #[32, 32, 49, 81], 32) := by decide +kernel
theorem dX7_happens_44 : decode cX7_happens 44 = .ok (.aload_n 0, 1) := by decide +kernel
theorem dX7_happens_45 : decode cX7_happens 45 = .ok (.iload_n 2, 1) := by decide +kernel
theorem dX7_happens_46 : decode cX7_happens 46 = .ok (.invokevirtual 336, 3) := by decide +kernel
theorem dX7_happens_49 : decode cX7_happens 49 = .ok (.ifCond .eq 84, 3) := by decide +kernel
theorem dX7_happens_52 : decode cX7_happens 52 = .ok (.aload_n 0, 1) := by decide +kernel
theorem dX7_happens_53 : decode cX7_happens 53 = .ok (.iload_n 2, 1) := by decide +kernel
theorem dX7_happens_54 : decode cX7_happens 54 = .ok (.invokevirtual 342, 3) := by decide +kernel
theorem dX7_happens_57 : decode cX7_happens 57 = .ok (.pop, 1) := by decide +kernel
theorem dX7_happens_58 : decode cX7_happens 58 = .ok (.goto 75, 3) := by decide +kernel
theorem dX7_happens_61 : decode cX7_happens 61 = .ok (.iload_n 1, 1) := by decide +kernel
theorem dX7_happens_62 : decode cX7_happens 62 = .ok (.bipush 6, 2) := by decide +kernel
theorem dX7_happens_64 : decode cX7_happens 64 = .ok (.idiv, 1) := by decide +kernel
theorem dX7_happens_65 : decode cX7_happens 65 = .ok (.iconst 3, 1) := by decide +kernel
theorem dX7_happens_66 : decode cX7_happens 66 = .ok (.irem, 1) := by decide +kernel
theorem dX7_happens_67 : decode cX7_happens 67 = .ok (.iconst 1, 1) := by decide +kernel
theorem dX7_happens_68 : decode cX7_happens 68 = .ok (.if_icmp .ne 65, 3) := by decide +kernel
theorem dX7_happens_71 : decode cX7_happens 71 = .ok (.aload_n 0, 1) := by decide +kernel
theorem dX7_happens_72 : decode cX7_happens 72 = .ok (.iload_n 1, 1) := by decide +kernel
theorem dX7_happens_73 : decode cX7_happens 73 = .ok (.bipush 12, 2) := by decide +kernel
theorem dX7_happens_75 : decode cX7_happens 75 = .ok (.irem, 1) := by decide +kernel
theorem dX7_happens_76 : decode cX7_happens 76 = .ok (.invokevirtual 345, 3) := by decide +kernel
theorem dX7_happens_79 : decode cX7_happens 79 = .ok (.ifCond .eq 54, 3) := by decide +kernel
theorem dX7_happens_82 : decode cX7_happens 82 = .ok (.aload_n 0, 1) := by decide +kernel
theorem dX7_happens_83 : decode cX7_happens 83 = .ok (.iload_n 1, 1) := by decide +kernel
theorem dX7_happens_84 : decode cX7_happens 84 = .ok (.bipush 12, 2) := by decide +kernel
theorem dX7_happens_86 : decode cX7_happens 86 = .ok (.irem, 1) := by decide +kernel
theorem dX7_happens_87 : decode cX7_happens 87 = .ok (.invokevirtual 348, 3) := by decide +kernel
theorem dX7_happens_90 : decode cX7_happens 90 = .ok (.goto 43, 3) := by decide +kernel
theorem dX7_happens_93 : decode cX7_happens 93 = .ok (.iload_n 1, 1) := by decide +kernel
theorem dX7_happens_94 : decode cX7_happens 94 = .ok (.iconst 4, 1) := by decide +kernel
theorem dX7_happens_95 : decode cX7_happens 95 = .ok (.irem, 1) := by decide +kernel
theorem dX7_happens_96 : decode cX7_happens 96 = .ok (.iconst 3, 1) := by decide +kernel
theorem dX7_happens_97 : decode cX7_happens 97 = .ok (.if_icmp .ne 36, 3) := by decide +kernel
theorem dX7_happens_100 : decode cX7_happens 100 = .ok (.aload_n 0, 1) := by decide +kernel
theorem dX7_happens_101 : decode cX7_happens 101 = .ok (.iload_n 2, 1) := by decide +kernel
theorem dX7_happens_102 : decode cX7_happens 102 = .ok (.invokevirtual 351, 3) := by decide +kernel
theorem dX7_happens_105 : decode cX7_happens 105 = .ok (.ifCond .eq 28, 3) := by decide +kernel
theorem dX7_happens_108 : decode cX7_happens 108 = .ok (.aload_n 0, 1) := by decide +kernel
theorem dX7_happens_109 : decode cX7_happens 109 = .ok (.iload_n 2, 1) := by decide +kernel
theorem dX7_happens_110 : decode cX7_happens 110 = .ok (.invokevirtual 354, 3) := by decide +kernel
theorem dX7_happens_113 : decode cX7_happens 113 = .ok (.goto 20, 3) := by decide +kernel
theorem dX7_happens_116 : decode cX7_happens 116 = .ok (.aload_n 0, 1) := by decide +kernel
theorem dX7_happens_117 : decode cX7_happens 117 = .ok (.getfield 7, 3) := by decide +kernel
theorem dX7_happens_120 : decode cX7_happens 120 = .ok (.bipush 6, 2) := by decide +kernel
theorem dX7_happens_122 : decode cX7_happens 122 = .ok (.iaload, 1) := by decide +kernel
theorem dX7_happens_123 : decode cX7_happens 123 = .ok (.sipush 9999, 3) := by decide +kernel
theorem dX7_happens_126 : decode cX7_happens 126 = .ok (.if_icmp .ge 7, 3) := by decide +kernel
theorem dX7_happens_129 : decode cX7_happens 129 = .ok (.aload_n 0, 1) := by decide +kernel
theorem dX7_happens_130 : decode cX7_happens 130 = .ok (.invokevirtual 360, 3) := by decide +kernel
theorem dX7_happens_133 : decode cX7_happens 133 = .ok (.return_, 1) := by decide +kernel
theorem dX7_years_0 : decode cX7_years 0 = .ok (.iload_n 1, 1) := by decide +kernel
theorem dX7_years_1 : decode cX7_years 1 = .ok (.iconst 0, 1) := by decide +kernel
theorem dX7_years_2 : decode cX7_years 2 = .ok (.sipush 9999, 3) := by decide +kernel
theorem dX7_years_5 : decode cX7_years 5 = .ok (.invokestatic 63, 3) := by decide +kernel
theorem dX7_years_8 : decode cX7_years 8 = .ok (.ifCond .eq 13, 3) := by decide +kernel
theorem dX7_years_11 : decode cX7_years 11 = .ok (.iload_n 2, 1) := by decide +kernel
theorem dX7_years_12 : decode cX7_years 12 = .ok (.iconst 1, 1) := by decide +kernel
theorem dX7_years_13 : decode cX7_years 13 = .ok (.bipush 40, 2) := by decide +kernel
theorem dX7_years_15 : decode cX7_years 15 = .ok (.invokestatic 63, 3) := by decide +kernel
theorem dX7_years_18 : decode cX7_years 18 = .ok (.ifCond .ne 5, 3) := by decide +kernel
theorem dX7_years_21 : decode cX7_years 21 = .ok (.iconst (-1), 1) := by decide +kernel
theorem dX7_years_22 : decode cX7_years 22 = .ok (.ireturn, 1) := by decide +kernel
theorem dX7_years_23 : decode cX7_years 23 = .ok (.aload_n 0, 1) := by decide +kernel
theorem dX7_years_24 : decode cX7_years 24 = .ok (.invokevirtual 339, 3) := by decide +kernel
theorem dX7_years_27 : decode cX7_years 27 = .ok (.aload_n 0, 1) := by decide +kernel
theorem dX7_years_28 : decode cX7_years 28 = .ok (.getfield 7, 3) := by decide +kernel
theorem dX7_years_31 : decode cX7_years 31 = .ok (.bipush 7, 2) := by decide +kernel
theorem dX7_years_33 : decode cX7_years 33 = .ok (.iload_n 1, 1) := by decide +kernel
theorem dX7_years_34 : decode cX7_years 34 = .ok (.iconst 2, 1) := by decide +kernel
theorem dX7_years_35 : decode cX7_years 35 = .ok (.imul, 1) := by decide +kernel
theorem dX7_years_36 : decode cX7_years 36 = .ok (.sipush 457, 3) := by decide +kernel
theorem dX7_years_39 : decode cX7_years 39 = .ok (.iadd, 1) := by decide +kernel
theorem dX7_years_40 : decode cX7_years 40 = .ok (.iastore, 1) := by decide +kernel
theorem dX7_years_41 : decode cX7_years 41 = .ok (.iconst 0, 1) := by decide +kernel
theorem dX7_years_42 : decode cX7_years 42 = .ok (.istore_n 3, 1) := by decide +kernel
theorem dX7_years_43 : decode cX7_years 43 = .ok (.iload_n 3, 1) := by decide +kernel
theorem dX7_years_44 : decode cX7_years 44 = .ok (.iload_n 2, 1) := by decide +kernel
theorem dX7_years_45 : decode cX7_years 45 = .ok (.if_icmp .ge 28, 3) := by decide +kernel
theorem dX7_years_48 : decode cX7_years 48 = .ok (.aload_n 0, 1) := by decide +kernel
theorem dX7_years_49 : decode cX7_years 49 = .ok (.getfield 7, 3) := by decide +kernel
theorem dX7_years_52 : decode cX7_years 52 = .ok (.bipush 7, 2) := by decide +kernel
theorem dX7_years_54 : decode cX7_years 54 = .ok (.iaload, 1) := by decide +kernel
theorem dX7_years_55 : decode cX7_years 55 = .ok (.istore 4, 2) := by decide +kernel
theorem dX7_years_57 : decode cX7_years 57 = .ok (.aload_n 0, 1) := by decide +kernel
theorem dX7_years_58 : decode cX7_years 58 = .ok (.invokevirtual 299, 3) := by decide +kernel
theorem dX7_years_61 : decode cX7_years 61 = .ok (.aload_n 0, 1) := by decide +kernel
theorem dX7_years_62 : decode cX7_years 62 = .ok (.iload 4, 2) := by decide +kernel
theorem dX7_years_64 : decode cX7_years 64 = .ok (.invokevirtual 385, 3) := by decide +kernel
theorem dX7_years_67 : decode cX7_years 67 = .ok (.iinc 3 1, 3) := by decide +kernel
theorem dX7_years_70 : decode cX7_years 70 = .ok (.goto (-27), 3) := by decide +kernel
theorem dX7_years_73 : decode cX7_years 73 = .ok (.aload_n 0, 1) := by decide +kernel
theorem dX7_years_74 : decode cX7_years 74 = .ok (.getfield 7, 3) := by decide +kernel
theorem dX7_years_77 : decode cX7_years 77 = .ok (.bipush 6, 2) := by decide +kernel
theorem dX7_years_79 : decode cX7_years 79 = .ok (.iaload, 1) := by decide +kernel
theorem dX7_years_80 : decode cX7_years 80 = .ok (.ireturn, 1) := by decide +kernel
theorem dX7_of_0 : decode cX7_of 0 = .ok (.aload_n 0, 1) := by decide +kernel
theorem dX7_of_1 : decode cX7_of 1 = .ok (.iload_n 1, 1) := by decide +kernel
theorem dX7_of_2 : decode cX7_of 2 = .ok (.invokevirtual 308, 3) := by decide +kernel
theorem dX7_of_5 : decode cX7_of 5 = .ok (.ifCond .ne 6, 3) := by decide +kernel
theorem dX7_of_8 : decode cX7_of 8 = .ok (.bipush (-10), 2) := by decide +kernel
theorem dX7_of_10 : decode cX7_of 10 = .ok (.ireturn, 1) := by decide +kernel
theorem dX7_of_11 : decode cX7_of 11 = .ok (.iload_n 2, 1) := by decide +kernel
theorem dX7_of_12 : decode cX7_of 12 = .ok (.tableswitch 102 0 6 #[44, 54, 64, 74, 84, 90, 96], 44) := by decide +kernel
theorem dX7_of_56 : decode cX7_of 56 = .ok (.aload_n 0, 1) := by decide +kernel
theorem dX7_of_57 : decode cX7_of 57 = .ok (.getfield 7, 3) := by decide +kernel
theorem dX7_of_60 : decode cX7_of 60 = .ok (.bipush 39, 2) := by decide +kernel
theorem dX7_of_62 : decode cX7_of 62 = .ok (.iload_n 1, 1) := by decide +kernel
theorem dX7_of_63 : decode cX7_of 63 = .ok (.iadd, 1) := by decide +kernel
theorem dX7_of_64 : decode cX7_of 64 = .ok (.iaload, 1) := by decide +kernel
theorem dX7_of_65 : decode cX7_of 65 = .ok (.ireturn, 1) := by decide +kernel
theorem dX7_of_66 : decode cX7_of 66 = .ok (.aload_n 0, 1) := by decide +kernel
theorem dX7_of_67 : decode cX7_of 67 = .ok (.getfield 7, 3) := by decide +kernel
theorem dX7_of_70 : decode cX7_of 70 = .ok (.bipush 45, 2) := by decide +kernel
theorem dX7_of_72 : decode cX7_of 72 = .ok (.iload_n 1, 1) := by decide +kernel
theorem dX7_of_73 : decode cX7_of 73 = .ok (.iadd, 1) := by decide +kernel
theorem dX7_of_74 : decode cX7_of 74 = .ok (.iaload, 1) := by decide +kernel
theorem dX7_of_75 : decode cX7_of 75 = .ok (.ireturn, 1) := by decide +kernel
theorem dX7_of_76 : decode cX7_of 76 = .ok (.aload_n 0, 1) := by decide +kernel
theorem dX7_of_77 : decode cX7_of 77 = .ok (.getfield 7, 3) := by decide +kernel
theorem dX7_of_80 : decode cX7_of 80 = .ok (.bipush 51, 2) := by decide +kernel
theorem dX7_of_82 : decode cX7_of 82 = .ok (.iload_n 1, 1) := by decide +kernel
theorem dX7_of_83 : decode cX7_of 83 = .ok (.iadd, 1) := by decide +kernel
theorem dX7_of_84 : decode cX7_of 84 = .ok (.iaload, 1) := by decide +kernel
theorem dX7_of_85 : decode cX7_of 85 = .ok (.ireturn, 1) := by decide +kernel
theorem dX7_of_86 : decode cX7_of 86 = .ok (.aload_n 0, 1) := by decide +kernel
theorem dX7_of_87 : decode cX7_of 87 = .ok (.getfield 7, 3) := by decide +kernel
theorem dX7_of_90 : decode cX7_of 90 = .ok (.bipush 23, 2) := by decide +kernel
theorem dX7_of_92 : decode cX7_of 92 = .ok (.iload_n 1, 1) := by decide +kernel
theorem dX7_of_93 : decode cX7_of 93 = .ok (.iadd, 1) := by decide +kernel
theorem dX7_of_94 : decode cX7_of 94 = .ok (.iaload, 1) := by decide +kernel
theorem dX7_of_95 : decode cX7_of 95 = .ok (.ireturn, 1) := by decide +kernel
theorem dX7_of_96 : decode cX7_of 96 = .ok (.aload_n 0, 1) := by decide +kernel
theorem dX7_of_97 : decode cX7_of 97 = .ok (.iload_n 1, 1) := by decide +kernel
theorem dX7_of_98 : decode cX7_of 98 = .ok (.invokevirtual 314, 3) := by decide +kernel
theorem dX7_of_101 : decode cX7_of 101 = .ok (.ireturn, 1) := by decide +kernel
theorem dX7_of_102 : decode cX7_of 102 = .ok (.aload_n 0, 1) := by decide +kernel
theorem dX7_of_103 : decode cX7_of 103 = .ok (.iload_n 1, 1) := by decide +kernel
theorem dX7_of_104 : decode cX7_of 104 = .ok (.invokevirtual 330, 3) := by decide +kernel
theorem dX7_of_107 : decode cX7_of 107 = .ok (.ireturn, 1) := by decide +kernel
theorem dX7_of_108 : decode cX7_of 108 = .ok (.aload_n 0, 1) := by decide +kernel
theorem dX7_of_109 : decode cX7_of 109 = .ok (.iload_n 1, 1) := by decide +kernel
theorem dX7_of_110 : decode cX7_of 110 = .ok (.invokevirtual 286, 3) := by decide +kernel
theorem dX7_of_113 : decode cX7_of 113 = .ok (.ireturn, 1) := by decide +kernel
theorem dX7_of_114 : decode cX7_of 114 = .ok (.bipush (-10), 2) := by decide +kernel
theorem dX7_of_116 : decode cX7_of 116 = .ok (.ireturn, 1) := by decide +kernel
theorem dX7_ofSort_0 : decode cX7_ofSort 0 = .ok (.iload_n 1, 1) := by decide +kernel
theorem dX7_ofSort_1 : decode cX7_ofSort 1 = .ok (.invokestatic 81, 3) := by decide +kernel
theorem dX7_ofSort_4 : decode cX7_ofSort 4 = .ok (.ifCond .ne 7, 3) := by decide +kernel
theorem dX7_ofSort_7 : decode cX7_ofSort 7 = .ok (.iconst (-1), 1) := by decide +kernel
theorem dX7_ofSort_8 : decode cX7_ofSort 8 = .ok (.goto 37, 3) := by decide +kernel
theorem dX7_ofSort_11 : decode cX7_ofSort 11 = .ok (.iload_n 2, 1) := by decide +kernel
theorem dX7_ofSort_12 : decode cX7_ofSort 12 = .ok (.ifCond .ne 15, 3) := by decide +kernel
theorem dX7_ofSort_15 : decode cX7_ofSort 15 = .ok (.aload_n 0, 1) := by decide +kernel
theorem dX7_ofSort_16 : decode cX7_ofSort 16 = .ok (.getfield 7, 3) := by decide +kernel
theorem dX7_ofSort_19 : decode cX7_ofSort 19 = .ok (.bipush 29, 2) := by decide +kernel
theorem dX7_ofSort_21 : decode cX7_ofSort 21 = .ok (.iload_n 1, 1) := by decide +kernel
theorem dX7_ofSort_22 : decode cX7_ofSort 22 = .ok (.iadd, 1) := by decide +kernel
theorem dX7_ofSort_23 : decode cX7_ofSort 23 = .ok (.iaload, 1) := by decide +kernel
theorem dX7_ofSort_24 : decode cX7_ofSort 24 = .ok (.goto 21, 3) := by decide +kernel
theorem dX7_ofSort_27 : decode cX7_ofSort 27 = .ok (.iload_n 2, 1) := by decide +kernel
theorem dX7_ofSort_28 : decode cX7_ofSort 28 = .ok (.iconst 1, 1) := by decide +kernel
theorem dX7_ofSort_29 : decode cX7_ofSort 29 = .ok (.if_icmp .ne 15, 3) := by decide +kernel
theorem dX7_ofSort_32 : decode cX7_ofSort 32 = .ok (.aload_n 0, 1) := by decide +kernel
theorem dX7_ofSort_33 : decode cX7_ofSort 33 = .ok (.getfield 7, 3) := by decide +kernel
theorem dX7_ofSort_36 : decode cX7_ofSort 36 = .ok (.bipush 34, 2) := by decide +kernel
theorem dX7_ofSort_38 : decode cX7_ofSort 38 = .ok (.iload_n 1, 1) := by decide +kernel
theorem dX7_ofSort_39 : decode cX7_ofSort 39 = .ok (.iadd, 1) := by decide +kernel
theorem dX7_ofSort_40 : decode cX7_ofSort 40 = .ok (.iaload, 1) := by decide +kernel
theorem dX7_ofSort_41 : decode cX7_ofSort 41 = .ok (.goto 4, 3) := by decide +kernel
theorem dX7_ofSort_44 : decode cX7_ofSort 44 = .ok (.iconst (-1), 1) := by decide +kernel
theorem dX7_ofSort_45 : decode cX7_ofSort 45 = .ok (.ireturn, 1) := by decide +kernel
theorem dX7_at_0 : decode cX7_at 0 = .ok (.iload_n 1, 1) := by decide +kernel
theorem dX7_at_1 : decode cX7_at 1 = .ok (.invokestatic 321, 3) := by decide +kernel
theorem dX7_at_4 : decode cX7_at 4 = .ok (.ifCond .eq 15, 3) := by decide +kernel
theorem dX7_at_7 : decode cX7_at 7 = .ok (.aload_n 0, 1) := by decide +kernel
theorem dX7_at_8 : decode cX7_at 8 = .ok (.getfield 7, 3) := by decide +kernel
theorem dX7_at_11 : decode cX7_at 11 = .ok (.bipush 11, 2) := by decide +kernel
theorem dX7_at_13 : decode cX7_at 13 = .ok (.iload_n 1, 1) := by decide +kernel
theorem dX7_at_14 : decode cX7_at 14 = .ok (.iadd, 1) := by decide +kernel
theorem dX7_at_15 : decode cX7_at 15 = .ok (.iaload, 1) := by decide +kernel
theorem dX7_at_16 : decode cX7_at 16 = .ok (.goto 5, 3) := by decide +kernel
theorem dX7_at_19 : decode cX7_at 19 = .ok (.bipush (-2), 2) := by decide +kernel
theorem dX7_at_21 : decode cX7_at 21 = .ok (.ireturn, 1) := by decide +kernel
theorem dX7_is_0 : decode cX7_is 0 = .ok (.iload_n 1, 1) := by decide +kernel
theorem dX7_is_1 : decode cX7_is 1 = .ok (.iconst 0, 1) := by decide +kernel
theorem dX7_is_2 : decode cX7_is 2 = .ok (.iconst 3, 1) := by decide +kernel
theorem dX7_is_3 : decode cX7_is 3 = .ok (.invokestatic 63, 3) := by decide +kernel
theorem dX7_is_6 : decode cX7_is 6 = .ok (.ifCond .eq 15, 3) := by decide +kernel
theorem dX7_is_9 : decode cX7_is 9 = .ok (.aload_n 0, 1) := by decide +kernel
theorem dX7_is_10 : decode cX7_is 10 = .ok (.getfield 7, 3) := by decide +kernel
theorem dX7_is_13 : decode cX7_is 13 = .ok (.bipush 6, 2) := by decide +kernel
theorem dX7_is_15 : decode cX7_is 15 = .ok (.iload_n 1, 1) := by decide +kernel
theorem dX7_is_16 : decode cX7_is 16 = .ok (.iadd, 1) := by decide +kernel
theorem dX7_is_17 : decode cX7_is 17 = .ok (.iaload, 1) := by decide +kernel
theorem dX7_is_18 : decode cX7_is 18 = .ok (.goto 17, 3) := by decide +kernel
theorem dX7_is_21 : decode cX7_is 21 = .ok (.iload_n 1, 1) := by decide +kernel
theorem dX7_is_22 : decode cX7_is 22 = .ok (.iconst 4, 1) := by decide +kernel
theorem dX7_is_23 : decode cX7_is 23 = .ok (.if_icmp .ne 10, 3) := by decide +kernel
theorem dX7_is_26 : decode cX7_is 26 = .ok (.aload_n 0, 1) := by decide +kernel
theorem dX7_is_27 : decode cX7_is 27 = .ok (.invokevirtual 280, 3) := by decide +kernel
theorem dX7_is_30 : decode cX7_is 30 = .ok (.goto 5, 3) := by decide +kernel
theorem dX7_is_33 : decode cX7_is 33 = .ok (.bipush (-2), 2) := by decide +kernel
theorem dX7_is_35 : decode cX7_is 35 = .ok (.ireturn, 1) := by decide +kernel
theorem dX7_lineOf_0 : decode cX7_lineOf 0 = .ok (.aload_n 0, 1) := by decide +kernel
theorem dX7_lineOf_1 : decode cX7_lineOf 1 = .ok (.getfield 7, 3) := by decide +kernel
theorem dX7_lineOf_4 : decode cX7_lineOf 4 = .ok (.sipush 1567, 3) := by decide +kernel
theorem dX7_lineOf_7 : decode cX7_lineOf 7 = .ok (.iload_n 1, 1) := by decide +kernel
theorem dX7_lineOf_8 : decode cX7_lineOf 8 = .ok (.iadd, 1) := by decide +kernel
theorem dX7_lineOf_9 : decode cX7_lineOf 9 = .ok (.iaload, 1) := by decide +kernel
theorem dX7_lineOf_10 : decode cX7_lineOf 10 = .ok (.istore_n 3, 1) := by decide +kernel
theorem dX7_lineOf_11 : decode cX7_lineOf 11 = .ok (.iload_n 2, 1) := by decide +kernel
theorem dX7_lineOf_12 : decode cX7_lineOf 12 = .ok (.ifCond .ne 11, 3) := by decide +kernel
theorem dX7_lineOf_15 : decode cX7_lineOf 15 = .ok (.iload_n 3, 1) := by decide +kernel
theorem dX7_lineOf_16 : decode cX7_lineOf 16 = .ok (.sipush 6000, 3) := by decide +kernel
theorem dX7_lineOf_19 : decode cX7_lineOf 19 = .ok (.idiv, 1) := by decide +kernel
theorem dX7_lineOf_20 : decode cX7_lineOf 20 = .ok (.goto 37, 3) := by decide +kernel
theorem dX7_lineOf_23 : decode cX7_lineOf 23 = .ok (.iload_n 2, 1) := by decide +kernel
theorem dX7_lineOf_24 : decode cX7_lineOf 24 = .ok (.iconst 1, 1) := by decide +kernel
theorem dX7_lineOf_25 : decode cX7_lineOf 25 = .ok (.if_icmp .ne 13, 3) := by decide +kernel
theorem dX7_lineOf_28 : decode cX7_lineOf 28 = .ok (.iload_n 3, 1) := by decide +kernel
theorem dX7_lineOf_29 : decode cX7_lineOf 29 = .ok (.sipush 1200, 3) := by decide +kernel
theorem dX7_lineOf_32 : decode cX7_lineOf 32 = .ok (.idiv, 1) := by decide +kernel
theorem dX7_lineOf_33 : decode cX7_lineOf 33 = .ok (.iconst 5, 1) := by decide +kernel
theorem dX7_lineOf_34 : decode cX7_lineOf 34 = .ok (.irem, 1) := by decide +kernel
theorem dX7_lineOf_35 : decode cX7_lineOf 35 = .ok (.goto 22, 3) := by decide +kernel
theorem dX7_lineOf_38 : decode cX7_lineOf 38 = .ok (.iload_n 2, 1) := by decide +kernel
theorem dX7_lineOf_39 : decode cX7_lineOf 39 = .ok (.iconst 2, 1) := by decide +kernel
theorem dX7_lineOf_40 : decode cX7_lineOf 40 = .ok (.if_icmp .ne 13, 3) := by decide +kernel
theorem dX7_lineOf_43 : decode cX7_lineOf 43 = .ok (.iload_n 3, 1) := by decide +kernel
theorem dX7_lineOf_44 : decode cX7_lineOf 44 = .ok (.bipush 100, 2) := by decide +kernel
theorem dX7_lineOf_46 : decode cX7_lineOf 46 = .ok (.idiv, 1) := by decide +kernel
theorem dX7_lineOf_47 : decode cX7_lineOf 47 = .ok (.bipush 12, 2) := by decide +kernel
theorem dX7_lineOf_49 : decode cX7_lineOf 49 = .ok (.irem, 1) := by decide +kernel
theorem dX7_lineOf_50 : decode cX7_lineOf 50 = .ok (.goto 7, 3) := by decide +kernel
theorem dX7_lineOf_53 : decode cX7_lineOf 53 = .ok (.iload_n 3, 1) := by decide +kernel
theorem dX7_lineOf_54 : decode cX7_lineOf 54 = .ok (.bipush 100, 2) := by decide +kernel
theorem dX7_lineOf_56 : decode cX7_lineOf 56 = .ok (.irem, 1) := by decide +kernel
theorem dX7_lineOf_57 : decode cX7_lineOf 57 = .ok (.ireturn, 1) := by decide +kernel
theorem dX7_book_0 : decode cX7_book 0 = .ok (.iload_n 1, 1) := by decide +kernel
theorem dX7_book_1 : decode cX7_book 1 = .ok (.iconst (-1), 1) := by decide +kernel
theorem dX7_book_2 : decode cX7_book 2 = .ok (.if_icmp .ne 11, 3) := by decide +kernel
theorem dX7_book_5 : decode cX7_book 5 = .ok (.aload_n 0, 1) := by decide +kernel
theorem dX7_book_6 : decode cX7_book 6 = .ok (.getfield 7, 3) := by decide +kernel
theorem dX7_book_9 : decode cX7_book 9 = .ok (.bipush 10, 2) := by decide +kernel
theorem dX7_book_11 : decode cX7_book 11 = .ok (.iaload, 1) := by decide +kernel
theorem dX7_book_12 : decode cX7_book 12 = .ok (.ireturn, 1) := by decide +kernel
theorem dX7_book_13 : decode cX7_book 13 = .ok (.iload_n 1, 1) := by decide +kernel
theorem dX7_book_14 : decode cX7_book 14 = .ok (.iconst 0, 1) := by decide +kernel
theorem dX7_book_15 : decode cX7_book 15 = .ok (.aload_n 0, 1) := by decide +kernel
theorem dX7_book_16 : decode cX7_book 16 = .ok (.getfield 7, 3) := by decide +kernel
theorem dX7_book_19 : decode cX7_book 19 = .ok (.bipush 10, 2) := by decide +kernel
theorem dX7_book_21 : decode cX7_book 21 = .ok (.iaload, 1) := by decide +kernel
theorem dX7_book_22 : decode cX7_book 22 = .ok (.iconst 1, 1) := by decide +kernel
theorem dX7_book_23 : decode cX7_book 23 = .ok (.isub, 1) := by decide +kernel
theorem dX7_book_24 : decode cX7_book 24 = .ok (.invokestatic 63, 3) := by decide +kernel
theorem dX7_book_27 : decode cX7_book 27 = .ok (.ifCond .eq 21, 3) := by decide +kernel
theorem dX7_book_30 : decode cX7_book 30 = .ok (.iload_n 2, 1) := by decide +kernel
theorem dX7_book_31 : decode cX7_book 31 = .ok (.iconst 0, 1) := by decide +kernel
theorem dX7_book_32 : decode cX7_book 32 = .ok (.iconst 3, 1) := by decide +kernel
theorem dX7_book_33 : decode cX7_book 33 = .ok (.invokestatic 63, 3) := by decide +kernel
theorem dX7_book_36 : decode cX7_book 36 = .ok (.ifCond .eq 12, 3) := by decide +kernel
theorem dX7_book_39 : decode cX7_book 39 = .ok (.aload_n 0, 1) := by decide +kernel
theorem dX7_book_40 : decode cX7_book 40 = .ok (.iload_n 1, 1) := by decide +kernel
theorem dX7_book_41 : decode cX7_book 41 = .ok (.iload_n 2, 1) := by decide +kernel
theorem dX7_book_42 : decode cX7_book 42 = .ok (.invokevirtual 388, 3) := by decide +kernel
theorem dX7_book_45 : decode cX7_book 45 = .ok (.goto 5, 3) := by decide +kernel
theorem dX7_book_48 : decode cX7_book 48 = .ok (.bipush (-2), 2) := by decide +kernel
theorem dX7_book_50 : decode cX7_book 50 = .ok (.ireturn, 1) := by decide +kernel
theorem dX7_ledger_0 : decode cX7_ledger 0 = .ok (.iload_n 1, 1) := by decide +kernel
theorem dX7_ledger_1 : decode cX7_ledger 1 = .ok (.iconst 0, 1) := by decide +kernel
theorem dX7_ledger_2 : decode cX7_ledger 2 = .ok (.iconst 4, 1) := by decide +kernel
theorem dX7_ledger_3 : decode cX7_ledger 3 = .ok (.invokestatic 63, 3) := by decide +kernel
theorem dX7_ledger_6 : decode cX7_ledger 6 = .ok (.ifCond .ne 6, 3) := by decide +kernel
theorem dX7_ledger_9 : decode cX7_ledger 9 = .ok (.bipush (-2), 2) := by decide +kernel
theorem dX7_ledger_11 : decode cX7_ledger 11 = .ok (.ireturn, 1) := by decide +kernel
theorem dX7_ledger_12 : decode cX7_ledger 12 = .ok (.iconst 0, 1) := by decide +kernel
theorem dX7_ledger_13 : decode cX7_ledger 13 = .ok (.istore_n 2, 1) := by decide +kernel
theorem dX7_ledger_14 : decode cX7_ledger 14 = .ok (.iconst 0, 1) := by decide +kernel
theorem dX7_ledger_15 : decode cX7_ledger 15 = .ok (.istore_n 3, 1) := by decide +kernel
theorem dX7_ledger_16 : decode cX7_ledger 16 = .ok (.iload_n 3, 1) := by decide +kernel
theorem dX7_ledger_17 : decode cX7_ledger 17 = .ok (.aload_n 0, 1) := by decide +kernel
theorem dX7_ledger_18 : decode cX7_ledger 18 = .ok (.getfield 7, 3) := by decide +kernel
theorem dX7_ledger_21 : decode cX7_ledger 21 = .ok (.bipush 10, 2) := by decide +kernel
theorem dX7_ledger_23 : decode cX7_ledger 23 = .ok (.iaload, 1) := by decide +kernel
theorem dX7_ledger_24 : decode cX7_ledger 24 = .ok (.if_icmp .ge 27, 3) := by decide +kernel
theorem dX7_ledger_27 : decode cX7_ledger 27 = .ok (.iload_n 2, 1) := by decide +kernel
theorem dX7_ledger_28 : decode cX7_ledger 28 = .ok (.aload_n 0, 1) := by decide +kernel
theorem dX7_ledger_29 : decode cX7_ledger 29 = .ok (.iload_n 3, 1) := by decide +kernel
theorem dX7_ledger_30 : decode cX7_ledger 30 = .ok (.iconst 1, 1) := by decide +kernel
theorem dX7_ledger_31 : decode cX7_ledger 31 = .ok (.invokevirtual 388, 3) := by decide +kernel
theorem dX7_ledger_34 : decode cX7_ledger 34 = .ok (.iload_n 1, 1) := by decide +kernel
theorem dX7_ledger_35 : decode cX7_ledger 35 = .ok (.if_icmp .ne 7, 3) := by decide +kernel
theorem dX7_ledger_38 : decode cX7_ledger 38 = .ok (.iconst 1, 1) := by decide +kernel
theorem dX7_ledger_39 : decode cX7_ledger 39 = .ok (.goto 4, 3) := by decide +kernel
theorem dX7_ledger_42 : decode cX7_ledger 42 = .ok (.iconst 0, 1) := by decide +kernel
theorem dX7_ledger_43 : decode cX7_ledger 43 = .ok (.iadd, 1) := by decide +kernel
theorem dX7_ledger_44 : decode cX7_ledger 44 = .ok (.istore_n 2, 1) := by decide +kernel
theorem dX7_ledger_45 : decode cX7_ledger 45 = .ok (.iinc 3 1, 3) := by decide +kernel
theorem dX7_ledger_48 : decode cX7_ledger 48 = .ok (.goto (-32), 3) := by decide +kernel
theorem dX7_ledger_51 : decode cX7_ledger 51 = .ok (.iload_n 2, 1) := by decide +kernel
theorem dX7_ledger_52 : decode cX7_ledger 52 = .ok (.ireturn, 1) := by decide +kernel
theorem dX7_richest_0 : decode cX7_richest 0 = .ok (.iconst (-1), 1) := by decide +kernel
theorem dX7_richest_1 : decode cX7_richest 1 = .ok (.istore_n 1, 1) := by decide +kernel
theorem dX7_richest_2 : decode cX7_richest 2 = .ok (.iconst 0, 1) := by decide +kernel
theorem dX7_richest_3 : decode cX7_richest 3 = .ok (.istore_n 2, 1) := by decide +kernel
theorem dX7_richest_4 : decode cX7_richest 4 = .ok (.iload_n 2, 1) := by decide +kernel
theorem dX7_richest_5 : decode cX7_richest 5 = .ok (.aload_n 0, 1) := by decide +kernel
theorem dX7_richest_6 : decode cX7_richest 6 = .ok (.getfield 7, 3) := by decide +kernel
theorem dX7_richest_9 : decode cX7_richest 9 = .ok (.iconst 0, 1) := by decide +kernel
theorem dX7_richest_10 : decode cX7_richest 10 = .ok (.iaload, 1) := by decide +kernel
theorem dX7_richest_11 : decode cX7_richest 11 = .ok (.if_icmp .ge 41, 3) := by decide +kernel
theorem dX7_richest_14 : decode cX7_richest 14 = .ok (.aload_n 0, 1) := by decide +kernel
theorem dX7_richest_15 : decode cX7_richest 15 = .ok (.getfield 7, 3) := by decide +kernel
theorem dX7_richest_18 : decode cX7_richest 18 = .ok (.bipush 23, 2) := by decide +kernel
theorem dX7_richest_20 : decode cX7_richest 20 = .ok (.iload_n 2, 1) := by decide +kernel
theorem dX7_richest_21 : decode cX7_richest 21 = .ok (.iadd, 1) := by decide +kernel
theorem dX7_richest_22 : decode cX7_richest 22 = .ok (.iaload, 1) := by decide +kernel
theorem dX7_richest_23 : decode cX7_richest 23 = .ok (.iload_n 1, 1) := by decide +kernel
theorem dX7_richest_24 : decode cX7_richest 24 = .ok (.iconst (-1), 1) := by decide +kernel
theorem dX7_richest_25 : decode cX7_richest 25 = .ok (.if_icmp .ne 7, 3) := by decide +kernel
theorem dX7_richest_28 : decode cX7_richest 28 = .ok (.iconst 0, 1) := by decide +kernel
theorem dX7_richest_29 : decode cX7_richest 29 = .ok (.goto 12, 3) := by decide +kernel
theorem dX7_richest_32 : decode cX7_richest 32 = .ok (.aload_n 0, 1) := by decide +kernel
theorem dX7_richest_33 : decode cX7_richest 33 = .ok (.getfield 7, 3) := by decide +kernel
theorem dX7_richest_36 : decode cX7_richest 36 = .ok (.bipush 23, 2) := by decide +kernel
theorem dX7_richest_38 : decode cX7_richest 38 = .ok (.iload_n 1, 1) := by decide +kernel
theorem dX7_richest_39 : decode cX7_richest 39 = .ok (.iadd, 1) := by decide +kernel
theorem dX7_richest_40 : decode cX7_richest 40 = .ok (.iaload, 1) := by decide +kernel
theorem dX7_richest_41 : decode cX7_richest 41 = .ok (.if_icmp .le 5, 3) := by decide +kernel
theorem dX7_richest_44 : decode cX7_richest 44 = .ok (.iload_n 2, 1) := by decide +kernel
theorem dX7_richest_45 : decode cX7_richest 45 = .ok (.istore_n 1, 1) := by decide +kernel
theorem dX7_richest_46 : decode cX7_richest 46 = .ok (.iinc 2 1, 3) := by decide +kernel
theorem dX7_richest_49 : decode cX7_richest 49 = .ok (.goto (-45), 3) := by decide +kernel
theorem dX7_richest_52 : decode cX7_richest 52 = .ok (.iload_n 1, 1) := by decide +kernel
theorem dX7_richest_53 : decode cX7_richest 53 = .ok (.ireturn, 1) := by decide +kernel
theorem dX7_rival_0 : decode cX7_rival 0 = .ok (.aload_n 0, 1) := by decide +kernel
theorem dX7_rival_1 : decode cX7_rival 1 = .ok (.iload_n 1, 1) := by decide +kernel
theorem dX7_rival_2 : decode cX7_rival 2 = .ok (.invokevirtual 308, 3) := by decide +kernel
theorem dX7_rival_5 : decode cX7_rival 5 = .ok (.ifCond .ne 5, 3) := by decide +kernel
theorem dX7_rival_8 : decode cX7_rival 8 = .ok (.iconst (-1), 1) := by decide +kernel
theorem dX7_rival_9 : decode cX7_rival 9 = .ok (.ireturn, 1) := by decide +kernel
theorem dX7_rival_10 : decode cX7_rival 10 = .ok (.iconst 0, 1) := by decide +kernel
theorem dX7_rival_11 : decode cX7_rival 11 = .ok (.istore_n 2, 1) := by decide +kernel
theorem dX7_rival_12 : decode cX7_rival 12 = .ok (.iconst 0, 1) := by decide +kernel
theorem dX7_rival_13 : decode cX7_rival 13 = .ok (.istore_n 3, 1) := by decide +kernel
theorem dX7_rival_14 : decode cX7_rival 14 = .ok (.iload_n 3, 1) := by decide +kernel
theorem dX7_rival_15 : decode cX7_rival 15 = .ok (.aload_n 0, 1) := by decide +kernel
theorem dX7_rival_16 : decode cX7_rival 16 = .ok (.getfield 7, 3) := by decide +kernel
theorem dX7_rival_19 : decode cX7_rival 19 = .ok (.iconst 0, 1) := by decide +kernel
theorem dX7_rival_20 : decode cX7_rival 20 = .ok (.iaload, 1) := by decide +kernel
theorem dX7_rival_21 : decode cX7_rival 21 = .ok (.if_icmp .ge 56, 3) := by decide +kernel
theorem dX7_rival_24 : decode cX7_rival 24 = .ok (.iload_n 3, 1) := by decide +kernel
theorem dX7_rival_25 : decode cX7_rival 25 = .ok (.iload_n 1, 1) := by decide +kernel
theorem dX7_rival_26 : decode cX7_rival 26 = .ok (.if_icmp .eq 45, 3) := by decide +kernel
theorem dX7_rival_29 : decode cX7_rival 29 = .ok (.aload_n 0, 1) := by decide +kernel
theorem dX7_rival_30 : decode cX7_rival 30 = .ok (.getfield 7, 3) := by decide +kernel
theorem dX7_rival_33 : decode cX7_rival 33 = .ok (.bipush 39, 2) := by decide +kernel
theorem dX7_rival_35 : decode cX7_rival 35 = .ok (.iload_n 3, 1) := by decide +kernel
theorem dX7_rival_36 : decode cX7_rival 36 = .ok (.iadd, 1) := by decide +kernel
theorem dX7_rival_37 : decode cX7_rival 37 = .ok (.iaload, 1) := by decide +kernel
theorem dX7_rival_38 : decode cX7_rival 38 = .ok (.aload_n 0, 1) := by decide +kernel
theorem dX7_rival_39 : decode cX7_rival 39 = .ok (.getfield 7, 3) := by decide +kernel
theorem dX7_rival_42 : decode cX7_rival 42 = .ok (.bipush 39, 2) := by decide +kernel
theorem dX7_rival_44 : decode cX7_rival 44 = .ok (.iload_n 1, 1) := by decide +kernel
theorem dX7_rival_45 : decode cX7_rival 45 = .ok (.iadd, 1) := by decide +kernel
theorem dX7_rival_46 : decode cX7_rival 46 = .ok (.iaload, 1) := by decide +kernel
theorem dX7_rival_47 : decode cX7_rival 47 = .ok (.iand, 1) := by decide +kernel
theorem dX7_rival_48 : decode cX7_rival 48 = .ok (.ifCond .eq 23, 3) := by decide +kernel
theorem dX7_rival_51 : decode cX7_rival 51 = .ok (.aload_n 0, 1) := by decide +kernel
theorem dX7_rival_52 : decode cX7_rival 52 = .ok (.iload_n 3, 1) := by decide +kernel
theorem dX7_rival_53 : decode cX7_rival 53 = .ok (.invokevirtual 311, 3) := by decide +kernel
theorem dX7_rival_56 : decode cX7_rival 56 = .ok (.aload_n 0, 1) := by decide +kernel
theorem dX7_rival_57 : decode cX7_rival 57 = .ok (.iload_n 1, 1) := by decide +kernel
theorem dX7_rival_58 : decode cX7_rival 58 = .ok (.invokevirtual 311, 3) := by decide +kernel
theorem dX7_rival_61 : decode cX7_rival 61 = .ok (.iand, 1) := by decide +kernel
theorem dX7_rival_62 : decode cX7_rival 62 = .ok (.ifCond .eq 9, 3) := by decide +kernel
theorem dX7_rival_65 : decode cX7_rival 65 = .ok (.iload_n 2, 1) := by decide +kernel
theorem dX7_rival_66 : decode cX7_rival 66 = .ok (.iconst 1, 1) := by decide +kernel
theorem dX7_rival_67 : decode cX7_rival 67 = .ok (.iload_n 3, 1) := by decide +kernel
theorem dX7_rival_68 : decode cX7_rival 68 = .ok (.ishl, 1) := by decide +kernel
theorem dX7_rival_69 : decode cX7_rival 69 = .ok (.ior, 1) := by decide +kernel
theorem dX7_rival_70 : decode cX7_rival 70 = .ok (.istore_n 2, 1) := by decide +kernel
theorem dX7_rival_71 : decode cX7_rival 71 = .ok (.iinc 3 1, 3) := by decide +kernel
theorem dX7_rival_74 : decode cX7_rival 74 = .ok (.goto (-60), 3) := by decide +kernel
theorem dX7_rival_77 : decode cX7_rival 77 = .ok (.iload_n 2, 1) := by decide +kernel
theorem dX7_rival_78 : decode cX7_rival 78 = .ok (.ireturn, 1) := by decide +kernel
theorem dX7_can_0 : decode cX7_can 0 = .ok (.aload_n 0, 1) := by decide +kernel
theorem dX7_can_1 : decode cX7_can 1 = .ok (.iload_n 1, 1) := by decide +kernel
theorem dX7_can_2 : decode cX7_can 2 = .ok (.invokevirtual 336, 3) := by decide +kernel
theorem dX7_can_5 : decode cX7_can 5 = .ok (.ireturn, 1) := by decide +kernel
theorem dX7_learnt_0 : decode cX7_learnt 0 = .ok (.iload_n 1, 1) := by decide +kernel
theorem dX7_learnt_1 : decode cX7_learnt 1 = .ok (.invokestatic 81, 3) := by decide +kernel
theorem dX7_learnt_4 : decode cX7_learnt 4 = .ok (.ifCond .ne 7, 3) := by decide +kernel
theorem dX7_learnt_7 : decode cX7_learnt 7 = .ok (.ldc2_w 391, 3) := by decide +kernel
theorem dX7_learnt_10 : decode cX7_learnt 10 = .ok (.lreturn, 1) := by decide +kernel
theorem dX7_learnt_11 : decode cX7_learnt 11 = .ok (.iconst 1, 1) := by decide +kernel
theorem dX7_learnt_12 : decode cX7_learnt 12 = .ok (.istore_n 3, 1) := by decide +kernel
theorem dX7_learnt_13 : decode cX7_learnt 13 = .ok (.iconst 5, 1) := by decide +kernel
theorem dX7_learnt_14 : decode cX7_learnt 14 = .ok (.istore 4, 2) := by decide +kernel
theorem dX7_learnt_16 : decode cX7_learnt 16 = .ok (.iconst 0, 1) := by decide +kernel
theorem dX7_learnt_17 : decode cX7_learnt 17 = .ok (.istore 5, 2) := by decide +kernel
theorem dX7_learnt_19 : decode cX7_learnt 19 = .ok (.iload 5, 2) := by decide +kernel
theorem dX7_learnt_21 : decode cX7_learnt 21 = .ok (.aload_n 0, 1) := by decide +kernel
theorem dX7_learnt_22 : decode cX7_learnt 22 = .ok (.getfield 7, 3) := by decide +kernel
theorem dX7_learnt_25 : decode cX7_learnt 25 = .ok (.bipush 10, 2) := by decide +kernel
theorem dX7_learnt_27 : decode cX7_learnt 27 = .ok (.iaload, 1) := by decide +kernel
theorem dX7_learnt_28 : decode cX7_learnt 28 = .ok (.if_icmp .ge 45, 3) := by decide +kernel
theorem dX7_learnt_31 : decode cX7_learnt 31 = .ok (.aload_n 0, 1) := by decide +kernel
theorem dX7_learnt_32 : decode cX7_learnt 32 = .ok (.iload 5, 2) := by decide +kernel
theorem dX7_learnt_34 : decode cX7_learnt 34 = .ok (.iconst 1, 1) := by decide +kernel
theorem dX7_learnt_35 : decode cX7_learnt 35 = .ok (.invokevirtual 388, 3) := by decide +kernel
theorem dX7_learnt_38 : decode cX7_learnt 38 = .ok (.iconst 3, 1) := by decide +kernel
theorem dX7_learnt_39 : decode cX7_learnt 39 = .ok (.if_icmp .eq 6, 3) := by decide +kernel
theorem dX7_learnt_42 : decode cX7_learnt 42 = .ok (.goto 25, 3) := by decide +kernel
theorem dX7_learnt_45 : decode cX7_learnt 45 = .ok (.iinc 4 1, 3) := by decide +kernel
theorem dX7_learnt_48 : decode cX7_learnt 48 = .ok (.iload_n 3, 1) := by decide +kernel
theorem dX7_learnt_49 : decode cX7_learnt 49 = .ok (.aload_n 0, 1) := by decide +kernel
theorem dX7_learnt_50 : decode cX7_learnt 50 = .ok (.iload 5, 2) := by decide +kernel
theorem dX7_learnt_52 : decode cX7_learnt 52 = .ok (.iconst 2, 1) := by decide +kernel
theorem dX7_learnt_53 : decode cX7_learnt 53 = .ok (.invokevirtual 388, 3) := by decide +kernel
theorem dX7_learnt_56 : decode cX7_learnt 56 = .ok (.iload_n 1, 1) := by decide +kernel
theorem dX7_learnt_57 : decode cX7_learnt 57 = .ok (.if_icmp .ne 7, 3) := by decide +kernel
theorem dX7_learnt_60 : decode cX7_learnt 60 = .ok (.iconst 1, 1) := by decide +kernel
theorem dX7_learnt_61 : decode cX7_learnt 61 = .ok (.goto 4, 3) := by decide +kernel
theorem dX7_learnt_64 : decode cX7_learnt 64 = .ok (.iconst 0, 1) := by decide +kernel
theorem dX7_learnt_65 : decode cX7_learnt 65 = .ok (.iadd, 1) := by decide +kernel
theorem dX7_learnt_66 : decode cX7_learnt 66 = .ok (.istore_n 3, 1) := by decide +kernel
theorem dX7_learnt_67 : decode cX7_learnt 67 = .ok (.iinc 5 1, 3) := by decide +kernel
theorem dX7_learnt_70 : decode cX7_learnt 70 = .ok (.goto (-51), 3) := by decide +kernel
theorem dX7_learnt_73 : decode cX7_learnt 73 = .ok (.iload_n 3, 1) := by decide +kernel
theorem dX7_learnt_74 : decode cX7_learnt 74 = .ok (.i2l, 1) := by decide +kernel
theorem dX7_learnt_75 : decode cX7_learnt 75 = .ok (.iload 4, 2) := by decide +kernel
theorem dX7_learnt_77 : decode cX7_learnt 77 = .ok (.i2l, 1) := by decide +kernel
theorem dX7_learnt_78 : decode cX7_learnt 78 = .ok (.iload_n 2, 1) := by decide +kernel
theorem dX7_learnt_79 : decode cX7_learnt 79 = .ok (.invokestatic 393, 3) := by decide +kernel
theorem dX7_learnt_82 : decode cX7_learnt 82 = .ok (.lreturn, 1) := by decide +kernel
theorem dX7_wanted_0 : decode cX7_wanted 0 = .ok (.iload_n 1, 1) := by decide +kernel
theorem dX7_wanted_1 : decode cX7_wanted 1 = .ok (.invokestatic 81, 3) := by decide +kernel
theorem dX7_wanted_4 : decode cX7_wanted 4 = .ok (.ifCond .ne 5, 3) := by decide +kernel
theorem dX7_wanted_7 : decode cX7_wanted 7 = .ok (.iconst (-1), 1) := by decide +kernel
theorem dX7_wanted_8 : decode cX7_wanted 8 = .ok (.ireturn, 1) := by decide +kernel
theorem dX7_wanted_9 : decode cX7_wanted 9 = .ok (.iconst 0, 1) := by decide +kernel
theorem dX7_wanted_10 : decode cX7_wanted 10 = .ok (.istore_n 2, 1) := by decide +kernel
theorem dX7_wanted_11 : decode cX7_wanted 11 = .ok (.iconst 0, 1) := by decide +kernel
theorem dX7_wanted_12 : decode cX7_wanted 12 = .ok (.istore_n 3, 1) := by decide +kernel
theorem dX7_wanted_13 : decode cX7_wanted 13 = .ok (.iload_n 3, 1) := by decide +kernel
theorem dX7_wanted_14 : decode cX7_wanted 14 = .ok (.aload_n 0, 1) := by decide +kernel
theorem dX7_wanted_15 : decode cX7_wanted 15 = .ok (.getfield 7, 3) := by decide +kernel
theorem dX7_wanted_18 : decode cX7_wanted 18 = .ok (.iconst 0, 1) := by decide +kernel
theorem dX7_wanted_19 : decode cX7_wanted 19 = .ok (.iaload, 1) := by decide +kernel
theorem dX7_wanted_20 : decode cX7_wanted 20 = .ok (.if_icmp .ge 26, 3) := by decide +kernel
theorem dX7_wanted_23 : decode cX7_wanted 23 = .ok (.iload_n 2, 1) := by decide +kernel
theorem dX7_wanted_24 : decode cX7_wanted 24 = .ok (.aload_n 0, 1) := by decide +kernel
theorem dX7_wanted_25 : decode cX7_wanted 25 = .ok (.iload_n 3, 1) := by decide +kernel
theorem dX7_wanted_26 : decode cX7_wanted 26 = .ok (.iload_n 1, 1) := by decide +kernel
theorem dX7_wanted_27 : decode cX7_wanted 27 = .ok (.invokevirtual 283, 3) := by decide +kernel
theorem dX7_wanted_30 : decode cX7_wanted 30 = .ok (.ifCond .eq 7, 3) := by decide +kernel
theorem dX7_wanted_33 : decode cX7_wanted 33 = .ok (.iconst 1, 1) := by decide +kernel
theorem dX7_wanted_34 : decode cX7_wanted 34 = .ok (.goto 4, 3) := by decide +kernel
theorem dX7_wanted_37 : decode cX7_wanted 37 = .ok (.iconst 0, 1) := by decide +kernel
theorem dX7_wanted_38 : decode cX7_wanted 38 = .ok (.iadd, 1) := by decide +kernel
theorem dX7_wanted_39 : decode cX7_wanted 39 = .ok (.istore_n 2, 1) := by decide +kernel
theorem dX7_wanted_40 : decode cX7_wanted 40 = .ok (.iinc 3 1, 3) := by decide +kernel
theorem dX7_wanted_43 : decode cX7_wanted 43 = .ok (.goto (-30), 3) := by decide +kernel
theorem dX7_wanted_46 : decode cX7_wanted 46 = .ok (.iload_n 2, 1) := by decide +kernel
theorem dX7_wanted_47 : decode cX7_wanted 47 = .ok (.ireturn, 1) := by decide +kernel
theorem dX7_alone_0 : decode cX7_alone 0 = .ok (.aload_n 0, 1) := by decide +kernel
theorem dX7_alone_1 : decode cX7_alone 1 = .ok (.iload_n 1, 1) := by decide +kernel
theorem dX7_alone_2 : decode cX7_alone 2 = .ok (.invokevirtual 308, 3) := by decide +kernel
theorem dX7_alone_5 : decode cX7_alone 5 = .ok (.ifCond .ne 5, 3) := by decide +kernel
theorem dX7_alone_8 : decode cX7_alone 8 = .ok (.iconst (-1), 1) := by decide +kernel
theorem dX7_alone_9 : decode cX7_alone 9 = .ok (.ireturn, 1) := by decide +kernel
theorem dX7_alone_10 : decode cX7_alone 10 = .ok (.aload_n 0, 1) := by decide +kernel
theorem dX7_alone_11 : decode cX7_alone 11 = .ok (.iload_n 1, 1) := by decide +kernel
theorem dX7_alone_12 : decode cX7_alone 12 = .ok (.invokevirtual 311, 3) := by decide +kernel
theorem dX7_alone_15 : decode cX7_alone 15 = .ok (.istore_n 2, 1) := by decide +kernel
theorem dX7_alone_16 : decode cX7_alone 16 = .ok (.iconst 0, 1) := by decide +kernel
theorem dX7_alone_17 : decode cX7_alone 17 = .ok (.istore_n 3, 1) := by decide +kernel
theorem dX7_alone_18 : decode cX7_alone 18 = .ok (.iload_n 3, 1) := by decide +kernel
theorem dX7_alone_19 : decode cX7_alone 19 = .ok (.aload_n 0, 1) := by decide +kernel
theorem dX7_alone_20 : decode cX7_alone 20 = .ok (.getfield 7, 3) := by decide +kernel
theorem dX7_alone_23 : decode cX7_alone 23 = .ok (.iconst 0, 1) := by decide +kernel
theorem dX7_alone_24 : decode cX7_alone 24 = .ok (.iaload, 1) := by decide +kernel
theorem dX7_alone_25 : decode cX7_alone 25 = .ok (.if_icmp .ge 24, 3) := by decide +kernel
theorem dX7_alone_28 : decode cX7_alone 28 = .ok (.iload_n 3, 1) := by decide +kernel
theorem dX7_alone_29 : decode cX7_alone 29 = .ok (.iload_n 1, 1) := by decide +kernel
theorem dX7_alone_30 : decode cX7_alone 30 = .ok (.if_icmp .eq 13, 3) := by decide +kernel
theorem dX7_alone_33 : decode cX7_alone 33 = .ok (.iload_n 2, 1) := by decide +kernel
theorem dX7_alone_34 : decode cX7_alone 34 = .ok (.aload_n 0, 1) := by decide +kernel
theorem dX7_alone_35 : decode cX7_alone 35 = .ok (.iload_n 3, 1) := by decide +kernel
theorem dX7_alone_36 : decode cX7_alone 36 = .ok (.invokevirtual 311, 3) := by decide +kernel
theorem dX7_alone_39 : decode cX7_alone 39 = .ok (.iconst (-1), 1) := by decide +kernel
theorem dX7_alone_40 : decode cX7_alone 40 = .ok (.ixor, 1) := by decide +kernel
theorem dX7_alone_41 : decode cX7_alone 41 = .ok (.iand, 1) := by decide +kernel
theorem dX7_alone_42 : decode cX7_alone 42 = .ok (.istore_n 2, 1) := by decide +kernel
theorem dX7_alone_43 : decode cX7_alone 43 = .ok (.iinc 3 1, 3) := by decide +kernel
theorem dX7_alone_46 : decode cX7_alone 46 = .ok (.goto (-28), 3) := by decide +kernel
theorem dX7_alone_49 : decode cX7_alone 49 = .ok (.iload_n 2, 1) := by decide +kernel
theorem dX7_alone_50 : decode cX7_alone 50 = .ok (.ireturn, 1) := by decide +kernel
theorem dX7_since_0 : decode cX7_since 0 = .ok (.iload_n 1, 1) := by decide +kernel
theorem dX7_since_1 : decode cX7_since 1 = .ok (.invokestatic 81, 3) := by decide +kernel
theorem dX7_since_4 : decode cX7_since 4 = .ok (.ifCond .ne 5, 3) := by decide +kernel
theorem dX7_since_7 : decode cX7_since 7 = .ok (.iconst (-1), 1) := by decide +kernel
theorem dX7_since_8 : decode cX7_since 8 = .ok (.ireturn, 1) := by decide +kernel
theorem dX7_since_9 : decode cX7_since 9 = .ok (.aload_n 0, 1) := by decide +kernel
theorem dX7_since_10 : decode cX7_since 10 = .ok (.getfield 7, 3) := by decide +kernel
theorem dX7_since_13 : decode cX7_since 13 = .ok (.bipush 10, 2) := by decide +kernel
theorem dX7_since_15 : decode cX7_since 15 = .ok (.iaload, 1) := by decide +kernel
theorem dX7_since_16 : decode cX7_since 16 = .ok (.iconst 1, 1) := by decide +kernel
theorem dX7_since_17 : decode cX7_since 17 = .ok (.isub, 1) := by decide +kernel
theorem dX7_since_18 : decode cX7_since 18 = .ok (.istore_n 2, 1) := by decide +kernel
theorem dX7_since_19 : decode cX7_since 19 = .ok (.iload_n 2, 1) := by decide +kernel
theorem dX7_since_20 : decode cX7_since 20 = .ok (.ifCond .lt 44, 3) := by decide +kernel
theorem dX7_since_23 : decode cX7_since 23 = .ok (.aload_n 0, 1) := by decide +kernel
theorem dX7_since_24 : decode cX7_since 24 = .ok (.iload_n 2, 1) := by decide +kernel
theorem dX7_since_25 : decode cX7_since 25 = .ok (.iconst 1, 1) := by decide +kernel
theorem dX7_since_26 : decode cX7_since 26 = .ok (.invokevirtual 388, 3) := by decide +kernel
theorem dX7_since_29 : decode cX7_since 29 = .ok (.iconst 3, 1) := by decide +kernel
theorem dX7_since_30 : decode cX7_since 30 = .ok (.if_icmp .ne 28, 3) := by decide +kernel
theorem dX7_since_33 : decode cX7_since 33 = .ok (.aload_n 0, 1) := by decide +kernel
theorem dX7_since_34 : decode cX7_since 34 = .ok (.iload_n 2, 1) := by decide +kernel
theorem dX7_since_35 : decode cX7_since 35 = .ok (.iconst 2, 1) := by decide +kernel
theorem dX7_since_36 : decode cX7_since 36 = .ok (.invokevirtual 388, 3) := by decide +kernel
theorem dX7_since_39 : decode cX7_since 39 = .ok (.iload_n 1, 1) := by decide +kernel
theorem dX7_since_40 : decode cX7_since 40 = .ok (.if_icmp .ne 18, 3) := by decide +kernel
theorem dX7_since_43 : decode cX7_since 43 = .ok (.aload_n 0, 1) := by decide +kernel
theorem dX7_since_44 : decode cX7_since 44 = .ok (.getfield 7, 3) := by decide +kernel
theorem dX7_since_47 : decode cX7_since 47 = .ok (.bipush 6, 2) := by decide +kernel
theorem dX7_since_49 : decode cX7_since 49 = .ok (.iaload, 1) := by decide +kernel
theorem dX7_since_50 : decode cX7_since 50 = .ok (.aload_n 0, 1) := by decide +kernel
theorem dX7_since_51 : decode cX7_since 51 = .ok (.iload_n 2, 1) := by decide +kernel
theorem dX7_since_52 : decode cX7_since 52 = .ok (.iconst 0, 1) := by decide +kernel
theorem dX7_since_53 : decode cX7_since 53 = .ok (.invokevirtual 388, 3) := by decide +kernel
theorem dX7_since_56 : decode cX7_since 56 = .ok (.isub, 1) := by decide +kernel
theorem dX7_since_57 : decode cX7_since 57 = .ok (.ireturn, 1) := by decide +kernel
theorem dX7_since_58 : decode cX7_since 58 = .ok (.iinc 2 (-1), 3) := by decide +kernel
theorem dX7_since_61 : decode cX7_since 61 = .ok (.goto (-42), 3) := by decide +kernel
theorem dX7_since_64 : decode cX7_since 64 = .ok (.iconst (-1), 1) := by decide +kernel
theorem dX7_since_65 : decode cX7_since 65 = .ok (.ireturn, 1) := by decide +kernel
theorem dX7_idle_0 : decode cX7_idle 0 = .ok (.aload_n 0, 1) := by decide +kernel
theorem dX7_idle_1 : decode cX7_idle 1 = .ok (.invokevirtual 280, 3) := by decide +kernel
theorem dX7_idle_4 : decode cX7_idle 4 = .ok (.istore_n 1, 1) := by decide +kernel
theorem dX7_idle_5 : decode cX7_idle 5 = .ok (.iconst 0, 1) := by decide +kernel
theorem dX7_idle_6 : decode cX7_idle 6 = .ok (.istore_n 2, 1) := by decide +kernel
theorem dX7_idle_7 : decode cX7_idle 7 = .ok (.iload_n 2, 1) := by decide +kernel
theorem dX7_idle_8 : decode cX7_idle 8 = .ok (.aload_n 0, 1) := by decide +kernel
theorem dX7_idle_9 : decode cX7_idle 9 = .ok (.getfield 7, 3) := by decide +kernel
theorem dX7_idle_12 : decode cX7_idle 12 = .ok (.iconst 0, 1) := by decide +kernel
theorem dX7_idle_13 : decode cX7_idle 13 = .ok (.iaload, 1) := by decide +kernel
theorem dX7_idle_14 : decode cX7_idle 14 = .ok (.if_icmp .ge 34, 3) := by decide +kernel
theorem dX7_idle_17 : decode cX7_idle 17 = .ok (.aload_n 0, 1) := by decide +kernel
theorem dX7_idle_18 : decode cX7_idle 18 = .ok (.iload_n 2, 1) := by decide +kernel
theorem dX7_idle_19 : decode cX7_idle 19 = .ok (.aload_n 0, 1) := by decide +kernel
theorem dX7_idle_20 : decode cX7_idle 20 = .ok (.getfield 7, 3) := by decide +kernel
theorem dX7_idle_23 : decode cX7_idle 23 = .ok (.bipush 9, 2) := by decide +kernel
theorem dX7_idle_25 : decode cX7_idle 25 = .ok (.iaload, 1) := by decide +kernel
theorem dX7_idle_26 : decode cX7_idle 26 = .ok (.invokevirtual 283, 3) := by decide +kernel
theorem dX7_idle_29 : decode cX7_idle 29 = .ok (.ifCond .eq 13, 3) := by decide +kernel
theorem dX7_idle_32 : decode cX7_idle 32 = .ok (.iload_n 1, 1) := by decide +kernel
theorem dX7_idle_33 : decode cX7_idle 33 = .ok (.aload_n 0, 1) := by decide +kernel
theorem dX7_idle_34 : decode cX7_idle 34 = .ok (.iload_n 2, 1) := by decide +kernel
theorem dX7_idle_35 : decode cX7_idle 35 = .ok (.invokevirtual 311, 3) := by decide +kernel
theorem dX7_idle_38 : decode cX7_idle 38 = .ok (.iconst (-1), 1) := by decide +kernel
theorem dX7_idle_39 : decode cX7_idle 39 = .ok (.ixor, 1) := by decide +kernel
theorem dX7_idle_40 : decode cX7_idle 40 = .ok (.iand, 1) := by decide +kernel
theorem dX7_idle_41 : decode cX7_idle 41 = .ok (.istore_n 1, 1) := by decide +kernel
theorem dX7_idle_42 : decode cX7_idle 42 = .ok (.iinc 2 1, 3) := by decide +kernel
theorem dX7_idle_45 : decode cX7_idle 45 = .ok (.goto (-38), 3) := by decide +kernel
theorem dX7_idle_48 : decode cX7_idle 48 = .ok (.iload_n 1, 1) := by decide +kernel
theorem dX7_idle_49 : decode cX7_idle 49 = .ok (.ireturn, 1) := by decide +kernel
theorem dX7_poor_0 : decode cX7_poor 0 = .ok (.iconst 0, 1) := by decide +kernel
theorem dX7_poor_1 : decode cX7_poor 1 = .ok (.istore_n 1, 1) := by decide +kernel
theorem dX7_poor_2 : decode cX7_poor 2 = .ok (.iconst 0, 1) := by decide +kernel
theorem dX7_poor_3 : decode cX7_poor 3 = .ok (.istore_n 2, 1) := by decide +kernel
theorem dX7_poor_4 : decode cX7_poor 4 = .ok (.iload_n 2, 1) := by decide +kernel
theorem dX7_poor_5 : decode cX7_poor 5 = .ok (.aload_n 0, 1) := by decide +kernel
theorem dX7_poor_6 : decode cX7_poor 6 = .ok (.getfield 7, 3) := by decide +kernel
theorem dX7_poor_9 : decode cX7_poor 9 = .ok (.iconst 0, 1) := by decide +kernel
theorem dX7_poor_10 : decode cX7_poor 10 = .ok (.iaload, 1) := by decide +kernel
theorem dX7_poor_11 : decode cX7_poor 11 = .ok (.if_icmp .ge 36, 3) := by decide +kernel
theorem dX7_poor_14 : decode cX7_poor 14 = .ok (.iload_n 1, 1) := by decide +kernel
theorem dX7_poor_15 : decode cX7_poor 15 = .ok (.aload_n 0, 1) := by decide +kernel
theorem dX7_poor_16 : decode cX7_poor 16 = .ok (.getfield 7, 3) := by decide +kernel
theorem dX7_poor_19 : decode cX7_poor 19 = .ok (.bipush 23, 2) := by decide +kernel
theorem dX7_poor_21 : decode cX7_poor 21 = .ok (.iload_n 2, 1) := by decide +kernel
theorem dX7_poor_22 : decode cX7_poor 22 = .ok (.iadd, 1) := by decide +kernel
theorem dX7_poor_23 : decode cX7_poor 23 = .ok (.iaload, 1) := by decide +kernel
theorem dX7_poor_24 : decode cX7_poor 24 = .ok (.aload_n 0, 1) := by decide +kernel
theorem dX7_poor_25 : decode cX7_poor 25 = .ok (.iload_n 2, 1) := by decide +kernel
theorem dX7_poor_26 : decode cX7_poor 26 = .ok (.invokevirtual 314, 3) := by decide +kernel
theorem dX7_poor_29 : decode cX7_poor 29 = .ok (.if_icmp .ge 9, 3) := by decide +kernel
theorem dX7_poor_32 : decode cX7_poor 32 = .ok (.iconst 1, 1) := by decide +kernel
theorem dX7_poor_33 : decode cX7_poor 33 = .ok (.iload_n 2, 1) := by decide +kernel
theorem dX7_poor_34 : decode cX7_poor 34 = .ok (.ishl, 1) := by decide +kernel
theorem dX7_poor_35 : decode cX7_poor 35 = .ok (.goto 4, 3) := by decide +kernel
theorem dX7_poor_38 : decode cX7_poor 38 = .ok (.iconst 0, 1) := by decide +kernel
theorem dX7_poor_39 : decode cX7_poor 39 = .ok (.ior, 1) := by decide +kernel
theorem dX7_poor_40 : decode cX7_poor 40 = .ok (.istore_n 1, 1) := by decide +kernel
theorem dX7_poor_41 : decode cX7_poor 41 = .ok (.iinc 2 1, 3) := by decide +kernel
theorem dX7_poor_44 : decode cX7_poor 44 = .ok (.goto (-40), 3) := by decide +kernel
theorem dX7_poor_47 : decode cX7_poor 47 = .ok (.iload_n 1, 1) := by decide +kernel
theorem dX7_poor_48 : decode cX7_poor 48 = .ok (.ireturn, 1) := by decide +kernel
theorem dX7_room_0 : decode cX7_room 0 = .ok (.iload_n 1, 1) := by decide +kernel
theorem dX7_room_1 : decode cX7_room 1 = .ok (.iconst 1, 1) := by decide +kernel
theorem dX7_room_2 : decode cX7_room 2 = .ok (.bipush 12, 2) := by decide +kernel
theorem dX7_room_4 : decode cX7_room 4 = .ok (.invokestatic 63, 3) := by decide +kernel
theorem dX7_room_7 : decode cX7_room 7 = .ok (.ifCond .ne 5, 3) := by decide +kernel
theorem dX7_room_10 : decode cX7_room 10 = .ok (.iconst (-1), 1) := by decide +kernel
theorem dX7_room_11 : decode cX7_room 11 = .ok (.ireturn, 1) := by decide +kernel
theorem dX7_room_12 : decode cX7_room 12 = .ok (.iconst 0, 1) := by decide +kernel
theorem dX7_room_13 : decode cX7_room 13 = .ok (.istore_n 2, 1) := by decide +kernel
theorem dX7_room_14 : decode cX7_room 14 = .ok (.iload_n 2, 1) := by decide +kernel
theorem dX7_room_15 : decode cX7_room 15 = .ok (.iload_n 1, 1) := by decide +kernel
theorem dX7_room_16 : decode cX7_room 16 = .ok (.iadd, 1) := by decide +kernel
theorem dX7_room_17 : decode cX7_room 17 = .ok (.bipush 12, 2) := by decide +kernel
theorem dX7_room_19 : decode cX7_room 19 = .ok (.if_icmp .gt 28, 3) := by decide +kernel
theorem dX7_room_22 : decode cX7_room 22 = .ok (.iconst 1, 1) := by decide +kernel
theorem dX7_room_23 : decode cX7_room 23 = .ok (.iload_n 1, 1) := by decide +kernel
theorem dX7_room_24 : decode cX7_room 24 = .ok (.ishl, 1) := by decide +kernel
theorem dX7_room_25 : decode cX7_room 25 = .ok (.iconst 1, 1) := by decide +kernel
theorem dX7_room_26 : decode cX7_room 26 = .ok (.isub, 1) := by decide +kernel
theorem dX7_room_27 : decode cX7_room 27 = .ok (.iload_n 2, 1) := by decide +kernel
theorem dX7_room_28 : decode cX7_room 28 = .ok (.ishl, 1) := by decide +kernel
theorem dX7_room_29 : decode cX7_room 29 = .ok (.aload_n 0, 1) := by decide +kernel
theorem dX7_room_30 : decode cX7_room 30 = .ok (.invokevirtual 280, 3) := by decide +kernel
theorem dX7_room_33 : decode cX7_room 33 = .ok (.iconst (-1), 1) := by decide +kernel
theorem dX7_room_34 : decode cX7_room 34 = .ok (.ixor, 1) := by decide +kernel
theorem dX7_room_35 : decode cX7_room 35 = .ok (.iand, 1) := by decide +kernel
theorem dX7_room_36 : decode cX7_room 36 = .ok (.ifCond .ne 5, 3) := by decide +kernel
theorem dX7_room_39 : decode cX7_room 39 = .ok (.iload_n 2, 1) := by decide +kernel
theorem dX7_room_40 : decode cX7_room 40 = .ok (.ireturn, 1) := by decide +kernel
theorem dX7_room_41 : decode cX7_room 41 = .ok (.iinc 2 1, 3) := by decide +kernel
theorem dX7_room_44 : decode cX7_room 44 = .ok (.goto (-30), 3) := by decide +kernel
theorem dX7_room_47 : decode cX7_room 47 = .ok (.iconst (-1), 1) := by decide +kernel
theorem dX7_room_48 : decode cX7_room 48 = .ok (.ireturn, 1) := by decide +kernel
theorem dX7_foretold_0 : decode cX7_foretold 0 = .ok (.iload_n 1, 1) := by decide +kernel
theorem dX7_foretold_1 : decode cX7_foretold 1 = .ok (.iconst 1, 1) := by decide +kernel
theorem dX7_foretold_2 : decode cX7_foretold 2 = .ok (.bipush 60, 2) := by decide +kernel
theorem dX7_foretold_4 : decode cX7_foretold 4 = .ok (.invokestatic 63, 3) := by decide +kernel
theorem dX7_foretold_7 : decode cX7_foretold 7 = .ok (.ifCond .eq 12, 3) := by decide +kernel
theorem dX7_foretold_10 : decode cX7_foretold 10 = .ok (.iload_n 2, 1) := by decide +kernel
theorem dX7_foretold_11 : decode cX7_foretold 11 = .ok (.iconst 0, 1) := by decide +kernel
theorem dX7_foretold_12 : decode cX7_foretold 12 = .ok (.iconst 1, 1) := by decide +kernel
theorem dX7_foretold_13 : decode cX7_foretold 13 = .ok (.invokestatic 63, 3) := by decide +kernel
theorem dX7_foretold_16 : decode cX7_foretold 16 = .ok (.ifCond .ne 5, 3) := by decide +kernel
theorem dX7_foretold_19 : decode cX7_foretold 19 = .ok (.iconst (-1), 1) := by decide +kernel
theorem dX7_foretold_20 : decode cX7_foretold 20 = .ok (.ireturn, 1) := by decide +kernel
theorem dX7_foretold_21 : decode cX7_foretold 21 = .ok (.bipush 6, 2) := by decide +kernel
theorem dX7_foretold_23 : decode cX7_foretold 23 = .ok (.istore_n 3, 1) := by decide +kernel
theorem dX7_foretold_24 : decode cX7_foretold 24 = .ok (.iload_n 3, 1) := by decide +kernel
theorem dX7_foretold_25 : decode cX7_foretold 25 = .ok (.bipush 29, 2) := by decide +kernel
theorem dX7_foretold_27 : decode cX7_foretold 27 = .ok (.if_icmp .ge 21, 3) := by decide +kernel
theorem dX7_foretold_30 : decode cX7_foretold 30 = .ok (.aload_n 0, 1) := by decide +kernel
theorem dX7_foretold_31 : decode cX7_foretold 31 = .ok (.getfield 47, 3) := by decide +kernel
theorem dX7_foretold_34 : decode cX7_foretold 34 = .ok (.iload_n 3, 1) := by decide +kernel
theorem dX7_foretold_35 : decode cX7_foretold 35 = .ok (.aload_n 0, 1) := by decide +kernel
theorem dX7_foretold_36 : decode cX7_foretold 36 = .ok (.getfield 7, 3) := by decide +kernel
theorem dX7_foretold_39 : decode cX7_foretold 39 = .ok (.iload_n 3, 1) := by decide +kernel
theorem dX7_foretold_40 : decode cX7_foretold 40 = .ok (.iaload, 1) := by decide +kernel
theorem dX7_foretold_41 : decode cX7_foretold 41 = .ok (.iastore, 1) := by decide +kernel
theorem dX7_foretold_42 : decode cX7_foretold 42 = .ok (.iinc 3 1, 3) := by decide +kernel
theorem dX7_foretold_45 : decode cX7_foretold 45 = .ok (.goto (-21), 3) := by decide +kernel
theorem dX7_foretold_48 : decode cX7_foretold 48 = .ok (.aload_n 0, 1) := by decide +kernel
theorem dX7_foretold_49 : decode cX7_foretold 49 = .ok (.iconst 0, 1) := by decide +kernel
theorem dX7_foretold_50 : decode cX7_foretold 50 = .ok (.putfield 43, 3) := by decide +kernel
theorem dX7_foretold_53 : decode cX7_foretold 53 = .ok (.iconst 0, 1) := by decide +kernel
theorem dX7_foretold_54 : decode cX7_foretold 54 = .ok (.istore_n 3, 1) := by decide +kernel
theorem dX7_foretold_55 : decode cX7_foretold 55 = .ok (.iload_n 3, 1) := by decide +kernel
theorem dX7_foretold_56 : decode cX7_foretold 56 = .ok (.iload_n 1, 1) := by decide +kernel
theorem dX7_foretold_57 : decode cX7_foretold 57 = .ok (.if_icmp .ge 26, 3) := by decide +kernel
theorem dX7_foretold_60 : decode cX7_foretold 60 = .ok (.aload_n 0, 1) := by decide +kernel
theorem dX7_foretold_61 : decode cX7_foretold 61 = .ok (.getfield 7, 3) := by decide +kernel
theorem dX7_foretold_64 : decode cX7_foretold 64 = .ok (.bipush 6, 2) := by decide +kernel
theorem dX7_foretold_66 : decode cX7_foretold 66 = .ok (.iaload, 1) := by decide +kernel
theorem dX7_foretold_67 : decode cX7_foretold 67 = .ok (.sipush 9999, 3) := by decide +kernel
theorem dX7_foretold_70 : decode cX7_foretold 70 = .ok (.if_icmp .ge 7, 3) := by decide +kernel
theorem dX7_foretold_73 : decode cX7_foretold 73 = .ok (.aload_n 0, 1) := by decide +kernel
theorem dX7_foretold_74 : decode cX7_foretold 74 = .ok (.invokevirtual 360, 3) := by decide +kernel
theorem dX7_foretold_77 : decode cX7_foretold 77 = .ok (.iinc 3 1, 3) := by decide +kernel
theorem dX7_foretold_80 : decode cX7_foretold 80 = .ok (.goto (-25), 3) := by decide +kernel
theorem dX7_foretold_83 : decode cX7_foretold 83 = .ok (.aload_n 0, 1) := by decide +kernel
theorem dX7_foretold_84 : decode cX7_foretold 84 = .ok (.getfield 7, 3) := by decide +kernel
theorem dX7_foretold_87 : decode cX7_foretold 87 = .ok (.bipush 9, 2) := by decide +kernel
theorem dX7_foretold_89 : decode cX7_foretold 89 = .ok (.iaload, 1) := by decide +kernel
theorem dX7_foretold_90 : decode cX7_foretold 90 = .ok (.istore_n 3, 1) := by decide +kernel
theorem dX7_foretold_91 : decode cX7_foretold 91 = .ok (.iload_n 2, 1) := by decide +kernel
theorem dX7_foretold_92 : decode cX7_foretold 92 = .ok (.iconst 1, 1) := by decide +kernel
theorem dX7_foretold_93 : decode cX7_foretold 93 = .ok (.if_icmp .ne 38, 3) := by decide +kernel
theorem dX7_foretold_96 : decode cX7_foretold 96 = .ok (.iconst 0, 1) := by decide +kernel
theorem dX7_foretold_97 : decode cX7_foretold 97 = .ok (.istore_n 3, 1) := by decide +kernel
theorem dX7_foretold_98 : decode cX7_foretold 98 = .ok (.iconst 0, 1) := by decide +kernel
theorem dX7_foretold_99 : decode cX7_foretold 99 = .ok (.istore 4, 2) := by decide +kernel
theorem dX7_foretold_101 : decode cX7_foretold 101 = .ok (.iload 4, 2) := by decide +kernel
theorem dX7_foretold_103 : decode cX7_foretold 103 = .ok (.aload_n 0, 1) := by decide +kernel
theorem dX7_foretold_104 : decode cX7_foretold 104 = .ok (.getfield 7, 3) := by decide +kernel
theorem dX7_foretold_107 : decode cX7_foretold 107 = .ok (.iconst 0, 1) := by decide +kernel
theorem dX7_foretold_108 : decode cX7_foretold 108 = .ok (.iaload, 1) := by decide +kernel
theorem dX7_foretold_109 : decode cX7_foretold 109 = .ok (.if_icmp .ge 22, 3) := by decide +kernel
theorem dX7_foretold_112 : decode cX7_foretold 112 = .ok (.iload_n 3, 1) := by decide +kernel
theorem dX7_foretold_113 : decode cX7_foretold 113 = .ok (.aload_n 0, 1) := by decide +kernel
theorem dX7_foretold_114 : decode cX7_foretold 114 = .ok (.getfield 7, 3) := by decide +kernel
theorem dX7_foretold_117 : decode cX7_foretold 117 = .ok (.bipush 23, 2) := by decide +kernel
theorem dX7_foretold_119 : decode cX7_foretold 119 = .ok (.iload 4, 2) := by decide +kernel
theorem dX7_foretold_121 : decode cX7_foretold 121 = .ok (.iadd, 1) := by decide +kernel
theorem dX7_foretold_122 : decode cX7_foretold 122 = .ok (.iaload, 1) := by decide +kernel
theorem dX7_foretold_123 : decode cX7_foretold 123 = .ok (.iadd, 1) := by decide +kernel
theorem dX7_foretold_124 : decode cX7_foretold 124 = .ok (.istore_n 3, 1) := by decide +kernel
theorem dX7_foretold_125 : decode cX7_foretold 125 = .ok (.iinc 4 1, 3) := by decide +kernel
theorem dX7_foretold_128 : decode cX7_foretold 128 = .ok (.goto (-27), 3) := by decide +kernel
theorem dX7_foretold_131 : decode cX7_foretold 131 = .ok (.bipush 6, 2) := by decide +kernel
theorem dX7_foretold_133 : decode cX7_foretold 133 = .ok (.istore 4, 2) := by decide +kernel
theorem dX7_foretold_135 : decode cX7_foretold 135 = .ok (.iload 4, 2) := by decide +kernel
theorem dX7_foretold_137 : decode cX7_foretold 137 = .ok (.bipush 29, 2) := by decide +kernel
theorem dX7_foretold_139 : decode cX7_foretold 139 = .ok (.if_icmp .ge 23, 3) := by decide +kernel
theorem dX7_foretold_142 : decode cX7_foretold 142 = .ok (.aload_n 0, 1) := by decide +kernel
theorem dX7_foretold_143 : decode cX7_foretold 143 = .ok (.getfield 7, 3) := by decide +kernel
theorem dX7_foretold_146 : decode cX7_foretold 146 = .ok (.iload 4, 2) := by decide +kernel
theorem dX7_foretold_148 : decode cX7_foretold 148 = .ok (.aload_n 0, 1) := by decide +kernel
theorem dX7_foretold_149 : decode cX7_foretold 149 = .ok (.getfield 47, 3) := by decide +kernel
theorem dX7_foretold_152 : decode cX7_foretold 152 = .ok (.iload 4, 2) := by decide +kernel
theorem dX7_foretold_154 : decode cX7_foretold 154 = .ok (.iaload, 1) := by decide +kernel
theorem dX7_foretold_155 : decode cX7_foretold 155 = .ok (.iastore, 1) := by decide +kernel
theorem dX7_foretold_156 : decode cX7_foretold 156 = .ok (.iinc 4 1, 3) := by decide +kernel
theorem dX7_foretold_159 : decode cX7_foretold 159 = .ok (.goto (-24), 3) := by decide +kernel
theorem dX7_foretold_162 : decode cX7_foretold 162 = .ok (.aload_n 0, 1) := by decide +kernel
theorem dX7_foretold_163 : decode cX7_foretold 163 = .ok (.iconst 1, 1) := by decide +kernel
theorem dX7_foretold_164 : decode cX7_foretold 164 = .ok (.putfield 43, 3) := by decide +kernel
theorem dX7_foretold_167 : decode cX7_foretold 167 = .ok (.iload_n 3, 1) := by decide +kernel
theorem dX7_foretold_168 : decode cX7_foretold 168 = .ok (.ireturn, 1) := by decide +kernel
theorem dX7_broughtBy_0 : decode cX7_broughtBy 0 = .ok (.iconst 0, 1) := by decide +kernel
theorem dX7_broughtBy_1 : decode cX7_broughtBy 1 = .ok (.istore_n 3, 1) := by decide +kernel
theorem dX7_broughtBy_2 : decode cX7_broughtBy 2 = .ok (.iconst 0, 1) := by decide +kernel
theorem dX7_broughtBy_3 : decode cX7_broughtBy 3 = .ok (.istore 4, 2) := by decide +kernel
theorem dX7_broughtBy_5 : decode cX7_broughtBy 5 = .ok (.iconst 0, 1) := by decide +kernel
theorem dX7_broughtBy_6 : decode cX7_broughtBy 6 = .ok (.istore 5, 2) := by decide +kernel
theorem dX7_broughtBy_8 : decode cX7_broughtBy 8 = .ok (.iload 5, 2) := by decide +kernel
theorem dX7_broughtBy_10 : decode cX7_broughtBy 10 = .ok (.aload_n 0, 1) := by decide +kernel
theorem dX7_broughtBy_11 : decode cX7_broughtBy 11 = .ok (.getfield 7, 3) := by decide +kernel
theorem dX7_broughtBy_14 : decode cX7_broughtBy 14 = .ok (.iconst 0, 1) := by decide +kernel
theorem dX7_broughtBy_15 : decode cX7_broughtBy 15 = .ok (.iaload, 1) := by decide +kernel
theorem dX7_broughtBy_16 : decode cX7_broughtBy 16 = .ok (.if_icmp .ge 71, 3) := by decide +kernel
theorem dX7_broughtBy_19 : decode cX7_broughtBy 19 = .ok (.iload_n 1, 1) := by decide +kernel
theorem dX7_broughtBy_20 : decode cX7_broughtBy 20 = .ok (.iload 5, 2) := by decide +kernel
theorem dX7_broughtBy_22 : decode cX7_broughtBy 22 = .ok (.invokestatic 67, 3) := by decide +kernel
theorem dX7_broughtBy_25 : decode cX7_broughtBy 25 = .ok (.ifCond .ne 6, 3) := by decide +kernel
theorem dX7_broughtBy_28 : decode cX7_broughtBy 28 = .ok (.goto 53, 3) := by decide +kernel
theorem dX7_broughtBy_31 : decode cX7_broughtBy 31 = .ok (.aload_n 0, 1) := by decide +kernel
theorem dX7_broughtBy_32 : decode cX7_broughtBy 32 = .ok (.iload 5, 2) := by decide +kernel
theorem dX7_broughtBy_34 : decode cX7_broughtBy 34 = .ok (.iload_n 2, 1) := by decide +kernel
theorem dX7_broughtBy_35 : decode cX7_broughtBy 35 = .ok (.invokevirtual 283, 3) := by decide +kernel
theorem dX7_broughtBy_38 : decode cX7_broughtBy 38 = .ok (.ifCond .eq 14, 3) := by decide +kernel
theorem dX7_broughtBy_41 : decode cX7_broughtBy 41 = .ok (.iload_n 3, 1) := by decide +kernel
theorem dX7_broughtBy_42 : decode cX7_broughtBy 42 = .ok (.aload_n 0, 1) := by decide +kernel
theorem dX7_broughtBy_43 : decode cX7_broughtBy 43 = .ok (.iload 5, 2) := by decide +kernel
theorem dX7_broughtBy_45 : decode cX7_broughtBy 45 = .ok (.invokevirtual 311, 3) := by decide +kernel
theorem dX7_broughtBy_48 : decode cX7_broughtBy 48 = .ok (.iand, 1) := by decide +kernel
theorem dX7_broughtBy_49 : decode cX7_broughtBy 49 = .ok (.ifCond .eq 5, 3) := by decide +kernel
theorem dX7_broughtBy_52 : decode cX7_broughtBy 52 = .ok (.iconst (-1), 1) := by decide +kernel
theorem dX7_broughtBy_53 : decode cX7_broughtBy 53 = .ok (.ireturn, 1) := by decide +kernel
theorem dX7_broughtBy_54 : decode cX7_broughtBy 54 = .ok (.iload_n 3, 1) := by decide +kernel
theorem dX7_broughtBy_55 : decode cX7_broughtBy 55 = .ok (.aload_n 0, 1) := by decide +kernel
theorem dX7_broughtBy_56 : decode cX7_broughtBy 56 = .ok (.iload 5, 2) := by decide +kernel
theorem dX7_broughtBy_58 : decode cX7_broughtBy 58 = .ok (.invokevirtual 311, 3) := by decide +kernel
theorem dX7_broughtBy_61 : decode cX7_broughtBy 61 = .ok (.ior, 1) := by decide +kernel
theorem dX7_broughtBy_62 : decode cX7_broughtBy 62 = .ok (.istore_n 3, 1) := by decide +kernel
theorem dX7_broughtBy_63 : decode cX7_broughtBy 63 = .ok (.iload 4, 2) := by decide +kernel
theorem dX7_broughtBy_65 : decode cX7_broughtBy 65 = .ok (.aload_n 0, 1) := by decide +kernel
theorem dX7_broughtBy_66 : decode cX7_broughtBy 66 = .ok (.aload_n 0, 1) := by decide +kernel
theorem dX7_broughtBy_67 : decode cX7_broughtBy 67 = .ok (.getfield 7, 3) := by decide +kernel
theorem dX7_broughtBy_70 : decode cX7_broughtBy 70 = .ok (.iconst 2, 1) := by decide +kernel
theorem dX7_broughtBy_71 : decode cX7_broughtBy 71 = .ok (.iaload, 1) := by decide +kernel
theorem dX7_broughtBy_72 : decode cX7_broughtBy 72 = .ok (.iload 5, 2) := by decide +kernel
theorem dX7_broughtBy_74 : decode cX7_broughtBy 74 = .ok (.iload_n 2, 1) := by decide +kernel
theorem dX7_broughtBy_75 : decode cX7_broughtBy 75 = .ok (.invokevirtual 296, 3) := by decide +kernel
theorem dX7_broughtBy_78 : decode cX7_broughtBy 78 = .ok (.iadd, 1) := by decide +kernel
theorem dX7_broughtBy_79 : decode cX7_broughtBy 79 = .ok (.istore 4, 2) := by decide +kernel
theorem dX7_broughtBy_81 : decode cX7_broughtBy 81 = .ok (.iinc 5 1, 3) := by decide +kernel
theorem dX7_broughtBy_84 : decode cX7_broughtBy 84 = .ok (.goto (-76), 3) := by decide +kernel
theorem dX7_broughtBy_87 : decode cX7_broughtBy 87 = .ok (.iload 4, 2) := by decide +kernel
theorem dX7_broughtBy_89 : decode cX7_broughtBy 89 = .ok (.ireturn, 1) := by decide +kernel
theorem dX7_bestSet_0 : decode cX7_bestSet 0 = .ok (.iconst (-1), 1) := by decide +kernel
theorem dX7_bestSet_1 : decode cX7_bestSet 1 = .ok (.istore_n 3, 1) := by decide +kernel
theorem dX7_bestSet_2 : decode cX7_bestSet 2 = .ok (.iconst 0, 1) := by decide +kernel
theorem dX7_bestSet_3 : decode cX7_bestSet 3 = .ok (.istore 4, 2) := by decide +kernel
theorem dX7_bestSet_5 : decode cX7_bestSet 5 = .ok (.iload 4, 2) := by decide +kernel
theorem dX7_bestSet_7 : decode cX7_bestSet 7 = .ok (.iconst 1, 1) := by decide +kernel
theorem dX7_bestSet_8 : decode cX7_bestSet 8 = .ok (.aload_n 0, 1) := by decide +kernel
theorem dX7_bestSet_9 : decode cX7_bestSet 9 = .ok (.getfield 7, 3) := by decide +kernel
theorem dX7_bestSet_12 : decode cX7_bestSet 12 = .ok (.iconst 0, 1) := by decide +kernel
theorem dX7_bestSet_13 : decode cX7_bestSet 13 = .ok (.iaload, 1) := by decide +kernel
theorem dX7_bestSet_14 : decode cX7_bestSet 14 = .ok (.ishl, 1) := by decide +kernel
theorem dX7_bestSet_15 : decode cX7_bestSet 15 = .ok (.if_icmp .ge 46, 3) := by decide +kernel
theorem dX7_bestSet_18 : decode cX7_bestSet 18 = .ok (.iload_n 1, 1) := by decide +kernel
theorem dX7_bestSet_19 : decode cX7_bestSet 19 = .ok (.iload 4, 2) := by decide +kernel
theorem dX7_bestSet_21 : decode cX7_bestSet 21 = .ok (.iconst (-1), 1) := by decide +kernel
theorem dX7_bestSet_22 : decode cX7_bestSet 22 = .ok (.ixor, 1) := by decide +kernel
theorem dX7_bestSet_23 : decode cX7_bestSet 23 = .ok (.iand, 1) := by decide +kernel
theorem dX7_bestSet_24 : decode cX7_bestSet 24 = .ok (.ifCond .ne 31, 3) := by decide +kernel
theorem dX7_bestSet_27 : decode cX7_bestSet 27 = .ok (.aload_n 0, 1) := by decide +kernel
theorem dX7_bestSet_28 : decode cX7_bestSet 28 = .ok (.iload 4, 2) := by decide +kernel
theorem dX7_bestSet_30 : decode cX7_bestSet 30 = .ok (.iload_n 2, 1) := by decide +kernel
theorem dX7_bestSet_31 : decode cX7_bestSet 31 = .ok (.invokevirtual 397, 3) := by decide +kernel
theorem dX7_bestSet_34 : decode cX7_bestSet 34 = .ok (.iload_n 3, 1) := by decide +kernel
theorem dX7_bestSet_35 : decode cX7_bestSet 35 = .ok (.iconst (-1), 1) := by decide +kernel
theorem dX7_bestSet_36 : decode cX7_bestSet 36 = .ok (.if_icmp .ne 7, 3) := by decide +kernel
theorem dX7_bestSet_39 : decode cX7_bestSet 39 = .ok (.iconst (-1), 1) := by decide +kernel
theorem dX7_bestSet_40 : decode cX7_bestSet 40 = .ok (.goto 9, 3) := by decide +kernel
theorem dX7_bestSet_43 : decode cX7_bestSet 43 = .ok (.aload_n 0, 1) := by decide +kernel
theorem dX7_bestSet_44 : decode cX7_bestSet 44 = .ok (.iload_n 3, 1) := by decide +kernel
theorem dX7_bestSet_45 : decode cX7_bestSet 45 = .ok (.iload_n 2, 1) := by decide +kernel
theorem dX7_bestSet_46 : decode cX7_bestSet 46 = .ok (.invokevirtual 397, 3) := by decide +kernel
theorem dX7_bestSet_49 : decode cX7_bestSet 49 = .ok (.if_icmp .le 6, 3) := by decide +kernel
theorem dX7_bestSet_52 : decode cX7_bestSet 52 = .ok (.iload 4, 2) := by decide +kernel
theorem dX7_bestSet_54 : decode cX7_bestSet 54 = .ok (.istore_n 3, 1) := by decide +kernel
theorem dX7_bestSet_55 : decode cX7_bestSet 55 = .ok (.iinc 4 1, 3) := by decide +kernel
theorem dX7_bestSet_58 : decode cX7_bestSet 58 = .ok (.goto (-53), 3) := by decide +kernel
theorem dX7_bestSet_61 : decode cX7_bestSet 61 = .ok (.iload_n 3, 1) := by decide +kernel
theorem dX7_bestSet_62 : decode cX7_bestSet 62 = .ok (.ireturn, 1) := by decide +kernel
theorem dX7_pack_0 : decode cX7_pack 0 = .ok (.iload_n 1, 1) := by decide +kernel
theorem dX7_pack_1 : decode cX7_pack 1 = .ok (.invokestatic 81, 3) := by decide +kernel
theorem dX7_pack_4 : decode cX7_pack 4 = .ok (.ifCond .ne 7, 3) := by decide +kernel
theorem dX7_pack_7 : decode cX7_pack 7 = .ok (.iconst (-1), 1) := by decide +kernel
theorem dX7_pack_8 : decode cX7_pack 8 = .ok (.goto 27, 3) := by decide +kernel
theorem dX7_pack_11 : decode cX7_pack 11 = .ok (.iload_n 2, 1) := by decide +kernel
theorem dX7_pack_12 : decode cX7_pack 12 = .ok (.ifCond .eq 12, 3) := by decide +kernel
theorem dX7_pack_15 : decode cX7_pack 15 = .ok (.aload_n 0, 1) := by decide +kernel
theorem dX7_pack_16 : decode cX7_pack 16 = .ok (.iconst 0, 1) := by decide +kernel
theorem dX7_pack_17 : decode cX7_pack 17 = .ok (.iload_n 1, 1) := by decide +kernel
theorem dX7_pack_18 : decode cX7_pack 18 = .ok (.invokevirtual 400, 3) := by decide +kernel
theorem dX7_pack_21 : decode cX7_pack 21 = .ok (.goto 14, 3) := by decide +kernel
theorem dX7_pack_24 : decode cX7_pack 24 = .ok (.aload_n 0, 1) := by decide +kernel
theorem dX7_pack_25 : decode cX7_pack 25 = .ok (.aload_n 0, 1) := by decide +kernel
theorem dX7_pack_26 : decode cX7_pack 26 = .ok (.iconst 0, 1) := by decide +kernel
theorem dX7_pack_27 : decode cX7_pack 27 = .ok (.iload_n 1, 1) := by decide +kernel
theorem dX7_pack_28 : decode cX7_pack 28 = .ok (.invokevirtual 400, 3) := by decide +kernel
theorem dX7_pack_31 : decode cX7_pack 31 = .ok (.iload_n 1, 1) := by decide +kernel
theorem dX7_pack_32 : decode cX7_pack 32 = .ok (.invokevirtual 397, 3) := by decide +kernel
theorem dX7_pack_35 : decode cX7_pack 35 = .ok (.ireturn, 1) := by decide +kernel
theorem dX7_see_0 : decode cX7_see 0 = .ok (.iload_n 1, 1) := by decide +kernel
theorem dX7_see_1 : decode cX7_see 1 = .ok (.iconst 0, 1) := by decide +kernel
theorem dX7_see_2 : decode cX7_see 2 = .ok (.iconst 1, 1) := by decide +kernel
theorem dX7_see_3 : decode cX7_see 3 = .ok (.aload_n 0, 1) := by decide +kernel
theorem dX7_see_4 : decode cX7_see 4 = .ok (.getfield 7, 3) := by decide +kernel
theorem dX7_see_7 : decode cX7_see 7 = .ok (.iconst 0, 1) := by decide +kernel
theorem dX7_see_8 : decode cX7_see 8 = .ok (.iaload, 1) := by decide +kernel
theorem dX7_see_9 : decode cX7_see 9 = .ok (.ishl, 1) := by decide +kernel
theorem dX7_see_10 : decode cX7_see 10 = .ok (.iconst 1, 1) := by decide +kernel
theorem dX7_see_11 : decode cX7_see 11 = .ok (.isub, 1) := by decide +kernel
theorem dX7_see_12 : decode cX7_see 12 = .ok (.invokestatic 63, 3) := by decide +kernel
theorem dX7_see_15 : decode cX7_see 15 = .ok (.ifCond .eq 10, 3) := by decide +kernel
theorem dX7_see_18 : decode cX7_see 18 = .ok (.iload_n 2, 1) := by decide +kernel
theorem dX7_see_19 : decode cX7_see 19 = .ok (.invokestatic 81, 3) := by decide +kernel
theorem dX7_see_22 : decode cX7_see 22 = .ok (.ifCond .ne 5, 3) := by decide +kernel
theorem dX7_see_25 : decode cX7_see 25 = .ok (.iconst (-1), 1) := by decide +kernel
theorem dX7_see_26 : decode cX7_see 26 = .ok (.ireturn, 1) := by decide +kernel
theorem dX7_see_27 : decode cX7_see 27 = .ok (.aload_n 0, 1) := by decide +kernel
theorem dX7_see_28 : decode cX7_see 28 = .ok (.iload_n 1, 1) := by decide +kernel
theorem dX7_see_29 : decode cX7_see 29 = .ok (.iload_n 2, 1) := by decide +kernel
theorem dX7_see_30 : decode cX7_see 30 = .ok (.invokevirtual 400, 3) := by decide +kernel
theorem dX7_see_33 : decode cX7_see 33 = .ok (.istore_n 3, 1) := by decide +kernel
theorem dX7_see_34 : decode cX7_see 34 = .ok (.iload_n 3, 1) := by decide +kernel
theorem dX7_see_35 : decode cX7_see 35 = .ok (.iconst (-1), 1) := by decide +kernel
theorem dX7_see_36 : decode cX7_see 36 = .ok (.if_icmp .ne 7, 3) := by decide +kernel
theorem dX7_see_39 : decode cX7_see 39 = .ok (.iconst (-1), 1) := by decide +kernel
theorem dX7_see_40 : decode cX7_see 40 = .ok (.goto 9, 3) := by decide +kernel
theorem dX7_see_43 : decode cX7_see 43 = .ok (.aload_n 0, 1) := by decide +kernel
theorem dX7_see_44 : decode cX7_see 44 = .ok (.iload_n 3, 1) := by decide +kernel
theorem dX7_see_45 : decode cX7_see 45 = .ok (.iload_n 2, 1) := by decide +kernel
theorem dX7_see_46 : decode cX7_see 46 = .ok (.invokevirtual 397, 3) := by decide +kernel
theorem dX7_see_49 : decode cX7_see 49 = .ok (.ireturn, 1) := by decide +kernel
theorem dX7_divisor_0 : decode cX7_divisor 0 = .ok (.lload_n 0, 1) := by decide +kernel
theorem dX7_divisor_1 : decode cX7_divisor 1 = .ok (.lstore 4, 2) := by decide +kernel
theorem dX7_divisor_3 : decode cX7_divisor 3 = .ok (.lload_n 2, 1) := by decide +kernel
theorem dX7_divisor_4 : decode cX7_divisor 4 = .ok (.lstore 6, 2) := by decide +kernel
theorem dX7_divisor_6 : decode cX7_divisor 6 = .ok (.lload 6, 2) := by decide +kernel
theorem dX7_divisor_8 : decode cX7_divisor 8 = .ok (.lconst 0, 1) := by decide +kernel
theorem dX7_divisor_9 : decode cX7_divisor 9 = .ok (.lcmp, 1) := by decide +kernel
theorem dX7_divisor_10 : decode cX7_divisor 10 = .ok (.ifCond .eq 21, 3) := by decide +kernel
theorem dX7_divisor_13 : decode cX7_divisor 13 = .ok (.lload 4, 2) := by decide +kernel
theorem dX7_divisor_15 : decode cX7_divisor 15 = .ok (.lload 6, 2) := by decide +kernel
theorem dX7_divisor_17 : decode cX7_divisor 17 = .ok (.lrem, 1) := by decide +kernel
theorem dX7_divisor_18 : decode cX7_divisor 18 = .ok (.lstore 8, 2) := by decide +kernel
theorem dX7_divisor_20 : decode cX7_divisor 20 = .ok (.lload 6, 2) := by decide +kernel
theorem dX7_divisor_22 : decode cX7_divisor 22 = .ok (.lstore 4, 2) := by decide +kernel
theorem dX7_divisor_24 : decode cX7_divisor 24 = .ok (.lload 8, 2) := by decide +kernel
theorem dX7_divisor_26 : decode cX7_divisor 26 = .ok (.lstore 6, 2) := by decide +kernel
theorem dX7_divisor_28 : decode cX7_divisor 28 = .ok (.goto (-22), 3) := by decide +kernel
theorem dX7_divisor_31 : decode cX7_divisor 31 = .ok (.lload 4, 2) := by decide +kernel
theorem dX7_divisor_33 : decode cX7_divisor 33 = .ok (.lreturn, 1) := by decide +kernel
theorem dX7_partOfAll_0 : decode cX7_partOfAll 0 = .ok (.iload 4, 2) := by decide +kernel
theorem dX7_partOfAll_2 : decode cX7_partOfAll 2 = .ok (.ifCond .eq 7, 3) := by decide +kernel
theorem dX7_partOfAll_5 : decode cX7_partOfAll 5 = .ok (.lload_n 2, 1) := by decide +kernel
theorem dX7_partOfAll_6 : decode cX7_partOfAll 6 = .ok (.goto 4, 3) := by decide +kernel
theorem dX7_partOfAll_9 : decode cX7_partOfAll 9 = .ok (.lload_n 0, 1) := by decide +kernel
theorem dX7_partOfAll_10 : decode cX7_partOfAll 10 = .ok (.lload_n 0, 1) := by decide +kernel
theorem dX7_partOfAll_11 : decode cX7_partOfAll 11 = .ok (.lload_n 2, 1) := by decide +kernel
theorem dX7_partOfAll_12 : decode cX7_partOfAll 12 = .ok (.invokestatic 403, 3) := by decide +kernel
theorem dX7_partOfAll_15 : decode cX7_partOfAll 15 = .ok (.ldiv, 1) := by decide +kernel
theorem dX7_partOfAll_16 : decode cX7_partOfAll 16 = .ok (.lreturn, 1) := by decide +kernel
theorem dX7_oddsOf_0 : decode cX7_oddsOf 0 = .ok (.aload_n 0, 1) := by decide +kernel
theorem dX7_oddsOf_1 : decode cX7_oddsOf 1 = .ok (.invokevirtual 324, 3) := by decide +kernel
theorem dX7_oddsOf_4 : decode cX7_oddsOf 4 = .ok (.ifCond .ne 15, 3) := by decide +kernel
theorem dX7_oddsOf_7 : decode cX7_oddsOf 7 = .ok (.iload_n 1, 1) := by decide +kernel
theorem dX7_oddsOf_8 : decode cX7_oddsOf 8 = .ok (.ifCond .ne 7, 3) := by decide +kernel
theorem dX7_oddsOf_11 : decode cX7_oddsOf 11 = .ok (.iconst 1, 1) := by decide +kernel
theorem dX7_oddsOf_12 : decode cX7_oddsOf 12 = .ok (.goto 16, 3) := by decide +kernel
theorem dX7_oddsOf_15 : decode cX7_oddsOf 15 = .ok (.iconst 0, 1) := by decide +kernel
theorem dX7_oddsOf_16 : decode cX7_oddsOf 16 = .ok (.goto 12, 3) := by decide +kernel
theorem dX7_oddsOf_19 : decode cX7_oddsOf 19 = .ok (.aload_n 0, 1) := by decide +kernel
theorem dX7_oddsOf_20 : decode cX7_oddsOf 20 = .ok (.getfield 7, 3) := by decide +kernel
theorem dX7_oddsOf_23 : decode cX7_oddsOf 23 = .ok (.bipush 29, 2) := by decide +kernel
theorem dX7_oddsOf_25 : decode cX7_oddsOf 25 = .ok (.iload_n 1, 1) := by decide +kernel
theorem dX7_oddsOf_26 : decode cX7_oddsOf 26 = .ok (.iadd, 1) := by decide +kernel
theorem dX7_oddsOf_27 : decode cX7_oddsOf 27 = .ok (.iaload, 1) := by decide +kernel
theorem dX7_oddsOf_28 : decode cX7_oddsOf 28 = .ok (.ireturn, 1) := by decide +kernel
theorem dX7_whole_0 : decode cX7_whole 0 = .ok (.aload_n 0, 1) := by decide +kernel
theorem dX7_whole_1 : decode cX7_whole 1 = .ok (.invokevirtual 324, 3) := by decide +kernel
theorem dX7_whole_4 : decode cX7_whole 4 = .ok (.ifCond .ne 7, 3) := by decide +kernel
theorem dX7_whole_7 : decode cX7_whole 7 = .ok (.iconst 1, 1) := by decide +kernel
theorem dX7_whole_8 : decode cX7_whole 8 = .ok (.goto 7, 3) := by decide +kernel
theorem dX7_whole_11 : decode cX7_whole 11 = .ok (.aload_n 0, 1) := by decide +kernel
theorem dX7_whole_12 : decode cX7_whole 12 = .ok (.invokevirtual 324, 3) := by decide +kernel
theorem dX7_whole_15 : decode cX7_whole 15 = .ok (.ireturn, 1) := by decide +kernel
theorem dX7_allRows_0 : decode cX7_allRows 0 = .ok (.lconst 1, 1) := by decide +kernel
theorem dX7_allRows_1 : decode cX7_allRows 1 = .ok (.lstore_n 2, 1) := by decide +kernel
theorem dX7_allRows_2 : decode cX7_allRows 2 = .ok (.iconst 0, 1) := by decide +kernel
theorem dX7_allRows_3 : decode cX7_allRows 3 = .ok (.istore 4, 2) := by decide +kernel
theorem dX7_allRows_5 : decode cX7_allRows 5 = .ok (.iload 4, 2) := by decide +kernel
theorem dX7_allRows_7 : decode cX7_allRows 7 = .ok (.iload_n 1, 1) := by decide +kernel
theorem dX7_allRows_8 : decode cX7_allRows 8 = .ok (.if_icmp .ge 17, 3) := by decide +kernel
theorem dX7_allRows_11 : decode cX7_allRows 11 = .ok (.lload_n 2, 1) := by decide +kernel
theorem dX7_allRows_12 : decode cX7_allRows 12 = .ok (.aload_n 0, 1) := by decide +kernel
theorem dX7_allRows_13 : decode cX7_allRows 13 = .ok (.invokevirtual 407, 3) := by decide +kernel
theorem dX7_allRows_16 : decode cX7_allRows 16 = .ok (.i2l, 1) := by decide +kernel
theorem dX7_allRows_17 : decode cX7_allRows 17 = .ok (.lmul, 1) := by decide +kernel
theorem dX7_allRows_18 : decode cX7_allRows 18 = .ok (.lstore_n 2, 1) := by decide +kernel
theorem dX7_allRows_19 : decode cX7_allRows 19 = .ok (.iinc 4 1, 3) := by decide +kernel
theorem dX7_allRows_22 : decode cX7_allRows 22 = .ok (.goto (-17), 3) := by decide +kernel
theorem dX7_allRows_25 : decode cX7_allRows 25 = .ok (.lload_n 2, 1) := by decide +kernel
theorem dX7_allRows_26 : decode cX7_allRows 26 = .ok (.lreturn, 1) := by decide +kernel
theorem dX7_hoped_0 : decode cX7_hoped 0 = .ok (.lconst 0, 1) := by decide +kernel
theorem dX7_hoped_1 : decode cX7_hoped 1 = .ok (.lstore_n 2, 1) := by decide +kernel
theorem dX7_hoped_2 : decode cX7_hoped 2 = .ok (.iconst 1, 1) := by decide +kernel
theorem dX7_hoped_3 : decode cX7_hoped 3 = .ok (.istore 4, 2) := by decide +kernel
theorem dX7_hoped_5 : decode cX7_hoped 5 = .ok (.iload 4, 2) := by decide +kernel
theorem dX7_hoped_7 : decode cX7_hoped 7 = .ok (.iload_n 1, 1) := by decide +kernel
theorem dX7_hoped_8 : decode cX7_hoped 8 = .ok (.if_icmp .gt 78, 3) := by decide +kernel
theorem dX7_hoped_11 : decode cX7_hoped 11 = .ok (.lconst 0, 1) := by decide +kernel
theorem dX7_hoped_12 : decode cX7_hoped 12 = .ok (.lstore 5, 2) := by decide +kernel
theorem dX7_hoped_14 : decode cX7_hoped 14 = .ok (.iconst 0, 1) := by decide +kernel
theorem dX7_hoped_15 : decode cX7_hoped 15 = .ok (.istore 7, 2) := by decide +kernel
theorem dX7_hoped_17 : decode cX7_hoped 17 = .ok (.iload 7, 2) := by decide +kernel
theorem dX7_hoped_19 : decode cX7_hoped 19 = .ok (.iconst 5, 1) := by decide +kernel
theorem dX7_hoped_20 : decode cX7_hoped 20 = .ok (.if_icmp .ge 57, 3) := by decide +kernel
theorem dX7_hoped_23 : decode cX7_hoped 23 = .ok (.aload_n 0, 1) := by decide +kernel
theorem dX7_hoped_24 : decode cX7_hoped 24 = .ok (.iload 4, 2) := by decide +kernel
theorem dX7_hoped_26 : decode cX7_hoped 26 = .ok (.iconst 1, 1) := by decide +kernel
theorem dX7_hoped_27 : decode cX7_hoped 27 = .ok (.isub, 1) := by decide +kernel
theorem dX7_hoped_28 : decode cX7_hoped 28 = .ok (.invokevirtual 410, 3) := by decide +kernel
theorem dX7_hoped_31 : decode cX7_hoped 31 = .ok (.aload_n 0, 1) := by decide +kernel
theorem dX7_hoped_32 : decode cX7_hoped 32 = .ok (.getfield 7, 3) := by decide +kernel
theorem dX7_hoped_35 : decode cX7_hoped 35 = .ok (.bipush 34, 2) := by decide +kernel
theorem dX7_hoped_37 : decode cX7_hoped 37 = .ok (.iload 7, 2) := by decide +kernel
theorem dX7_hoped_39 : decode cX7_hoped 39 = .ok (.iadd, 1) := by decide +kernel
theorem dX7_hoped_40 : decode cX7_hoped 40 = .ok (.iaload, 1) := by decide +kernel
theorem dX7_hoped_41 : decode cX7_hoped 41 = .ok (.i2l, 1) := by decide +kernel
theorem dX7_hoped_42 : decode cX7_hoped 42 = .ok (.lmul, 1) := by decide +kernel
theorem dX7_hoped_43 : decode cX7_hoped 43 = .ok (.lstore 8, 2) := by decide +kernel
theorem dX7_hoped_45 : decode cX7_hoped 45 = .ok (.lload 5, 2) := by decide +kernel
theorem dX7_hoped_47 : decode cX7_hoped 47 = .ok (.aload_n 0, 1) := by decide +kernel
theorem dX7_hoped_48 : decode cX7_hoped 48 = .ok (.iload 7, 2) := by decide +kernel
theorem dX7_hoped_50 : decode cX7_hoped 50 = .ok (.invokevirtual 414, 3) := by decide +kernel
theorem dX7_hoped_53 : decode cX7_hoped 53 = .ok (.i2l, 1) := by decide +kernel
theorem dX7_hoped_54 : decode cX7_hoped 54 = .ok (.lload 8, 2) := by decide +kernel
theorem dX7_hoped_56 : decode cX7_hoped 56 = .ok (.lload_n 2, 1) := by decide +kernel
theorem dX7_hoped_57 : decode cX7_hoped 57 = .ok (.lcmp, 1) := by decide +kernel
theorem dX7_hoped_58 : decode cX7_hoped 58 = .ok (.ifCond .le 8, 3) := by decide +kernel
theorem dX7_hoped_61 : decode cX7_hoped 61 = .ok (.lload 8, 2) := by decide +kernel
theorem dX7_hoped_63 : decode cX7_hoped 63 = .ok (.goto 4, 3) := by decide +kernel
theorem dX7_hoped_66 : decode cX7_hoped 66 = .ok (.lload_n 2, 1) := by decide +kernel
theorem dX7_hoped_67 : decode cX7_hoped 67 = .ok (.lmul, 1) := by decide +kernel
theorem dX7_hoped_68 : decode cX7_hoped 68 = .ok (.ladd, 1) := by decide +kernel
theorem dX7_hoped_69 : decode cX7_hoped 69 = .ok (.lstore 5, 2) := by decide +kernel
theorem dX7_hoped_71 : decode cX7_hoped 71 = .ok (.iinc 7 1, 3) := by decide +kernel
theorem dX7_hoped_74 : decode cX7_hoped 74 = .ok (.goto (-57), 3) := by decide +kernel
theorem dX7_hoped_77 : decode cX7_hoped 77 = .ok (.lload 5, 2) := by decide +kernel
theorem dX7_hoped_79 : decode cX7_hoped 79 = .ok (.lstore_n 2, 1) := by decide +kernel
theorem dX7_hoped_80 : decode cX7_hoped 80 = .ok (.iinc 4 1, 3) := by decide +kernel
theorem dX7_hoped_83 : decode cX7_hoped 83 = .ok (.goto (-78), 3) := by decide +kernel
theorem dX7_hoped_86 : decode cX7_hoped 86 = .ok (.lload_n 2, 1) := by decide +kernel
theorem dX7_hoped_87 : decode cX7_hoped 87 = .ok (.lreturn, 1) := by decide +kernel
theorem dX7_isHope_0 : decode cX7_isHope 0 = .ok (.iload_n 0, 1) := by decide +kernel
theorem dX7_isHope_1 : decode cX7_isHope 1 = .ok (.iconst 0, 1) := by decide +kernel
theorem dX7_isHope_2 : decode cX7_isHope 2 = .ok (.bipush 6, 2) := by decide +kernel
theorem dX7_isHope_4 : decode cX7_isHope 4 = .ok (.invokestatic 63, 3) := by decide +kernel
theorem dX7_isHope_7 : decode cX7_isHope 7 = .ok (.ireturn, 1) := by decide +kernel
theorem dX7_hope_0 : decode cX7_hope 0 = .ok (.iload_n 1, 1) := by decide +kernel
theorem dX7_hope_1 : decode cX7_hope 1 = .ok (.invokestatic 417, 3) := by decide +kernel
theorem dX7_hope_4 : decode cX7_hope 4 = .ok (.ifCond .eq 20, 3) := by decide +kernel
theorem dX7_hope_7 : decode cX7_hope 7 = .ok (.aload_n 0, 1) := by decide +kernel
theorem dX7_hope_8 : decode cX7_hope 8 = .ok (.iload_n 1, 1) := by decide +kernel
theorem dX7_hope_9 : decode cX7_hope 9 = .ok (.invokevirtual 420, 3) := by decide +kernel
theorem dX7_hope_12 : decode cX7_hope 12 = .ok (.aload_n 0, 1) := by decide +kernel
theorem dX7_hope_13 : decode cX7_hope 13 = .ok (.iload_n 1, 1) := by decide +kernel
theorem dX7_hope_14 : decode cX7_hope 14 = .ok (.invokevirtual 410, 3) := by decide +kernel
theorem dX7_hope_17 : decode cX7_hope 17 = .ok (.iload_n 2, 1) := by decide +kernel
theorem dX7_hope_18 : decode cX7_hope 18 = .ok (.invokestatic 393, 3) := by decide +kernel
theorem dX7_hope_21 : decode cX7_hope 21 = .ok (.goto 6, 3) := by decide +kernel
theorem dX7_hope_24 : decode cX7_hope 24 = .ok (.ldc2_w 391, 3) := by decide +kernel
theorem dX7_hope_27 : decode cX7_hope 27 = .ok (.lreturn, 1) := by decide +kernel
theorem dX7_keep_0 : decode cX7_keep 0 = .ok (.iload_n 1, 1) := by decide +kernel
theorem dX7_keep_1 : decode cX7_keep 1 = .ok (.invokestatic 417, 3) := by decide +kernel
theorem dX7_keep_4 : decode cX7_keep 4 = .ok (.ifCond .eq 38, 3) := by decide +kernel
theorem dX7_keep_7 : decode cX7_keep 7 = .ok (.aload_n 0, 1) := by decide +kernel
theorem dX7_keep_8 : decode cX7_keep 8 = .ok (.iload_n 1, 1) := by decide +kernel
theorem dX7_keep_9 : decode cX7_keep 9 = .ok (.invokevirtual 420, 3) := by decide +kernel
theorem dX7_keep_12 : decode cX7_keep 12 = .ok (.aload_n 0, 1) := by decide +kernel
theorem dX7_keep_13 : decode cX7_keep 13 = .ok (.iload_n 1, 1) := by decide +kernel
theorem dX7_keep_14 : decode cX7_keep 14 = .ok (.invokevirtual 410, 3) := by decide +kernel
theorem dX7_keep_17 : decode cX7_keep 17 = .ok (.aload_n 0, 1) := by decide +kernel
theorem dX7_keep_18 : decode cX7_keep 18 = .ok (.getfield 7, 3) := by decide +kernel
theorem dX7_keep_21 : decode cX7_keep 21 = .ok (.bipush 34, 2) := by decide +kernel
theorem dX7_keep_23 : decode cX7_keep 23 = .ok (.aload_n 0, 1) := by decide +kernel
theorem dX7_keep_24 : decode cX7_keep 24 = .ok (.getfield 7, 3) := by decide +kernel
theorem dX7_keep_27 : decode cX7_keep 27 = .ok (.bipush 9, 2) := by decide +kernel
theorem dX7_keep_29 : decode cX7_keep 29 = .ok (.iaload, 1) := by decide +kernel
theorem dX7_keep_30 : decode cX7_keep 30 = .ok (.iadd, 1) := by decide +kernel
theorem dX7_keep_31 : decode cX7_keep 31 = .ok (.iaload, 1) := by decide +kernel
theorem dX7_keep_32 : decode cX7_keep 32 = .ok (.i2l, 1) := by decide +kernel
theorem dX7_keep_33 : decode cX7_keep 33 = .ok (.lmul, 1) := by decide +kernel
theorem dX7_keep_34 : decode cX7_keep 34 = .ok (.lcmp, 1) := by decide +kernel
theorem dX7_keep_35 : decode cX7_keep 35 = .ok (.ifCond .le 7, 3) := by decide +kernel
theorem dX7_keep_38 : decode cX7_keep 38 = .ok (.iconst 1, 1) := by decide +kernel
theorem dX7_keep_39 : decode cX7_keep 39 = .ok (.goto 4, 3) := by decide +kernel
theorem dX7_keep_42 : decode cX7_keep 42 = .ok (.iconst 0, 1) := by decide +kernel
theorem dX7_keep_43 : decode cX7_keep 43 = .ok (.ireturn, 1) := by decide +kernel
theorem dX7_chance_0 : decode cX7_chance 0 = .ok (.iload_n 1, 1) := by decide +kernel
theorem dX7_chance_1 : decode cX7_chance 1 = .ok (.invokestatic 81, 3) := by decide +kernel
theorem dX7_chance_4 : decode cX7_chance 4 = .ok (.ifCond .eq 21, 3) := by decide +kernel
theorem dX7_chance_7 : decode cX7_chance 7 = .ok (.aload_n 0, 1) := by decide +kernel
theorem dX7_chance_8 : decode cX7_chance 8 = .ok (.iload_n 1, 1) := by decide +kernel
theorem dX7_chance_9 : decode cX7_chance 9 = .ok (.invokevirtual 414, 3) := by decide +kernel
theorem dX7_chance_12 : decode cX7_chance 12 = .ok (.i2l, 1) := by decide +kernel
theorem dX7_chance_13 : decode cX7_chance 13 = .ok (.aload_n 0, 1) := by decide +kernel
theorem dX7_chance_14 : decode cX7_chance 14 = .ok (.invokevirtual 407, 3) := by decide +kernel
theorem dX7_chance_17 : decode cX7_chance 17 = .ok (.i2l, 1) := by decide +kernel
theorem dX7_chance_18 : decode cX7_chance 18 = .ok (.iload_n 2, 1) := by decide +kernel
theorem dX7_chance_19 : decode cX7_chance 19 = .ok (.invokestatic 393, 3) := by decide +kernel
theorem dX7_chance_22 : decode cX7_chance 22 = .ok (.goto 6, 3) := by decide +kernel
theorem dX7_chance_25 : decode cX7_chance 25 = .ok (.ldc2_w 391, 3) := by decide +kernel
theorem dX7_chance_28 : decode cX7_chance 28 = .ok (.lreturn, 1) := by decide +kernel
theorem dX7_first_0 : decode cX7_first 0 = .ok (.iload_n 1, 1) := by decide +kernel
theorem dX7_first_1 : decode cX7_first 1 = .ok (.invokestatic 81, 3) := by decide +kernel
theorem dX7_first_4 : decode cX7_first 4 = .ok (.ifCond .ne 5, 3) := by decide +kernel
theorem dX7_first_7 : decode cX7_first 7 = .ok (.iconst (-1), 1) := by decide +kernel
theorem dX7_first_8 : decode cX7_first 8 = .ok (.ireturn, 1) := by decide +kernel
theorem dX7_first_9 : decode cX7_first 9 = .ok (.lconst 1, 1) := by decide +kernel
theorem dX7_first_10 : decode cX7_first 10 = .ok (.lstore_n 2, 1) := by decide +kernel
theorem dX7_first_11 : decode cX7_first 11 = .ok (.iconst 1, 1) := by decide +kernel
theorem dX7_first_12 : decode cX7_first 12 = .ok (.istore 4, 2) := by decide +kernel
theorem dX7_first_14 : decode cX7_first 14 = .ok (.iload 4, 2) := by decide +kernel
theorem dX7_first_16 : decode cX7_first 16 = .ok (.bipush 10, 2) := by decide +kernel
theorem dX7_first_18 : decode cX7_first 18 = .ok (.if_icmp .gt 41, 3) := by decide +kernel
theorem dX7_first_21 : decode cX7_first 21 = .ok (.lload_n 2, 1) := by decide +kernel
theorem dX7_first_22 : decode cX7_first 22 = .ok (.aload_n 0, 1) := by decide +kernel
theorem dX7_first_23 : decode cX7_first 23 = .ok (.invokevirtual 407, 3) := by decide +kernel
theorem dX7_first_26 : decode cX7_first 26 = .ok (.aload_n 0, 1) := by decide +kernel
theorem dX7_first_27 : decode cX7_first 27 = .ok (.iload_n 1, 1) := by decide +kernel
theorem dX7_first_28 : decode cX7_first 28 = .ok (.invokevirtual 414, 3) := by decide +kernel
theorem dX7_first_31 : decode cX7_first 31 = .ok (.isub, 1) := by decide +kernel
theorem dX7_first_32 : decode cX7_first 32 = .ok (.i2l, 1) := by decide +kernel
theorem dX7_first_33 : decode cX7_first 33 = .ok (.lmul, 1) := by decide +kernel
theorem dX7_first_34 : decode cX7_first 34 = .ok (.lstore_n 2, 1) := by decide +kernel
theorem dX7_first_35 : decode cX7_first 35 = .ok (.ldc2_w 423, 3) := by decide +kernel
theorem dX7_first_38 : decode cX7_first 38 = .ok (.lload_n 2, 1) := by decide +kernel
theorem dX7_first_39 : decode cX7_first 39 = .ok (.lmul, 1) := by decide +kernel
theorem dX7_first_40 : decode cX7_first 40 = .ok (.aload_n 0, 1) := by decide +kernel
theorem dX7_first_41 : decode cX7_first 41 = .ok (.iload 4, 2) := by decide +kernel
theorem dX7_first_43 : decode cX7_first 43 = .ok (.invokevirtual 410, 3) := by decide +kernel
theorem dX7_first_46 : decode cX7_first 46 = .ok (.lcmp, 1) := by decide +kernel
theorem dX7_first_47 : decode cX7_first 47 = .ok (.ifCond .gt 6, 3) := by decide +kernel
theorem dX7_first_50 : decode cX7_first 50 = .ok (.iload 4, 2) := by decide +kernel
theorem dX7_first_52 : decode cX7_first 52 = .ok (.ireturn, 1) := by decide +kernel
theorem dX7_first_53 : decode cX7_first 53 = .ok (.iinc 4 1, 3) := by decide +kernel
theorem dX7_first_56 : decode cX7_first 56 = .ok (.goto (-42), 3) := by decide +kernel
theorem dX7_first_59 : decode cX7_first 59 = .ok (.iconst (-1), 1) := by decide +kernel
theorem dX7_first_60 : decode cX7_first 60 = .ok (.ireturn, 1) := by decide +kernel
theorem dX7_paid_0 : decode cX7_paid 0 = .ok (.iload_n 1, 1) := by decide +kernel
theorem dX7_paid_1 : decode cX7_paid 1 = .ok (.iconst (-1), 1) := by decide +kernel
theorem dX7_paid_2 : decode cX7_paid 2 = .ok (.if_icmp .ne 36, 3) := by decide +kernel
theorem dX7_paid_5 : decode cX7_paid 5 = .ok (.iconst 0, 1) := by decide +kernel
theorem dX7_paid_6 : decode cX7_paid 6 = .ok (.istore_n 3, 1) := by decide +kernel
theorem dX7_paid_7 : decode cX7_paid 7 = .ok (.iload_n 3, 1) := by decide +kernel
theorem dX7_paid_8 : decode cX7_paid 8 = .ok (.bipush 6, 2) := by decide +kernel
theorem dX7_paid_10 : decode cX7_paid 10 = .ok (.if_icmp .ge 19, 3) := by decide +kernel
theorem dX7_paid_13 : decode cX7_paid 13 = .ok (.aload_n 0, 1) := by decide +kernel
theorem dX7_paid_14 : decode cX7_paid 14 = .ok (.getfield 7, 3) := by decide +kernel
theorem dX7_paid_17 : decode cX7_paid 17 = .ok (.bipush 63, 2) := by decide +kernel
theorem dX7_paid_19 : decode cX7_paid 19 = .ok (.iload_n 3, 1) := by decide +kernel
theorem dX7_paid_20 : decode cX7_paid 20 = .ok (.iadd, 1) := by decide +kernel
theorem dX7_paid_21 : decode cX7_paid 21 = .ok (.iconst 0, 1) := by decide +kernel
theorem dX7_paid_22 : decode cX7_paid 22 = .ok (.iastore, 1) := by decide +kernel
theorem dX7_paid_23 : decode cX7_paid 23 = .ok (.iinc 3 1, 3) := by decide +kernel
theorem dX7_paid_26 : decode cX7_paid 26 = .ok (.goto (-19), 3) := by decide +kernel
theorem dX7_paid_29 : decode cX7_paid 29 = .ok (.aload_n 0, 1) := by decide +kernel
theorem dX7_paid_30 : decode cX7_paid 30 = .ok (.getfield 7, 3) := by decide +kernel
theorem dX7_paid_33 : decode cX7_paid 33 = .ok (.iconst 4, 1) := by decide +kernel
theorem dX7_paid_34 : decode cX7_paid 34 = .ok (.iconst 0, 1) := by decide +kernel
theorem dX7_paid_35 : decode cX7_paid 35 = .ok (.iastore, 1) := by decide +kernel
theorem dX7_paid_36 : decode cX7_paid 36 = .ok (.iconst 0, 1) := by decide +kernel
theorem dX7_paid_37 : decode cX7_paid 37 = .ok (.ireturn, 1) := by decide +kernel
theorem dX7_paid_38 : decode cX7_paid 38 = .ok (.aload_n 0, 1) := by decide +kernel
theorem dX7_paid_39 : decode cX7_paid 39 = .ok (.iload_n 1, 1) := by decide +kernel
theorem dX7_paid_40 : decode cX7_paid 40 = .ok (.invokevirtual 308, 3) := by decide +kernel
theorem dX7_paid_43 : decode cX7_paid 43 = .ok (.ifCond .eq 15, 3) := by decide +kernel
theorem dX7_paid_46 : decode cX7_paid 46 = .ok (.aload_n 0, 1) := by decide +kernel
theorem dX7_paid_47 : decode cX7_paid 47 = .ok (.getfield 7, 3) := by decide +kernel
theorem dX7_paid_50 : decode cX7_paid 50 = .ok (.bipush 63, 2) := by decide +kernel
theorem dX7_paid_52 : decode cX7_paid 52 = .ok (.iload_n 1, 1) := by decide +kernel
theorem dX7_paid_53 : decode cX7_paid 53 = .ok (.iadd, 1) := by decide +kernel
theorem dX7_paid_54 : decode cX7_paid 54 = .ok (.iaload, 1) := by decide +kernel
theorem dX7_paid_55 : decode cX7_paid 55 = .ok (.ifCond .eq 6, 3) := by decide +kernel
theorem dX7_paid_58 : decode cX7_paid 58 = .ok (.bipush (-2), 2) := by decide +kernel
theorem dX7_paid_60 : decode cX7_paid 60 = .ok (.ireturn, 1) := by decide +kernel
theorem dX7_paid_61 : decode cX7_paid 61 = .ok (.aload_n 0, 1) := by decide +kernel
theorem dX7_paid_62 : decode cX7_paid 62 = .ok (.getfield 7, 3) := by decide +kernel
theorem dX7_paid_65 : decode cX7_paid 65 = .ok (.bipush 63, 2) := by decide +kernel
theorem dX7_paid_67 : decode cX7_paid 67 = .ok (.iload_n 1, 1) := by decide +kernel
theorem dX7_paid_68 : decode cX7_paid 68 = .ok (.iadd, 1) := by decide +kernel
theorem dX7_paid_69 : decode cX7_paid 69 = .ok (.iload_n 2, 1) := by decide +kernel
theorem dX7_paid_70 : decode cX7_paid 70 = .ok (.ifCond .eq 7, 3) := by decide +kernel
theorem dX7_paid_73 : decode cX7_paid 73 = .ok (.iconst 1, 1) := by decide +kernel
theorem dX7_paid_74 : decode cX7_paid 74 = .ok (.goto 4, 3) := by decide +kernel
theorem dX7_paid_77 : decode cX7_paid 77 = .ok (.iconst 2, 1) := by decide +kernel
theorem dX7_paid_78 : decode cX7_paid 78 = .ok (.iastore, 1) := by decide +kernel
theorem dX7_paid_79 : decode cX7_paid 79 = .ok (.aload_n 0, 1) := by decide +kernel
theorem dX7_paid_80 : decode cX7_paid 80 = .ok (.getfield 7, 3) := by decide +kernel
theorem dX7_paid_83 : decode cX7_paid 83 = .ok (.iconst 4, 1) := by decide +kernel
theorem dX7_paid_84 : decode cX7_paid 84 = .ok (.dup2, 1) := by decide +kernel
theorem dX7_paid_85 : decode cX7_paid 85 = .ok (.iaload, 1) := by decide +kernel
theorem dX7_paid_86 : decode cX7_paid 86 = .ok (.iconst 1, 1) := by decide +kernel
theorem dX7_paid_87 : decode cX7_paid 87 = .ok (.iadd, 1) := by decide +kernel
theorem dX7_paid_88 : decode cX7_paid 88 = .ok (.iastore, 1) := by decide +kernel
theorem dX7_paid_89 : decode cX7_paid 89 = .ok (.aload_n 0, 1) := by decide +kernel
theorem dX7_paid_90 : decode cX7_paid 90 = .ok (.getfield 7, 3) := by decide +kernel
theorem dX7_paid_93 : decode cX7_paid 93 = .ok (.iconst 4, 1) := by decide +kernel
theorem dX7_paid_94 : decode cX7_paid 94 = .ok (.iaload, 1) := by decide +kernel
theorem dX7_paid_95 : decode cX7_paid 95 = .ok (.ireturn, 1) := by decide +kernel
theorem dX7_doesFit_0 : decode cX7_doesFit 0 = .ok (.aload_n 0, 1) := by decide +kernel
theorem dX7_doesFit_1 : decode cX7_doesFit 1 = .ok (.iload_n 1, 1) := by decide +kernel
theorem dX7_doesFit_2 : decode cX7_doesFit 2 = .ok (.invokevirtual 414, 3) := by decide +kernel
theorem dX7_doesFit_5 : decode cX7_doesFit 5 = .ok (.ifCond .ne 5, 3) := by decide +kernel
theorem dX7_doesFit_8 : decode cX7_doesFit 8 = .ok (.iconst 0, 1) := by decide +kernel
theorem dX7_doesFit_9 : decode cX7_doesFit 9 = .ok (.ireturn, 1) := by decide +kernel
theorem dX7_doesFit_10 : decode cX7_doesFit 10 = .ok (.iconst 0, 1) := by decide +kernel
theorem dX7_doesFit_11 : decode cX7_doesFit 11 = .ok (.istore_n 2, 1) := by decide +kernel
theorem dX7_doesFit_12 : decode cX7_doesFit 12 = .ok (.iload_n 2, 1) := by decide +kernel
theorem dX7_doesFit_13 : decode cX7_doesFit 13 = .ok (.aload_n 0, 1) := by decide +kernel
theorem dX7_doesFit_14 : decode cX7_doesFit 14 = .ok (.getfield 7, 3) := by decide +kernel
theorem dX7_doesFit_17 : decode cX7_doesFit 17 = .ok (.iconst 0, 1) := by decide +kernel
theorem dX7_doesFit_18 : decode cX7_doesFit 18 = .ok (.iaload, 1) := by decide +kernel
theorem dX7_doesFit_19 : decode cX7_doesFit 19 = .ok (.if_icmp .ge 50, 3) := by decide +kernel
theorem dX7_doesFit_22 : decode cX7_doesFit 22 = .ok (.aload_n 0, 1) := by decide +kernel
theorem dX7_doesFit_23 : decode cX7_doesFit 23 = .ok (.getfield 7, 3) := by decide +kernel
theorem dX7_doesFit_26 : decode cX7_doesFit 26 = .ok (.bipush 63, 2) := by decide +kernel
theorem dX7_doesFit_28 : decode cX7_doesFit 28 = .ok (.iload_n 2, 1) := by decide +kernel
theorem dX7_doesFit_29 : decode cX7_doesFit 29 = .ok (.iadd, 1) := by decide +kernel
theorem dX7_doesFit_30 : decode cX7_doesFit 30 = .ok (.iaload, 1) := by decide +kernel
theorem dX7_doesFit_31 : decode cX7_doesFit 31 = .ok (.ifCond .eq 32, 3) := by decide +kernel
theorem dX7_doesFit_34 : decode cX7_doesFit 34 = .ok (.aload_n 0, 1) := by decide +kernel
theorem dX7_doesFit_35 : decode cX7_doesFit 35 = .ok (.iload_n 2, 1) := by decide +kernel
theorem dX7_doesFit_36 : decode cX7_doesFit 36 = .ok (.iload_n 1, 1) := by decide +kernel
theorem dX7_doesFit_37 : decode cX7_doesFit 37 = .ok (.invokevirtual 283, 3) := by decide +kernel
theorem dX7_doesFit_40 : decode cX7_doesFit 40 = .ok (.aload_n 0, 1) := by decide +kernel
theorem dX7_doesFit_41 : decode cX7_doesFit 41 = .ok (.getfield 7, 3) := by decide +kernel
theorem dX7_doesFit_44 : decode cX7_doesFit 44 = .ok (.bipush 63, 2) := by decide +kernel
theorem dX7_doesFit_46 : decode cX7_doesFit 46 = .ok (.iload_n 2, 1) := by decide +kernel
theorem dX7_doesFit_47 : decode cX7_doesFit 47 = .ok (.iadd, 1) := by decide +kernel
theorem dX7_doesFit_48 : decode cX7_doesFit 48 = .ok (.iaload, 1) := by decide +kernel
theorem dX7_doesFit_49 : decode cX7_doesFit 49 = .ok (.iconst 1, 1) := by decide +kernel
theorem dX7_doesFit_50 : decode cX7_doesFit 50 = .ok (.if_icmp .ne 7, 3) := by decide +kernel
theorem dX7_doesFit_53 : decode cX7_doesFit 53 = .ok (.iconst 1, 1) := by decide +kernel
theorem dX7_doesFit_54 : decode cX7_doesFit 54 = .ok (.goto 4, 3) := by decide +kernel
theorem dX7_doesFit_57 : decode cX7_doesFit 57 = .ok (.iconst 0, 1) := by decide +kernel
theorem dX7_doesFit_58 : decode cX7_doesFit 58 = .ok (.if_icmp .eq 5, 3) := by decide +kernel
theorem dX7_doesFit_61 : decode cX7_doesFit 61 = .ok (.iconst 0, 1) := by decide +kernel
theorem dX7_doesFit_62 : decode cX7_doesFit 62 = .ok (.ireturn, 1) := by decide +kernel
theorem dX7_doesFit_63 : decode cX7_doesFit 63 = .ok (.iinc 2 1, 3) := by decide +kernel
theorem dX7_doesFit_66 : decode cX7_doesFit 66 = .ok (.goto (-54), 3) := by decide +kernel
theorem dX7_doesFit_69 : decode cX7_doesFit 69 = .ok (.iconst 1, 1) := by decide +kernel
theorem dX7_doesFit_70 : decode cX7_doesFit 70 = .ok (.ireturn, 1) := by decide +kernel
theorem dX7_fitting_0 : decode cX7_fitting 0 = .ok (.iconst 0, 1) := by decide +kernel
theorem dX7_fitting_1 : decode cX7_fitting 1 = .ok (.istore_n 1, 1) := by decide +kernel
theorem dX7_fitting_2 : decode cX7_fitting 2 = .ok (.iconst 0, 1) := by decide +kernel
theorem dX7_fitting_3 : decode cX7_fitting 3 = .ok (.istore_n 2, 1) := by decide +kernel
theorem dX7_fitting_4 : decode cX7_fitting 4 = .ok (.iload_n 2, 1) := by decide +kernel
theorem dX7_fitting_5 : decode cX7_fitting 5 = .ok (.iconst 5, 1) := by decide +kernel
theorem dX7_fitting_6 : decode cX7_fitting 6 = .ok (.if_icmp .ge 27, 3) := by decide +kernel
theorem dX7_fitting_9 : decode cX7_fitting 9 = .ok (.iload_n 1, 1) := by decide +kernel
theorem dX7_fitting_10 : decode cX7_fitting 10 = .ok (.aload_n 0, 1) := by decide +kernel
theorem dX7_fitting_11 : decode cX7_fitting 11 = .ok (.iload_n 2, 1) := by decide +kernel
theorem dX7_fitting_12 : decode cX7_fitting 12 = .ok (.invokevirtual 425, 3) := by decide +kernel
theorem dX7_fitting_15 : decode cX7_fitting 15 = .ok (.ifCond .eq 9, 3) := by decide +kernel
theorem dX7_fitting_18 : decode cX7_fitting 18 = .ok (.iconst 1, 1) := by decide +kernel
theorem dX7_fitting_19 : decode cX7_fitting 19 = .ok (.iload_n 2, 1) := by decide +kernel
theorem dX7_fitting_20 : decode cX7_fitting 20 = .ok (.ishl, 1) := by decide +kernel
theorem dX7_fitting_21 : decode cX7_fitting 21 = .ok (.goto 4, 3) := by decide +kernel
theorem dX7_fitting_24 : decode cX7_fitting 24 = .ok (.iconst 0, 1) := by decide +kernel
theorem dX7_fitting_25 : decode cX7_fitting 25 = .ok (.ior, 1) := by decide +kernel
theorem dX7_fitting_26 : decode cX7_fitting 26 = .ok (.istore_n 1, 1) := by decide +kernel
theorem dX7_fitting_27 : decode cX7_fitting 27 = .ok (.iinc 2 1, 3) := by decide +kernel
theorem dX7_fitting_30 : decode cX7_fitting 30 = .ok (.goto (-26), 3) := by decide +kernel
theorem dX7_fitting_33 : decode cX7_fitting 33 = .ok (.iload_n 1, 1) := by decide +kernel
theorem dX7_fitting_34 : decode cX7_fitting 34 = .ok (.ireturn, 1) := by decide +kernel
theorem dX7_was_0 : decode cX7_was 0 = .ok (.aload_n 0, 1) := by decide +kernel
theorem dX7_was_1 : decode cX7_was 1 = .ok (.invokevirtual 428, 3) := by decide +kernel
theorem dX7_was_4 : decode cX7_was 4 = .ok (.ireturn, 1) := by decide +kernel
theorem dX7_oddsOfSet_0 : decode cX7_oddsOfSet 0 = .ok (.iconst 0, 1) := by decide +kernel
theorem dX7_oddsOfSet_1 : decode cX7_oddsOfSet 1 = .ok (.istore_n 2, 1) := by decide +kernel
theorem dX7_oddsOfSet_2 : decode cX7_oddsOfSet 2 = .ok (.iconst 0, 1) := by decide +kernel
theorem dX7_oddsOfSet_3 : decode cX7_oddsOfSet 3 = .ok (.istore_n 3, 1) := by decide +kernel
theorem dX7_oddsOfSet_4 : decode cX7_oddsOfSet 4 = .ok (.iload_n 3, 1) := by decide +kernel
theorem dX7_oddsOfSet_5 : decode cX7_oddsOfSet 5 = .ok (.iconst 5, 1) := by decide +kernel
theorem dX7_oddsOfSet_6 : decode cX7_oddsOfSet 6 = .ok (.if_icmp .ge 29, 3) := by decide +kernel
theorem dX7_oddsOfSet_9 : decode cX7_oddsOfSet 9 = .ok (.iload_n 2, 1) := by decide +kernel
theorem dX7_oddsOfSet_10 : decode cX7_oddsOfSet 10 = .ok (.iload_n 1, 1) := by decide +kernel
theorem dX7_oddsOfSet_11 : decode cX7_oddsOfSet 11 = .ok (.iload_n 3, 1) := by decide +kernel
theorem dX7_oddsOfSet_12 : decode cX7_oddsOfSet 12 = .ok (.invokestatic 67, 3) := by decide +kernel
theorem dX7_oddsOfSet_15 : decode cX7_oddsOfSet 15 = .ok (.ifCond .eq 11, 3) := by decide +kernel
theorem dX7_oddsOfSet_18 : decode cX7_oddsOfSet 18 = .ok (.aload_n 0, 1) := by decide +kernel
theorem dX7_oddsOfSet_19 : decode cX7_oddsOfSet 19 = .ok (.iload_n 3, 1) := by decide +kernel
theorem dX7_oddsOfSet_20 : decode cX7_oddsOfSet 20 = .ok (.invokevirtual 414, 3) := by decide +kernel
theorem dX7_oddsOfSet_23 : decode cX7_oddsOfSet 23 = .ok (.goto 4, 3) := by decide +kernel
theorem dX7_oddsOfSet_26 : decode cX7_oddsOfSet 26 = .ok (.iconst 0, 1) := by decide +kernel
theorem dX7_oddsOfSet_27 : decode cX7_oddsOfSet 27 = .ok (.iadd, 1) := by decide +kernel
theorem dX7_oddsOfSet_28 : decode cX7_oddsOfSet 28 = .ok (.istore_n 2, 1) := by decide +kernel
theorem dX7_oddsOfSet_29 : decode cX7_oddsOfSet 29 = .ok (.iinc 3 1, 3) := by decide +kernel
theorem dX7_oddsOfSet_32 : decode cX7_oddsOfSet 32 = .ok (.goto (-28), 3) := by decide +kernel
theorem dX7_oddsOfSet_35 : decode cX7_oddsOfSet 35 = .ok (.iload_n 2, 1) := by decide +kernel
theorem dX7_oddsOfSet_36 : decode cX7_oddsOfSet 36 = .ok (.ireturn, 1) := by decide +kernel
theorem dX7_likeliestNow_0 : decode cX7_likeliestNow 0 = .ok (.iconst (-1), 1) := by decide +kernel
theorem dX7_likeliestNow_1 : decode cX7_likeliestNow 1 = .ok (.istore_n 1, 1) := by decide +kernel
theorem dX7_likeliestNow_2 : decode cX7_likeliestNow 2 = .ok (.iconst 0, 1) := by decide +kernel
theorem dX7_likeliestNow_3 : decode cX7_likeliestNow 3 = .ok (.istore_n 2, 1) := by decide +kernel
theorem dX7_likeliestNow_4 : decode cX7_likeliestNow 4 = .ok (.iload_n 2, 1) := by decide +kernel
theorem dX7_likeliestNow_5 : decode cX7_likeliestNow 5 = .ok (.iconst 5, 1) := by decide +kernel
theorem dX7_likeliestNow_6 : decode cX7_likeliestNow 6 = .ok (.if_icmp .ge 37, 3) := by decide +kernel
theorem dX7_likeliestNow_9 : decode cX7_likeliestNow 9 = .ok (.aload_n 0, 1) := by decide +kernel
theorem dX7_likeliestNow_10 : decode cX7_likeliestNow 10 = .ok (.iload_n 2, 1) := by decide +kernel
theorem dX7_likeliestNow_11 : decode cX7_likeliestNow 11 = .ok (.invokevirtual 425, 3) := by decide +kernel
theorem dX7_likeliestNow_14 : decode cX7_likeliestNow 14 = .ok (.ifCond .eq 23, 3) := by decide +kernel
theorem dX7_likeliestNow_17 : decode cX7_likeliestNow 17 = .ok (.iload_n 1, 1) := by decide +kernel
theorem dX7_likeliestNow_18 : decode cX7_likeliestNow 18 = .ok (.iconst (-1), 1) := by decide +kernel
theorem dX7_likeliestNow_19 : decode cX7_likeliestNow 19 = .ok (.if_icmp .eq 16, 3) := by decide +kernel
theorem dX7_likeliestNow_22 : decode cX7_likeliestNow 22 = .ok (.aload_n 0, 1) := by decide +kernel
theorem dX7_likeliestNow_23 : decode cX7_likeliestNow 23 = .ok (.iload_n 2, 1) := by decide +kernel
theorem dX7_likeliestNow_24 : decode cX7_likeliestNow 24 = .ok (.invokevirtual 414, 3) := by decide +kernel
theorem dX7_likeliestNow_27 : decode cX7_likeliestNow 27 = .ok (.aload_n 0, 1) := by decide +kernel
theorem dX7_likeliestNow_28 : decode cX7_likeliestNow 28 = .ok (.iload_n 1, 1) := by decide +kernel
theorem dX7_likeliestNow_29 : decode cX7_likeliestNow 29 = .ok (.invokevirtual 414, 3) := by decide +kernel
theorem dX7_likeliestNow_32 : decode cX7_likeliestNow 32 = .ok (.if_icmp .le 5, 3) := by decide +kernel
theorem dX7_likeliestNow_35 : decode cX7_likeliestNow 35 = .ok (.iload_n 2, 1) := by decide +kernel
theorem dX7_likeliestNow_36 : decode cX7_likeliestNow 36 = .ok (.istore_n 1, 1) := by decide +kernel
theorem dX7_likeliestNow_37 : decode cX7_likeliestNow 37 = .ok (.iinc 2 1, 3) := by decide +kernel
theorem dX7_likeliestNow_40 : decode cX7_likeliestNow 40 = .ok (.goto (-36), 3) := by decide +kernel
theorem dX7_likeliestNow_43 : decode cX7_likeliestNow 43 = .ok (.iload_n 1, 1) := by decide +kernel
theorem dX7_likeliestNow_44 : decode cX7_likeliestNow 44 = .ok (.ireturn, 1) := by decide +kernel
theorem dX7_likeliest_0 : decode cX7_likeliest 0 = .ok (.aload_n 0, 1) := by decide +kernel
theorem dX7_likeliest_1 : decode cX7_likeliest 1 = .ok (.invokevirtual 431, 3) := by decide +kernel
theorem dX7_likeliest_4 : decode cX7_likeliest 4 = .ok (.ireturn, 1) := by decide +kernel
theorem dX7_surest_0 : decode cX7_surest 0 = .ok (.aload_n 0, 1) := by decide +kernel
theorem dX7_surest_1 : decode cX7_surest 1 = .ok (.invokevirtual 431, 3) := by decide +kernel
theorem dX7_surest_4 : decode cX7_surest 4 = .ok (.istore_n 2, 1) := by decide +kernel
theorem dX7_surest_5 : decode cX7_surest 5 = .ok (.iload_n 2, 1) := by decide +kernel
theorem dX7_surest_6 : decode cX7_surest 6 = .ok (.iconst (-1), 1) := by decide +kernel
theorem dX7_surest_7 : decode cX7_surest 7 = .ok (.if_icmp .ne 15, 3) := by decide +kernel
theorem dX7_surest_10 : decode cX7_surest 10 = .ok (.iload_n 1, 1) := by decide +kernel
theorem dX7_surest_11 : decode cX7_surest 11 = .ok (.ifCond .eq 7, 3) := by decide +kernel
theorem dX7_surest_14 : decode cX7_surest 14 = .ok (.lconst 1, 1) := by decide +kernel
theorem dX7_surest_15 : decode cX7_surest 15 = .ok (.goto 26, 3) := by decide +kernel
theorem dX7_surest_18 : decode cX7_surest 18 = .ok (.lconst 0, 1) := by decide +kernel
theorem dX7_surest_19 : decode cX7_surest 19 = .ok (.goto 22, 3) := by decide +kernel
theorem dX7_surest_22 : decode cX7_surest 22 = .ok (.aload_n 0, 1) := by decide +kernel
theorem dX7_surest_23 : decode cX7_surest 23 = .ok (.iload_n 2, 1) := by decide +kernel
theorem dX7_surest_24 : decode cX7_surest 24 = .ok (.invokevirtual 414, 3) := by decide +kernel
theorem dX7_surest_27 : decode cX7_surest 27 = .ok (.i2l, 1) := by decide +kernel
theorem dX7_surest_28 : decode cX7_surest 28 = .ok (.aload_n 0, 1) := by decide +kernel
theorem dX7_surest_29 : decode cX7_surest 29 = .ok (.aload_n 0, 1) := by decide +kernel
theorem dX7_surest_30 : decode cX7_surest 30 = .ok (.invokevirtual 428, 3) := by decide +kernel
theorem dX7_surest_33 : decode cX7_surest 33 = .ok (.invokevirtual 434, 3) := by decide +kernel
theorem dX7_surest_36 : decode cX7_surest 36 = .ok (.i2l, 1) := by decide +kernel
theorem dX7_surest_37 : decode cX7_surest 37 = .ok (.iload_n 1, 1) := by decide +kernel
theorem dX7_surest_38 : decode cX7_surest 38 = .ok (.invokestatic 393, 3) := by decide +kernel
theorem dX7_surest_41 : decode cX7_surest 41 = .ok (.lreturn, 1) := by decide +kernel
theorem dX7_greaterPart_0 : decode cX7_greaterPart 0 = .ok (.aload_n 0, 1) := by decide +kernel
theorem dX7_greaterPart_1 : decode cX7_greaterPart 1 = .ok (.aload_n 0, 1) := by decide +kernel
theorem dX7_greaterPart_2 : decode cX7_greaterPart 2 = .ok (.invokevirtual 428, 3) := by decide +kernel
theorem dX7_greaterPart_5 : decode cX7_greaterPart 5 = .ok (.aload_n 0, 1) := by decide +kernel
theorem dX7_greaterPart_6 : decode cX7_greaterPart 6 = .ok (.getfield 7, 3) := by decide +kernel
theorem dX7_greaterPart_9 : decode cX7_greaterPart 9 = .ok (.bipush 39, 2) := by decide +kernel
theorem dX7_greaterPart_11 : decode cX7_greaterPart 11 = .ok (.iload_n 1, 1) := by decide +kernel
theorem dX7_greaterPart_12 : decode cX7_greaterPart 12 = .ok (.iadd, 1) := by decide +kernel
theorem dX7_greaterPart_13 : decode cX7_greaterPart 13 = .ok (.iaload, 1) := by decide +kernel
theorem dX7_greaterPart_14 : decode cX7_greaterPart 14 = .ok (.iand, 1) := by decide +kernel
theorem dX7_greaterPart_15 : decode cX7_greaterPart 15 = .ok (.invokevirtual 434, 3) := by decide +kernel
theorem dX7_greaterPart_18 : decode cX7_greaterPart 18 = .ok (.istore_n 2, 1) := by decide +kernel
theorem dX7_greaterPart_19 : decode cX7_greaterPart 19 = .ok (.aload_n 0, 1) := by decide +kernel
theorem dX7_greaterPart_20 : decode cX7_greaterPart 20 = .ok (.aload_n 0, 1) := by decide +kernel
theorem dX7_greaterPart_21 : decode cX7_greaterPart 21 = .ok (.invokevirtual 428, 3) := by decide +kernel
theorem dX7_greaterPart_24 : decode cX7_greaterPart 24 = .ok (.aload_n 0, 1) := by decide +kernel
theorem dX7_greaterPart_25 : decode cX7_greaterPart 25 = .ok (.getfield 7, 3) := by decide +kernel
theorem dX7_greaterPart_28 : decode cX7_greaterPart 28 = .ok (.bipush 39, 2) := by decide +kernel
theorem dX7_greaterPart_30 : decode cX7_greaterPart 30 = .ok (.iload_n 1, 1) := by decide +kernel
theorem dX7_greaterPart_31 : decode cX7_greaterPart 31 = .ok (.iadd, 1) := by decide +kernel
theorem dX7_greaterPart_32 : decode cX7_greaterPart 32 = .ok (.iaload, 1) := by decide +kernel
theorem dX7_greaterPart_33 : decode cX7_greaterPart 33 = .ok (.iconst (-1), 1) := by decide +kernel
theorem dX7_greaterPart_34 : decode cX7_greaterPart 34 = .ok (.ixor, 1) := by decide +kernel
theorem dX7_greaterPart_35 : decode cX7_greaterPart 35 = .ok (.iand, 1) := by decide +kernel
theorem dX7_greaterPart_36 : decode cX7_greaterPart 36 = .ok (.invokevirtual 434, 3) := by decide +kernel
theorem dX7_greaterPart_39 : decode cX7_greaterPart 39 = .ok (.istore_n 3, 1) := by decide +kernel
theorem dX7_greaterPart_40 : decode cX7_greaterPart 40 = .ok (.iload_n 2, 1) := by decide +kernel
theorem dX7_greaterPart_41 : decode cX7_greaterPart 41 = .ok (.iload_n 3, 1) := by decide +kernel
theorem dX7_greaterPart_42 : decode cX7_greaterPart 42 = .ok (.if_icmp .le 7, 3) := by decide +kernel
theorem dX7_greaterPart_45 : decode cX7_greaterPart 45 = .ok (.iload_n 2, 1) := by decide +kernel
theorem dX7_greaterPart_46 : decode cX7_greaterPart 46 = .ok (.goto 4, 3) := by decide +kernel
theorem dX7_greaterPart_49 : decode cX7_greaterPart 49 = .ok (.iload_n 3, 1) := by decide +kernel
theorem dX7_greaterPart_50 : decode cX7_greaterPart 50 = .ok (.ireturn, 1) := by decide +kernel
theorem dX7_ask_0 : decode cX7_ask 0 = .ok (.aload_n 0, 1) := by decide +kernel
theorem dX7_ask_1 : decode cX7_ask 1 = .ok (.invokevirtual 428, 3) := by decide +kernel
theorem dX7_ask_4 : decode cX7_ask 4 = .ok (.invokestatic 78, 3) := by decide +kernel
theorem dX7_ask_7 : decode cX7_ask 7 = .ok (.iconst 2, 1) := by decide +kernel
theorem dX7_ask_8 : decode cX7_ask 8 = .ok (.if_icmp .ge 5, 3) := by decide +kernel
theorem dX7_ask_11 : decode cX7_ask 11 = .ok (.iconst (-1), 1) := by decide +kernel
theorem dX7_ask_12 : decode cX7_ask 12 = .ok (.ireturn, 1) := by decide +kernel
theorem dX7_ask_13 : decode cX7_ask 13 = .ok (.iconst (-1), 1) := by decide +kernel
theorem dX7_ask_14 : decode cX7_ask 14 = .ok (.istore_n 1, 1) := by decide +kernel
theorem dX7_ask_15 : decode cX7_ask 15 = .ok (.iconst 0, 1) := by decide +kernel
theorem dX7_ask_16 : decode cX7_ask 16 = .ok (.istore_n 2, 1) := by decide +kernel
theorem dX7_ask_17 : decode cX7_ask 17 = .ok (.iload_n 2, 1) := by decide +kernel
theorem dX7_ask_18 : decode cX7_ask 18 = .ok (.aload_n 0, 1) := by decide +kernel
theorem dX7_ask_19 : decode cX7_ask 19 = .ok (.getfield 7, 3) := by decide +kernel
theorem dX7_ask_22 : decode cX7_ask 22 = .ok (.iconst 0, 1) := by decide +kernel
theorem dX7_ask_23 : decode cX7_ask 23 = .ok (.iaload, 1) := by decide +kernel
theorem dX7_ask_24 : decode cX7_ask 24 = .ok (.if_icmp .ge 41, 3) := by decide +kernel
theorem dX7_ask_27 : decode cX7_ask 27 = .ok (.aload_n 0, 1) := by decide +kernel
theorem dX7_ask_28 : decode cX7_ask 28 = .ok (.getfield 7, 3) := by decide +kernel
theorem dX7_ask_31 : decode cX7_ask 31 = .ok (.bipush 63, 2) := by decide +kernel
theorem dX7_ask_33 : decode cX7_ask 33 = .ok (.iload_n 2, 1) := by decide +kernel
theorem dX7_ask_34 : decode cX7_ask 34 = .ok (.iadd, 1) := by decide +kernel
theorem dX7_ask_35 : decode cX7_ask 35 = .ok (.iaload, 1) := by decide +kernel
theorem dX7_ask_36 : decode cX7_ask 36 = .ok (.ifCond .ne 23, 3) := by decide +kernel
theorem dX7_ask_39 : decode cX7_ask 39 = .ok (.iload_n 1, 1) := by decide +kernel
theorem dX7_ask_40 : decode cX7_ask 40 = .ok (.iconst (-1), 1) := by decide +kernel
theorem dX7_ask_41 : decode cX7_ask 41 = .ok (.if_icmp .eq 16, 3) := by decide +kernel
theorem dX7_ask_44 : decode cX7_ask 44 = .ok (.aload_n 0, 1) := by decide +kernel
theorem dX7_ask_45 : decode cX7_ask 45 = .ok (.iload_n 2, 1) := by decide +kernel
theorem dX7_ask_46 : decode cX7_ask 46 = .ok (.invokevirtual 437, 3) := by decide +kernel
theorem dX7_ask_49 : decode cX7_ask 49 = .ok (.aload_n 0, 1) := by decide +kernel
theorem dX7_ask_50 : decode cX7_ask 50 = .ok (.iload_n 1, 1) := by decide +kernel
theorem dX7_ask_51 : decode cX7_ask 51 = .ok (.invokevirtual 437, 3) := by decide +kernel
theorem dX7_ask_54 : decode cX7_ask 54 = .ok (.if_icmp .ge 5, 3) := by decide +kernel
theorem dX7_ask_57 : decode cX7_ask 57 = .ok (.iload_n 2, 1) := by decide +kernel
theorem dX7_ask_58 : decode cX7_ask 58 = .ok (.istore_n 1, 1) := by decide +kernel
theorem dX7_ask_59 : decode cX7_ask 59 = .ok (.iinc 2 1, 3) := by decide +kernel
theorem dX7_ask_62 : decode cX7_ask 62 = .ok (.goto (-45), 3) := by decide +kernel
theorem dX7_ask_65 : decode cX7_ask 65 = .ok (.iload_n 1, 1) := by decide +kernel
theorem dX7_ask_66 : decode cX7_ask 66 = .ok (.ireturn, 1) := by decide +kernel
theorem dX7_doesBid_0 : decode cX7_doesBid 0 = .ok (.aload_n 0, 1) := by decide +kernel
theorem dX7_doesBid_1 : decode cX7_doesBid 1 = .ok (.iload_n 1, 1) := by decide +kernel
theorem dX7_doesBid_2 : decode cX7_doesBid 2 = .ok (.aload_n 0, 1) := by decide +kernel
theorem dX7_doesBid_3 : decode cX7_doesBid 3 = .ok (.getfield 7, 3) := by decide +kernel
theorem dX7_doesBid_6 : decode cX7_doesBid 6 = .ok (.bipush 9, 2) := by decide +kernel
theorem dX7_doesBid_8 : decode cX7_doesBid 8 = .ok (.iaload, 1) := by decide +kernel
theorem dX7_doesBid_9 : decode cX7_doesBid 9 = .ok (.invokevirtual 283, 3) := by decide +kernel
theorem dX7_doesBid_12 : decode cX7_doesBid 12 = .ok (.ifCond .eq 19, 3) := by decide +kernel
theorem dX7_doesBid_15 : decode cX7_doesBid 15 = .ok (.aload_n 0, 1) := by decide +kernel
theorem dX7_doesBid_16 : decode cX7_doesBid 16 = .ok (.iload_n 1, 1) := by decide +kernel
theorem dX7_doesBid_17 : decode cX7_doesBid 17 = .ok (.invokevirtual 311, 3) := by decide +kernel
theorem dX7_doesBid_20 : decode cX7_doesBid 20 = .ok (.iload_n 2, 1) := by decide +kernel
theorem dX7_doesBid_21 : decode cX7_doesBid 21 = .ok (.invokestatic 67, 3) := by decide +kernel
theorem dX7_doesBid_24 : decode cX7_doesBid 24 = .ok (.ifCond .eq 7, 3) := by decide +kernel
theorem dX7_doesBid_27 : decode cX7_doesBid 27 = .ok (.iconst 1, 1) := by decide +kernel
theorem dX7_doesBid_28 : decode cX7_doesBid 28 = .ok (.goto 4, 3) := by decide +kernel
theorem dX7_doesBid_31 : decode cX7_doesBid 31 = .ok (.iconst 0, 1) := by decide +kernel
theorem dX7_doesBid_32 : decode cX7_doesBid 32 = .ok (.ireturn, 1) := by decide +kernel
theorem dX7_bidFor_0 : decode cX7_bidFor 0 = .ok (.aload_n 0, 1) := by decide +kernel
theorem dX7_bidFor_1 : decode cX7_bidFor 1 = .ok (.iload_n 1, 1) := by decide +kernel
theorem dX7_bidFor_2 : decode cX7_bidFor 2 = .ok (.invokevirtual 314, 3) := by decide +kernel
theorem dX7_bidFor_5 : decode cX7_bidFor 5 = .ok (.aload_n 0, 1) := by decide +kernel
theorem dX7_bidFor_6 : decode cX7_bidFor 6 = .ok (.iload_n 1, 1) := by decide +kernel
theorem dX7_bidFor_7 : decode cX7_bidFor 7 = .ok (.invokevirtual 71, 3) := by decide +kernel
theorem dX7_bidFor_10 : decode cX7_bidFor 10 = .ok (.idiv, 1) := by decide +kernel
theorem dX7_bidFor_11 : decode cX7_bidFor 11 = .ok (.ireturn, 1) := by decide +kernel
theorem dX7_bidderOf_0 : decode cX7_bidderOf 0 = .ok (.iconst (-1), 1) := by decide +kernel
theorem dX7_bidderOf_1 : decode cX7_bidderOf 1 = .ok (.istore_n 3, 1) := by decide +kernel
theorem dX7_bidderOf_2 : decode cX7_bidderOf 2 = .ok (.iconst 0, 1) := by decide +kernel
theorem dX7_bidderOf_3 : decode cX7_bidderOf 3 = .ok (.istore 4, 2) := by decide +kernel
theorem dX7_bidderOf_5 : decode cX7_bidderOf 5 = .ok (.iload 4, 2) := by decide +kernel
theorem dX7_bidderOf_7 : decode cX7_bidderOf 7 = .ok (.aload_n 0, 1) := by decide +kernel
theorem dX7_bidderOf_8 : decode cX7_bidderOf 8 = .ok (.getfield 7, 3) := by decide +kernel
theorem dX7_bidderOf_11 : decode cX7_bidderOf 11 = .ok (.iconst 0, 1) := by decide +kernel
theorem dX7_bidderOf_12 : decode cX7_bidderOf 12 = .ok (.iaload, 1) := by decide +kernel
theorem dX7_bidderOf_13 : decode cX7_bidderOf 13 = .ok (.if_icmp .ge 47, 3) := by decide +kernel
theorem dX7_bidderOf_16 : decode cX7_bidderOf 16 = .ok (.iload 4, 2) := by decide +kernel
theorem dX7_bidderOf_18 : decode cX7_bidderOf 18 = .ok (.iload_n 2, 1) := by decide +kernel
theorem dX7_bidderOf_19 : decode cX7_bidderOf 19 = .ok (.if_icmp .eq 35, 3) := by decide +kernel
theorem dX7_bidderOf_22 : decode cX7_bidderOf 22 = .ok (.aload_n 0, 1) := by decide +kernel
theorem dX7_bidderOf_23 : decode cX7_bidderOf 23 = .ok (.iload 4, 2) := by decide +kernel
theorem dX7_bidderOf_25 : decode cX7_bidderOf 25 = .ok (.iload_n 1, 1) := by decide +kernel
theorem dX7_bidderOf_26 : decode cX7_bidderOf 26 = .ok (.invokevirtual 440, 3) := by decide +kernel
theorem dX7_bidderOf_29 : decode cX7_bidderOf 29 = .ok (.ifCond .eq 25, 3) := by decide +kernel
theorem dX7_bidderOf_32 : decode cX7_bidderOf 32 = .ok (.iload_n 3, 1) := by decide +kernel
theorem dX7_bidderOf_33 : decode cX7_bidderOf 33 = .ok (.iconst (-1), 1) := by decide +kernel
theorem dX7_bidderOf_34 : decode cX7_bidderOf 34 = .ok (.if_icmp .eq 17, 3) := by decide +kernel
theorem dX7_bidderOf_37 : decode cX7_bidderOf 37 = .ok (.aload_n 0, 1) := by decide +kernel
theorem dX7_bidderOf_38 : decode cX7_bidderOf 38 = .ok (.iload 4, 2) := by decide +kernel
theorem dX7_bidderOf_40 : decode cX7_bidderOf 40 = .ok (.invokevirtual 443, 3) := by decide +kernel
theorem dX7_bidderOf_43 : decode cX7_bidderOf 43 = .ok (.aload_n 0, 1) := by decide +kernel
theorem dX7_bidderOf_44 : decode cX7_bidderOf 44 = .ok (.iload_n 3, 1) := by decide +kernel
theorem dX7_bidderOf_45 : decode cX7_bidderOf 45 = .ok (.invokevirtual 443, 3) := by decide +kernel
theorem dX7_bidderOf_48 : decode cX7_bidderOf 48 = .ok (.if_icmp .le 6, 3) := by decide +kernel
theorem dX7_bidderOf_51 : decode cX7_bidderOf 51 = .ok (.iload 4, 2) := by decide +kernel
theorem dX7_bidderOf_53 : decode cX7_bidderOf 53 = .ok (.istore_n 3, 1) := by decide +kernel
theorem dX7_bidderOf_54 : decode cX7_bidderOf 54 = .ok (.iinc 4 1, 3) := by decide +kernel
theorem dX7_bidderOf_57 : decode cX7_bidderOf 57 = .ok (.goto (-52), 3) := by decide +kernel
theorem dX7_bidderOf_60 : decode cX7_bidderOf 60 = .ok (.iload_n 3, 1) := by decide +kernel
theorem dX7_bidderOf_61 : decode cX7_bidderOf 61 = .ok (.ireturn, 1) := by decide +kernel
theorem dX7_auction_0 : decode cX7_auction 0 = .ok (.iload_n 1, 1) := by decide +kernel
theorem dX7_auction_1 : decode cX7_auction 1 = .ok (.invokestatic 321, 3) := by decide +kernel
theorem dX7_auction_4 : decode cX7_auction 4 = .ok (.ifCond .eq 12, 3) := by decide +kernel
theorem dX7_auction_7 : decode cX7_auction 7 = .ok (.iload_n 2, 1) := by decide +kernel
theorem dX7_auction_8 : decode cX7_auction 8 = .ok (.iconst 0, 1) := by decide +kernel
theorem dX7_auction_9 : decode cX7_auction 9 = .ok (.iconst 2, 1) := by decide +kernel
theorem dX7_auction_10 : decode cX7_auction 10 = .ok (.invokestatic 63, 3) := by decide +kernel
theorem dX7_auction_13 : decode cX7_auction 13 = .ok (.ifCond .ne 5, 3) := by decide +kernel
theorem dX7_auction_16 : decode cX7_auction 16 = .ok (.iconst (-1), 1) := by decide +kernel
theorem dX7_auction_17 : decode cX7_auction 17 = .ok (.ireturn, 1) := by decide +kernel
theorem dX7_auction_18 : decode cX7_auction 18 = .ok (.aload_n 0, 1) := by decide +kernel
theorem dX7_auction_19 : decode cX7_auction 19 = .ok (.iload_n 1, 1) := by decide +kernel
theorem dX7_auction_20 : decode cX7_auction 20 = .ok (.iconst (-1), 1) := by decide +kernel
theorem dX7_auction_21 : decode cX7_auction 21 = .ok (.invokevirtual 446, 3) := by decide +kernel
theorem dX7_auction_24 : decode cX7_auction 24 = .ok (.istore_n 3, 1) := by decide +kernel
theorem dX7_auction_25 : decode cX7_auction 25 = .ok (.iload_n 3, 1) := by decide +kernel
theorem dX7_auction_26 : decode cX7_auction 26 = .ok (.iconst (-1), 1) := by decide +kernel
theorem dX7_auction_27 : decode cX7_auction 27 = .ok (.if_icmp .ne 5, 3) := by decide +kernel
theorem dX7_auction_30 : decode cX7_auction 30 = .ok (.iconst (-1), 1) := by decide +kernel
theorem dX7_auction_31 : decode cX7_auction 31 = .ok (.ireturn, 1) := by decide +kernel
theorem dX7_auction_32 : decode cX7_auction 32 = .ok (.aload_n 0, 1) := by decide +kernel
theorem dX7_auction_33 : decode cX7_auction 33 = .ok (.iload_n 1, 1) := by decide +kernel
theorem dX7_auction_34 : decode cX7_auction 34 = .ok (.iload_n 3, 1) := by decide +kernel
theorem dX7_auction_35 : decode cX7_auction 35 = .ok (.invokevirtual 446, 3) := by decide +kernel
theorem dX7_auction_38 : decode cX7_auction 38 = .ok (.istore 4, 2) := by decide +kernel
theorem dX7_auction_40 : decode cX7_auction 40 = .ok (.iconst 0, 1) := by decide +kernel
theorem dX7_auction_41 : decode cX7_auction 41 = .ok (.istore 5, 2) := by decide +kernel
theorem dX7_auction_43 : decode cX7_auction 43 = .ok (.iconst 0, 1) := by decide +kernel
theorem dX7_auction_44 : decode cX7_auction 44 = .ok (.istore 6, 2) := by decide +kernel
theorem dX7_auction_46 : decode cX7_auction 46 = .ok (.iload 6, 2) := by decide +kernel
theorem dX7_auction_48 : decode cX7_auction 48 = .ok (.aload_n 0, 1) := by decide +kernel
theorem dX7_auction_49 : decode cX7_auction 49 = .ok (.getfield 7, 3) := by decide +kernel
theorem dX7_auction_52 : decode cX7_auction 52 = .ok (.iconst 0, 1) := by decide +kernel
theorem dX7_auction_53 : decode cX7_auction 53 = .ok (.iaload, 1) := by decide +kernel
theorem dX7_auction_54 : decode cX7_auction 54 = .ok (.if_icmp .ge 29, 3) := by decide +kernel
theorem dX7_auction_57 : decode cX7_auction 57 = .ok (.iload 5, 2) := by decide +kernel
theorem dX7_auction_59 : decode cX7_auction 59 = .ok (.aload_n 0, 1) := by decide +kernel
theorem dX7_auction_60 : decode cX7_auction 60 = .ok (.iload 6, 2) := by decide +kernel
theorem dX7_auction_62 : decode cX7_auction 62 = .ok (.iload_n 1, 1) := by decide +kernel
theorem dX7_auction_63 : decode cX7_auction 63 = .ok (.invokevirtual 440, 3) := by decide +kernel
theorem dX7_auction_66 : decode cX7_auction 66 = .ok (.ifCond .eq 7, 3) := by decide +kernel
theorem dX7_auction_69 : decode cX7_auction 69 = .ok (.iconst 1, 1) := by decide +kernel
theorem dX7_auction_70 : decode cX7_auction 70 = .ok (.goto 4, 3) := by decide +kernel
theorem dX7_auction_73 : decode cX7_auction 73 = .ok (.iconst 0, 1) := by decide +kernel
theorem dX7_auction_74 : decode cX7_auction 74 = .ok (.iadd, 1) := by decide +kernel
theorem dX7_auction_75 : decode cX7_auction 75 = .ok (.istore 5, 2) := by decide +kernel
theorem dX7_auction_77 : decode cX7_auction 77 = .ok (.iinc 6 1, 3) := by decide +kernel
theorem dX7_auction_80 : decode cX7_auction 80 = .ok (.goto (-34), 3) := by decide +kernel
theorem dX7_auction_83 : decode cX7_auction 83 = .ok (.iload_n 2, 1) := by decide +kernel
theorem dX7_auction_84 : decode cX7_auction 84 = .ok (.ifCond .ne 7, 3) := by decide +kernel
theorem dX7_auction_87 : decode cX7_auction 87 = .ok (.iload_n 3, 1) := by decide +kernel
theorem dX7_auction_88 : decode cX7_auction 88 = .ok (.goto 29, 3) := by decide +kernel
theorem dX7_auction_91 : decode cX7_auction 91 = .ok (.iload_n 2, 1) := by decide +kernel
theorem dX7_auction_92 : decode cX7_auction 92 = .ok (.iconst 2, 1) := by decide +kernel
theorem dX7_auction_93 : decode cX7_auction 93 = .ok (.if_icmp .ne 8, 3) := by decide +kernel
theorem dX7_auction_96 : decode cX7_auction 96 = .ok (.iload 5, 2) := by decide +kernel
theorem dX7_auction_98 : decode cX7_auction 98 = .ok (.goto 19, 3) := by decide +kernel
theorem dX7_auction_101 : decode cX7_auction 101 = .ok (.iload 4, 2) := by decide +kernel
theorem dX7_auction_103 : decode cX7_auction 103 = .ok (.iconst (-1), 1) := by decide +kernel
theorem dX7_auction_104 : decode cX7_auction 104 = .ok (.if_icmp .ne 7, 3) := by decide +kernel
theorem dX7_auction_107 : decode cX7_auction 107 = .ok (.iconst 0, 1) := by decide +kernel
theorem dX7_auction_108 : decode cX7_auction 108 = .ok (.goto 9, 3) := by decide +kernel
theorem dX7_auction_111 : decode cX7_auction 111 = .ok (.aload_n 0, 1) := by decide +kernel
theorem dX7_auction_112 : decode cX7_auction 112 = .ok (.iload 4, 2) := by decide +kernel
theorem dX7_auction_114 : decode cX7_auction 114 = .ok (.invokevirtual 443, 3) := by decide +kernel
theorem dX7_auction_117 : decode cX7_auction 117 = .ok (.ireturn, 1) := by decide +kernel
theorem dX7_areServed_0 : decode cX7_areServed 0 = .ok (.iconst 0, 1) := by decide +kernel
theorem dX7_areServed_1 : decode cX7_areServed 1 = .ok (.istore_n 2, 1) := by decide +kernel
theorem dX7_areServed_2 : decode cX7_areServed 2 = .ok (.iload_n 2, 1) := by decide +kernel
theorem dX7_areServed_3 : decode cX7_areServed 3 = .ok (.aload_n 0, 1) := by decide +kernel
theorem dX7_areServed_4 : decode cX7_areServed 4 = .ok (.getfield 7, 3) := by decide +kernel
theorem dX7_areServed_7 : decode cX7_areServed 7 = .ok (.iconst 0, 1) := by decide +kernel
theorem dX7_areServed_8 : decode cX7_areServed 8 = .ok (.iaload, 1) := by decide +kernel
theorem dX7_areServed_9 : decode cX7_areServed 9 = .ok (.if_icmp .ge 21, 3) := by decide +kernel
theorem dX7_areServed_12 : decode cX7_areServed 12 = .ok (.aload_n 0, 1) := by decide +kernel
theorem dX7_areServed_13 : decode cX7_areServed 13 = .ok (.iload_n 2, 1) := by decide +kernel
theorem dX7_areServed_14 : decode cX7_areServed 14 = .ok (.invokevirtual 311, 3) := by decide +kernel
theorem dX7_areServed_17 : decode cX7_areServed 17 = .ok (.iload_n 1, 1) := by decide +kernel
theorem dX7_areServed_18 : decode cX7_areServed 18 = .ok (.iand, 1) := by decide +kernel
theorem dX7_areServed_19 : decode cX7_areServed 19 = .ok (.ifCond .ne 5, 3) := by decide +kernel
theorem dX7_areServed_22 : decode cX7_areServed 22 = .ok (.iconst 0, 1) := by decide +kernel
theorem dX7_areServed_23 : decode cX7_areServed 23 = .ok (.ireturn, 1) := by decide +kernel
theorem dX7_areServed_24 : decode cX7_areServed 24 = .ok (.iinc 2 1, 3) := by decide +kernel
theorem dX7_areServed_27 : decode cX7_areServed 27 = .ok (.goto (-25), 3) := by decide +kernel
theorem dX7_areServed_30 : decode cX7_areServed 30 = .ok (.iconst 1, 1) := by decide +kernel
theorem dX7_areServed_31 : decode cX7_areServed 31 = .ok (.ireturn, 1) := by decide +kernel
theorem dX7_stab_0 : decode cX7_stab 0 = .ok (.sipush 4095, 3) := by decide +kernel
theorem dX7_stab_3 : decode cX7_stab 3 = .ok (.istore_n 2, 1) := by decide +kernel
theorem dX7_stab_4 : decode cX7_stab 4 = .ok (.sipush 4095, 3) := by decide +kernel
theorem dX7_stab_7 : decode cX7_stab 7 = .ok (.istore_n 3, 1) := by decide +kernel
theorem dX7_stab_8 : decode cX7_stab 8 = .ok (.iload_n 3, 1) := by decide +kernel
theorem dX7_stab_9 : decode cX7_stab 9 = .ok (.ifCond .lt 30, 3) := by decide +kernel
theorem dX7_stab_12 : decode cX7_stab 12 = .ok (.iload_n 3, 1) := by decide +kernel
theorem dX7_stab_13 : decode cX7_stab 13 = .ok (.invokestatic 78, 3) := by decide +kernel
theorem dX7_stab_16 : decode cX7_stab 16 = .ok (.iload_n 2, 1) := by decide +kernel
theorem dX7_stab_17 : decode cX7_stab 17 = .ok (.invokestatic 78, 3) := by decide +kernel
theorem dX7_stab_20 : decode cX7_stab 20 = .ok (.if_icmp .gt 13, 3) := by decide +kernel
theorem dX7_stab_23 : decode cX7_stab 23 = .ok (.aload_n 0, 1) := by decide +kernel
theorem dX7_stab_24 : decode cX7_stab 24 = .ok (.iload_n 3, 1) := by decide +kernel
theorem dX7_stab_25 : decode cX7_stab 25 = .ok (.invokevirtual 449, 3) := by decide +kernel
theorem dX7_stab_28 : decode cX7_stab 28 = .ok (.ifCond .eq 5, 3) := by decide +kernel
theorem dX7_stab_31 : decode cX7_stab 31 = .ok (.iload_n 3, 1) := by decide +kernel
theorem dX7_stab_32 : decode cX7_stab 32 = .ok (.istore_n 2, 1) := by decide +kernel
theorem dX7_stab_33 : decode cX7_stab 33 = .ok (.iinc 3 (-1), 3) := by decide +kernel
theorem dX7_stab_36 : decode cX7_stab 36 = .ok (.goto (-28), 3) := by decide +kernel
theorem dX7_stab_39 : decode cX7_stab 39 = .ok (.iload_n 1, 1) := by decide +kernel
theorem dX7_stab_40 : decode cX7_stab 40 = .ok (.ifCond .eq 10, 3) := by decide +kernel
theorem dX7_stab_43 : decode cX7_stab 43 = .ok (.iload_n 2, 1) := by decide +kernel
theorem dX7_stab_44 : decode cX7_stab 44 = .ok (.invokestatic 78, 3) := by decide +kernel
theorem dX7_stab_47 : decode cX7_stab 47 = .ok (.goto 4, 3) := by decide +kernel
theorem dX7_stab_50 : decode cX7_stab 50 = .ok (.iload_n 2, 1) := by decide +kernel
theorem dX7_stab_51 : decode cX7_stab 51 = .ok (.ireturn, 1) := by decide +kernel
theorem dX7_crowdAt_0 : decode cX7_crowdAt 0 = .ok (.iconst 0, 1) := by decide +kernel
theorem dX7_crowdAt_1 : decode cX7_crowdAt 1 = .ok (.istore_n 2, 1) := by decide +kernel
theorem dX7_crowdAt_2 : decode cX7_crowdAt 2 = .ok (.iconst 0, 1) := by decide +kernel
theorem dX7_crowdAt_3 : decode cX7_crowdAt 3 = .ok (.istore_n 3, 1) := by decide +kernel
theorem dX7_crowdAt_4 : decode cX7_crowdAt 4 = .ok (.iload_n 3, 1) := by decide +kernel
theorem dX7_crowdAt_5 : decode cX7_crowdAt 5 = .ok (.aload_n 0, 1) := by decide +kernel
theorem dX7_crowdAt_6 : decode cX7_crowdAt 6 = .ok (.getfield 7, 3) := by decide +kernel
theorem dX7_crowdAt_9 : decode cX7_crowdAt 9 = .ok (.iconst 0, 1) := by decide +kernel
theorem dX7_crowdAt_10 : decode cX7_crowdAt 10 = .ok (.iaload, 1) := by decide +kernel
theorem dX7_crowdAt_11 : decode cX7_crowdAt 11 = .ok (.if_icmp .ge 29, 3) := by decide +kernel
theorem dX7_crowdAt_14 : decode cX7_crowdAt 14 = .ok (.iload_n 2, 1) := by decide +kernel
theorem dX7_crowdAt_15 : decode cX7_crowdAt 15 = .ok (.aload_n 0, 1) := by decide +kernel
theorem dX7_crowdAt_16 : decode cX7_crowdAt 16 = .ok (.iload_n 3, 1) := by decide +kernel
theorem dX7_crowdAt_17 : decode cX7_crowdAt 17 = .ok (.invokevirtual 311, 3) := by decide +kernel
theorem dX7_crowdAt_20 : decode cX7_crowdAt 20 = .ok (.iload_n 1, 1) := by decide +kernel
theorem dX7_crowdAt_21 : decode cX7_crowdAt 21 = .ok (.invokestatic 67, 3) := by decide +kernel
theorem dX7_crowdAt_24 : decode cX7_crowdAt 24 = .ok (.ifCond .eq 7, 3) := by decide +kernel
theorem dX7_crowdAt_27 : decode cX7_crowdAt 27 = .ok (.iconst 1, 1) := by decide +kernel
theorem dX7_crowdAt_28 : decode cX7_crowdAt 28 = .ok (.goto 4, 3) := by decide +kernel
theorem dX7_crowdAt_31 : decode cX7_crowdAt 31 = .ok (.iconst 0, 1) := by decide +kernel
theorem dX7_crowdAt_32 : decode cX7_crowdAt 32 = .ok (.iadd, 1) := by decide +kernel
theorem dX7_crowdAt_33 : decode cX7_crowdAt 33 = .ok (.istore_n 2, 1) := by decide +kernel
theorem dX7_crowdAt_34 : decode cX7_crowdAt 34 = .ok (.iinc 3 1, 3) := by decide +kernel
theorem dX7_crowdAt_37 : decode cX7_crowdAt 37 = .ok (.goto (-33), 3) := by decide +kernel
theorem dX7_crowdAt_40 : decode cX7_crowdAt 40 = .ok (.iload_n 2, 1) := by decide +kernel
theorem dX7_crowdAt_41 : decode cX7_crowdAt 41 = .ok (.ireturn, 1) := by decide +kernel
theorem dX7_crowd_0 : decode cX7_crowd 0 = .ok (.iconst 0, 1) := by decide +kernel
theorem dX7_crowd_1 : decode cX7_crowd 1 = .ok (.istore_n 2, 1) := by decide +kernel
theorem dX7_crowd_2 : decode cX7_crowd 2 = .ok (.iconst 1, 1) := by decide +kernel
theorem dX7_crowd_3 : decode cX7_crowd 3 = .ok (.istore_n 3, 1) := by decide +kernel
theorem dX7_crowd_4 : decode cX7_crowd 4 = .ok (.iload_n 3, 1) := by decide +kernel
theorem dX7_crowd_5 : decode cX7_crowd 5 = .ok (.bipush 12, 2) := by decide +kernel
theorem dX7_crowd_7 : decode cX7_crowd 7 = .ok (.if_icmp .ge 24, 3) := by decide +kernel
theorem dX7_crowd_10 : decode cX7_crowd 10 = .ok (.aload_n 0, 1) := by decide +kernel
theorem dX7_crowd_11 : decode cX7_crowd 11 = .ok (.iload_n 3, 1) := by decide +kernel
theorem dX7_crowd_12 : decode cX7_crowd 12 = .ok (.invokevirtual 452, 3) := by decide +kernel
theorem dX7_crowd_15 : decode cX7_crowd 15 = .ok (.aload_n 0, 1) := by decide +kernel
theorem dX7_crowd_16 : decode cX7_crowd 16 = .ok (.iload_n 2, 1) := by decide +kernel
theorem dX7_crowd_17 : decode cX7_crowd 17 = .ok (.invokevirtual 452, 3) := by decide +kernel
theorem dX7_crowd_20 : decode cX7_crowd 20 = .ok (.if_icmp .le 5, 3) := by decide +kernel
theorem dX7_crowd_23 : decode cX7_crowd 23 = .ok (.iload_n 3, 1) := by decide +kernel
theorem dX7_crowd_24 : decode cX7_crowd 24 = .ok (.istore_n 2, 1) := by decide +kernel
theorem dX7_crowd_25 : decode cX7_crowd 25 = .ok (.iinc 3 1, 3) := by decide +kernel
theorem dX7_crowd_28 : decode cX7_crowd 28 = .ok (.goto (-24), 3) := by decide +kernel
theorem dX7_crowd_31 : decode cX7_crowd 31 = .ok (.iload_n 1, 1) := by decide +kernel
theorem dX7_crowd_32 : decode cX7_crowd 32 = .ok (.ifCond .eq 7, 3) := by decide +kernel
theorem dX7_crowd_35 : decode cX7_crowd 35 = .ok (.iload_n 2, 1) := by decide +kernel
theorem dX7_crowd_36 : decode cX7_crowd 36 = .ok (.goto 8, 3) := by decide +kernel
theorem dX7_crowd_39 : decode cX7_crowd 39 = .ok (.aload_n 0, 1) := by decide +kernel
theorem dX7_crowd_40 : decode cX7_crowd 40 = .ok (.iload_n 2, 1) := by decide +kernel
theorem dX7_crowd_41 : decode cX7_crowd 41 = .ok (.invokevirtual 452, 3) := by decide +kernel
theorem dX7_crowd_44 : decode cX7_crowd 44 = .ok (.ireturn, 1) := by decide +kernel
theorem dX7_layDawns_0 : decode cX7_layDawns 0 = .ok (.iconst 0, 1) := by decide +kernel
theorem dX7_layDawns_1 : decode cX7_layDawns 1 = .ok (.istore_n 1, 1) := by decide +kernel
theorem dX7_layDawns_2 : decode cX7_layDawns 2 = .ok (.iload_n 1, 1) := by decide +kernel
theorem dX7_layDawns_3 : decode cX7_layDawns 3 = .ok (.bipush 6, 2) := by decide +kernel
theorem dX7_layDawns_5 : decode cX7_layDawns 5 = .ok (.if_icmp .ge 16, 3) := by decide +kernel
theorem dX7_layDawns_8 : decode cX7_layDawns 8 = .ok (.aload_n 0, 1) := by decide +kernel
theorem dX7_layDawns_9 : decode cX7_layDawns 9 = .ok (.getfield 50, 3) := by decide +kernel
theorem dX7_layDawns_12 : decode cX7_layDawns 12 = .ok (.iload_n 1, 1) := by decide +kernel
theorem dX7_layDawns_13 : decode cX7_layDawns 13 = .ok (.iconst 0, 1) := by decide +kernel
theorem dX7_layDawns_14 : decode cX7_layDawns 14 = .ok (.iastore, 1) := by decide +kernel
theorem dX7_layDawns_15 : decode cX7_layDawns 15 = .ok (.iinc 1 1, 3) := by decide +kernel
theorem dX7_layDawns_18 : decode cX7_layDawns 18 = .ok (.goto (-16), 3) := by decide +kernel
theorem dX7_layDawns_21 : decode cX7_layDawns 21 = .ok (.iconst 0, 1) := by decide +kernel
theorem dX7_layDawns_22 : decode cX7_layDawns 22 = .ok (.istore_n 1, 1) := by decide +kernel
theorem dX7_layDawns_23 : decode cX7_layDawns 23 = .ok (.iload_n 1, 1) := by decide +kernel
theorem dX7_layDawns_24 : decode cX7_layDawns 24 = .ok (.bipush 12, 2) := by decide +kernel
theorem dX7_layDawns_26 : decode cX7_layDawns 26 = .ok (.if_icmp .ge 87, 3) := by decide +kernel
theorem dX7_layDawns_29 : decode cX7_layDawns 29 = .ok (.iconst 0, 1) := by decide +kernel
theorem dX7_layDawns_30 : decode cX7_layDawns 30 = .ok (.istore_n 2, 1) := by decide +kernel
theorem dX7_layDawns_31 : decode cX7_layDawns 31 = .ok (.iload_n 2, 1) := by decide +kernel
theorem dX7_layDawns_32 : decode cX7_layDawns 32 = .ok (.aload_n 0, 1) := by decide +kernel
theorem dX7_layDawns_33 : decode cX7_layDawns 33 = .ok (.getfield 7, 3) := by decide +kernel
theorem dX7_layDawns_36 : decode cX7_layDawns 36 = .ok (.iconst 0, 1) := by decide +kernel
theorem dX7_layDawns_37 : decode cX7_layDawns 37 = .ok (.iaload, 1) := by decide +kernel
theorem dX7_layDawns_38 : decode cX7_layDawns 38 = .ok (.if_icmp .ge 69, 3) := by decide +kernel
theorem dX7_layDawns_41 : decode cX7_layDawns 41 = .ok (.aload_n 0, 1) := by decide +kernel
theorem dX7_layDawns_42 : decode cX7_layDawns 42 = .ok (.getfield 7, 3) := by decide +kernel
theorem dX7_layDawns_45 : decode cX7_layDawns 45 = .ok (.bipush 45, 2) := by decide +kernel
theorem dX7_layDawns_47 : decode cX7_layDawns 47 = .ok (.iload_n 2, 1) := by decide +kernel
theorem dX7_layDawns_48 : decode cX7_layDawns 48 = .ok (.iadd, 1) := by decide +kernel
theorem dX7_layDawns_49 : decode cX7_layDawns 49 = .ok (.iaload, 1) := by decide +kernel
theorem dX7_layDawns_50 : decode cX7_layDawns 50 = .ok (.iload_n 1, 1) := by decide +kernel
theorem dX7_layDawns_51 : decode cX7_layDawns 51 = .ok (.if_icmp .eq 6, 3) := by decide +kernel
theorem dX7_layDawns_54 : decode cX7_layDawns 54 = .ok (.goto 47, 3) := by decide +kernel
theorem dX7_layDawns_57 : decode cX7_layDawns 57 = .ok (.iconst 0, 1) := by decide +kernel
theorem dX7_layDawns_58 : decode cX7_layDawns 58 = .ok (.istore_n 3, 1) := by decide +kernel
theorem dX7_layDawns_59 : decode cX7_layDawns 59 = .ok (.aload_n 0, 1) := by decide +kernel
theorem dX7_layDawns_60 : decode cX7_layDawns 60 = .ok (.getfield 50, 3) := by decide +kernel
theorem dX7_layDawns_63 : decode cX7_layDawns 63 = .ok (.iload_n 3, 1) := by decide +kernel
theorem dX7_layDawns_64 : decode cX7_layDawns 64 = .ok (.iaload, 1) := by decide +kernel
theorem dX7_layDawns_65 : decode cX7_layDawns 65 = .ok (.aload_n 0, 1) := by decide +kernel
theorem dX7_layDawns_66 : decode cX7_layDawns 66 = .ok (.iload_n 2, 1) := by decide +kernel
theorem dX7_layDawns_67 : decode cX7_layDawns 67 = .ok (.invokevirtual 311, 3) := by decide +kernel
theorem dX7_layDawns_70 : decode cX7_layDawns 70 = .ok (.iand, 1) := by decide +kernel
theorem dX7_layDawns_71 : decode cX7_layDawns 71 = .ok (.ifCond .eq 9, 3) := by decide +kernel
theorem dX7_layDawns_74 : decode cX7_layDawns 74 = .ok (.iinc 3 1, 3) := by decide +kernel
theorem dX7_layDawns_77 : decode cX7_layDawns 77 = .ok (.goto (-18), 3) := by decide +kernel
theorem dX7_layDawns_80 : decode cX7_layDawns 80 = .ok (.aload_n 0, 1) := by decide +kernel
theorem dX7_layDawns_81 : decode cX7_layDawns 81 = .ok (.getfield 50, 3) := by decide +kernel
theorem dX7_layDawns_84 : decode cX7_layDawns 84 = .ok (.iload_n 3, 1) := by decide +kernel
theorem dX7_layDawns_85 : decode cX7_layDawns 85 = .ok (.dup2, 1) := by decide +kernel
theorem dX7_layDawns_86 : decode cX7_layDawns 86 = .ok (.iaload, 1) := by decide +kernel
theorem dX7_layDawns_87 : decode cX7_layDawns 87 = .ok (.aload_n 0, 1) := by decide +kernel
theorem dX7_layDawns_88 : decode cX7_layDawns 88 = .ok (.iload_n 2, 1) := by decide +kernel
theorem dX7_layDawns_89 : decode cX7_layDawns 89 = .ok (.invokevirtual 311, 3) := by decide +kernel
theorem dX7_layDawns_92 : decode cX7_layDawns 92 = .ok (.ior, 1) := by decide +kernel
theorem dX7_layDawns_93 : decode cX7_layDawns 93 = .ok (.iastore, 1) := by decide +kernel
theorem dX7_layDawns_94 : decode cX7_layDawns 94 = .ok (.aload_n 0, 1) := by decide +kernel
theorem dX7_layDawns_95 : decode cX7_layDawns 95 = .ok (.getfield 53, 3) := by decide +kernel
theorem dX7_layDawns_98 : decode cX7_layDawns 98 = .ok (.iload_n 2, 1) := by decide +kernel
theorem dX7_layDawns_99 : decode cX7_layDawns 99 = .ok (.iload_n 3, 1) := by decide +kernel
theorem dX7_layDawns_100 : decode cX7_layDawns 100 = .ok (.iastore, 1) := by decide +kernel
theorem dX7_layDawns_101 : decode cX7_layDawns 101 = .ok (.iinc 2 1, 3) := by decide +kernel
theorem dX7_layDawns_104 : decode cX7_layDawns 104 = .ok (.goto (-73), 3) := by decide +kernel
theorem dX7_layDawns_107 : decode cX7_layDawns 107 = .ok (.iinc 1 1, 3) := by decide +kernel
theorem dX7_layDawns_110 : decode cX7_layDawns 110 = .ok (.goto (-87), 3) := by decide +kernel
theorem dX7_layDawns_113 : decode cX7_layDawns 113 = .ok (.return_, 1) := by decide +kernel
theorem dX7_dawns_0 : decode cX7_dawns 0 = .ok (.aload_n 0, 1) := by decide +kernel
theorem dX7_dawns_1 : decode cX7_dawns 1 = .ok (.iload_n 1, 1) := by decide +kernel
theorem dX7_dawns_2 : decode cX7_dawns 2 = .ok (.invokevirtual 308, 3) := by decide +kernel
theorem dX7_dawns_5 : decode cX7_dawns 5 = .ok (.ifCond .ne 5, 3) := by decide +kernel
theorem dX7_dawns_8 : decode cX7_dawns 8 = .ok (.iconst (-1), 1) := by decide +kernel
theorem dX7_dawns_9 : decode cX7_dawns 9 = .ok (.ireturn, 1) := by decide +kernel
theorem dX7_dawns_10 : decode cX7_dawns 10 = .ok (.aload_n 0, 1) := by decide +kernel
theorem dX7_dawns_11 : decode cX7_dawns 11 = .ok (.invokevirtual 455, 3) := by decide +kernel
theorem dX7_dawns_14 : decode cX7_dawns 14 = .ok (.aload_n 0, 1) := by decide +kernel
theorem dX7_dawns_15 : decode cX7_dawns 15 = .ok (.getfield 53, 3) := by decide +kernel
theorem dX7_dawns_18 : decode cX7_dawns 18 = .ok (.iload_n 1, 1) := by decide +kernel
theorem dX7_dawns_19 : decode cX7_dawns 19 = .ok (.iaload, 1) := by decide +kernel
theorem dX7_dawns_20 : decode cX7_dawns 20 = .ok (.ireturn, 1) := by decide +kernel
theorem dX7_month_0 : decode cX7_month 0 = .ok (.iload_n 1, 1) := by decide +kernel
theorem dX7_month_1 : decode cX7_month 1 = .ok (.iconst 1, 1) := by decide +kernel
theorem dX7_month_2 : decode cX7_month 2 = .ok (.bipush 60, 2) := by decide +kernel
theorem dX7_month_4 : decode cX7_month 4 = .ok (.invokestatic 63, 3) := by decide +kernel
theorem dX7_month_7 : decode cX7_month 7 = .ok (.ifCond .ne 7, 3) := by decide +kernel
theorem dX7_month_10 : decode cX7_month 10 = .ok (.ldc2_w 391, 3) := by decide +kernel
theorem dX7_month_13 : decode cX7_month 13 = .ok (.lreturn, 1) := by decide +kernel
theorem dX7_month_14 : decode cX7_month 14 = .ok (.lconst 0, 1) := by decide +kernel
theorem dX7_month_15 : decode cX7_month 15 = .ok (.lstore_n 3, 1) := by decide +kernel
theorem dX7_month_16 : decode cX7_month 16 = .ok (.iconst 0, 1) := by decide +kernel
theorem dX7_month_17 : decode cX7_month 17 = .ok (.istore 5, 2) := by decide +kernel
theorem dX7_month_19 : decode cX7_month 19 = .ok (.iload 5, 2) := by decide +kernel
theorem dX7_month_21 : decode cX7_month 21 = .ok (.iconst 5, 1) := by decide +kernel
theorem dX7_month_22 : decode cX7_month 22 = .ok (.if_icmp .ge 46, 3) := by decide +kernel
theorem dX7_month_25 : decode cX7_month 25 = .ok (.aload_n 0, 1) := by decide +kernel
theorem dX7_month_26 : decode cX7_month 26 = .ok (.iload 5, 2) := by decide +kernel
theorem dX7_month_28 : decode cX7_month 28 = .ok (.invokevirtual 414, 3) := by decide +kernel
theorem dX7_month_31 : decode cX7_month 31 = .ok (.ifCond .le 31, 3) := by decide +kernel
theorem dX7_month_34 : decode cX7_month 34 = .ok (.lload_n 3, 1) := by decide +kernel
theorem dX7_month_35 : decode cX7_month 35 = .ok (.iload_n 1, 1) := by decide +kernel
theorem dX7_month_36 : decode cX7_month 36 = .ok (.i2l, 1) := by decide +kernel
theorem dX7_month_37 : decode cX7_month 37 = .ok (.aload_n 0, 1) := by decide +kernel
theorem dX7_month_38 : decode cX7_month 38 = .ok (.iload 5, 2) := by decide +kernel
theorem dX7_month_40 : decode cX7_month 40 = .ok (.invokevirtual 414, 3) := by decide +kernel
theorem dX7_month_43 : decode cX7_month 43 = .ok (.i2l, 1) := by decide +kernel
theorem dX7_month_44 : decode cX7_month 44 = .ok (.lmul, 1) := by decide +kernel
theorem dX7_month_45 : decode cX7_month 45 = .ok (.aload_n 0, 1) := by decide +kernel
theorem dX7_month_46 : decode cX7_month 46 = .ok (.aload_n 0, 1) := by decide +kernel
theorem dX7_month_47 : decode cX7_month 47 = .ok (.iconst 0, 1) := by decide +kernel
theorem dX7_month_48 : decode cX7_month 48 = .ok (.iload 5, 2) := by decide +kernel
theorem dX7_month_50 : decode cX7_month 50 = .ok (.invokevirtual 400, 3) := by decide +kernel
theorem dX7_month_53 : decode cX7_month 53 = .ok (.iload 5, 2) := by decide +kernel
theorem dX7_month_55 : decode cX7_month 55 = .ok (.invokevirtual 397, 3) := by decide +kernel
theorem dX7_month_58 : decode cX7_month 58 = .ok (.i2l, 1) := by decide +kernel
theorem dX7_month_59 : decode cX7_month 59 = .ok (.lmul, 1) := by decide +kernel
theorem dX7_month_60 : decode cX7_month 60 = .ok (.ladd, 1) := by decide +kernel
theorem dX7_month_61 : decode cX7_month 61 = .ok (.lstore_n 3, 1) := by decide +kernel
theorem dX7_month_62 : decode cX7_month 62 = .ok (.iinc 5 1, 3) := by decide +kernel
theorem dX7_month_65 : decode cX7_month 65 = .ok (.goto (-46), 3) := by decide +kernel
theorem dX7_month_68 : decode cX7_month 68 = .ok (.lload_n 3, 1) := by decide +kernel
theorem dX7_month_69 : decode cX7_month 69 = .ok (.aload_n 0, 1) := by decide +kernel
theorem dX7_month_70 : decode cX7_month 70 = .ok (.invokevirtual 407, 3) := by decide +kernel
theorem dX7_month_73 : decode cX7_month 73 = .ok (.i2l, 1) := by decide +kernel
theorem dX7_month_74 : decode cX7_month 74 = .ok (.iload_n 2, 1) := by decide +kernel
theorem dX7_month_75 : decode cX7_month 75 = .ok (.invokestatic 393, 3) := by decide +kernel
theorem dX7_month_78 : decode cX7_month 78 = .ok (.lreturn, 1) := by decide +kernel
theorem dX7_value_0 : decode cX7_value 0 = .ok (.iload_n 1, 1) := by decide +kernel
theorem dX7_value_1 : decode cX7_value 1 = .ok (.invokestatic 321, 3) := by decide +kernel
theorem dX7_value_4 : decode cX7_value 4 = .ok (.ifCond .eq 13, 3) := by decide +kernel
theorem dX7_value_7 : decode cX7_value 7 = .ok (.iload_n 2, 1) := by decide +kernel
theorem dX7_value_8 : decode cX7_value 8 = .ok (.iconst 0, 1) := by decide +kernel
theorem dX7_value_9 : decode cX7_value 9 = .ok (.bipush 99, 2) := by decide +kernel
theorem dX7_value_11 : decode cX7_value 11 = .ok (.invokestatic 63, 3) := by decide +kernel
theorem dX7_value_14 : decode cX7_value 14 = .ok (.ifCond .ne 5, 3) := by decide +kernel
theorem dX7_value_17 : decode cX7_value 17 = .ok (.iconst 0, 1) := by decide +kernel
theorem dX7_value_18 : decode cX7_value 18 = .ok (.ireturn, 1) := by decide +kernel
theorem dX7_value_19 : decode cX7_value 19 = .ok (.aload_n 0, 1) := by decide +kernel
theorem dX7_value_20 : decode cX7_value 20 = .ok (.getfield 7, 3) := by decide +kernel
theorem dX7_value_23 : decode cX7_value 23 = .ok (.bipush 69, 2) := by decide +kernel
theorem dX7_value_25 : decode cX7_value 25 = .ok (.iload_n 1, 1) := by decide +kernel
theorem dX7_value_26 : decode cX7_value 26 = .ok (.iadd, 1) := by decide +kernel
theorem dX7_value_27 : decode cX7_value 27 = .ok (.iload_n 2, 1) := by decide +kernel
theorem dX7_value_28 : decode cX7_value 28 = .ok (.iastore, 1) := by decide +kernel
theorem dX7_value_29 : decode cX7_value 29 = .ok (.iconst 1, 1) := by decide +kernel
theorem dX7_value_30 : decode cX7_value 30 = .ok (.ireturn, 1) := by decide +kernel
theorem dX7_byLeft_0 : decode cX7_byLeft 0 = .ok (.aload_n 0, 1) := by decide +kernel
theorem dX7_byLeft_1 : decode cX7_byLeft 1 = .ok (.getfield 7, 3) := by decide +kernel
theorem dX7_byLeft_4 : decode cX7_byLeft 4 = .ok (.bipush 69, 2) := by decide +kernel
theorem dX7_byLeft_6 : decode cX7_byLeft 6 = .ok (.iload_n 1, 1) := by decide +kernel
theorem dX7_byLeft_7 : decode cX7_byLeft 7 = .ok (.iadd, 1) := by decide +kernel
theorem dX7_byLeft_8 : decode cX7_byLeft 8 = .ok (.iaload, 1) := by decide +kernel
theorem dX7_byLeft_9 : decode cX7_byLeft 9 = .ok (.iload_n 1, 1) := by decide +kernel
theorem dX7_byLeft_10 : decode cX7_byLeft 10 = .ok (.iload_n 2, 1) := by decide +kernel
theorem dX7_byLeft_11 : decode cX7_byLeft 11 = .ok (.if_icmp .ne 7, 3) := by decide +kernel
theorem dX7_byLeft_14 : decode cX7_byLeft 14 = .ok (.iconst 0, 1) := by decide +kernel
theorem dX7_byLeft_15 : decode cX7_byLeft 15 = .ok (.goto 16, 3) := by decide +kernel
theorem dX7_byLeft_18 : decode cX7_byLeft 18 = .ok (.aload_n 0, 1) := by decide +kernel
theorem dX7_byLeft_19 : decode cX7_byLeft 19 = .ok (.getfield 56, 3) := by decide +kernel
theorem dX7_byLeft_22 : decode cX7_byLeft 22 = .ok (.bipush 12, 2) := by decide +kernel
theorem dX7_byLeft_24 : decode cX7_byLeft 24 = .ok (.iload_n 1, 1) := by decide +kernel
theorem dX7_byLeft_25 : decode cX7_byLeft 25 = .ok (.iconst 1, 1) := by decide +kernel
theorem dX7_byLeft_26 : decode cX7_byLeft 26 = .ok (.iadd, 1) := by decide +kernel
theorem dX7_byLeft_27 : decode cX7_byLeft 27 = .ok (.imul, 1) := by decide +kernel
theorem dX7_byLeft_28 : decode cX7_byLeft 28 = .ok (.iload_n 2, 1) := by decide +kernel
theorem dX7_byLeft_29 : decode cX7_byLeft 29 = .ok (.iadd, 1) := by decide +kernel
theorem dX7_byLeft_30 : decode cX7_byLeft 30 = .ok (.iaload, 1) := by decide +kernel
theorem dX7_byLeft_31 : decode cX7_byLeft 31 = .ok (.isub, 1) := by decide +kernel
theorem dX7_byLeft_32 : decode cX7_byLeft 32 = .ok (.ireturn, 1) := by decide +kernel
theorem dX7_byRight_0 : decode cX7_byRight 0 = .ok (.aload_n 0, 1) := by decide +kernel
theorem dX7_byRight_1 : decode cX7_byRight 1 = .ok (.getfield 7, 3) := by decide +kernel
theorem dX7_byRight_4 : decode cX7_byRight 4 = .ok (.bipush 69, 2) := by decide +kernel
theorem dX7_byRight_6 : decode cX7_byRight 6 = .ok (.iload_n 2, 1) := by decide +kernel
theorem dX7_byRight_7 : decode cX7_byRight 7 = .ok (.iadd, 1) := by decide +kernel
theorem dX7_byRight_8 : decode cX7_byRight 8 = .ok (.iaload, 1) := by decide +kernel
theorem dX7_byRight_9 : decode cX7_byRight 9 = .ok (.iload_n 1, 1) := by decide +kernel
theorem dX7_byRight_10 : decode cX7_byRight 10 = .ok (.iload_n 2, 1) := by decide +kernel
theorem dX7_byRight_11 : decode cX7_byRight 11 = .ok (.if_icmp .ne 7, 3) := by decide +kernel
theorem dX7_byRight_14 : decode cX7_byRight 14 = .ok (.iconst 0, 1) := by decide +kernel
theorem dX7_byRight_15 : decode cX7_byRight 15 = .ok (.goto 16, 3) := by decide +kernel
theorem dX7_byRight_18 : decode cX7_byRight 18 = .ok (.aload_n 0, 1) := by decide +kernel
theorem dX7_byRight_19 : decode cX7_byRight 19 = .ok (.getfield 56, 3) := by decide +kernel
theorem dX7_byRight_22 : decode cX7_byRight 22 = .ok (.bipush 12, 2) := by decide +kernel
theorem dX7_byRight_24 : decode cX7_byRight 24 = .ok (.iload_n 1, 1) := by decide +kernel
theorem dX7_byRight_25 : decode cX7_byRight 25 = .ok (.imul, 1) := by decide +kernel
theorem dX7_byRight_26 : decode cX7_byRight 26 = .ok (.iload_n 2, 1) := by decide +kernel
theorem dX7_byRight_27 : decode cX7_byRight 27 = .ok (.iadd, 1) := by decide +kernel
theorem dX7_byRight_28 : decode cX7_byRight 28 = .ok (.iconst 1, 1) := by decide +kernel
theorem dX7_byRight_29 : decode cX7_byRight 29 = .ok (.isub, 1) := by decide +kernel
theorem dX7_byRight_30 : decode cX7_byRight 30 = .ok (.iaload, 1) := by decide +kernel
theorem dX7_byRight_31 : decode cX7_byRight 31 = .ok (.isub, 1) := by decide +kernel
theorem dX7_byRight_32 : decode cX7_byRight 32 = .ok (.ireturn, 1) := by decide +kernel
theorem dX7_layGames_0 : decode cX7_layGames 0 = .ok (.iconst 0, 1) := by decide +kernel
theorem dX7_layGames_1 : decode cX7_layGames 1 = .ok (.istore_n 1, 1) := by decide +kernel
theorem dX7_layGames_2 : decode cX7_layGames 2 = .ok (.iload_n 1, 1) := by decide +kernel
theorem dX7_layGames_3 : decode cX7_layGames 3 = .ok (.bipush 12, 2) := by decide +kernel
theorem dX7_layGames_5 : decode cX7_layGames 5 = .ok (.if_icmp .ge 69, 3) := by decide +kernel
theorem dX7_layGames_8 : decode cX7_layGames 8 = .ok (.iconst 0, 1) := by decide +kernel
theorem dX7_layGames_9 : decode cX7_layGames 9 = .ok (.istore_n 2, 1) := by decide +kernel
theorem dX7_layGames_10 : decode cX7_layGames 10 = .ok (.iload_n 2, 1) := by decide +kernel
theorem dX7_layGames_11 : decode cX7_layGames 11 = .ok (.iload_n 1, 1) := by decide +kernel
theorem dX7_layGames_12 : decode cX7_layGames 12 = .ok (.iadd, 1) := by decide +kernel
theorem dX7_layGames_13 : decode cX7_layGames 13 = .ok (.bipush 12, 2) := by decide +kernel
theorem dX7_layGames_15 : decode cX7_layGames 15 = .ok (.if_icmp .ge 53, 3) := by decide +kernel
theorem dX7_layGames_18 : decode cX7_layGames 18 = .ok (.aload_n 0, 1) := by decide +kernel
theorem dX7_layGames_19 : decode cX7_layGames 19 = .ok (.iload_n 2, 1) := by decide +kernel
theorem dX7_layGames_20 : decode cX7_layGames 20 = .ok (.iload_n 2, 1) := by decide +kernel
theorem dX7_layGames_21 : decode cX7_layGames 21 = .ok (.iload_n 1, 1) := by decide +kernel
theorem dX7_layGames_22 : decode cX7_layGames 22 = .ok (.iadd, 1) := by decide +kernel
theorem dX7_layGames_23 : decode cX7_layGames 23 = .ok (.invokevirtual 458, 3) := by decide +kernel
theorem dX7_layGames_26 : decode cX7_layGames 26 = .ok (.istore_n 3, 1) := by decide +kernel
theorem dX7_layGames_27 : decode cX7_layGames 27 = .ok (.aload_n 0, 1) := by decide +kernel
theorem dX7_layGames_28 : decode cX7_layGames 28 = .ok (.iload_n 2, 1) := by decide +kernel
theorem dX7_layGames_29 : decode cX7_layGames 29 = .ok (.iload_n 2, 1) := by decide +kernel
theorem dX7_layGames_30 : decode cX7_layGames 30 = .ok (.iload_n 1, 1) := by decide +kernel
theorem dX7_layGames_31 : decode cX7_layGames 31 = .ok (.iadd, 1) := by decide +kernel
theorem dX7_layGames_32 : decode cX7_layGames 32 = .ok (.invokevirtual 461, 3) := by decide +kernel
theorem dX7_layGames_35 : decode cX7_layGames 35 = .ok (.istore 4, 2) := by decide +kernel
theorem dX7_layGames_37 : decode cX7_layGames 37 = .ok (.aload_n 0, 1) := by decide +kernel
theorem dX7_layGames_38 : decode cX7_layGames 38 = .ok (.getfield 56, 3) := by decide +kernel
theorem dX7_layGames_41 : decode cX7_layGames 41 = .ok (.bipush 12, 2) := by decide +kernel
theorem dX7_layGames_43 : decode cX7_layGames 43 = .ok (.iload_n 2, 1) := by decide +kernel
theorem dX7_layGames_44 : decode cX7_layGames 44 = .ok (.imul, 1) := by decide +kernel
theorem dX7_layGames_45 : decode cX7_layGames 45 = .ok (.iload_n 2, 1) := by decide +kernel
theorem dX7_layGames_46 : decode cX7_layGames 46 = .ok (.iadd, 1) := by decide +kernel
theorem dX7_layGames_47 : decode cX7_layGames 47 = .ok (.iload_n 1, 1) := by decide +kernel
theorem dX7_layGames_48 : decode cX7_layGames 48 = .ok (.iadd, 1) := by decide +kernel
theorem dX7_layGames_49 : decode cX7_layGames 49 = .ok (.iload_n 3, 1) := by decide +kernel
theorem dX7_layGames_50 : decode cX7_layGames 50 = .ok (.iload 4, 2) := by decide +kernel
theorem dX7_layGames_52 : decode cX7_layGames 52 = .ok (.if_icmp .le 7, 3) := by decide +kernel
theorem dX7_layGames_55 : decode cX7_layGames 55 = .ok (.iload_n 3, 1) := by decide +kernel
theorem dX7_layGames_56 : decode cX7_layGames 56 = .ok (.goto 5, 3) := by decide +kernel
theorem dX7_layGames_59 : decode cX7_layGames 59 = .ok (.iload 4, 2) := by decide +kernel
theorem dX7_layGames_61 : decode cX7_layGames 61 = .ok (.iastore, 1) := by decide +kernel
theorem dX7_layGames_62 : decode cX7_layGames 62 = .ok (.iinc 2 1, 3) := by decide +kernel
theorem dX7_layGames_65 : decode cX7_layGames 65 = .ok (.goto (-55), 3) := by decide +kernel
theorem dX7_layGames_68 : decode cX7_layGames 68 = .ok (.iinc 1 1, 3) := by decide +kernel
theorem dX7_layGames_71 : decode cX7_layGames 71 = .ok (.goto (-69), 3) := by decide +kernel
theorem dX7_layGames_74 : decode cX7_layGames 74 = .ok (.return_, 1) := by decide +kernel
theorem dX7_ends_0 : decode cX7_ends 0 = .ok (.iload_n 1, 1) := by decide +kernel
theorem dX7_ends_1 : decode cX7_ends 1 = .ok (.iload_n 2, 1) := by decide +kernel
theorem dX7_ends_2 : decode cX7_ends 2 = .ok (.invokestatic 85, 3) := by decide +kernel
theorem dX7_ends_5 : decode cX7_ends 5 = .ok (.ifCond .ne 7, 3) := by decide +kernel
theorem dX7_ends_8 : decode cX7_ends 8 = .ok (.sipush (-1000), 3) := by decide +kernel
theorem dX7_ends_11 : decode cX7_ends 11 = .ok (.ireturn, 1) := by decide +kernel
theorem dX7_ends_12 : decode cX7_ends 12 = .ok (.aload_n 0, 1) := by decide +kernel
theorem dX7_ends_13 : decode cX7_ends 13 = .ok (.invokevirtual 464, 3) := by decide +kernel
theorem dX7_ends_16 : decode cX7_ends 16 = .ok (.aload_n 0, 1) := by decide +kernel
theorem dX7_ends_17 : decode cX7_ends 17 = .ok (.getfield 56, 3) := by decide +kernel
theorem dX7_ends_20 : decode cX7_ends 20 = .ok (.bipush 12, 2) := by decide +kernel
theorem dX7_ends_22 : decode cX7_ends 22 = .ok (.iload_n 1, 1) := by decide +kernel
theorem dX7_ends_23 : decode cX7_ends 23 = .ok (.imul, 1) := by decide +kernel
theorem dX7_ends_24 : decode cX7_ends 24 = .ok (.iload_n 2, 1) := by decide +kernel
theorem dX7_ends_25 : decode cX7_ends 25 = .ok (.iadd, 1) := by decide +kernel
theorem dX7_ends_26 : decode cX7_ends 26 = .ok (.iaload, 1) := by decide +kernel
theorem dX7_ends_27 : decode cX7_ends 27 = .ok (.ireturn, 1) := by decide +kernel
theorem dX7_take_0 : decode cX7_take 0 = .ok (.iload_n 1, 1) := by decide +kernel
theorem dX7_take_1 : decode cX7_take 1 = .ok (.iload_n 2, 1) := by decide +kernel
theorem dX7_take_2 : decode cX7_take 2 = .ok (.invokestatic 85, 3) := by decide +kernel
theorem dX7_take_5 : decode cX7_take 5 = .ok (.ifCond .ne 5, 3) := by decide +kernel
theorem dX7_take_8 : decode cX7_take 8 = .ok (.iconst (-1), 1) := by decide +kernel
theorem dX7_take_9 : decode cX7_take 9 = .ok (.ireturn, 1) := by decide +kernel
theorem dX7_take_10 : decode cX7_take 10 = .ok (.aload_n 0, 1) := by decide +kernel
theorem dX7_take_11 : decode cX7_take 11 = .ok (.invokevirtual 464, 3) := by decide +kernel
theorem dX7_take_14 : decode cX7_take 14 = .ok (.aload_n 0, 1) := by decide +kernel
theorem dX7_take_15 : decode cX7_take 15 = .ok (.iload_n 1, 1) := by decide +kernel
theorem dX7_take_16 : decode cX7_take 16 = .ok (.iload_n 2, 1) := by decide +kernel
theorem dX7_take_17 : decode cX7_take 17 = .ok (.invokevirtual 458, 3) := by decide +kernel
theorem dX7_take_20 : decode cX7_take 20 = .ok (.aload_n 0, 1) := by decide +kernel
theorem dX7_take_21 : decode cX7_take 21 = .ok (.iload_n 1, 1) := by decide +kernel
theorem dX7_take_22 : decode cX7_take 22 = .ok (.iload_n 2, 1) := by decide +kernel
theorem dX7_take_23 : decode cX7_take 23 = .ok (.invokevirtual 461, 3) := by decide +kernel
theorem dX7_take_26 : decode cX7_take 26 = .ok (.if_icmp .lt 7, 3) := by decide +kernel
theorem dX7_take_29 : decode cX7_take 29 = .ok (.iconst 0, 1) := by decide +kernel
theorem dX7_take_30 : decode cX7_take 30 = .ok (.goto 4, 3) := by decide +kernel
theorem dX7_take_33 : decode cX7_take 33 = .ok (.iconst 1, 1) := by decide +kernel
theorem dX7_take_34 : decode cX7_take 34 = .ok (.ireturn, 1) := by decide +kernel
theorem dX7_runOf_0 : decode cX7_runOf 0 = .ok (.iconst 0, 1) := by decide +kernel
theorem dX7_runOf_1 : decode cX7_runOf 1 = .ok (.istore_n 3, 1) := by decide +kernel
theorem dX7_runOf_2 : decode cX7_runOf 2 = .ok (.iload_n 1, 1) := by decide +kernel
theorem dX7_runOf_3 : decode cX7_runOf 3 = .ok (.istore 4, 2) := by decide +kernel
theorem dX7_runOf_5 : decode cX7_runOf 5 = .ok (.iload 4, 2) := by decide +kernel
theorem dX7_runOf_7 : decode cX7_runOf 7 = .ok (.iload_n 2, 1) := by decide +kernel
theorem dX7_runOf_8 : decode cX7_runOf 8 = .ok (.if_icmp .gt 25, 3) := by decide +kernel
theorem dX7_runOf_11 : decode cX7_runOf 11 = .ok (.iload_n 3, 1) := by decide +kernel
theorem dX7_runOf_12 : decode cX7_runOf 12 = .ok (.aload_n 0, 1) := by decide +kernel
theorem dX7_runOf_13 : decode cX7_runOf 13 = .ok (.getfield 7, 3) := by decide +kernel
theorem dX7_runOf_16 : decode cX7_runOf 16 = .ok (.bipush 69, 2) := by decide +kernel
theorem dX7_runOf_18 : decode cX7_runOf 18 = .ok (.iload 4, 2) := by decide +kernel
theorem dX7_runOf_20 : decode cX7_runOf 20 = .ok (.iadd, 1) := by decide +kernel
theorem dX7_runOf_21 : decode cX7_runOf 21 = .ok (.iaload, 1) := by decide +kernel
theorem dX7_runOf_22 : decode cX7_runOf 22 = .ok (.bipush 50, 2) := by decide +kernel
theorem dX7_runOf_24 : decode cX7_runOf 24 = .ok (.isub, 1) := by decide +kernel
theorem dX7_runOf_25 : decode cX7_runOf 25 = .ok (.iadd, 1) := by decide +kernel
theorem dX7_runOf_26 : decode cX7_runOf 26 = .ok (.istore_n 3, 1) := by decide +kernel
theorem dX7_runOf_27 : decode cX7_runOf 27 = .ok (.iinc 4 1, 3) := by decide +kernel
theorem dX7_runOf_30 : decode cX7_runOf 30 = .ok (.goto (-25), 3) := by decide +kernel
theorem dX7_runOf_33 : decode cX7_runOf 33 = .ok (.iload_n 3, 1) := by decide +kernel
theorem dX7_runOf_34 : decode cX7_runOf 34 = .ok (.ireturn, 1) := by decide +kernel
theorem dX7_best_0 : decode cX7_best 0 = .ok (.iload_n 1, 1) := by decide +kernel
theorem dX7_best_1 : decode cX7_best 1 = .ok (.iload_n 2, 1) := by decide +kernel
theorem dX7_best_2 : decode cX7_best 2 = .ok (.invokestatic 85, 3) := by decide +kernel
theorem dX7_best_5 : decode cX7_best 5 = .ok (.ifCond .eq 12, 3) := by decide +kernel
theorem dX7_best_8 : decode cX7_best 8 = .ok (.iload_n 3, 1) := by decide +kernel
theorem dX7_best_9 : decode cX7_best 9 = .ok (.iconst 0, 1) := by decide +kernel
theorem dX7_best_10 : decode cX7_best 10 = .ok (.iconst 2, 1) := by decide +kernel
theorem dX7_best_11 : decode cX7_best 11 = .ok (.invokestatic 63, 3) := by decide +kernel
theorem dX7_best_14 : decode cX7_best 14 = .ok (.ifCond .ne 7, 3) := by decide +kernel
theorem dX7_best_17 : decode cX7_best 17 = .ok (.sipush (-1000), 3) := by decide +kernel
theorem dX7_best_20 : decode cX7_best 20 = .ok (.ireturn, 1) := by decide +kernel
theorem dX7_best_21 : decode cX7_best 21 = .ok (.iload_n 1, 1) := by decide +kernel
theorem dX7_best_22 : decode cX7_best 22 = .ok (.istore 4, 2) := by decide +kernel
theorem dX7_best_24 : decode cX7_best 24 = .ok (.iload_n 1, 1) := by decide +kernel
theorem dX7_best_25 : decode cX7_best 25 = .ok (.istore 5, 2) := by decide +kernel
theorem dX7_best_27 : decode cX7_best 27 = .ok (.iload_n 1, 1) := by decide +kernel
theorem dX7_best_28 : decode cX7_best 28 = .ok (.istore 6, 2) := by decide +kernel
theorem dX7_best_30 : decode cX7_best 30 = .ok (.iload 6, 2) := by decide +kernel
theorem dX7_best_32 : decode cX7_best 32 = .ok (.iload_n 2, 1) := by decide +kernel
theorem dX7_best_33 : decode cX7_best 33 = .ok (.if_icmp .gt 55, 3) := by decide +kernel
theorem dX7_best_36 : decode cX7_best 36 = .ok (.iload 6, 2) := by decide +kernel
theorem dX7_best_38 : decode cX7_best 38 = .ok (.istore 7, 2) := by decide +kernel
theorem dX7_best_40 : decode cX7_best 40 = .ok (.iload 7, 2) := by decide +kernel
theorem dX7_best_42 : decode cX7_best 42 = .ok (.iload_n 2, 1) := by decide +kernel
theorem dX7_best_43 : decode cX7_best 43 = .ok (.if_icmp .gt 39, 3) := by decide +kernel
theorem dX7_best_46 : decode cX7_best 46 = .ok (.aload_n 0, 1) := by decide +kernel
theorem dX7_best_47 : decode cX7_best 47 = .ok (.iload 6, 2) := by decide +kernel
theorem dX7_best_49 : decode cX7_best 49 = .ok (.iload 7, 2) := by decide +kernel
theorem dX7_best_51 : decode cX7_best 51 = .ok (.invokevirtual 467, 3) := by decide +kernel
theorem dX7_best_54 : decode cX7_best 54 = .ok (.aload_n 0, 1) := by decide +kernel
theorem dX7_best_55 : decode cX7_best 55 = .ok (.iload 4, 2) := by decide +kernel
theorem dX7_best_57 : decode cX7_best 57 = .ok (.iload 5, 2) := by decide +kernel
theorem dX7_best_59 : decode cX7_best 59 = .ok (.invokevirtual 467, 3) := by decide +kernel
theorem dX7_best_62 : decode cX7_best 62 = .ok (.if_icmp .gt 6, 3) := by decide +kernel
theorem dX7_best_65 : decode cX7_best 65 = .ok (.goto 11, 3) := by decide +kernel
theorem dX7_best_68 : decode cX7_best 68 = .ok (.iload 6, 2) := by decide +kernel
theorem dX7_best_70 : decode cX7_best 70 = .ok (.istore 4, 2) := by decide +kernel
theorem dX7_best_72 : decode cX7_best 72 = .ok (.iload 7, 2) := by decide +kernel
theorem dX7_best_74 : decode cX7_best 74 = .ok (.istore 5, 2) := by decide +kernel
theorem dX7_best_76 : decode cX7_best 76 = .ok (.iinc 7 1, 3) := by decide +kernel
theorem dX7_best_79 : decode cX7_best 79 = .ok (.goto (-39), 3) := by decide +kernel
theorem dX7_best_82 : decode cX7_best 82 = .ok (.iinc 6 1, 3) := by decide +kernel
theorem dX7_best_85 : decode cX7_best 85 = .ok (.goto (-55), 3) := by decide +kernel
theorem dX7_best_88 : decode cX7_best 88 = .ok (.iload_n 3, 1) := by decide +kernel
theorem dX7_best_89 : decode cX7_best 89 = .ok (.ifCond .ne 14, 3) := by decide +kernel
theorem dX7_best_92 : decode cX7_best 92 = .ok (.aload_n 0, 1) := by decide +kernel
theorem dX7_best_93 : decode cX7_best 93 = .ok (.iload 4, 2) := by decide +kernel
theorem dX7_best_95 : decode cX7_best 95 = .ok (.iload 5, 2) := by decide +kernel
theorem dX7_best_97 : decode cX7_best 97 = .ok (.invokevirtual 467, 3) := by decide +kernel
theorem dX7_best_100 : decode cX7_best 100 = .ok (.goto 15, 3) := by decide +kernel
theorem dX7_best_103 : decode cX7_best 103 = .ok (.iload_n 3, 1) := by decide +kernel
theorem dX7_best_104 : decode cX7_best 104 = .ok (.iconst 1, 1) := by decide +kernel
theorem dX7_best_105 : decode cX7_best 105 = .ok (.if_icmp .ne 8, 3) := by decide +kernel
theorem dX7_best_108 : decode cX7_best 108 = .ok (.iload 4, 2) := by decide +kernel
theorem dX7_best_110 : decode cX7_best 110 = .ok (.goto 5, 3) := by decide +kernel
theorem dX7_best_113 : decode cX7_best 113 = .ok (.iload 5, 2) := by decide +kernel
theorem dX7_best_115 : decode cX7_best 115 = .ok (.ireturn, 1) := by decide +kernel
theorem dX7_said_0 : decode cX7_said 0 = .ok (.iload_n 1, 1) := by decide +kernel
theorem dX7_said_1 : decode cX7_said 1 = .ok (.iconst (-1), 1) := by decide +kernel
theorem dX7_said_2 : decode cX7_said 2 = .ok (.if_icmp .ne 12, 3) := by decide +kernel
theorem dX7_said_5 : decode cX7_said 5 = .ok (.aload_n 0, 1) := by decide +kernel
theorem dX7_said_6 : decode cX7_said 6 = .ok (.getfield 7, 3) := by decide +kernel
theorem dX7_said_9 : decode cX7_said 9 = .ok (.iconst 5, 1) := by decide +kernel
theorem dX7_said_10 : decode cX7_said 10 = .ok (.iconst 0, 1) := by decide +kernel
theorem dX7_said_11 : decode cX7_said 11 = .ok (.iastore, 1) := by decide +kernel
theorem dX7_said_12 : decode cX7_said 12 = .ok (.iconst 0, 1) := by decide +kernel
theorem dX7_said_13 : decode cX7_said 13 = .ok (.ireturn, 1) := by decide +kernel
theorem dX7_said_14 : decode cX7_said 14 = .ok (.aload_n 0, 1) := by decide +kernel
theorem dX7_said_15 : decode cX7_said 15 = .ok (.iload_n 1, 1) := by decide +kernel
theorem dX7_said_16 : decode cX7_said 16 = .ok (.invokevirtual 308, 3) := by decide +kernel
theorem dX7_said_19 : decode cX7_said 19 = .ok (.ifCond .eq 24, 3) := by decide +kernel
theorem dX7_said_22 : decode cX7_said 22 = .ok (.iload_n 2, 1) := by decide +kernel
theorem dX7_said_23 : decode cX7_said 23 = .ok (.iconst 0, 1) := by decide +kernel
theorem dX7_said_24 : decode cX7_said 24 = .ok (.bipush 99, 2) := by decide +kernel
theorem dX7_said_26 : decode cX7_said 26 = .ok (.invokestatic 63, 3) := by decide +kernel
theorem dX7_said_29 : decode cX7_said 29 = .ok (.ifCond .eq 14, 3) := by decide +kernel
theorem dX7_said_32 : decode cX7_said 32 = .ok (.aload_n 0, 1) := by decide +kernel
theorem dX7_said_33 : decode cX7_said 33 = .ok (.getfield 7, 3) := by decide +kernel
theorem dX7_said_36 : decode cX7_said 36 = .ok (.iconst 5, 1) := by decide +kernel
theorem dX7_said_37 : decode cX7_said 37 = .ok (.iaload, 1) := by decide +kernel
theorem dX7_said_38 : decode cX7_said 38 = .ok (.bipush 8, 2) := by decide +kernel
theorem dX7_said_40 : decode cX7_said 40 = .ok (.if_icmp .ne 6, 3) := by decide +kernel
theorem dX7_said_43 : decode cX7_said 43 = .ok (.bipush (-2), 2) := by decide +kernel
theorem dX7_said_45 : decode cX7_said 45 = .ok (.ireturn, 1) := by decide +kernel
theorem dX7_said_46 : decode cX7_said 46 = .ok (.aload_n 0, 1) := by decide +kernel
theorem dX7_said_47 : decode cX7_said 47 = .ok (.getfield 7, 3) := by decide +kernel
theorem dX7_said_50 : decode cX7_said 50 = .ok (.bipush 81, 2) := by decide +kernel
theorem dX7_said_52 : decode cX7_said 52 = .ok (.iconst 2, 1) := by decide +kernel
theorem dX7_said_53 : decode cX7_said 53 = .ok (.aload_n 0, 1) := by decide +kernel
theorem dX7_said_54 : decode cX7_said 54 = .ok (.getfield 7, 3) := by decide +kernel
theorem dX7_said_57 : decode cX7_said 57 = .ok (.iconst 5, 1) := by decide +kernel
theorem dX7_said_58 : decode cX7_said 58 = .ok (.iaload, 1) := by decide +kernel
theorem dX7_said_59 : decode cX7_said 59 = .ok (.imul, 1) := by decide +kernel
theorem dX7_said_60 : decode cX7_said 60 = .ok (.iadd, 1) := by decide +kernel
theorem dX7_said_61 : decode cX7_said 61 = .ok (.iload_n 1, 1) := by decide +kernel
theorem dX7_said_62 : decode cX7_said 62 = .ok (.iastore, 1) := by decide +kernel
theorem dX7_said_63 : decode cX7_said 63 = .ok (.aload_n 0, 1) := by decide +kernel
theorem dX7_said_64 : decode cX7_said 64 = .ok (.getfield 7, 3) := by decide +kernel
theorem dX7_said_67 : decode cX7_said 67 = .ok (.bipush 81, 2) := by decide +kernel
theorem dX7_said_69 : decode cX7_said 69 = .ok (.iconst 2, 1) := by decide +kernel
theorem dX7_said_70 : decode cX7_said 70 = .ok (.aload_n 0, 1) := by decide +kernel
theorem dX7_said_71 : decode cX7_said 71 = .ok (.getfield 7, 3) := by decide +kernel
theorem dX7_said_74 : decode cX7_said 74 = .ok (.iconst 5, 1) := by decide +kernel
theorem dX7_said_75 : decode cX7_said 75 = .ok (.iaload, 1) := by decide +kernel
theorem dX7_said_76 : decode cX7_said 76 = .ok (.imul, 1) := by decide +kernel
theorem dX7_said_77 : decode cX7_said 77 = .ok (.iadd, 1) := by decide +kernel
theorem dX7_said_78 : decode cX7_said 78 = .ok (.iconst 1, 1) := by decide +kernel
theorem dX7_said_79 : decode cX7_said 79 = .ok (.iadd, 1) := by decide +kernel
theorem dX7_said_80 : decode cX7_said 80 = .ok (.iload_n 2, 1) := by decide +kernel
theorem dX7_said_81 : decode cX7_said 81 = .ok (.iastore, 1) := by decide +kernel
theorem dX7_said_82 : decode cX7_said 82 = .ok (.aload_n 0, 1) := by decide +kernel
theorem dX7_said_83 : decode cX7_said 83 = .ok (.getfield 7, 3) := by decide +kernel
theorem dX7_said_86 : decode cX7_said 86 = .ok (.iconst 5, 1) := by decide +kernel
theorem dX7_said_87 : decode cX7_said 87 = .ok (.dup2, 1) := by decide +kernel
theorem dX7_said_88 : decode cX7_said 88 = .ok (.iaload, 1) := by decide +kernel
theorem dX7_said_89 : decode cX7_said 89 = .ok (.iconst 1, 1) := by decide +kernel
theorem dX7_said_90 : decode cX7_said 90 = .ok (.iadd, 1) := by decide +kernel
theorem dX7_said_91 : decode cX7_said 91 = .ok (.iastore, 1) := by decide +kernel
theorem dX7_said_92 : decode cX7_said 92 = .ok (.aload_n 0, 1) := by decide +kernel
theorem dX7_said_93 : decode cX7_said 93 = .ok (.getfield 7, 3) := by decide +kernel
theorem dX7_said_96 : decode cX7_said 96 = .ok (.iconst 5, 1) := by decide +kernel
theorem dX7_said_97 : decode cX7_said 97 = .ok (.iaload, 1) := by decide +kernel
theorem dX7_said_98 : decode cX7_said 98 = .ok (.ireturn, 1) := by decide +kernel
theorem dX7_whose_0 : decode cX7_whose 0 = .ok (.iconst 0, 1) := by decide +kernel
theorem dX7_whose_1 : decode cX7_whose 1 = .ok (.istore_n 1, 1) := by decide +kernel
theorem dX7_whose_2 : decode cX7_whose 2 = .ok (.iconst 0, 1) := by decide +kernel
theorem dX7_whose_3 : decode cX7_whose 3 = .ok (.istore_n 2, 1) := by decide +kernel
theorem dX7_whose_4 : decode cX7_whose 4 = .ok (.iload_n 2, 1) := by decide +kernel
theorem dX7_whose_5 : decode cX7_whose 5 = .ok (.aload_n 0, 1) := by decide +kernel
theorem dX7_whose_6 : decode cX7_whose 6 = .ok (.getfield 7, 3) := by decide +kernel
theorem dX7_whose_9 : decode cX7_whose 9 = .ok (.iconst 1, 1) := by decide +kernel
theorem dX7_whose_10 : decode cX7_whose 10 = .ok (.iaload, 1) := by decide +kernel
theorem dX7_whose_11 : decode cX7_whose 11 = .ok (.if_icmp .ge 92, 3) := by decide +kernel
theorem dX7_whose_14 : decode cX7_whose 14 = .ok (.iconst 1, 1) := by decide +kernel
theorem dX7_whose_15 : decode cX7_whose 15 = .ok (.istore_n 3, 1) := by decide +kernel
theorem dX7_whose_16 : decode cX7_whose 16 = .ok (.bipush 81, 2) := by decide +kernel
theorem dX7_whose_18 : decode cX7_whose 18 = .ok (.istore 4, 2) := by decide +kernel
theorem dX7_whose_20 : decode cX7_whose 20 = .ok (.iload 4, 2) := by decide +kernel
theorem dX7_whose_22 : decode cX7_whose 22 = .ok (.bipush 81, 2) := by decide +kernel
theorem dX7_whose_24 : decode cX7_whose 24 = .ok (.iconst 2, 1) := by decide +kernel
theorem dX7_whose_25 : decode cX7_whose 25 = .ok (.aload_n 0, 1) := by decide +kernel
theorem dX7_whose_26 : decode cX7_whose 26 = .ok (.getfield 7, 3) := by decide +kernel
theorem dX7_whose_29 : decode cX7_whose 29 = .ok (.iconst 5, 1) := by decide +kernel
theorem dX7_whose_30 : decode cX7_whose 30 = .ok (.iaload, 1) := by decide +kernel
theorem dX7_whose_31 : decode cX7_whose 31 = .ok (.imul, 1) := by decide +kernel
theorem dX7_whose_32 : decode cX7_whose 32 = .ok (.iadd, 1) := by decide +kernel
theorem dX7_whose_33 : decode cX7_whose 33 = .ok (.if_icmp .ge 50, 3) := by decide +kernel
theorem dX7_whose_36 : decode cX7_whose 36 = .ok (.iload_n 3, 1) := by decide +kernel
theorem dX7_whose_37 : decode cX7_whose 37 = .ok (.ifCond .eq 38, 3) := by decide +kernel
theorem dX7_whose_40 : decode cX7_whose 40 = .ok (.aload_n 0, 1) := by decide +kernel
theorem dX7_whose_41 : decode cX7_whose 41 = .ok (.iload_n 2, 1) := by decide +kernel
theorem dX7_whose_42 : decode cX7_whose 42 = .ok (.aload_n 0, 1) := by decide +kernel
theorem dX7_whose_43 : decode cX7_whose 43 = .ok (.getfield 7, 3) := by decide +kernel
theorem dX7_whose_46 : decode cX7_whose 46 = .ok (.iload 4, 2) := by decide +kernel
theorem dX7_whose_48 : decode cX7_whose 48 = .ok (.iaload, 1) := by decide +kernel
theorem dX7_whose_49 : decode cX7_whose 49 = .ok (.aload_n 0, 1) := by decide +kernel
theorem dX7_whose_50 : decode cX7_whose 50 = .ok (.getfield 7, 3) := by decide +kernel
theorem dX7_whose_53 : decode cX7_whose 53 = .ok (.bipush 9, 2) := by decide +kernel
theorem dX7_whose_55 : decode cX7_whose 55 = .ok (.iaload, 1) := by decide +kernel
theorem dX7_whose_56 : decode cX7_whose 56 = .ok (.invokevirtual 296, 3) := by decide +kernel
theorem dX7_whose_59 : decode cX7_whose 59 = .ok (.aload_n 0, 1) := by decide +kernel
theorem dX7_whose_60 : decode cX7_whose 60 = .ok (.getfield 7, 3) := by decide +kernel
theorem dX7_whose_63 : decode cX7_whose 63 = .ok (.iload 4, 2) := by decide +kernel
theorem dX7_whose_65 : decode cX7_whose 65 = .ok (.iconst 1, 1) := by decide +kernel
theorem dX7_whose_66 : decode cX7_whose 66 = .ok (.iadd, 1) := by decide +kernel
theorem dX7_whose_67 : decode cX7_whose 67 = .ok (.iaload, 1) := by decide +kernel
theorem dX7_whose_68 : decode cX7_whose 68 = .ok (.if_icmp .ne 7, 3) := by decide +kernel
theorem dX7_whose_71 : decode cX7_whose 71 = .ok (.iconst 1, 1) := by decide +kernel
theorem dX7_whose_72 : decode cX7_whose 72 = .ok (.goto 4, 3) := by decide +kernel
theorem dX7_whose_75 : decode cX7_whose 75 = .ok (.iconst 0, 1) := by decide +kernel
theorem dX7_whose_76 : decode cX7_whose 76 = .ok (.istore_n 3, 1) := by decide +kernel
theorem dX7_whose_77 : decode cX7_whose 77 = .ok (.iinc 4 2, 3) := by decide +kernel
theorem dX7_whose_80 : decode cX7_whose 80 = .ok (.goto (-60), 3) := by decide +kernel
theorem dX7_whose_83 : decode cX7_whose 83 = .ok (.iload_n 1, 1) := by decide +kernel
theorem dX7_whose_84 : decode cX7_whose 84 = .ok (.iload_n 3, 1) := by decide +kernel
theorem dX7_whose_85 : decode cX7_whose 85 = .ok (.ifCond .eq 9, 3) := by decide +kernel
theorem dX7_whose_88 : decode cX7_whose 88 = .ok (.iconst 1, 1) := by decide +kernel
theorem dX7_whose_89 : decode cX7_whose 89 = .ok (.iload_n 2, 1) := by decide +kernel
theorem dX7_whose_90 : decode cX7_whose 90 = .ok (.ishl, 1) := by decide +kernel
theorem dX7_whose_91 : decode cX7_whose 91 = .ok (.goto 4, 3) := by decide +kernel
theorem dX7_whose_94 : decode cX7_whose 94 = .ok (.iconst 0, 1) := by decide +kernel
theorem dX7_whose_95 : decode cX7_whose 95 = .ok (.ior, 1) := by decide +kernel
theorem dX7_whose_96 : decode cX7_whose 96 = .ok (.istore_n 1, 1) := by decide +kernel
theorem dX7_whose_97 : decode cX7_whose 97 = .ok (.iinc 2 1, 3) := by decide +kernel
theorem dX7_whose_100 : decode cX7_whose 100 = .ok (.goto (-96), 3) := by decide +kernel
theorem dX7_whose_103 : decode cX7_whose 103 = .ok (.iload_n 1, 1) := by decide +kernel
theorem dX7_whose_104 : decode cX7_whose 104 = .ok (.ireturn, 1) := by decide +kernel
theorem dX7_image_0 : decode cX7_image 0 = .ok (.aload_n 0, 1) := by decide +kernel
theorem dX7_image_1 : decode cX7_image 1 = .ok (.getfield 7, 3) := by decide +kernel
theorem dX7_image_4 : decode cX7_image 4 = .ok (.aload_n 0, 1) := by decide +kernel
theorem dX7_image_5 : decode cX7_image 5 = .ok (.getfield 13, 3) := by decide +kernel
theorem dX7_image_8 : decode cX7_image 8 = .ok (.invokestatic 59, 3) := by decide +kernel
theorem dX7_image_11 : decode cX7_image 11 = .ok (.aload_n 0, 1) := by decide +kernel
theorem dX7_image_12 : decode cX7_image 12 = .ok (.getfield 7, 3) := by decide +kernel
theorem dX7_image_15 : decode cX7_image 15 = .ok (.bipush 6, 2) := by decide +kernel
theorem dX7_image_17 : decode cX7_image 17 = .ok (.iaload, 1) := by decide +kernel
theorem dX7_image_18 : decode cX7_image 18 = .ok (.ireturn, 1) := by decide +kernel
theorem dX7_back_0 : decode cX7_back 0 = .ok (.aload_n 0, 1) := by decide +kernel
theorem dX7_back_1 : decode cX7_back 1 = .ok (.getfield 13, 3) := by decide +kernel
theorem dX7_back_4 : decode cX7_back 4 = .ok (.aload_n 0, 1) := by decide +kernel
theorem dX7_back_5 : decode cX7_back 5 = .ok (.getfield 7, 3) := by decide +kernel
theorem dX7_back_8 : decode cX7_back 8 = .ok (.invokestatic 59, 3) := by decide +kernel
theorem dX7_back_11 : decode cX7_back 11 = .ok (.aload_n 0, 1) := by decide +kernel
theorem dX7_back_12 : decode cX7_back 12 = .ok (.getfield 7, 3) := by decide +kernel
theorem dX7_back_15 : decode cX7_back 15 = .ok (.bipush 6, 2) := by decide +kernel
theorem dX7_back_17 : decode cX7_back 17 = .ok (.iaload, 1) := by decide +kernel
theorem dX7_back_18 : decode cX7_back 18 = .ok (.ireturn, 1) := by decide +kernel
theorem dX7_about_0 : decode cX7_about 0 = .ok (.iload_n 1, 1) := by decide +kernel
theorem dX7_about_1 : decode cX7_about 1 = .ok (.iconst 0, 1) := by decide +kernel
theorem dX7_about_2 : decode cX7_about 2 = .ok (.iconst 5, 1) := by decide +kernel
theorem dX7_about_3 : decode cX7_about 3 = .ok (.invokestatic 63, 3) := by decide +kernel
theorem dX7_about_6 : decode cX7_about 6 = .ok (.ifCond .eq 12, 3) := by decide +kernel
theorem dX7_about_9 : decode cX7_about 9 = .ok (.aload_n 0, 1) := by decide +kernel
theorem dX7_about_10 : decode cX7_about 10 = .ok (.getfield 7, 3) := by decide +kernel
theorem dX7_about_13 : decode cX7_about 13 = .ok (.iload_n 1, 1) := by decide +kernel
theorem dX7_about_14 : decode cX7_about 14 = .ok (.iaload, 1) := by decide +kernel
theorem dX7_about_15 : decode cX7_about 15 = .ok (.goto 18, 3) := by decide +kernel
theorem dX7_about_18 : decode cX7_about 18 = .ok (.iload_n 1, 1) := by decide +kernel
theorem dX7_about_19 : decode cX7_about 19 = .ok (.bipush 6, 2) := by decide +kernel
theorem dX7_about_21 : decode cX7_about 21 = .ok (.if_icmp .ne 10, 3) := by decide +kernel
theorem dX7_about_24 : decode cX7_about 24 = .ok (.aload_n 0, 1) := by decide +kernel
theorem dX7_about_25 : decode cX7_about 25 = .ok (.getfield 88, 3) := by decide +kernel
theorem dX7_about_28 : decode cX7_about 28 = .ok (.goto 5, 3) := by decide +kernel
theorem dX7_about_31 : decode cX7_about 31 = .ok (.bipush (-2), 2) := by decide +kernel
theorem dX7_about_33 : decode cX7_about 33 = .ok (.ireturn, 1) := by decide +kernel

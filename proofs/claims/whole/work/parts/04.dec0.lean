-- 04.dec0
theorem dX0_init_0 : decode cX0_init 0 = .ok (.aload_n 0, 1) := by decide +kernel
theorem dX0_init_1 : decode cX0_init 1 = .ok (.invokespecial 3, 3) := by decide +kernel
theorem dX0_init_4 : decode cX0_init 4 = .ok (.aload_n 0, 1) := by decide +kernel
theorem dX0_init_5 : decode cX0_init 5 = .ok (.iconst 5, 1) := by decide +kernel
theorem dX0_init_6 : decode cX0_init 6 = .ok (.newarray .int, 2) := by decide +kernel
theorem dX0_init_8 : decode cX0_init 8 = .ok (.putfield 9, 3) := by decide +kernel
theorem dX0_init_11 : decode cX0_init 11 = .ok (.aload_n 0, 1) := by decide +kernel
theorem dX0_init_12 : decode cX0_init 12 = .ok (.iconst 5, 1) := by decide +kernel
theorem dX0_init_13 : decode cX0_init 13 = .ok (.newarray .int, 2) := by decide +kernel
theorem dX0_init_15 : decode cX0_init 15 = .ok (.putfield 15, 3) := by decide +kernel
theorem dX0_init_18 : decode cX0_init 18 = .ok (.aload_n 0, 1) := by decide +kernel
theorem dX0_init_19 : decode cX0_init 19 = .ok (.bipush 6, 2) := by decide +kernel
theorem dX0_init_21 : decode cX0_init 21 = .ok (.newarray .int, 2) := by decide +kernel
theorem dX0_init_23 : decode cX0_init 23 = .ok (.putfield 18, 3) := by decide +kernel
theorem dX0_init_26 : decode cX0_init 26 = .ok (.aload_n 0, 1) := by decide +kernel
theorem dX0_init_27 : decode cX0_init 27 = .ok (.bipush 6, 2) := by decide +kernel
theorem dX0_init_29 : decode cX0_init 29 = .ok (.newarray .int, 2) := by decide +kernel
theorem dX0_init_31 : decode cX0_init 31 = .ok (.putfield 21, 3) := by decide +kernel
theorem dX0_init_34 : decode cX0_init 34 = .ok (.aload_n 0, 1) := by decide +kernel
theorem dX0_init_35 : decode cX0_init 35 = .ok (.bipush 6, 2) := by decide +kernel
theorem dX0_init_37 : decode cX0_init 37 = .ok (.newarray .int, 2) := by decide +kernel
theorem dX0_init_39 : decode cX0_init 39 = .ok (.putfield 24, 3) := by decide +kernel
theorem dX0_init_42 : decode cX0_init 42 = .ok (.aload_n 0, 1) := by decide +kernel
theorem dX0_init_43 : decode cX0_init 43 = .ok (.bipush 6, 2) := by decide +kernel
theorem dX0_init_45 : decode cX0_init 45 = .ok (.newarray .int, 2) := by decide +kernel
theorem dX0_init_47 : decode cX0_init 47 = .ok (.putfield 27, 3) := by decide +kernel
theorem dX0_init_50 : decode cX0_init 50 = .ok (.aload_n 0, 1) := by decide +kernel
theorem dX0_init_51 : decode cX0_init 51 = .ok (.bipush 12, 2) := by decide +kernel
theorem dX0_init_53 : decode cX0_init 53 = .ok (.newarray .int, 2) := by decide +kernel
theorem dX0_init_55 : decode cX0_init 55 = .ok (.putfield 30, 3) := by decide +kernel
theorem dX0_init_58 : decode cX0_init 58 = .ok (.aload_n 0, 1) := by decide +kernel
theorem dX0_init_59 : decode cX0_init 59 = .ok (.bipush 8, 2) := by decide +kernel
theorem dX0_init_61 : decode cX0_init 61 = .ok (.newarray .int, 2) := by decide +kernel
theorem dX0_init_63 : decode cX0_init 63 = .ok (.putfield 33, 3) := by decide +kernel
theorem dX0_init_66 : decode cX0_init 66 = .ok (.aload_n 0, 1) := by decide +kernel
theorem dX0_init_67 : decode cX0_init 67 = .ok (.bipush 8, 2) := by decide +kernel
theorem dX0_init_69 : decode cX0_init 69 = .ok (.newarray .int, 2) := by decide +kernel
theorem dX0_init_71 : decode cX0_init 71 = .ok (.putfield 36, 3) := by decide +kernel
theorem dX0_init_74 : decode cX0_init 74 = .ok (.aload_n 0, 1) := by decide +kernel
theorem dX0_init_75 : decode cX0_init 75 = .ok (.new 39, 3) := by decide +kernel
theorem dX0_init_78 : decode cX0_init 78 = .ok (.dup, 1) := by decide +kernel
theorem dX0_init_79 : decode cX0_init 79 = .ok (.invokespecial 41, 3) := by decide +kernel
theorem dX0_init_82 : decode cX0_init 82 = .ok (.putfield 42, 3) := by decide +kernel
theorem dX0_init_85 : decode cX0_init 85 = .ok (.aload_n 0, 1) := by decide +kernel
theorem dX0_init_86 : decode cX0_init 86 = .ok (.bipush 30, 2) := by decide +kernel
theorem dX0_init_88 : decode cX0_init 88 = .ok (.anewarray 39, 3) := by decide +kernel
theorem dX0_init_91 : decode cX0_init 91 = .ok (.putfield 46, 3) := by decide +kernel
theorem dX0_init_94 : decode cX0_init 94 = .ok (.aload_n 0, 1) := by decide +kernel
theorem dX0_init_95 : decode cX0_init 95 = .ok (.bipush 30, 2) := by decide +kernel
theorem dX0_init_97 : decode cX0_init 97 = .ok (.newarray .int, 2) := by decide +kernel
theorem dX0_init_99 : decode cX0_init 99 = .ok (.putfield 50, 3) := by decide +kernel
theorem dX0_init_102 : decode cX0_init 102 = .ok (.aload_n 0, 1) := by decide +kernel
theorem dX0_init_103 : decode cX0_init 103 = .ok (.iconst 0, 1) := by decide +kernel
theorem dX0_init_104 : decode cX0_init 104 = .ok (.putfield 53, 3) := by decide +kernel
theorem dX0_init_107 : decode cX0_init 107 = .ok (.aload_n 0, 1) := by decide +kernel
theorem dX0_init_108 : decode cX0_init 108 = .ok (.iconst 0, 1) := by decide +kernel
theorem dX0_init_109 : decode cX0_init 109 = .ok (.putfield 57, 3) := by decide +kernel
theorem dX0_init_112 : decode cX0_init 112 = .ok (.aload_n 0, 1) := by decide +kernel
theorem dX0_init_113 : decode cX0_init 113 = .ok (.iconst (-1), 1) := by decide +kernel
theorem dX0_init_114 : decode cX0_init 114 = .ok (.putfield 60, 3) := by decide +kernel
theorem dX0_init_117 : decode cX0_init 117 = .ok (.aload_n 0, 1) := by decide +kernel
theorem dX0_init_118 : decode cX0_init 118 = .ok (.iconst 0, 1) := by decide +kernel
theorem dX0_init_119 : decode cX0_init 119 = .ok (.putfield 63, 3) := by decide +kernel
theorem dX0_init_122 : decode cX0_init 122 = .ok (.aload_n 0, 1) := by decide +kernel
theorem dX0_init_123 : decode cX0_init 123 = .ok (.iconst 0, 1) := by decide +kernel
theorem dX0_init_124 : decode cX0_init 124 = .ok (.putfield 66, 3) := by decide +kernel
theorem dX0_init_127 : decode cX0_init 127 = .ok (.aload_n 0, 1) := by decide +kernel
theorem dX0_init_128 : decode cX0_init 128 = .ok (.iconst 0, 1) := by decide +kernel
theorem dX0_init_129 : decode cX0_init 129 = .ok (.putfield 69, 3) := by decide +kernel
theorem dX0_init_132 : decode cX0_init 132 = .ok (.aload_n 0, 1) := by decide +kernel
theorem dX0_init_133 : decode cX0_init 133 = .ok (.iconst 0, 1) := by decide +kernel
theorem dX0_init_134 : decode cX0_init 134 = .ok (.putfield 72, 3) := by decide +kernel
theorem dX0_init_137 : decode cX0_init 137 = .ok (.aload_n 0, 1) := by decide +kernel
theorem dX0_init_138 : decode cX0_init 138 = .ok (.iconst 0, 1) := by decide +kernel
theorem dX0_init_139 : decode cX0_init 139 = .ok (.putfield 75, 3) := by decide +kernel
theorem dX0_init_142 : decode cX0_init 142 = .ok (.iconst 0, 1) := by decide +kernel
theorem dX0_init_143 : decode cX0_init 143 = .ok (.istore_n 1, 1) := by decide +kernel
theorem dX0_init_144 : decode cX0_init 144 = .ok (.iload_n 1, 1) := by decide +kernel
theorem dX0_init_145 : decode cX0_init 145 = .ok (.iconst 5, 1) := by decide +kernel
theorem dX0_init_146 : decode cX0_init 146 = .ok (.if_icmp .ge 26, 3) := by decide +kernel
theorem dX0_init_149 : decode cX0_init 149 = .ok (.aload_n 0, 1) := by decide +kernel
theorem dX0_init_150 : decode cX0_init 150 = .ok (.getfield 9, 3) := by decide +kernel
theorem dX0_init_153 : decode cX0_init 153 = .ok (.iload_n 1, 1) := by decide +kernel
theorem dX0_init_154 : decode cX0_init 154 = .ok (.iconst 1, 1) := by decide +kernel
theorem dX0_init_155 : decode cX0_init 155 = .ok (.iastore, 1) := by decide +kernel
theorem dX0_init_156 : decode cX0_init 156 = .ok (.aload_n 0, 1) := by decide +kernel
theorem dX0_init_157 : decode cX0_init 157 = .ok (.getfield 15, 3) := by decide +kernel
theorem dX0_init_160 : decode cX0_init 160 = .ok (.iload_n 1, 1) := by decide +kernel
theorem dX0_init_161 : decode cX0_init 161 = .ok (.bipush 10, 2) := by decide +kernel
theorem dX0_init_163 : decode cX0_init 163 = .ok (.iload_n 1, 1) := by decide +kernel
theorem dX0_init_164 : decode cX0_init 164 = .ok (.imul, 1) := by decide +kernel
theorem dX0_init_165 : decode cX0_init 165 = .ok (.iastore, 1) := by decide +kernel
theorem dX0_init_166 : decode cX0_init 166 = .ok (.iinc 1 1, 3) := by decide +kernel
theorem dX0_init_169 : decode cX0_init 169 = .ok (.goto (-25), 3) := by decide +kernel
theorem dX0_init_172 : decode cX0_init 172 = .ok (.iconst 0, 1) := by decide +kernel
theorem dX0_init_173 : decode cX0_init 173 = .ok (.istore_n 1, 1) := by decide +kernel
theorem dX0_init_174 : decode cX0_init 174 = .ok (.iload_n 1, 1) := by decide +kernel
theorem dX0_init_175 : decode cX0_init 175 = .ok (.bipush 30, 2) := by decide +kernel
theorem dX0_init_177 : decode cX0_init 177 = .ok (.if_icmp .ge 22, 3) := by decide +kernel
theorem dX0_init_180 : decode cX0_init 180 = .ok (.aload_n 0, 1) := by decide +kernel
theorem dX0_init_181 : decode cX0_init 181 = .ok (.getfield 46, 3) := by decide +kernel
theorem dX0_init_184 : decode cX0_init 184 = .ok (.iload_n 1, 1) := by decide +kernel
theorem dX0_init_185 : decode cX0_init 185 = .ok (.new 39, 3) := by decide +kernel
theorem dX0_init_188 : decode cX0_init 188 = .ok (.dup, 1) := by decide +kernel
theorem dX0_init_189 : decode cX0_init 189 = .ok (.invokespecial 41, 3) := by decide +kernel
theorem dX0_init_192 : decode cX0_init 192 = .ok (.aastore, 1) := by decide +kernel
theorem dX0_init_193 : decode cX0_init 193 = .ok (.iinc 1 1, 3) := by decide +kernel
theorem dX0_init_196 : decode cX0_init 196 = .ok (.goto (-22), 3) := by decide +kernel
theorem dX0_init_199 : decode cX0_init 199 = .ok (.return_, 1) := by decide +kernel
theorem dX0_become_0 : decode cX0_become 0 = .ok (.aload_n 1, 1) := by decide +kernel
theorem dX0_become_1 : decode cX0_become 1 = .ok (.getfield 9, 3) := by decide +kernel
theorem dX0_become_4 : decode cX0_become 4 = .ok (.iconst 0, 1) := by decide +kernel
theorem dX0_become_5 : decode cX0_become 5 = .ok (.aload_n 0, 1) := by decide +kernel
theorem dX0_become_6 : decode cX0_become 6 = .ok (.getfield 9, 3) := by decide +kernel
theorem dX0_become_9 : decode cX0_become 9 = .ok (.iconst 0, 1) := by decide +kernel
theorem dX0_become_10 : decode cX0_become 10 = .ok (.iconst 5, 1) := by decide +kernel
theorem dX0_become_11 : decode cX0_become 11 = .ok (.invokestatic 78, 3) := by decide +kernel
theorem dX0_become_14 : decode cX0_become 14 = .ok (.aload_n 1, 1) := by decide +kernel
theorem dX0_become_15 : decode cX0_become 15 = .ok (.getfield 15, 3) := by decide +kernel
theorem dX0_become_18 : decode cX0_become 18 = .ok (.iconst 0, 1) := by decide +kernel
theorem dX0_become_19 : decode cX0_become 19 = .ok (.aload_n 0, 1) := by decide +kernel
theorem dX0_become_20 : decode cX0_become 20 = .ok (.getfield 15, 3) := by decide +kernel
theorem dX0_become_23 : decode cX0_become 23 = .ok (.iconst 0, 1) := by decide +kernel
theorem dX0_become_24 : decode cX0_become 24 = .ok (.iconst 5, 1) := by decide +kernel
theorem dX0_become_25 : decode cX0_become 25 = .ok (.invokestatic 78, 3) := by decide +kernel
theorem dX0_become_28 : decode cX0_become 28 = .ok (.aload_n 1, 1) := by decide +kernel
theorem dX0_become_29 : decode cX0_become 29 = .ok (.getfield 18, 3) := by decide +kernel
theorem dX0_become_32 : decode cX0_become 32 = .ok (.iconst 0, 1) := by decide +kernel
theorem dX0_become_33 : decode cX0_become 33 = .ok (.aload_n 0, 1) := by decide +kernel
theorem dX0_become_34 : decode cX0_become 34 = .ok (.getfield 18, 3) := by decide +kernel
theorem dX0_become_37 : decode cX0_become 37 = .ok (.iconst 0, 1) := by decide +kernel
theorem dX0_become_38 : decode cX0_become 38 = .ok (.bipush 6, 2) := by decide +kernel
theorem dX0_become_40 : decode cX0_become 40 = .ok (.invokestatic 78, 3) := by decide +kernel
theorem dX0_become_43 : decode cX0_become 43 = .ok (.aload_n 1, 1) := by decide +kernel
theorem dX0_become_44 : decode cX0_become 44 = .ok (.getfield 21, 3) := by decide +kernel
theorem dX0_become_47 : decode cX0_become 47 = .ok (.iconst 0, 1) := by decide +kernel
theorem dX0_become_48 : decode cX0_become 48 = .ok (.aload_n 0, 1) := by decide +kernel
theorem dX0_become_49 : decode cX0_become 49 = .ok (.getfield 21, 3) := by decide +kernel
theorem dX0_become_52 : decode cX0_become 52 = .ok (.iconst 0, 1) := by decide +kernel
theorem dX0_become_53 : decode cX0_become 53 = .ok (.bipush 6, 2) := by decide +kernel
theorem dX0_become_55 : decode cX0_become 55 = .ok (.invokestatic 78, 3) := by decide +kernel
theorem dX0_become_58 : decode cX0_become 58 = .ok (.aload_n 1, 1) := by decide +kernel
theorem dX0_become_59 : decode cX0_become 59 = .ok (.getfield 24, 3) := by decide +kernel
theorem dX0_become_62 : decode cX0_become 62 = .ok (.iconst 0, 1) := by decide +kernel
theorem dX0_become_63 : decode cX0_become 63 = .ok (.aload_n 0, 1) := by decide +kernel
theorem dX0_become_64 : decode cX0_become 64 = .ok (.getfield 24, 3) := by decide +kernel
theorem dX0_become_67 : decode cX0_become 67 = .ok (.iconst 0, 1) := by decide +kernel
theorem dX0_become_68 : decode cX0_become 68 = .ok (.bipush 6, 2) := by decide +kernel
theorem dX0_become_70 : decode cX0_become 70 = .ok (.invokestatic 78, 3) := by decide +kernel
theorem dX0_become_73 : decode cX0_become 73 = .ok (.aload_n 1, 1) := by decide +kernel
theorem dX0_become_74 : decode cX0_become 74 = .ok (.getfield 27, 3) := by decide +kernel
theorem dX0_become_77 : decode cX0_become 77 = .ok (.iconst 0, 1) := by decide +kernel
theorem dX0_become_78 : decode cX0_become 78 = .ok (.aload_n 0, 1) := by decide +kernel
theorem dX0_become_79 : decode cX0_become 79 = .ok (.getfield 27, 3) := by decide +kernel
theorem dX0_become_82 : decode cX0_become 82 = .ok (.iconst 0, 1) := by decide +kernel
theorem dX0_become_83 : decode cX0_become 83 = .ok (.bipush 6, 2) := by decide +kernel
theorem dX0_become_85 : decode cX0_become 85 = .ok (.invokestatic 78, 3) := by decide +kernel
theorem dX0_become_88 : decode cX0_become 88 = .ok (.aload_n 1, 1) := by decide +kernel
theorem dX0_become_89 : decode cX0_become 89 = .ok (.getfield 30, 3) := by decide +kernel
theorem dX0_become_92 : decode cX0_become 92 = .ok (.iconst 0, 1) := by decide +kernel
theorem dX0_become_93 : decode cX0_become 93 = .ok (.aload_n 0, 1) := by decide +kernel
theorem dX0_become_94 : decode cX0_become 94 = .ok (.getfield 30, 3) := by decide +kernel
theorem dX0_become_97 : decode cX0_become 97 = .ok (.iconst 0, 1) := by decide +kernel
theorem dX0_become_98 : decode cX0_become 98 = .ok (.bipush 12, 2) := by decide +kernel
theorem dX0_become_100 : decode cX0_become 100 = .ok (.invokestatic 78, 3) := by decide +kernel
theorem dX0_become_103 : decode cX0_become 103 = .ok (.aload_n 1, 1) := by decide +kernel
theorem dX0_become_104 : decode cX0_become 104 = .ok (.getfield 33, 3) := by decide +kernel
theorem dX0_become_107 : decode cX0_become 107 = .ok (.iconst 0, 1) := by decide +kernel
theorem dX0_become_108 : decode cX0_become 108 = .ok (.aload_n 0, 1) := by decide +kernel
theorem dX0_become_109 : decode cX0_become 109 = .ok (.getfield 33, 3) := by decide +kernel
theorem dX0_become_112 : decode cX0_become 112 = .ok (.iconst 0, 1) := by decide +kernel
theorem dX0_become_113 : decode cX0_become 113 = .ok (.bipush 8, 2) := by decide +kernel
theorem dX0_become_115 : decode cX0_become 115 = .ok (.invokestatic 78, 3) := by decide +kernel
theorem dX0_become_118 : decode cX0_become 118 = .ok (.aload_n 1, 1) := by decide +kernel
theorem dX0_become_119 : decode cX0_become 119 = .ok (.getfield 36, 3) := by decide +kernel
theorem dX0_become_122 : decode cX0_become 122 = .ok (.iconst 0, 1) := by decide +kernel
theorem dX0_become_123 : decode cX0_become 123 = .ok (.aload_n 0, 1) := by decide +kernel
theorem dX0_become_124 : decode cX0_become 124 = .ok (.getfield 36, 3) := by decide +kernel
theorem dX0_become_127 : decode cX0_become 127 = .ok (.iconst 0, 1) := by decide +kernel
theorem dX0_become_128 : decode cX0_become 128 = .ok (.bipush 8, 2) := by decide +kernel
theorem dX0_become_130 : decode cX0_become 130 = .ok (.invokestatic 78, 3) := by decide +kernel
theorem dX0_become_133 : decode cX0_become 133 = .ok (.aload_n 1, 1) := by decide +kernel
theorem dX0_become_134 : decode cX0_become 134 = .ok (.getfield 50, 3) := by decide +kernel
theorem dX0_become_137 : decode cX0_become 137 = .ok (.iconst 0, 1) := by decide +kernel
theorem dX0_become_138 : decode cX0_become 138 = .ok (.aload_n 0, 1) := by decide +kernel
theorem dX0_become_139 : decode cX0_become 139 = .ok (.getfield 50, 3) := by decide +kernel
theorem dX0_become_142 : decode cX0_become 142 = .ok (.iconst 0, 1) := by decide +kernel
theorem dX0_become_143 : decode cX0_become 143 = .ok (.bipush 30, 2) := by decide +kernel
theorem dX0_become_145 : decode cX0_become 145 = .ok (.invokestatic 78, 3) := by decide +kernel
theorem dX0_become_148 : decode cX0_become 148 = .ok (.aload_n 0, 1) := by decide +kernel
theorem dX0_become_149 : decode cX0_become 149 = .ok (.getfield 42, 3) := by decide +kernel
theorem dX0_become_152 : decode cX0_become 152 = .ok (.aload_n 1, 1) := by decide +kernel
theorem dX0_become_153 : decode cX0_become 153 = .ok (.getfield 42, 3) := by decide +kernel
theorem dX0_become_156 : decode cX0_become 156 = .ok (.invokevirtual 84, 3) := by decide +kernel
theorem dX0_become_159 : decode cX0_become 159 = .ok (.iconst 0, 1) := by decide +kernel
theorem dX0_become_160 : decode cX0_become 160 = .ok (.istore_n 2, 1) := by decide +kernel
theorem dX0_become_161 : decode cX0_become 161 = .ok (.iload_n 2, 1) := by decide +kernel
theorem dX0_become_162 : decode cX0_become 162 = .ok (.bipush 30, 2) := by decide +kernel
theorem dX0_become_164 : decode cX0_become 164 = .ok (.if_icmp .ge 24, 3) := by decide +kernel
theorem dX0_become_167 : decode cX0_become 167 = .ok (.aload_n 0, 1) := by decide +kernel
theorem dX0_become_168 : decode cX0_become 168 = .ok (.getfield 46, 3) := by decide +kernel
theorem dX0_become_171 : decode cX0_become 171 = .ok (.iload_n 2, 1) := by decide +kernel
theorem dX0_become_172 : decode cX0_become 172 = .ok (.aaload, 1) := by decide +kernel
theorem dX0_become_173 : decode cX0_become 173 = .ok (.aload_n 1, 1) := by decide +kernel
theorem dX0_become_174 : decode cX0_become 174 = .ok (.getfield 46, 3) := by decide +kernel
theorem dX0_become_177 : decode cX0_become 177 = .ok (.iload_n 2, 1) := by decide +kernel
theorem dX0_become_178 : decode cX0_become 178 = .ok (.aaload, 1) := by decide +kernel
theorem dX0_become_179 : decode cX0_become 179 = .ok (.invokevirtual 84, 3) := by decide +kernel
theorem dX0_become_182 : decode cX0_become 182 = .ok (.iinc 2 1, 3) := by decide +kernel
theorem dX0_become_185 : decode cX0_become 185 = .ok (.goto (-24), 3) := by decide +kernel
theorem dX0_become_188 : decode cX0_become 188 = .ok (.aload_n 0, 1) := by decide +kernel
theorem dX0_become_189 : decode cX0_become 189 = .ok (.aload_n 1, 1) := by decide +kernel
theorem dX0_become_190 : decode cX0_become 190 = .ok (.getfield 53, 3) := by decide +kernel
theorem dX0_become_193 : decode cX0_become 193 = .ok (.putfield 53, 3) := by decide +kernel
theorem dX0_become_196 : decode cX0_become 196 = .ok (.aload_n 0, 1) := by decide +kernel
theorem dX0_become_197 : decode cX0_become 197 = .ok (.aload_n 1, 1) := by decide +kernel
theorem dX0_become_198 : decode cX0_become 198 = .ok (.getfield 57, 3) := by decide +kernel
theorem dX0_become_201 : decode cX0_become 201 = .ok (.putfield 57, 3) := by decide +kernel
theorem dX0_become_204 : decode cX0_become 204 = .ok (.aload_n 0, 1) := by decide +kernel
theorem dX0_become_205 : decode cX0_become 205 = .ok (.aload_n 1, 1) := by decide +kernel
theorem dX0_become_206 : decode cX0_become 206 = .ok (.getfield 60, 3) := by decide +kernel
theorem dX0_become_209 : decode cX0_become 209 = .ok (.putfield 60, 3) := by decide +kernel
theorem dX0_become_212 : decode cX0_become 212 = .ok (.aload_n 0, 1) := by decide +kernel
theorem dX0_become_213 : decode cX0_become 213 = .ok (.aload_n 1, 1) := by decide +kernel
theorem dX0_become_214 : decode cX0_become 214 = .ok (.getfield 63, 3) := by decide +kernel
theorem dX0_become_217 : decode cX0_become 217 = .ok (.putfield 63, 3) := by decide +kernel
theorem dX0_become_220 : decode cX0_become 220 = .ok (.aload_n 0, 1) := by decide +kernel
theorem dX0_become_221 : decode cX0_become 221 = .ok (.aload_n 1, 1) := by decide +kernel
theorem dX0_become_222 : decode cX0_become 222 = .ok (.getfield 66, 3) := by decide +kernel
theorem dX0_become_225 : decode cX0_become 225 = .ok (.putfield 66, 3) := by decide +kernel
theorem dX0_become_228 : decode cX0_become 228 = .ok (.aload_n 0, 1) := by decide +kernel
theorem dX0_become_229 : decode cX0_become 229 = .ok (.aload_n 1, 1) := by decide +kernel
theorem dX0_become_230 : decode cX0_become 230 = .ok (.getfield 69, 3) := by decide +kernel
theorem dX0_become_233 : decode cX0_become 233 = .ok (.putfield 69, 3) := by decide +kernel
theorem dX0_become_236 : decode cX0_become 236 = .ok (.aload_n 0, 1) := by decide +kernel
theorem dX0_become_237 : decode cX0_become 237 = .ok (.aload_n 1, 1) := by decide +kernel
theorem dX0_become_238 : decode cX0_become 238 = .ok (.getfield 72, 3) := by decide +kernel
theorem dX0_become_241 : decode cX0_become 241 = .ok (.putfield 72, 3) := by decide +kernel
theorem dX0_become_244 : decode cX0_become 244 = .ok (.aload_n 0, 1) := by decide +kernel
theorem dX0_become_245 : decode cX0_become 245 = .ok (.aload_n 1, 1) := by decide +kernel
theorem dX0_become_246 : decode cX0_become 246 = .ok (.getfield 75, 3) := by decide +kernel
theorem dX0_become_249 : decode cX0_become 249 = .ok (.putfield 75, 3) := by decide +kernel
theorem dX0_become_252 : decode cX0_become 252 = .ok (.return_, 1) := by decide +kernel
theorem dX0_longOf_0 : decode cX0_longOf 0 = .ok (.aload_n 0, 1) := by decide +kernel
theorem dX0_longOf_1 : decode cX0_longOf 1 = .ok (.getfield 24, 3) := by decide +kernel
theorem dX0_longOf_4 : decode cX0_longOf 4 = .ok (.iload_n 1, 1) := by decide +kernel
theorem dX0_longOf_5 : decode cX0_longOf 5 = .ok (.iaload, 1) := by decide +kernel
theorem dX0_longOf_6 : decode cX0_longOf 6 = .ok (.aload_n 0, 1) := by decide +kernel
theorem dX0_longOf_7 : decode cX0_longOf 7 = .ok (.getfield 21, 3) := by decide +kernel
theorem dX0_longOf_10 : decode cX0_longOf 10 = .ok (.iload_n 1, 1) := by decide +kernel
theorem dX0_longOf_11 : decode cX0_longOf 11 = .ok (.iaload, 1) := by decide +kernel
theorem dX0_longOf_12 : decode cX0_longOf 12 = .ok (.isub, 1) := by decide +kernel
theorem dX0_longOf_13 : decode cX0_longOf 13 = .ok (.iconst 1, 1) := by decide +kernel
theorem dX0_longOf_14 : decode cX0_longOf 14 = .ok (.iadd, 1) := by decide +kernel
theorem dX0_longOf_15 : decode cX0_longOf 15 = .ok (.ireturn, 1) := by decide +kernel
theorem dX0_slicesOf_0 : decode cX0_slicesOf 0 = .ok (.iconst 2, 1) := by decide +kernel
theorem dX0_slicesOf_1 : decode cX0_slicesOf 1 = .ok (.aload_n 0, 1) := by decide +kernel
theorem dX0_slicesOf_2 : decode cX0_slicesOf 2 = .ok (.getfield 24, 3) := by decide +kernel
theorem dX0_slicesOf_5 : decode cX0_slicesOf 5 = .ok (.iload_n 1, 1) := by decide +kernel
theorem dX0_slicesOf_6 : decode cX0_slicesOf 6 = .ok (.iaload, 1) := by decide +kernel
theorem dX0_slicesOf_7 : decode cX0_slicesOf 7 = .ok (.ishl, 1) := by decide +kernel
theorem dX0_slicesOf_8 : decode cX0_slicesOf 8 = .ok (.iconst 1, 1) := by decide +kernel
theorem dX0_slicesOf_9 : decode cX0_slicesOf 9 = .ok (.aload_n 0, 1) := by decide +kernel
theorem dX0_slicesOf_10 : decode cX0_slicesOf 10 = .ok (.getfield 21, 3) := by decide +kernel
theorem dX0_slicesOf_13 : decode cX0_slicesOf 13 = .ok (.iload_n 1, 1) := by decide +kernel
theorem dX0_slicesOf_14 : decode cX0_slicesOf 14 = .ok (.iaload, 1) := by decide +kernel
theorem dX0_slicesOf_15 : decode cX0_slicesOf 15 = .ok (.ishl, 1) := by decide +kernel
theorem dX0_slicesOf_16 : decode cX0_slicesOf 16 = .ok (.isub, 1) := by decide +kernel
theorem dX0_slicesOf_17 : decode cX0_slicesOf 17 = .ok (.ireturn, 1) := by decide +kernel
theorem dX1_init_0 : decode cX1_init 0 = .ok (.aload_n 0, 1) := by decide +kernel
theorem dX1_init_1 : decode cX1_init 1 = .ok (.invokespecial 3, 3) := by decide +kernel
theorem dX1_init_4 : decode cX1_init 4 = .ok (.aload_n 0, 1) := by decide +kernel
theorem dX1_init_5 : decode cX1_init 5 = .ok (.sipush 301, 3) := by decide +kernel
theorem dX1_init_8 : decode cX1_init 8 = .ok (.newarray .int, 2) := by decide +kernel
theorem dX1_init_10 : decode cX1_init 10 = .ok (.putfield 9, 3) := by decide +kernel
theorem dX1_init_13 : decode cX1_init 13 = .ok (.aload_n 0, 1) := by decide +kernel
theorem dX1_init_14 : decode cX1_init 14 = .ok (.sipush 301, 3) := by decide +kernel
theorem dX1_init_17 : decode cX1_init 17 = .ok (.newarray .int, 2) := by decide +kernel
theorem dX1_init_19 : decode cX1_init 19 = .ok (.putfield 15, 3) := by decide +kernel
theorem dX1_init_22 : decode cX1_init 22 = .ok (.aload_n 0, 1) := by decide +kernel
theorem dX1_init_23 : decode cX1_init 23 = .ok (.sipush 301, 3) := by decide +kernel
theorem dX1_init_26 : decode cX1_init 26 = .ok (.newarray .int, 2) := by decide +kernel
theorem dX1_init_28 : decode cX1_init 28 = .ok (.putfield 18, 3) := by decide +kernel
theorem dX1_init_31 : decode cX1_init 31 = .ok (.aload_n 0, 1) := by decide +kernel
theorem dX1_init_32 : decode cX1_init 32 = .ok (.iconst 0, 1) := by decide +kernel
theorem dX1_init_33 : decode cX1_init 33 = .ok (.putfield 21, 3) := by decide +kernel
theorem dX1_init_36 : decode cX1_init 36 = .ok (.aload_n 0, 1) := by decide +kernel
theorem dX1_init_37 : decode cX1_init 37 = .ok (.iconst 0, 1) := by decide +kernel
theorem dX1_init_38 : decode cX1_init 38 = .ok (.putfield 25, 3) := by decide +kernel
theorem dX1_init_41 : decode cX1_init 41 = .ok (.aload_n 0, 1) := by decide +kernel
theorem dX1_init_42 : decode cX1_init 42 = .ok (.iconst 0, 1) := by decide +kernel
theorem dX1_init_43 : decode cX1_init 43 = .ok (.putfield 28, 3) := by decide +kernel
theorem dX1_init_46 : decode cX1_init 46 = .ok (.aload_n 0, 1) := by decide +kernel
theorem dX1_init_47 : decode cX1_init 47 = .ok (.new 31, 3) := by decide +kernel
theorem dX1_init_50 : decode cX1_init 50 = .ok (.dup, 1) := by decide +kernel
theorem dX1_init_51 : decode cX1_init 51 = .ok (.invokespecial 33, 3) := by decide +kernel
theorem dX1_init_54 : decode cX1_init 54 = .ok (.putfield 34, 3) := by decide +kernel
theorem dX1_init_57 : decode cX1_init 57 = .ok (.aload_n 0, 1) := by decide +kernel
theorem dX1_init_58 : decode cX1_init 58 = .ok (.iconst 0, 1) := by decide +kernel
theorem dX1_init_59 : decode cX1_init 59 = .ok (.putfield 38, 3) := by decide +kernel
theorem dX1_init_62 : decode cX1_init 62 = .ok (.aload_n 0, 1) := by decide +kernel
theorem dX1_init_63 : decode cX1_init 63 = .ok (.iconst (-1), 1) := by decide +kernel
theorem dX1_init_64 : decode cX1_init 64 = .ok (.putfield 41, 3) := by decide +kernel
theorem dX1_init_67 : decode cX1_init 67 = .ok (.return_, 1) := by decide +kernel
theorem dX1_reads_0 : decode cX1_reads 0 = .ok (.aload_n 1, 1) := by decide +kernel
theorem dX1_reads_1 : decode cX1_reads 1 = .ok (.ifnull 24, 3) := by decide +kernel
theorem dX1_reads_4 : decode cX1_reads 4 = .ok (.aload_n 3, 1) := by decide +kernel
theorem dX1_reads_5 : decode cX1_reads 5 = .ok (.ifnull 20, 3) := by decide +kernel
theorem dX1_reads_8 : decode cX1_reads 8 = .ok (.iload_n 2, 1) := by decide +kernel
theorem dX1_reads_9 : decode cX1_reads 9 = .ok (.ifCond .lt 16, 3) := by decide +kernel
theorem dX1_reads_12 : decode cX1_reads 12 = .ok (.iload_n 2, 1) := by decide +kernel
theorem dX1_reads_13 : decode cX1_reads 13 = .ok (.aload_n 1, 1) := by decide +kernel
theorem dX1_reads_14 : decode cX1_reads 14 = .ok (.arraylength, 1) := by decide +kernel
theorem dX1_reads_15 : decode cX1_reads 15 = .ok (.if_icmp .gt 10, 3) := by decide +kernel
theorem dX1_reads_18 : decode cX1_reads 18 = .ok (.iload_n 2, 1) := by decide +kernel
theorem dX1_reads_19 : decode cX1_reads 19 = .ok (.sipush 300, 3) := by decide +kernel
theorem dX1_reads_22 : decode cX1_reads 22 = .ok (.if_icmp .le 5, 3) := by decide +kernel
theorem dX1_reads_25 : decode cX1_reads 25 = .ok (.iconst 0, 1) := by decide +kernel
theorem dX1_reads_26 : decode cX1_reads 26 = .ok (.ireturn, 1) := by decide +kernel
theorem dX1_reads_27 : decode cX1_reads 27 = .ok (.aload_n 0, 1) := by decide +kernel
theorem dX1_reads_28 : decode cX1_reads 28 = .ok (.aload_n 3, 1) := by decide +kernel
theorem dX1_reads_29 : decode cX1_reads 29 = .ok (.putfield 34, 3) := by decide +kernel
theorem dX1_reads_32 : decode cX1_reads 32 = .ok (.aload_n 0, 1) := by decide +kernel
theorem dX1_reads_33 : decode cX1_reads 33 = .ok (.getfield 34, 3) := by decide +kernel
theorem dX1_reads_36 : decode cX1_reads 36 = .ok (.invokevirtual 44, 3) := by decide +kernel
theorem dX1_reads_39 : decode cX1_reads 39 = .ok (.aload_n 0, 1) := by decide +kernel
theorem dX1_reads_40 : decode cX1_reads 40 = .ok (.iconst 0, 1) := by decide +kernel
theorem dX1_reads_41 : decode cX1_reads 41 = .ok (.putfield 25, 3) := by decide +kernel
theorem dX1_reads_44 : decode cX1_reads 44 = .ok (.aload_n 0, 1) := by decide +kernel
theorem dX1_reads_45 : decode cX1_reads 45 = .ok (.iconst 0, 1) := by decide +kernel
theorem dX1_reads_46 : decode cX1_reads 46 = .ok (.putfield 38, 3) := by decide +kernel
theorem dX1_reads_49 : decode cX1_reads 49 = .ok (.aload_n 0, 1) := by decide +kernel
theorem dX1_reads_50 : decode cX1_reads 50 = .ok (.iconst (-1), 1) := by decide +kernel
theorem dX1_reads_51 : decode cX1_reads 51 = .ok (.putfield 41, 3) := by decide +kernel
theorem dX1_reads_54 : decode cX1_reads 54 = .ok (.aload_n 0, 1) := by decide +kernel
theorem dX1_reads_55 : decode cX1_reads 55 = .ok (.aload_n 1, 1) := by decide +kernel
theorem dX1_reads_56 : decode cX1_reads 56 = .ok (.iload_n 2, 1) := by decide +kernel
theorem dX1_reads_57 : decode cX1_reads 57 = .ok (.invokevirtual 47, 3) := by decide +kernel
theorem dX1_reads_60 : decode cX1_reads 60 = .ok (.iconst 0, 1) := by decide +kernel
theorem dX1_reads_61 : decode cX1_reads 61 = .ok (.istore 4, 2) := by decide +kernel
theorem dX1_reads_63 : decode cX1_reads 63 = .ok (.iload 4, 2) := by decide +kernel
theorem dX1_reads_65 : decode cX1_reads 65 = .ok (.bipush 24, 2) := by decide +kernel
theorem dX1_reads_67 : decode cX1_reads 67 = .ok (.if_icmp .gt 32, 3) := by decide +kernel
theorem dX1_reads_70 : decode cX1_reads 70 = .ok (.aload_n 0, 1) := by decide +kernel
theorem dX1_reads_71 : decode cX1_reads 71 = .ok (.getfield 9, 3) := by decide +kernel
theorem dX1_reads_74 : decode cX1_reads 74 = .ok (.aload_n 0, 1) := by decide +kernel
theorem dX1_reads_75 : decode cX1_reads 75 = .ok (.getfield 25, 3) := by decide +kernel
theorem dX1_reads_78 : decode cX1_reads 78 = .ok (.iaload, 1) := by decide +kernel
theorem dX1_reads_79 : decode cX1_reads 79 = .ok (.bipush 40, 2) := by decide +kernel
theorem dX1_reads_81 : decode cX1_reads 81 = .ok (.if_icmp .eq 18, 3) := by decide +kernel
theorem dX1_reads_84 : decode cX1_reads 84 = .ok (.aload_n 0, 1) := by decide +kernel
theorem dX1_reads_85 : decode cX1_reads 85 = .ok (.invokevirtual 53, 3) := by decide +kernel
theorem dX1_reads_88 : decode cX1_reads 88 = .ok (.ifCond .ne 5, 3) := by decide +kernel
theorem dX1_reads_91 : decode cX1_reads 91 = .ok (.iconst 0, 1) := by decide +kernel
theorem dX1_reads_92 : decode cX1_reads 92 = .ok (.ireturn, 1) := by decide +kernel
theorem dX1_reads_93 : decode cX1_reads 93 = .ok (.iinc 4 1, 3) := by decide +kernel
theorem dX1_reads_96 : decode cX1_reads 96 = .ok (.goto (-33), 3) := by decide +kernel
theorem dX1_reads_99 : decode cX1_reads 99 = .ok (.iconst 1, 1) := by decide +kernel
theorem dX1_reads_100 : decode cX1_reads 100 = .ok (.ireturn, 1) := by decide +kernel
theorem dX1_split_0 : decode cX1_split 0 = .ok (.aload_n 0, 1) := by decide +kernel
theorem dX1_split_1 : decode cX1_split 1 = .ok (.iconst 0, 1) := by decide +kernel
theorem dX1_split_2 : decode cX1_split 2 = .ok (.putfield 21, 3) := by decide +kernel
theorem dX1_split_5 : decode cX1_split 5 = .ok (.iconst 0, 1) := by decide +kernel
theorem dX1_split_6 : decode cX1_split 6 = .ok (.istore_n 3, 1) := by decide +kernel
theorem dX1_split_7 : decode cX1_split 7 = .ok (.iconst 0, 1) := by decide +kernel
theorem dX1_split_8 : decode cX1_split 8 = .ok (.istore 4, 2) := by decide +kernel
theorem dX1_split_10 : decode cX1_split 10 = .ok (.iload 4, 2) := by decide +kernel
theorem dX1_split_12 : decode cX1_split 12 = .ok (.sipush 300, 3) := by decide +kernel
theorem dX1_split_15 : decode cX1_split 15 = .ok (.if_icmp .ge 140, 3) := by decide +kernel
theorem dX1_split_18 : decode cX1_split 18 = .ok (.iload_n 3, 1) := by decide +kernel
theorem dX1_split_19 : decode cX1_split 19 = .ok (.iload_n 2, 1) := by decide +kernel
theorem dX1_split_20 : decode cX1_split 20 = .ok (.if_icmp .ge 135, 3) := by decide +kernel
theorem dX1_split_23 : decode cX1_split 23 = .ok (.aload_n 1, 1) := by decide +kernel
theorem dX1_split_24 : decode cX1_split 24 = .ok (.iload_n 3, 1) := by decide +kernel
theorem dX1_split_25 : decode cX1_split 25 = .ok (.caload, 1) := by decide +kernel
theorem dX1_split_26 : decode cX1_split 26 = .ok (.istore 5, 2) := by decide +kernel
theorem dX1_split_28 : decode cX1_split 28 = .ok (.iload 5, 2) := by decide +kernel
theorem dX1_split_30 : decode cX1_split 30 = .ok (.invokestatic 57, 3) := by decide +kernel
theorem dX1_split_33 : decode cX1_split 33 = .ok (.ifCond .eq 14, 3) := by decide +kernel
theorem dX1_split_36 : decode cX1_split 36 = .ok (.aload_n 0, 1) := by decide +kernel
theorem dX1_split_37 : decode cX1_split 37 = .ok (.aload_n 1, 1) := by decide +kernel
theorem dX1_split_38 : decode cX1_split 38 = .ok (.iload_n 3, 1) := by decide +kernel
theorem dX1_split_39 : decode cX1_split 39 = .ok (.iload_n 2, 1) := by decide +kernel
theorem dX1_split_40 : decode cX1_split 40 = .ok (.invokevirtual 61, 3) := by decide +kernel
theorem dX1_split_43 : decode cX1_split 43 = .ok (.istore_n 3, 1) := by decide +kernel
theorem dX1_split_44 : decode cX1_split 44 = .ok (.goto 105, 3) := by decide +kernel
theorem dX1_split_47 : decode cX1_split 47 = .ok (.iload 5, 2) := by decide +kernel
theorem dX1_split_49 : decode cX1_split 49 = .ok (.invokestatic 65, 3) := by decide +kernel
theorem dX1_split_52 : decode cX1_split 52 = .ok (.ifCond .eq 14, 3) := by decide +kernel
theorem dX1_split_55 : decode cX1_split 55 = .ok (.aload_n 0, 1) := by decide +kernel
theorem dX1_split_56 : decode cX1_split 56 = .ok (.aload_n 1, 1) := by decide +kernel
theorem dX1_split_57 : decode cX1_split 57 = .ok (.iload_n 3, 1) := by decide +kernel
theorem dX1_split_58 : decode cX1_split 58 = .ok (.iload_n 2, 1) := by decide +kernel
theorem dX1_split_59 : decode cX1_split 59 = .ok (.invokevirtual 68, 3) := by decide +kernel
theorem dX1_split_62 : decode cX1_split 62 = .ok (.istore_n 3, 1) := by decide +kernel
theorem dX1_split_63 : decode cX1_split 63 = .ok (.goto 86, 3) := by decide +kernel
theorem dX1_split_66 : decode cX1_split 66 = .ok (.iload 5, 2) := by decide +kernel
theorem dX1_split_68 : decode cX1_split 68 = .ok (.bipush 32, 2) := by decide +kernel
theorem dX1_split_70 : decode cX1_split 70 = .ok (.if_icmp .eq 10, 3) := by decide +kernel
theorem dX1_split_73 : decode cX1_split 73 = .ok (.iload 5, 2) := by decide +kernel
theorem dX1_split_75 : decode cX1_split 75 = .ok (.bipush 10, 2) := by decide +kernel
theorem dX1_split_77 : decode cX1_split 77 = .ok (.if_icmp .ne 9, 3) := by decide +kernel
theorem dX1_split_80 : decode cX1_split 80 = .ok (.iinc 3 1, 3) := by decide +kernel
theorem dX1_split_83 : decode cX1_split 83 = .ok (.goto 66, 3) := by decide +kernel
theorem dX1_split_86 : decode cX1_split 86 = .ok (.iload_n 3, 1) := by decide +kernel
theorem dX1_split_87 : decode cX1_split 87 = .ok (.iconst 1, 1) := by decide +kernel
theorem dX1_split_88 : decode cX1_split 88 = .ok (.iadd, 1) := by decide +kernel
theorem dX1_split_89 : decode cX1_split 89 = .ok (.iload_n 2, 1) := by decide +kernel
theorem dX1_split_90 : decode cX1_split 90 = .ok (.if_icmp .ge 17, 3) := by decide +kernel
theorem dX1_split_93 : decode cX1_split 93 = .ok (.aload_n 1, 1) := by decide +kernel
theorem dX1_split_94 : decode cX1_split 94 = .ok (.iload_n 3, 1) := by decide +kernel
theorem dX1_split_95 : decode cX1_split 95 = .ok (.iconst 1, 1) := by decide +kernel
theorem dX1_split_96 : decode cX1_split 96 = .ok (.iadd, 1) := by decide +kernel
theorem dX1_split_97 : decode cX1_split 97 = .ok (.caload, 1) := by decide +kernel
theorem dX1_split_98 : decode cX1_split 98 = .ok (.bipush 61, 2) := by decide +kernel
theorem dX1_split_100 : decode cX1_split 100 = .ok (.if_icmp .ne 7, 3) := by decide +kernel
theorem dX1_split_103 : decode cX1_split 103 = .ok (.iconst 1, 1) := by decide +kernel
theorem dX1_split_104 : decode cX1_split 104 = .ok (.goto 4, 3) := by decide +kernel
theorem dX1_split_107 : decode cX1_split 107 = .ok (.iconst 0, 1) := by decide +kernel
theorem dX1_split_108 : decode cX1_split 108 = .ok (.istore 6, 2) := by decide +kernel
theorem dX1_split_110 : decode cX1_split 110 = .ok (.iload 5, 2) := by decide +kernel
theorem dX1_split_112 : decode cX1_split 112 = .ok (.iload 6, 2) := by decide +kernel
theorem dX1_split_114 : decode cX1_split 114 = .ok (.invokestatic 71, 3) := by decide +kernel
theorem dX1_split_117 : decode cX1_split 117 = .ok (.istore 7, 2) := by decide +kernel
theorem dX1_split_119 : decode cX1_split 119 = .ok (.aload_n 0, 1) := by decide +kernel
theorem dX1_split_120 : decode cX1_split 120 = .ok (.iload 7, 2) := by decide +kernel
theorem dX1_split_122 : decode cX1_split 122 = .ok (.iconst 0, 1) := by decide +kernel
theorem dX1_split_123 : decode cX1_split 123 = .ok (.iload_n 3, 1) := by decide +kernel
theorem dX1_split_124 : decode cX1_split 124 = .ok (.invokevirtual 75, 3) := by decide +kernel
theorem dX1_split_127 : decode cX1_split 127 = .ok (.iload_n 3, 1) := by decide +kernel
theorem dX1_split_128 : decode cX1_split 128 = .ok (.iload 7, 2) := by decide +kernel
theorem dX1_split_130 : decode cX1_split 130 = .ok (.bipush 25, 2) := by decide +kernel
theorem dX1_split_132 : decode cX1_split 132 = .ok (.if_icmp .eq 10, 3) := by decide +kernel
theorem dX1_split_135 : decode cX1_split 135 = .ok (.iload 7, 2) := by decide +kernel
theorem dX1_split_137 : decode cX1_split 137 = .ok (.bipush 26, 2) := by decide +kernel
theorem dX1_split_139 : decode cX1_split 139 = .ok (.if_icmp .ne 7, 3) := by decide +kernel
theorem dX1_split_142 : decode cX1_split 142 = .ok (.iconst 2, 1) := by decide +kernel
theorem dX1_split_143 : decode cX1_split 143 = .ok (.goto 4, 3) := by decide +kernel
theorem dX1_split_146 : decode cX1_split 146 = .ok (.iconst 1, 1) := by decide +kernel
theorem dX1_split_147 : decode cX1_split 147 = .ok (.iadd, 1) := by decide +kernel
theorem dX1_split_148 : decode cX1_split 148 = .ok (.istore_n 3, 1) := by decide +kernel
theorem dX1_split_149 : decode cX1_split 149 = .ok (.iinc 4 1, 3) := by decide +kernel
theorem dX1_split_152 : decode cX1_split 152 = .ok (.goto (-142), 3) := by decide +kernel
theorem dX1_split_155 : decode cX1_split 155 = .ok (.aload_n 0, 1) := by decide +kernel
theorem dX1_split_156 : decode cX1_split 156 = .ok (.bipush 40, 2) := by decide +kernel
theorem dX1_split_158 : decode cX1_split 158 = .ok (.iconst 0, 1) := by decide +kernel
theorem dX1_split_159 : decode cX1_split 159 = .ok (.iload_n 2, 1) := by decide +kernel
theorem dX1_split_160 : decode cX1_split 160 = .ok (.invokevirtual 75, 3) := by decide +kernel
theorem dX1_split_163 : decode cX1_split 163 = .ok (.return_, 1) := by decide +kernel
theorem dX1_splitWord_0 : decode cX1_splitWord 0 = .ok (.iload_n 2, 1) := by decide +kernel
theorem dX1_splitWord_1 : decode cX1_splitWord 1 = .ok (.istore 4, 2) := by decide +kernel
theorem dX1_splitWord_3 : decode cX1_splitWord 3 = .ok (.iload 4, 2) := by decide +kernel
theorem dX1_splitWord_5 : decode cX1_splitWord 5 = .ok (.iload_n 3, 1) := by decide +kernel
theorem dX1_splitWord_6 : decode cX1_splitWord 6 = .ok (.if_icmp .ge 19, 3) := by decide +kernel
theorem dX1_splitWord_9 : decode cX1_splitWord 9 = .ok (.aload_n 1, 1) := by decide +kernel
theorem dX1_splitWord_10 : decode cX1_splitWord 10 = .ok (.iload 4, 2) := by decide +kernel
theorem dX1_splitWord_12 : decode cX1_splitWord 12 = .ok (.caload, 1) := by decide +kernel
theorem dX1_splitWord_13 : decode cX1_splitWord 13 = .ok (.invokestatic 57, 3) := by decide +kernel
theorem dX1_splitWord_16 : decode cX1_splitWord 16 = .ok (.ifCond .eq 9, 3) := by decide +kernel
theorem dX1_splitWord_19 : decode cX1_splitWord 19 = .ok (.iinc 4 1, 3) := by decide +kernel
theorem dX1_splitWord_22 : decode cX1_splitWord 22 = .ok (.goto (-19), 3) := by decide +kernel
theorem dX1_splitWord_25 : decode cX1_splitWord 25 = .ok (.aload_n 0, 1) := by decide +kernel
theorem dX1_splitWord_26 : decode cX1_splitWord 26 = .ok (.aload_n 1, 1) := by decide +kernel
theorem dX1_splitWord_27 : decode cX1_splitWord 27 = .ok (.iload_n 2, 1) := by decide +kernel
theorem dX1_splitWord_28 : decode cX1_splitWord 28 = .ok (.iload 4, 2) := by decide +kernel
theorem dX1_splitWord_30 : decode cX1_splitWord 30 = .ok (.invokestatic 79, 3) := by decide +kernel
theorem dX1_splitWord_33 : decode cX1_splitWord 33 = .ok (.iconst 0, 1) := by decide +kernel
theorem dX1_splitWord_34 : decode cX1_splitWord 34 = .ok (.iload_n 2, 1) := by decide +kernel
theorem dX1_splitWord_35 : decode cX1_splitWord 35 = .ok (.invokevirtual 75, 3) := by decide +kernel
theorem dX1_splitWord_38 : decode cX1_splitWord 38 = .ok (.iload 4, 2) := by decide +kernel
theorem dX1_splitWord_40 : decode cX1_splitWord 40 = .ok (.ireturn, 1) := by decide +kernel
theorem dX1_splitNumber_0 : decode cX1_splitNumber 0 = .ok (.iconst 0, 1) := by decide +kernel
theorem dX1_splitNumber_1 : decode cX1_splitNumber 1 = .ok (.istore 4, 2) := by decide +kernel
theorem dX1_splitNumber_3 : decode cX1_splitNumber 3 = .ok (.iload_n 2, 1) := by decide +kernel
theorem dX1_splitNumber_4 : decode cX1_splitNumber 4 = .ok (.istore 5, 2) := by decide +kernel
theorem dX1_splitNumber_6 : decode cX1_splitNumber 6 = .ok (.iload 5, 2) := by decide +kernel
theorem dX1_splitNumber_8 : decode cX1_splitNumber 8 = .ok (.iload_n 3, 1) := by decide +kernel
theorem dX1_splitNumber_9 : decode cX1_splitNumber 9 = .ok (.if_icmp .ge 40, 3) := by decide +kernel
theorem dX1_splitNumber_12 : decode cX1_splitNumber 12 = .ok (.aload_n 1, 1) := by decide +kernel
theorem dX1_splitNumber_13 : decode cX1_splitNumber 13 = .ok (.iload 5, 2) := by decide +kernel
theorem dX1_splitNumber_15 : decode cX1_splitNumber 15 = .ok (.caload, 1) := by decide +kernel
theorem dX1_splitNumber_16 : decode cX1_splitNumber 16 = .ok (.invokestatic 65, 3) := by decide +kernel
theorem dX1_splitNumber_19 : decode cX1_splitNumber 19 = .ok (.ifCond .eq 30, 3) := by decide +kernel
theorem dX1_splitNumber_22 : decode cX1_splitNumber 22 = .ok (.sipush 10000, 3) := by decide +kernel
theorem dX1_splitNumber_25 : decode cX1_splitNumber 25 = .ok (.iload 4, 2) := by decide +kernel
theorem dX1_splitNumber_27 : decode cX1_splitNumber 27 = .ok (.bipush 10, 2) := by decide +kernel
theorem dX1_splitNumber_29 : decode cX1_splitNumber 29 = .ok (.imul, 1) := by decide +kernel
theorem dX1_splitNumber_30 : decode cX1_splitNumber 30 = .ok (.aload_n 1, 1) := by decide +kernel
theorem dX1_splitNumber_31 : decode cX1_splitNumber 31 = .ok (.iload 5, 2) := by decide +kernel
theorem dX1_splitNumber_33 : decode cX1_splitNumber 33 = .ok (.caload, 1) := by decide +kernel
theorem dX1_splitNumber_34 : decode cX1_splitNumber 34 = .ok (.bipush 48, 2) := by decide +kernel
theorem dX1_splitNumber_36 : decode cX1_splitNumber 36 = .ok (.isub, 1) := by decide +kernel
theorem dX1_splitNumber_37 : decode cX1_splitNumber 37 = .ok (.iadd, 1) := by decide +kernel
theorem dX1_splitNumber_38 : decode cX1_splitNumber 38 = .ok (.invokestatic 82, 3) := by decide +kernel
theorem dX1_splitNumber_41 : decode cX1_splitNumber 41 = .ok (.istore 4, 2) := by decide +kernel
theorem dX1_splitNumber_43 : decode cX1_splitNumber 43 = .ok (.iinc 5 1, 3) := by decide +kernel
theorem dX1_splitNumber_46 : decode cX1_splitNumber 46 = .ok (.goto (-40), 3) := by decide +kernel
theorem dX1_splitNumber_49 : decode cX1_splitNumber 49 = .ok (.aload_n 0, 1) := by decide +kernel
theorem dX1_splitNumber_50 : decode cX1_splitNumber 50 = .ok (.bipush 24, 2) := by decide +kernel
theorem dX1_splitNumber_52 : decode cX1_splitNumber 52 = .ok (.iload 4, 2) := by decide +kernel
theorem dX1_splitNumber_54 : decode cX1_splitNumber 54 = .ok (.iload_n 2, 1) := by decide +kernel
theorem dX1_splitNumber_55 : decode cX1_splitNumber 55 = .ok (.invokevirtual 75, 3) := by decide +kernel
theorem dX1_splitNumber_58 : decode cX1_splitNumber 58 = .ok (.iload 5, 2) := by decide +kernel
theorem dX1_splitNumber_60 : decode cX1_splitNumber 60 = .ok (.ireturn, 1) := by decide +kernel
theorem dX1_put_0 : decode cX1_put 0 = .ok (.aload_n 0, 1) := by decide +kernel
theorem dX1_put_1 : decode cX1_put 1 = .ok (.getfield 21, 3) := by decide +kernel
theorem dX1_put_4 : decode cX1_put 4 = .ok (.sipush 300, 3) := by decide +kernel
theorem dX1_put_7 : decode cX1_put 7 = .ok (.if_icmp .gt 43, 3) := by decide +kernel
theorem dX1_put_10 : decode cX1_put 10 = .ok (.aload_n 0, 1) := by decide +kernel
theorem dX1_put_11 : decode cX1_put 11 = .ok (.getfield 9, 3) := by decide +kernel
theorem dX1_put_14 : decode cX1_put 14 = .ok (.aload_n 0, 1) := by decide +kernel
theorem dX1_put_15 : decode cX1_put 15 = .ok (.getfield 21, 3) := by decide +kernel
theorem dX1_put_18 : decode cX1_put 18 = .ok (.iload_n 1, 1) := by decide +kernel
theorem dX1_put_19 : decode cX1_put 19 = .ok (.iastore, 1) := by decide +kernel
theorem dX1_put_20 : decode cX1_put 20 = .ok (.aload_n 0, 1) := by decide +kernel
theorem dX1_put_21 : decode cX1_put 21 = .ok (.getfield 15, 3) := by decide +kernel
theorem dX1_put_24 : decode cX1_put 24 = .ok (.aload_n 0, 1) := by decide +kernel
theorem dX1_put_25 : decode cX1_put 25 = .ok (.getfield 21, 3) := by decide +kernel
theorem dX1_put_28 : decode cX1_put 28 = .ok (.iload_n 2, 1) := by decide +kernel
theorem dX1_put_29 : decode cX1_put 29 = .ok (.iastore, 1) := by decide +kernel
theorem dX1_put_30 : decode cX1_put 30 = .ok (.aload_n 0, 1) := by decide +kernel
theorem dX1_put_31 : decode cX1_put 31 = .ok (.getfield 18, 3) := by decide +kernel
theorem dX1_put_34 : decode cX1_put 34 = .ok (.aload_n 0, 1) := by decide +kernel
theorem dX1_put_35 : decode cX1_put 35 = .ok (.getfield 21, 3) := by decide +kernel
theorem dX1_put_38 : decode cX1_put 38 = .ok (.iload_n 3, 1) := by decide +kernel
theorem dX1_put_39 : decode cX1_put 39 = .ok (.iastore, 1) := by decide +kernel
theorem dX1_put_40 : decode cX1_put 40 = .ok (.aload_n 0, 1) := by decide +kernel
theorem dX1_put_41 : decode cX1_put 41 = .ok (.dup, 1) := by decide +kernel
theorem dX1_put_42 : decode cX1_put 42 = .ok (.getfield 21, 3) := by decide +kernel
theorem dX1_put_45 : decode cX1_put 45 = .ok (.iconst 1, 1) := by decide +kernel
theorem dX1_put_46 : decode cX1_put 46 = .ok (.iadd, 1) := by decide +kernel
theorem dX1_put_47 : decode cX1_put 47 = .ok (.putfield 21, 3) := by decide +kernel
theorem dX1_put_50 : decode cX1_put 50 = .ok (.return_, 1) := by decide +kernel
theorem dX1_clause_0 : decode cX1_clause 0 = .ok (.aload_n 0, 1) := by decide +kernel
theorem dX1_clause_1 : decode cX1_clause 1 = .ok (.getfield 9, 3) := by decide +kernel
theorem dX1_clause_4 : decode cX1_clause 4 = .ok (.aload_n 0, 1) := by decide +kernel
theorem dX1_clause_5 : decode cX1_clause 5 = .ok (.getfield 25, 3) := by decide +kernel
theorem dX1_clause_8 : decode cX1_clause 8 = .ok (.iaload, 1) := by decide +kernel
theorem dX1_clause_9 : decode cX1_clause 9 = .ok (.istore_n 1, 1) := by decide +kernel
theorem dX1_clause_10 : decode cX1_clause 10 = .ok (.aload_n 0, 1) := by decide +kernel
theorem dX1_clause_11 : decode cX1_clause 11 = .ok (.getfield 34, 3) := by decide +kernel
theorem dX1_clause_14 : decode cX1_clause 14 = .ok (.getfield 88, 3) := by decide +kernel
theorem dX1_clause_17 : decode cX1_clause 17 = .ok (.istore_n 2, 1) := by decide +kernel
theorem dX1_clause_18 : decode cX1_clause 18 = .ok (.iload_n 1, 1) := by decide +kernel
theorem dX1_clause_19 : decode cX1_clause 19 = .ok (.ifCond .lt 19, 3) := by decide +kernel
theorem dX1_clause_22 : decode cX1_clause 22 = .ok (.iload_n 1, 1) := by decide +kernel
theorem dX1_clause_23 : decode cX1_clause 23 = .ok (.bipush 9, 2) := by decide +kernel
theorem dX1_clause_25 : decode cX1_clause 25 = .ok (.if_icmp .gt 13, 3) := by decide +kernel
theorem dX1_clause_28 : decode cX1_clause 28 = .ok (.iload_n 1, 1) := by decide +kernel
theorem dX1_clause_29 : decode cX1_clause 29 = .ok (.iconst 3, 1) := by decide +kernel
theorem dX1_clause_30 : decode cX1_clause 30 = .ok (.if_icmp .eq 8, 3) := by decide +kernel
theorem dX1_clause_33 : decode cX1_clause 33 = .ok (.iload_n 1, 1) := by decide +kernel
theorem dX1_clause_34 : decode cX1_clause 34 = .ok (.iconst 5, 1) := by decide +kernel
theorem dX1_clause_35 : decode cX1_clause 35 = .ok (.if_icmp .ne 9, 3) := by decide +kernel
theorem dX1_clause_38 : decode cX1_clause 38 = .ok (.aload_n 0, 1) := by decide +kernel
theorem dX1_clause_39 : decode cX1_clause 39 = .ok (.iconst 1, 1) := by decide +kernel
theorem dX1_clause_40 : decode cX1_clause 40 = .ok (.invokevirtual 91, 3) := by decide +kernel
theorem dX1_clause_43 : decode cX1_clause 43 = .ok (.ireturn, 1) := by decide +kernel
theorem dX1_clause_44 : decode cX1_clause 44 = .ok (.aload_n 0, 1) := by decide +kernel
theorem dX1_clause_45 : decode cX1_clause 45 = .ok (.iload_n 1, 1) := by decide +kernel
theorem dX1_clause_46 : decode cX1_clause 46 = .ok (.iconst 1, 1) := by decide +kernel
theorem dX1_clause_47 : decode cX1_clause 47 = .ok (.if_icmp .ne 7, 3) := by decide +kernel
theorem dX1_clause_50 : decode cX1_clause 50 = .ok (.iconst 1, 1) := by decide +kernel
theorem dX1_clause_51 : decode cX1_clause 51 = .ok (.goto 4, 3) := by decide +kernel
theorem dX1_clause_54 : decode cX1_clause 54 = .ok (.iconst 0, 1) := by decide +kernel
theorem dX1_clause_55 : decode cX1_clause 55 = .ok (.putfield 28, 3) := by decide +kernel
theorem dX1_clause_58 : decode cX1_clause 58 = .ok (.iload_n 1, 1) := by decide +kernel
theorem dX1_clause_59 : decode cX1_clause 59 = .ok (.iconst 1, 1) := by decide +kernel
theorem dX1_clause_60 : decode cX1_clause 60 = .ok (.if_icmp .gt 23, 3) := by decide +kernel
theorem dX1_clause_63 : decode cX1_clause 63 = .ok (.aload_n 0, 1) := by decide +kernel
theorem dX1_clause_64 : decode cX1_clause 64 = .ok (.getfield 34, 3) := by decide +kernel
theorem dX1_clause_67 : decode cX1_clause 67 = .ok (.aload_n 0, 1) := by decide +kernel
theorem dX1_clause_68 : decode cX1_clause 68 = .ok (.getfield 28, 3) := by decide +kernel
theorem dX1_clause_71 : decode cX1_clause 71 = .ok (.invokevirtual 95, 3) := by decide +kernel
theorem dX1_clause_74 : decode cX1_clause 74 = .ok (.ifCond .eq 9, 3) := by decide +kernel
theorem dX1_clause_77 : decode cX1_clause 77 = .ok (.aload_n 0, 1) := by decide +kernel
theorem dX1_clause_78 : decode cX1_clause 78 = .ok (.iconst 4, 1) := by decide +kernel
theorem dX1_clause_79 : decode cX1_clause 79 = .ok (.invokevirtual 91, 3) := by decide +kernel
theorem dX1_clause_82 : decode cX1_clause 82 = .ok (.ireturn, 1) := by decide +kernel
theorem dX1_clause_83 : decode cX1_clause 83 = .ok (.iload_n 2, 1) := by decide +kernel
theorem dX1_clause_84 : decode cX1_clause 84 = .ok (.bipush 24, 2) := by decide +kernel
theorem dX1_clause_86 : decode cX1_clause 86 = .ok (.if_icmp .lt 10, 3) := by decide +kernel
theorem dX1_clause_89 : decode cX1_clause 89 = .ok (.aload_n 0, 1) := by decide +kernel
theorem dX1_clause_90 : decode cX1_clause 90 = .ok (.bipush 6, 2) := by decide +kernel
theorem dX1_clause_92 : decode cX1_clause 92 = .ok (.invokevirtual 91, 3) := by decide +kernel
theorem dX1_clause_95 : decode cX1_clause 95 = .ok (.ireturn, 1) := by decide +kernel
theorem dX1_clause_96 : decode cX1_clause 96 = .ok (.aload_n 0, 1) := by decide +kernel
theorem dX1_clause_97 : decode cX1_clause 97 = .ok (.dup, 1) := by decide +kernel
theorem dX1_clause_98 : decode cX1_clause 98 = .ok (.getfield 25, 3) := by decide +kernel
theorem dX1_clause_101 : decode cX1_clause 101 = .ok (.iconst 1, 1) := by decide +kernel
theorem dX1_clause_102 : decode cX1_clause 102 = .ok (.iadd, 1) := by decide +kernel
theorem dX1_clause_103 : decode cX1_clause 103 = .ok (.putfield 25, 3) := by decide +kernel
theorem dX1_clause_106 : decode cX1_clause 106 = .ok (.iload_n 1, 1) := by decide +kernel
theorem dX1_clause_107 : decode cX1_clause 107 = .ok (.tableswitch 98 0 9 #[53, 53, 59, 98, 70, 98, 98, 80, 98, 89], 53) := by decide +kernel
theorem dX1_clause_160 : decode cX1_clause 160 = .ok (.aload_n 0, 1) := by decide +kernel
theorem dX1_clause_161 : decode cX1_clause 161 = .ok (.iload_n 1, 1) := by decide +kernel
theorem dX1_clause_162 : decode cX1_clause 162 = .ok (.invokevirtual 98, 3) := by decide +kernel
theorem dX1_clause_165 : decode cX1_clause 165 = .ok (.ireturn, 1) := by decide +kernel
theorem dX1_clause_166 : decode cX1_clause 166 = .ok (.aload_n 0, 1) := by decide +kernel
theorem dX1_clause_167 : decode cX1_clause 167 = .ok (.iload_n 1, 1) := by decide +kernel
theorem dX1_clause_168 : decode cX1_clause 168 = .ok (.bipush 11, 2) := by decide +kernel
theorem dX1_clause_170 : decode cX1_clause 170 = .ok (.iconst 3, 1) := by decide +kernel
theorem dX1_clause_171 : decode cX1_clause 171 = .ok (.bipush 11, 2) := by decide +kernel
theorem dX1_clause_173 : decode cX1_clause 173 = .ok (.invokevirtual 101, 3) := by decide +kernel
theorem dX1_clause_176 : decode cX1_clause 176 = .ok (.ireturn, 1) := by decide +kernel
theorem dX1_clause_177 : decode cX1_clause 177 = .ok (.aload_n 0, 1) := by decide +kernel
theorem dX1_clause_178 : decode cX1_clause 178 = .ok (.iload_n 1, 1) := by decide +kernel
theorem dX1_clause_179 : decode cX1_clause 179 = .ok (.iconst 4, 1) := by decide +kernel
theorem dX1_clause_180 : decode cX1_clause 180 = .ok (.iconst 5, 1) := by decide +kernel
theorem dX1_clause_181 : decode cX1_clause 181 = .ok (.bipush 9, 2) := by decide +kernel
theorem dX1_clause_183 : decode cX1_clause 183 = .ok (.invokevirtual 101, 3) := by decide +kernel
theorem dX1_clause_186 : decode cX1_clause 186 = .ok (.ireturn, 1) := by decide +kernel
theorem dX1_clause_187 : decode cX1_clause 187 = .ok (.aload_n 0, 1) := by decide +kernel
theorem dX1_clause_188 : decode cX1_clause 188 = .ok (.iload_n 1, 1) := by decide +kernel
theorem dX1_clause_189 : decode cX1_clause 189 = .ok (.iconst 0, 1) := by decide +kernel
theorem dX1_clause_190 : decode cX1_clause 190 = .ok (.bipush 11, 2) := by decide +kernel
theorem dX1_clause_192 : decode cX1_clause 192 = .ok (.invokevirtual 105, 3) := by decide +kernel
theorem dX1_clause_195 : decode cX1_clause 195 = .ok (.ireturn, 1) := by decide +kernel
theorem dX1_clause_196 : decode cX1_clause 196 = .ok (.aload_n 0, 1) := by decide +kernel
theorem dX1_clause_197 : decode cX1_clause 197 = .ok (.iload_n 1, 1) := by decide +kernel
theorem dX1_clause_198 : decode cX1_clause 198 = .ok (.iconst 1, 1) := by decide +kernel
theorem dX1_clause_199 : decode cX1_clause 199 = .ok (.bipush 60, 2) := by decide +kernel
theorem dX1_clause_201 : decode cX1_clause 201 = .ok (.invokevirtual 105, 3) := by decide +kernel
theorem dX1_clause_204 : decode cX1_clause 204 = .ok (.ireturn, 1) := by decide +kernel
theorem dX1_clause_205 : decode cX1_clause 205 = .ok (.aload_n 0, 1) := by decide +kernel
theorem dX1_clause_206 : decode cX1_clause 206 = .ok (.iload_n 1, 1) := by decide +kernel
theorem dX1_clause_207 : decode cX1_clause 207 = .ok (.iconst 0, 1) := by decide +kernel
theorem dX1_clause_208 : decode cX1_clause 208 = .ok (.iconst 5, 1) := by decide +kernel
theorem dX1_clause_209 : decode cX1_clause 209 = .ok (.invokevirtual 105, 3) := by decide +kernel
theorem dX1_clause_212 : decode cX1_clause 212 = .ok (.ireturn, 1) := by decide +kernel
theorem dX1_lawClause_0 : decode cX1_lawClause 0 = .ok (.aload_n 0, 1) := by decide +kernel
theorem dX1_lawClause_1 : decode cX1_lawClause 1 = .ok (.getfield 34, 3) := by decide +kernel
theorem dX1_lawClause_4 : decode cX1_lawClause 4 = .ok (.getfield 109, 3) := by decide +kernel
theorem dX1_lawClause_7 : decode cX1_lawClause 7 = .ok (.istore_n 2, 1) := by decide +kernel
theorem dX1_lawClause_8 : decode cX1_lawClause 8 = .ok (.aload_n 0, 1) := by decide +kernel
theorem dX1_lawClause_9 : decode cX1_lawClause 9 = .ok (.iconst 0, 1) := by decide +kernel
theorem dX1_lawClause_10 : decode cX1_lawClause 10 = .ok (.invokevirtual 112, 3) := by decide +kernel
theorem dX1_lawClause_13 : decode cX1_lawClause 13 = .ok (.ifCond .eq 12, 3) := by decide +kernel
theorem dX1_lawClause_16 : decode cX1_lawClause 16 = .ok (.aload_n 0, 1) := by decide +kernel
theorem dX1_lawClause_17 : decode cX1_lawClause 17 = .ok (.bipush 37, 2) := by decide +kernel
theorem dX1_lawClause_19 : decode cX1_lawClause 19 = .ok (.invokevirtual 115, 3) := by decide +kernel
theorem dX1_lawClause_22 : decode cX1_lawClause 22 = .ok (.ifCond .ne 5, 3) := by decide +kernel
theorem dX1_lawClause_25 : decode cX1_lawClause 25 = .ok (.iconst 0, 1) := by decide +kernel
theorem dX1_lawClause_26 : decode cX1_lawClause 26 = .ok (.ireturn, 1) := by decide +kernel
theorem dX1_lawClause_27 : decode cX1_lawClause 27 = .ok (.aload_n 0, 1) := by decide +kernel
theorem dX1_lawClause_28 : decode cX1_lawClause 28 = .ok (.getfield 34, 3) := by decide +kernel
theorem dX1_lawClause_31 : decode cX1_lawClause 31 = .ok (.getfield 118, 3) := by decide +kernel
theorem dX1_lawClause_34 : decode cX1_lawClause 34 = .ok (.aload_n 0, 1) := by decide +kernel
theorem dX1_lawClause_35 : decode cX1_lawClause 35 = .ok (.getfield 28, 3) := by decide +kernel
theorem dX1_lawClause_38 : decode cX1_lawClause 38 = .ok (.iload_n 2, 1) := by decide +kernel
theorem dX1_lawClause_39 : decode cX1_lawClause 39 = .ok (.iastore, 1) := by decide +kernel
theorem dX1_lawClause_40 : decode cX1_lawClause 40 = .ok (.aload_n 0, 1) := by decide +kernel
theorem dX1_lawClause_41 : decode cX1_lawClause 41 = .ok (.getfield 34, 3) := by decide +kernel
theorem dX1_lawClause_44 : decode cX1_lawClause 44 = .ok (.getfield 121, 3) := by decide +kernel
theorem dX1_lawClause_47 : decode cX1_lawClause 47 = .ok (.aload_n 0, 1) := by decide +kernel
theorem dX1_lawClause_48 : decode cX1_lawClause 48 = .ok (.getfield 28, 3) := by decide +kernel
theorem dX1_lawClause_51 : decode cX1_lawClause 51 = .ok (.aload_n 0, 1) := by decide +kernel
theorem dX1_lawClause_52 : decode cX1_lawClause 52 = .ok (.getfield 34, 3) := by decide +kernel
theorem dX1_lawClause_55 : decode cX1_lawClause 55 = .ok (.getfield 109, 3) := by decide +kernel
theorem dX1_lawClause_58 : decode cX1_lawClause 58 = .ok (.iastore, 1) := by decide +kernel
theorem dX1_lawClause_59 : decode cX1_lawClause 59 = .ok (.aload_n 0, 1) := by decide +kernel
theorem dX1_lawClause_60 : decode cX1_lawClause 60 = .ok (.getfield 34, 3) := by decide +kernel
theorem dX1_lawClause_63 : decode cX1_lawClause 63 = .ok (.iload_n 1, 1) := by decide +kernel
theorem dX1_lawClause_64 : decode cX1_lawClause 64 = .ok (.iconst 0, 1) := by decide +kernel
theorem dX1_lawClause_65 : decode cX1_lawClause 65 = .ok (.iconst 0, 1) := by decide +kernel
theorem dX1_lawClause_66 : decode cX1_lawClause 66 = .ok (.invokevirtual 124, 3) := by decide +kernel
theorem dX1_lawClause_69 : decode cX1_lawClause 69 = .ok (.iconst 1, 1) := by decide +kernel
theorem dX1_lawClause_70 : decode cX1_lawClause 70 = .ok (.ireturn, 1) := by decide +kernel
theorem dX1_oneNumber_0 : decode cX1_oneNumber 0 = .ok (.aload_n 0, 1) := by decide +kernel
theorem dX1_oneNumber_1 : decode cX1_oneNumber 1 = .ok (.iload_n 2, 1) := by decide +kernel
theorem dX1_oneNumber_2 : decode cX1_oneNumber 2 = .ok (.iload_n 3, 1) := by decide +kernel
theorem dX1_oneNumber_3 : decode cX1_oneNumber 3 = .ok (.invokevirtual 127, 3) := by decide +kernel
theorem dX1_oneNumber_6 : decode cX1_oneNumber 6 = .ok (.istore 4, 2) := by decide +kernel
theorem dX1_oneNumber_8 : decode cX1_oneNumber 8 = .ok (.iload 4, 2) := by decide +kernel
theorem dX1_oneNumber_10 : decode cX1_oneNumber 10 = .ok (.iconst (-1), 1) := by decide +kernel
theorem dX1_oneNumber_11 : decode cX1_oneNumber 11 = .ok (.if_icmp .eq 12, 3) := by decide +kernel
theorem dX1_oneNumber_14 : decode cX1_oneNumber 14 = .ok (.aload_n 0, 1) := by decide +kernel
theorem dX1_oneNumber_15 : decode cX1_oneNumber 15 = .ok (.bipush 37, 2) := by decide +kernel
theorem dX1_oneNumber_17 : decode cX1_oneNumber 17 = .ok (.invokevirtual 115, 3) := by decide +kernel
theorem dX1_oneNumber_20 : decode cX1_oneNumber 20 = .ok (.ifCond .ne 5, 3) := by decide +kernel
theorem dX1_oneNumber_23 : decode cX1_oneNumber 23 = .ok (.iconst 0, 1) := by decide +kernel
theorem dX1_oneNumber_24 : decode cX1_oneNumber 24 = .ok (.ireturn, 1) := by decide +kernel
theorem dX1_oneNumber_25 : decode cX1_oneNumber 25 = .ok (.aload_n 0, 1) := by decide +kernel
theorem dX1_oneNumber_26 : decode cX1_oneNumber 26 = .ok (.getfield 34, 3) := by decide +kernel
theorem dX1_oneNumber_29 : decode cX1_oneNumber 29 = .ok (.iload_n 1, 1) := by decide +kernel
theorem dX1_oneNumber_30 : decode cX1_oneNumber 30 = .ok (.iload 4, 2) := by decide +kernel
theorem dX1_oneNumber_32 : decode cX1_oneNumber 32 = .ok (.iconst 0, 1) := by decide +kernel
theorem dX1_oneNumber_33 : decode cX1_oneNumber 33 = .ok (.invokevirtual 124, 3) := by decide +kernel
theorem dX1_oneNumber_36 : decode cX1_oneNumber 36 = .ok (.iconst 1, 1) := by decide +kernel
theorem dX1_oneNumber_37 : decode cX1_oneNumber 37 = .ok (.ireturn, 1) := by decide +kernel
theorem dX1_twoNumbers_0 : decode cX1_twoNumbers 0 = .ok (.aload_n 0, 1) := by decide +kernel
theorem dX1_twoNumbers_1 : decode cX1_twoNumbers 1 = .ok (.iconst 0, 1) := by decide +kernel
theorem dX1_twoNumbers_2 : decode cX1_twoNumbers 2 = .ok (.iload_n 2, 1) := by decide +kernel
theorem dX1_twoNumbers_3 : decode cX1_twoNumbers 3 = .ok (.invokevirtual 127, 3) := by decide +kernel
theorem dX1_twoNumbers_6 : decode cX1_twoNumbers 6 = .ok (.istore 5, 2) := by decide +kernel
theorem dX1_twoNumbers_8 : decode cX1_twoNumbers 8 = .ok (.iload 5, 2) := by decide +kernel
theorem dX1_twoNumbers_10 : decode cX1_twoNumbers 10 = .ok (.iconst (-1), 1) := by decide +kernel
theorem dX1_twoNumbers_11 : decode cX1_twoNumbers 11 = .ok (.if_icmp .eq 11, 3) := by decide +kernel
theorem dX1_twoNumbers_14 : decode cX1_twoNumbers 14 = .ok (.aload_n 0, 1) := by decide +kernel
theorem dX1_twoNumbers_15 : decode cX1_twoNumbers 15 = .ok (.iload_n 3, 1) := by decide +kernel
theorem dX1_twoNumbers_16 : decode cX1_twoNumbers 16 = .ok (.invokevirtual 115, 3) := by decide +kernel
theorem dX1_twoNumbers_19 : decode cX1_twoNumbers 19 = .ok (.ifCond .ne 5, 3) := by decide +kernel
theorem dX1_twoNumbers_22 : decode cX1_twoNumbers 22 = .ok (.iconst 0, 1) := by decide +kernel
theorem dX1_twoNumbers_23 : decode cX1_twoNumbers 23 = .ok (.ireturn, 1) := by decide +kernel
theorem dX1_twoNumbers_24 : decode cX1_twoNumbers 24 = .ok (.aload_n 0, 1) := by decide +kernel
theorem dX1_twoNumbers_25 : decode cX1_twoNumbers 25 = .ok (.iload_n 1, 1) := by decide +kernel
theorem dX1_twoNumbers_26 : decode cX1_twoNumbers 26 = .ok (.iconst 2, 1) := by decide +kernel
theorem dX1_twoNumbers_27 : decode cX1_twoNumbers 27 = .ok (.if_icmp .ne 8, 3) := by decide +kernel
theorem dX1_twoNumbers_30 : decode cX1_twoNumbers 30 = .ok (.iload 5, 2) := by decide +kernel
theorem dX1_twoNumbers_32 : decode cX1_twoNumbers 32 = .ok (.goto 4, 3) := by decide +kernel
theorem dX1_twoNumbers_35 : decode cX1_twoNumbers 35 = .ok (.iconst 0, 1) := by decide +kernel
theorem dX1_twoNumbers_36 : decode cX1_twoNumbers 36 = .ok (.iload 4, 2) := by decide +kernel
theorem dX1_twoNumbers_38 : decode cX1_twoNumbers 38 = .ok (.invokevirtual 127, 3) := by decide +kernel
theorem dX1_twoNumbers_41 : decode cX1_twoNumbers 41 = .ok (.istore 6, 2) := by decide +kernel
theorem dX1_twoNumbers_43 : decode cX1_twoNumbers 43 = .ok (.iload 6, 2) := by decide +kernel
theorem dX1_twoNumbers_45 : decode cX1_twoNumbers 45 = .ok (.iconst (-1), 1) := by decide +kernel
theorem dX1_twoNumbers_46 : decode cX1_twoNumbers 46 = .ok (.if_icmp .eq 12, 3) := by decide +kernel
theorem dX1_twoNumbers_49 : decode cX1_twoNumbers 49 = .ok (.aload_n 0, 1) := by decide +kernel
theorem dX1_twoNumbers_50 : decode cX1_twoNumbers 50 = .ok (.bipush 37, 2) := by decide +kernel
theorem dX1_twoNumbers_52 : decode cX1_twoNumbers 52 = .ok (.invokevirtual 115, 3) := by decide +kernel
theorem dX1_twoNumbers_55 : decode cX1_twoNumbers 55 = .ok (.ifCond .ne 5, 3) := by decide +kernel
theorem dX1_twoNumbers_58 : decode cX1_twoNumbers 58 = .ok (.iconst 0, 1) := by decide +kernel
theorem dX1_twoNumbers_59 : decode cX1_twoNumbers 59 = .ok (.ireturn, 1) := by decide +kernel
theorem dX1_twoNumbers_60 : decode cX1_twoNumbers 60 = .ok (.aload_n 0, 1) := by decide +kernel
theorem dX1_twoNumbers_61 : decode cX1_twoNumbers 61 = .ok (.getfield 34, 3) := by decide +kernel
theorem dX1_twoNumbers_64 : decode cX1_twoNumbers 64 = .ok (.iload_n 1, 1) := by decide +kernel
theorem dX1_twoNumbers_65 : decode cX1_twoNumbers 65 = .ok (.iload 5, 2) := by decide +kernel
theorem dX1_twoNumbers_67 : decode cX1_twoNumbers 67 = .ok (.iload 6, 2) := by decide +kernel
theorem dX1_twoNumbers_69 : decode cX1_twoNumbers 69 = .ok (.invokevirtual 124, 3) := by decide +kernel
theorem dX1_twoNumbers_72 : decode cX1_twoNumbers 72 = .ok (.iconst 1, 1) := by decide +kernel
theorem dX1_twoNumbers_73 : decode cX1_twoNumbers 73 = .ok (.ireturn, 1) := by decide +kernel
theorem dX1_number_0 : decode cX1_number 0 = .ok (.aload_n 0, 1) := by decide +kernel
theorem dX1_number_1 : decode cX1_number 1 = .ok (.getfield 15, 3) := by decide +kernel
theorem dX1_number_4 : decode cX1_number 4 = .ok (.aload_n 0, 1) := by decide +kernel
theorem dX1_number_5 : decode cX1_number 5 = .ok (.getfield 25, 3) := by decide +kernel
theorem dX1_number_8 : decode cX1_number 8 = .ok (.iaload, 1) := by decide +kernel
theorem dX1_number_9 : decode cX1_number 9 = .ok (.istore_n 3, 1) := by decide +kernel
theorem dX1_number_10 : decode cX1_number 10 = .ok (.aload_n 0, 1) := by decide +kernel
theorem dX1_number_11 : decode cX1_number 11 = .ok (.getfield 9, 3) := by decide +kernel
theorem dX1_number_14 : decode cX1_number 14 = .ok (.aload_n 0, 1) := by decide +kernel
theorem dX1_number_15 : decode cX1_number 15 = .ok (.getfield 25, 3) := by decide +kernel
theorem dX1_number_18 : decode cX1_number 18 = .ok (.iaload, 1) := by decide +kernel
theorem dX1_number_19 : decode cX1_number 19 = .ok (.bipush 24, 2) := by decide +kernel
theorem dX1_number_21 : decode cX1_number 21 = .ok (.if_icmp .eq 11, 3) := by decide +kernel
theorem dX1_number_24 : decode cX1_number 24 = .ok (.aload_n 0, 1) := by decide +kernel
theorem dX1_number_25 : decode cX1_number 25 = .ok (.iconst 1, 1) := by decide +kernel
theorem dX1_number_26 : decode cX1_number 26 = .ok (.invokevirtual 91, 3) := by decide +kernel
theorem dX1_number_29 : decode cX1_number 29 = .ok (.pop, 1) := by decide +kernel
theorem dX1_number_30 : decode cX1_number 30 = .ok (.iconst (-1), 1) := by decide +kernel
theorem dX1_number_31 : decode cX1_number 31 = .ok (.ireturn, 1) := by decide +kernel
theorem dX1_number_32 : decode cX1_number 32 = .ok (.iload_n 3, 1) := by decide +kernel
theorem dX1_number_33 : decode cX1_number 33 = .ok (.iload_n 1, 1) := by decide +kernel
theorem dX1_number_34 : decode cX1_number 34 = .ok (.iload_n 2, 1) := by decide +kernel
theorem dX1_number_35 : decode cX1_number 35 = .ok (.invokestatic 130, 3) := by decide +kernel
theorem dX1_number_38 : decode cX1_number 38 = .ok (.ifCond .ne 11, 3) := by decide +kernel
theorem dX1_number_41 : decode cX1_number 41 = .ok (.aload_n 0, 1) := by decide +kernel
theorem dX1_number_42 : decode cX1_number 42 = .ok (.iconst 2, 1) := by decide +kernel
theorem dX1_number_43 : decode cX1_number 43 = .ok (.invokevirtual 91, 3) := by decide +kernel
theorem dX1_number_46 : decode cX1_number 46 = .ok (.pop, 1) := by decide +kernel
theorem dX1_number_47 : decode cX1_number 47 = .ok (.iconst (-1), 1) := by decide +kernel
theorem dX1_number_48 : decode cX1_number 48 = .ok (.ireturn, 1) := by decide +kernel
theorem dX1_number_49 : decode cX1_number 49 = .ok (.aload_n 0, 1) := by decide +kernel
theorem dX1_number_50 : decode cX1_number 50 = .ok (.dup, 1) := by decide +kernel
theorem dX1_number_51 : decode cX1_number 51 = .ok (.getfield 25, 3) := by decide +kernel
theorem dX1_number_54 : decode cX1_number 54 = .ok (.iconst 1, 1) := by decide +kernel
theorem dX1_number_55 : decode cX1_number 55 = .ok (.iadd, 1) := by decide +kernel
theorem dX1_number_56 : decode cX1_number 56 = .ok (.putfield 25, 3) := by decide +kernel
theorem dX1_number_59 : decode cX1_number 59 = .ok (.iload_n 3, 1) := by decide +kernel
theorem dX1_number_60 : decode cX1_number 60 = .ok (.ireturn, 1) := by decide +kernel
theorem dX1_sum_0 : decode cX1_sum 0 = .ok (.aload_n 0, 1) := by decide +kernel
theorem dX1_sum_1 : decode cX1_sum 1 = .ok (.iload_n 1, 1) := by decide +kernel
theorem dX1_sum_2 : decode cX1_sum 2 = .ok (.invokevirtual 133, 3) := by decide +kernel
theorem dX1_sum_5 : decode cX1_sum 5 = .ok (.ifCond .ne 5, 3) := by decide +kernel
theorem dX1_sum_8 : decode cX1_sum 8 = .ok (.iconst 0, 1) := by decide +kernel
theorem dX1_sum_9 : decode cX1_sum 9 = .ok (.ireturn, 1) := by decide +kernel
theorem dX1_sum_10 : decode cX1_sum 10 = .ok (.iconst 0, 1) := by decide +kernel
theorem dX1_sum_11 : decode cX1_sum 11 = .ok (.istore_n 2, 1) := by decide +kernel
theorem dX1_sum_12 : decode cX1_sum 12 = .ok (.iload_n 2, 1) := by decide +kernel
theorem dX1_sum_13 : decode cX1_sum 13 = .ok (.sipush 300, 3) := by decide +kernel
theorem dX1_sum_16 : decode cX1_sum 16 = .ok (.if_icmp .ge 77, 3) := by decide +kernel
theorem dX1_sum_19 : decode cX1_sum 19 = .ok (.aload_n 0, 1) := by decide +kernel
theorem dX1_sum_20 : decode cX1_sum 20 = .ok (.getfield 9, 3) := by decide +kernel
theorem dX1_sum_23 : decode cX1_sum 23 = .ok (.aload_n 0, 1) := by decide +kernel
theorem dX1_sum_24 : decode cX1_sum 24 = .ok (.getfield 25, 3) := by decide +kernel
theorem dX1_sum_27 : decode cX1_sum 27 = .ok (.iaload, 1) := by decide +kernel
theorem dX1_sum_28 : decode cX1_sum 28 = .ok (.bipush 31, 2) := by decide +kernel
theorem dX1_sum_30 : decode cX1_sum 30 = .ok (.if_icmp .eq 17, 3) := by decide +kernel
theorem dX1_sum_33 : decode cX1_sum 33 = .ok (.aload_n 0, 1) := by decide +kernel
theorem dX1_sum_34 : decode cX1_sum 34 = .ok (.getfield 9, 3) := by decide +kernel
theorem dX1_sum_37 : decode cX1_sum 37 = .ok (.aload_n 0, 1) := by decide +kernel
theorem dX1_sum_38 : decode cX1_sum 38 = .ok (.getfield 25, 3) := by decide +kernel
theorem dX1_sum_41 : decode cX1_sum 41 = .ok (.iaload, 1) := by decide +kernel
theorem dX1_sum_42 : decode cX1_sum 42 = .ok (.bipush 32, 2) := by decide +kernel
theorem dX1_sum_44 : decode cX1_sum 44 = .ok (.if_icmp .ne 49, 3) := by decide +kernel
theorem dX1_sum_47 : decode cX1_sum 47 = .ok (.aload_n 0, 1) := by decide +kernel
theorem dX1_sum_48 : decode cX1_sum 48 = .ok (.getfield 9, 3) := by decide +kernel
theorem dX1_sum_51 : decode cX1_sum 51 = .ok (.aload_n 0, 1) := by decide +kernel
theorem dX1_sum_52 : decode cX1_sum 52 = .ok (.getfield 25, 3) := by decide +kernel
theorem dX1_sum_55 : decode cX1_sum 55 = .ok (.iaload, 1) := by decide +kernel
theorem dX1_sum_56 : decode cX1_sum 56 = .ok (.istore_n 3, 1) := by decide +kernel
theorem dX1_sum_57 : decode cX1_sum 57 = .ok (.aload_n 0, 1) := by decide +kernel
theorem dX1_sum_58 : decode cX1_sum 58 = .ok (.dup, 1) := by decide +kernel
theorem dX1_sum_59 : decode cX1_sum 59 = .ok (.getfield 25, 3) := by decide +kernel
theorem dX1_sum_62 : decode cX1_sum 62 = .ok (.iconst 1, 1) := by decide +kernel
theorem dX1_sum_63 : decode cX1_sum 63 = .ok (.iadd, 1) := by decide +kernel
theorem dX1_sum_64 : decode cX1_sum 64 = .ok (.putfield 25, 3) := by decide +kernel
theorem dX1_sum_67 : decode cX1_sum 67 = .ok (.aload_n 0, 1) := by decide +kernel
theorem dX1_sum_68 : decode cX1_sum 68 = .ok (.iload_n 1, 1) := by decide +kernel
theorem dX1_sum_69 : decode cX1_sum 69 = .ok (.invokevirtual 133, 3) := by decide +kernel
theorem dX1_sum_72 : decode cX1_sum 72 = .ok (.ifCond .ne 5, 3) := by decide +kernel
theorem dX1_sum_75 : decode cX1_sum 75 = .ok (.iconst 0, 1) := by decide +kernel
theorem dX1_sum_76 : decode cX1_sum 76 = .ok (.ireturn, 1) := by decide +kernel
theorem dX1_sum_77 : decode cX1_sum 77 = .ok (.aload_n 0, 1) := by decide +kernel
theorem dX1_sum_78 : decode cX1_sum 78 = .ok (.getfield 34, 3) := by decide +kernel
theorem dX1_sum_81 : decode cX1_sum 81 = .ok (.iload_n 3, 1) := by decide +kernel
theorem dX1_sum_82 : decode cX1_sum 82 = .ok (.iconst 0, 1) := by decide +kernel
theorem dX1_sum_83 : decode cX1_sum 83 = .ok (.invokevirtual 136, 3) := by decide +kernel
theorem dX1_sum_86 : decode cX1_sum 86 = .ok (.pop, 1) := by decide +kernel
theorem dX1_sum_87 : decode cX1_sum 87 = .ok (.iinc 2 1, 3) := by decide +kernel
theorem dX1_sum_90 : decode cX1_sum 90 = .ok (.goto (-78), 3) := by decide +kernel
theorem dX1_sum_93 : decode cX1_sum 93 = .ok (.iconst 1, 1) := by decide +kernel
theorem dX1_sum_94 : decode cX1_sum 94 = .ok (.ireturn, 1) := by decide +kernel
theorem dX1_product_0 : decode cX1_product 0 = .ok (.aload_n 0, 1) := by decide +kernel
theorem dX1_product_1 : decode cX1_product 1 = .ok (.iload_n 1, 1) := by decide +kernel
theorem dX1_product_2 : decode cX1_product 2 = .ok (.invokevirtual 139, 3) := by decide +kernel
theorem dX1_product_5 : decode cX1_product 5 = .ok (.ifCond .ne 5, 3) := by decide +kernel
theorem dX1_product_8 : decode cX1_product 8 = .ok (.iconst 0, 1) := by decide +kernel
theorem dX1_product_9 : decode cX1_product 9 = .ok (.ireturn, 1) := by decide +kernel
theorem dX1_product_10 : decode cX1_product 10 = .ok (.iconst 0, 1) := by decide +kernel
theorem dX1_product_11 : decode cX1_product 11 = .ok (.istore_n 2, 1) := by decide +kernel
theorem dX1_product_12 : decode cX1_product 12 = .ok (.iload_n 2, 1) := by decide +kernel
theorem dX1_product_13 : decode cX1_product 13 = .ok (.sipush 300, 3) := by decide +kernel
theorem dX1_product_16 : decode cX1_product 16 = .ok (.if_icmp .ge 77, 3) := by decide +kernel
theorem dX1_product_19 : decode cX1_product 19 = .ok (.aload_n 0, 1) := by decide +kernel
theorem dX1_product_20 : decode cX1_product 20 = .ok (.getfield 9, 3) := by decide +kernel
theorem dX1_product_23 : decode cX1_product 23 = .ok (.aload_n 0, 1) := by decide +kernel
theorem dX1_product_24 : decode cX1_product 24 = .ok (.getfield 25, 3) := by decide +kernel
theorem dX1_product_27 : decode cX1_product 27 = .ok (.iaload, 1) := by decide +kernel
theorem dX1_product_28 : decode cX1_product 28 = .ok (.bipush 33, 2) := by decide +kernel
theorem dX1_product_30 : decode cX1_product 30 = .ok (.if_icmp .eq 17, 3) := by decide +kernel
theorem dX1_product_33 : decode cX1_product 33 = .ok (.aload_n 0, 1) := by decide +kernel
theorem dX1_product_34 : decode cX1_product 34 = .ok (.getfield 9, 3) := by decide +kernel
theorem dX1_product_37 : decode cX1_product 37 = .ok (.aload_n 0, 1) := by decide +kernel
theorem dX1_product_38 : decode cX1_product 38 = .ok (.getfield 25, 3) := by decide +kernel
theorem dX1_product_41 : decode cX1_product 41 = .ok (.iaload, 1) := by decide +kernel
theorem dX1_product_42 : decode cX1_product 42 = .ok (.bipush 34, 2) := by decide +kernel
theorem dX1_product_44 : decode cX1_product 44 = .ok (.if_icmp .ne 49, 3) := by decide +kernel
theorem dX1_product_47 : decode cX1_product 47 = .ok (.aload_n 0, 1) := by decide +kernel
theorem dX1_product_48 : decode cX1_product 48 = .ok (.getfield 9, 3) := by decide +kernel
theorem dX1_product_51 : decode cX1_product 51 = .ok (.aload_n 0, 1) := by decide +kernel
theorem dX1_product_52 : decode cX1_product 52 = .ok (.getfield 25, 3) := by decide +kernel
theorem dX1_product_55 : decode cX1_product 55 = .ok (.iaload, 1) := by decide +kernel
theorem dX1_product_56 : decode cX1_product 56 = .ok (.istore_n 3, 1) := by decide +kernel
theorem dX1_product_57 : decode cX1_product 57 = .ok (.aload_n 0, 1) := by decide +kernel
theorem dX1_product_58 : decode cX1_product 58 = .ok (.dup, 1) := by decide +kernel
theorem dX1_product_59 : decode cX1_product 59 = .ok (.getfield 25, 3) := by decide +kernel
theorem dX1_product_62 : decode cX1_product 62 = .ok (.iconst 1, 1) := by decide +kernel
theorem dX1_product_63 : decode cX1_product 63 = .ok (.iadd, 1) := by decide +kernel
theorem dX1_product_64 : decode cX1_product 64 = .ok (.putfield 25, 3) := by decide +kernel
theorem dX1_product_67 : decode cX1_product 67 = .ok (.aload_n 0, 1) := by decide +kernel
theorem dX1_product_68 : decode cX1_product 68 = .ok (.iload_n 1, 1) := by decide +kernel
theorem dX1_product_69 : decode cX1_product 69 = .ok (.invokevirtual 139, 3) := by decide +kernel
theorem dX1_product_72 : decode cX1_product 72 = .ok (.ifCond .ne 5, 3) := by decide +kernel
theorem dX1_product_75 : decode cX1_product 75 = .ok (.iconst 0, 1) := by decide +kernel
theorem dX1_product_76 : decode cX1_product 76 = .ok (.ireturn, 1) := by decide +kernel
theorem dX1_product_77 : decode cX1_product 77 = .ok (.aload_n 0, 1) := by decide +kernel
theorem dX1_product_78 : decode cX1_product 78 = .ok (.getfield 34, 3) := by decide +kernel
theorem dX1_product_81 : decode cX1_product 81 = .ok (.iload_n 3, 1) := by decide +kernel
theorem dX1_product_82 : decode cX1_product 82 = .ok (.iconst 0, 1) := by decide +kernel
theorem dX1_product_83 : decode cX1_product 83 = .ok (.invokevirtual 136, 3) := by decide +kernel
theorem dX1_product_86 : decode cX1_product 86 = .ok (.pop, 1) := by decide +kernel
theorem dX1_product_87 : decode cX1_product 87 = .ok (.iinc 2 1, 3) := by decide +kernel
theorem dX1_product_90 : decode cX1_product 90 = .ok (.goto (-78), 3) := by decide +kernel
theorem dX1_product_93 : decode cX1_product 93 = .ok (.iconst 1, 1) := by decide +kernel
theorem dX1_product_94 : decode cX1_product 94 = .ok (.ireturn, 1) := by decide +kernel
theorem dX1_one_0 : decode cX1_one 0 = .ok (.aload_n 0, 1) := by decide +kernel
theorem dX1_one_1 : decode cX1_one 1 = .ok (.getfield 9, 3) := by decide +kernel
theorem dX1_one_4 : decode cX1_one 4 = .ok (.aload_n 0, 1) := by decide +kernel
theorem dX1_one_5 : decode cX1_one 5 = .ok (.getfield 25, 3) := by decide +kernel
theorem dX1_one_8 : decode cX1_one 8 = .ok (.iaload, 1) := by decide +kernel
theorem dX1_one_9 : decode cX1_one 9 = .ok (.istore_n 2, 1) := by decide +kernel
theorem dX1_one_10 : decode cX1_one 10 = .ok (.iload_n 2, 1) := by decide +kernel
theorem dX1_one_11 : decode cX1_one 11 = .ok (.tableswitch 331 2 35 #[179, 331, 179, 331, 331, 331, 331, 179, 282, 282, 307, 331, 331, 331, 331, 331, 331, 179, 179, 179, 186, 204, 149, 331, 331, 331, 331, 331, 331, 331, 256, 331, 331, 223], 149) := by decide +kernel
theorem dX1_one_160 : decode cX1_one 160 = .ok (.aload_n 0, 1) := by decide +kernel
theorem dX1_one_161 : decode cX1_one 161 = .ok (.iconst 0, 1) := by decide +kernel
theorem dX1_one_162 : decode cX1_one 162 = .ok (.sipush 9999, 3) := by decide +kernel
theorem dX1_one_165 : decode cX1_one 165 = .ok (.invokevirtual 127, 3) := by decide +kernel
theorem dX1_one_168 : decode cX1_one 168 = .ok (.istore_n 3, 1) := by decide +kernel
theorem dX1_one_169 : decode cX1_one 169 = .ok (.aload_n 0, 1) := by decide +kernel
theorem dX1_one_170 : decode cX1_one 170 = .ok (.getfield 34, 3) := by decide +kernel
theorem dX1_one_173 : decode cX1_one 173 = .ok (.iload_n 2, 1) := by decide +kernel
theorem dX1_one_174 : decode cX1_one 174 = .ok (.iload_n 3, 1) := by decide +kernel
theorem dX1_one_175 : decode cX1_one 175 = .ok (.invokevirtual 136, 3) := by decide +kernel
theorem dX1_one_178 : decode cX1_one 178 = .ok (.pop, 1) := by decide +kernel
theorem dX1_one_179 : decode cX1_one 179 = .ok (.iload_n 3, 1) := by decide +kernel
theorem dX1_one_180 : decode cX1_one 180 = .ok (.iconst (-1), 1) := by decide +kernel
theorem dX1_one_181 : decode cX1_one 181 = .ok (.if_icmp .eq 7, 3) := by decide +kernel
theorem dX1_one_184 : decode cX1_one 184 = .ok (.iconst 1, 1) := by decide +kernel
theorem dX1_one_185 : decode cX1_one 185 = .ok (.goto 4, 3) := by decide +kernel
theorem dX1_one_188 : decode cX1_one 188 = .ok (.iconst 0, 1) := by decide +kernel
theorem dX1_one_189 : decode cX1_one 189 = .ok (.ireturn, 1) := by decide +kernel
theorem dX1_one_190 : decode cX1_one 190 = .ok (.aload_n 0, 1) := by decide +kernel
theorem dX1_one_191 : decode cX1_one 191 = .ok (.iload_n 2, 1) := by decide +kernel
theorem dX1_one_192 : decode cX1_one 192 = .ok (.iconst 1, 1) := by decide +kernel
theorem dX1_one_193 : decode cX1_one 193 = .ok (.invokevirtual 142, 3) := by decide +kernel
theorem dX1_one_196 : decode cX1_one 196 = .ok (.ireturn, 1) := by decide +kernel
theorem dX1_one_197 : decode cX1_one 197 = .ok (.aload_n 0, 1) := by decide +kernel
theorem dX1_one_198 : decode cX1_one 198 = .ok (.iload_n 2, 1) := by decide +kernel
theorem dX1_one_199 : decode cX1_one 199 = .ok (.aload_n 0, 1) := by decide +kernel
theorem dX1_one_200 : decode cX1_one 200 = .ok (.getfield 28, 3) := by decide +kernel
theorem dX1_one_203 : decode cX1_one 203 = .ok (.ifCond .ne 7, 3) := by decide +kernel
theorem dX1_one_206 : decode cX1_one 206 = .ok (.iconst 1, 1) := by decide +kernel
theorem dX1_one_207 : decode cX1_one 207 = .ok (.goto 4, 3) := by decide +kernel
theorem dX1_one_210 : decode cX1_one 210 = .ok (.iconst 0, 1) := by decide +kernel
theorem dX1_one_211 : decode cX1_one 211 = .ok (.invokevirtual 142, 3) := by decide +kernel
theorem dX1_one_214 : decode cX1_one 214 = .ok (.ireturn, 1) := by decide +kernel
theorem dX1_one_215 : decode cX1_one 215 = .ok (.aload_n 0, 1) := by decide +kernel
theorem dX1_one_216 : decode cX1_one 216 = .ok (.iload_n 2, 1) := by decide +kernel
theorem dX1_one_217 : decode cX1_one 217 = .ok (.aload_n 0, 1) := by decide +kernel
theorem dX1_one_218 : decode cX1_one 218 = .ok (.getfield 28, 3) := by decide +kernel
theorem dX1_one_221 : decode cX1_one 221 = .ok (.iconst 1, 1) := by decide +kernel
theorem dX1_one_222 : decode cX1_one 222 = .ok (.if_icmp .ne 7, 3) := by decide +kernel
theorem dX1_one_225 : decode cX1_one 225 = .ok (.iconst 1, 1) := by decide +kernel
theorem dX1_one_226 : decode cX1_one 226 = .ok (.goto 4, 3) := by decide +kernel
theorem dX1_one_229 : decode cX1_one 229 = .ok (.iconst 0, 1) := by decide +kernel
theorem dX1_one_230 : decode cX1_one 230 = .ok (.invokevirtual 142, 3) := by decide +kernel
theorem dX1_one_233 : decode cX1_one 233 = .ok (.ireturn, 1) := by decide +kernel
theorem dX1_one_234 : decode cX1_one 234 = .ok (.aload_n 0, 1) := by decide +kernel
theorem dX1_one_235 : decode cX1_one 235 = .ok (.iload_n 1, 1) := by decide +kernel
theorem dX1_one_236 : decode cX1_one 236 = .ok (.invokevirtual 146, 3) := by decide +kernel
theorem dX1_one_239 : decode cX1_one 239 = .ok (.ifCond .eq 26, 3) := by decide +kernel
theorem dX1_one_242 : decode cX1_one 242 = .ok (.aload_n 0, 1) := by decide +kernel
theorem dX1_one_243 : decode cX1_one 243 = .ok (.iload_n 1, 1) := by decide +kernel
theorem dX1_one_244 : decode cX1_one 244 = .ok (.iconst 1, 1) := by decide +kernel
theorem dX1_one_245 : decode cX1_one 245 = .ok (.iadd, 1) := by decide +kernel
theorem dX1_one_246 : decode cX1_one 246 = .ok (.invokevirtual 112, 3) := by decide +kernel
theorem dX1_one_249 : decode cX1_one 249 = .ok (.ifCond .eq 16, 3) := by decide +kernel
theorem dX1_one_252 : decode cX1_one 252 = .ok (.aload_n 0, 1) := by decide +kernel
theorem dX1_one_253 : decode cX1_one 253 = .ok (.bipush 36, 2) := by decide +kernel
theorem dX1_one_255 : decode cX1_one 255 = .ok (.invokevirtual 115, 3) := by decide +kernel
theorem dX1_one_258 : decode cX1_one 258 = .ok (.ifCond .eq 7, 3) := by decide +kernel
theorem dX1_one_261 : decode cX1_one 261 = .ok (.iconst 1, 1) := by decide +kernel
theorem dX1_one_262 : decode cX1_one 262 = .ok (.goto 4, 3) := by decide +kernel
theorem dX1_one_265 : decode cX1_one 265 = .ok (.iconst 0, 1) := by decide +kernel
theorem dX1_one_266 : decode cX1_one 266 = .ok (.ireturn, 1) := by decide +kernel
theorem dX1_one_267 : decode cX1_one 267 = .ok (.aload_n 0, 1) := by decide +kernel
theorem dX1_one_268 : decode cX1_one 268 = .ok (.iload_n 1, 1) := by decide +kernel
theorem dX1_one_269 : decode cX1_one 269 = .ok (.invokevirtual 146, 3) := by decide +kernel
theorem dX1_one_272 : decode cX1_one 272 = .ok (.ifCond .eq 19, 3) := by decide +kernel
theorem dX1_one_275 : decode cX1_one 275 = .ok (.aload_n 0, 1) := by decide +kernel
theorem dX1_one_276 : decode cX1_one 276 = .ok (.bipush 38, 2) := by decide +kernel
theorem dX1_one_278 : decode cX1_one 278 = .ok (.iload_n 1, 1) := by decide +kernel
theorem dX1_one_279 : decode cX1_one 279 = .ok (.iconst 1, 1) := by decide +kernel
theorem dX1_one_280 : decode cX1_one 280 = .ok (.iadd, 1) := by decide +kernel
theorem dX1_one_281 : decode cX1_one 281 = .ok (.invokevirtual 149, 3) := by decide +kernel
theorem dX1_one_284 : decode cX1_one 284 = .ok (.ifCond .eq 7, 3) := by decide +kernel
theorem dX1_one_287 : decode cX1_one 287 = .ok (.iconst 1, 1) := by decide +kernel
theorem dX1_one_288 : decode cX1_one 288 = .ok (.goto 4, 3) := by decide +kernel
theorem dX1_one_291 : decode cX1_one 291 = .ok (.iconst 0, 1) := by decide +kernel
theorem dX1_one_292 : decode cX1_one 292 = .ok (.ireturn, 1) := by decide +kernel
theorem dX1_one_293 : decode cX1_one 293 = .ok (.aload_n 0, 1) := by decide +kernel
theorem dX1_one_294 : decode cX1_one 294 = .ok (.iload_n 1, 1) := by decide +kernel
theorem dX1_one_295 : decode cX1_one 295 = .ok (.invokevirtual 146, 3) := by decide +kernel
theorem dX1_one_298 : decode cX1_one 298 = .ok (.ifCond .eq 18, 3) := by decide +kernel
theorem dX1_one_301 : decode cX1_one 301 = .ok (.aload_n 0, 1) := by decide +kernel
theorem dX1_one_302 : decode cX1_one 302 = .ok (.iload_n 2, 1) := by decide +kernel
theorem dX1_one_303 : decode cX1_one 303 = .ok (.iload_n 1, 1) := by decide +kernel
theorem dX1_one_304 : decode cX1_one 304 = .ok (.iconst 1, 1) := by decide +kernel
theorem dX1_one_305 : decode cX1_one 305 = .ok (.iadd, 1) := by decide +kernel
theorem dX1_one_306 : decode cX1_one 306 = .ok (.invokevirtual 149, 3) := by decide +kernel
theorem dX1_one_309 : decode cX1_one 309 = .ok (.ifCond .eq 7, 3) := by decide +kernel
theorem dX1_one_312 : decode cX1_one 312 = .ok (.iconst 1, 1) := by decide +kernel
theorem dX1_one_313 : decode cX1_one 313 = .ok (.goto 4, 3) := by decide +kernel
theorem dX1_one_316 : decode cX1_one 316 = .ok (.iconst 0, 1) := by decide +kernel
theorem dX1_one_317 : decode cX1_one 317 = .ok (.ireturn, 1) := by decide +kernel
theorem dX1_one_318 : decode cX1_one 318 = .ok (.aload_n 0, 1) := by decide +kernel
theorem dX1_one_319 : decode cX1_one 319 = .ok (.iload_n 1, 1) := by decide +kernel
theorem dX1_one_320 : decode cX1_one 320 = .ok (.invokevirtual 146, 3) := by decide +kernel
theorem dX1_one_323 : decode cX1_one 323 = .ok (.ifCond .eq 17, 3) := by decide +kernel
theorem dX1_one_326 : decode cX1_one 326 = .ok (.aload_n 0, 1) := by decide +kernel
theorem dX1_one_327 : decode cX1_one 327 = .ok (.iload_n 1, 1) := by decide +kernel
theorem dX1_one_328 : decode cX1_one 328 = .ok (.iconst 1, 1) := by decide +kernel
theorem dX1_one_329 : decode cX1_one 329 = .ok (.iadd, 1) := by decide +kernel
theorem dX1_one_330 : decode cX1_one 330 = .ok (.invokevirtual 153, 3) := by decide +kernel
theorem dX1_one_333 : decode cX1_one 333 = .ok (.ifCond .eq 7, 3) := by decide +kernel
theorem dX1_one_336 : decode cX1_one 336 = .ok (.iconst 1, 1) := by decide +kernel
theorem dX1_one_337 : decode cX1_one 337 = .ok (.goto 4, 3) := by decide +kernel
theorem dX1_one_340 : decode cX1_one 340 = .ok (.iconst 0, 1) := by decide +kernel
theorem dX1_one_341 : decode cX1_one 341 = .ok (.ireturn, 1) := by decide +kernel
theorem dX1_one_342 : decode cX1_one 342 = .ok (.aload_n 0, 1) := by decide +kernel
theorem dX1_one_343 : decode cX1_one 343 = .ok (.iconst 1, 1) := by decide +kernel
theorem dX1_one_344 : decode cX1_one 344 = .ok (.invokevirtual 91, 3) := by decide +kernel
theorem dX1_one_347 : decode cX1_one 347 = .ok (.ireturn, 1) := by decide +kernel
theorem dX1_oneUnder_0 : decode cX1_oneUnder 0 = .ok (.aload_n 0, 1) := by decide +kernel
theorem dX1_oneUnder_1 : decode cX1_oneUnder 1 = .ok (.iload_n 2, 1) := by decide +kernel
theorem dX1_oneUnder_2 : decode cX1_oneUnder 2 = .ok (.invokevirtual 139, 3) := by decide +kernel
theorem dX1_oneUnder_5 : decode cX1_oneUnder 5 = .ok (.ifCond .ne 5, 3) := by decide +kernel
theorem dX1_oneUnder_8 : decode cX1_oneUnder 8 = .ok (.iconst 0, 1) := by decide +kernel
theorem dX1_oneUnder_9 : decode cX1_oneUnder 9 = .ok (.ireturn, 1) := by decide +kernel
theorem dX1_oneUnder_10 : decode cX1_oneUnder 10 = .ok (.aload_n 0, 1) := by decide +kernel
theorem dX1_oneUnder_11 : decode cX1_oneUnder 11 = .ok (.getfield 34, 3) := by decide +kernel
theorem dX1_oneUnder_14 : decode cX1_oneUnder 14 = .ok (.iload_n 1, 1) := by decide +kernel
theorem dX1_oneUnder_15 : decode cX1_oneUnder 15 = .ok (.iconst 0, 1) := by decide +kernel
theorem dX1_oneUnder_16 : decode cX1_oneUnder 16 = .ok (.invokevirtual 136, 3) := by decide +kernel
theorem dX1_oneUnder_19 : decode cX1_oneUnder 19 = .ok (.pop, 1) := by decide +kernel
theorem dX1_oneUnder_20 : decode cX1_oneUnder 20 = .ok (.iconst 1, 1) := by decide +kernel
theorem dX1_oneUnder_21 : decode cX1_oneUnder 21 = .ok (.ireturn, 1) := by decide +kernel
theorem dX1_choice_0 : decode cX1_choice 0 = .ok (.aload_n 0, 1) := by decide +kernel
theorem dX1_choice_1 : decode cX1_choice 1 = .ok (.iload_n 1, 1) := by decide +kernel
theorem dX1_choice_2 : decode cX1_choice 2 = .ok (.invokevirtual 156, 3) := by decide +kernel
theorem dX1_choice_5 : decode cX1_choice 5 = .ok (.ifCond .eq 12, 3) := by decide +kernel
theorem dX1_choice_8 : decode cX1_choice 8 = .ok (.aload_n 0, 1) := by decide +kernel
theorem dX1_choice_9 : decode cX1_choice 9 = .ok (.bipush 13, 2) := by decide +kernel
theorem dX1_choice_11 : decode cX1_choice 11 = .ok (.invokevirtual 115, 3) := by decide +kernel
theorem dX1_choice_14 : decode cX1_choice 14 = .ok (.ifCond .ne 5, 3) := by decide +kernel
theorem dX1_choice_17 : decode cX1_choice 17 = .ok (.iconst 0, 1) := by decide +kernel
theorem dX1_choice_18 : decode cX1_choice 18 = .ok (.ireturn, 1) := by decide +kernel
theorem dX1_choice_19 : decode cX1_choice 19 = .ok (.aload_n 0, 1) := by decide +kernel
theorem dX1_choice_20 : decode cX1_choice 20 = .ok (.getfield 34, 3) := by decide +kernel
theorem dX1_choice_23 : decode cX1_choice 23 = .ok (.bipush 13, 2) := by decide +kernel
theorem dX1_choice_25 : decode cX1_choice 25 = .ok (.iconst 0, 1) := by decide +kernel
theorem dX1_choice_26 : decode cX1_choice 26 = .ok (.invokevirtual 136, 3) := by decide +kernel
theorem dX1_choice_29 : decode cX1_choice 29 = .ok (.istore_n 2, 1) := by decide +kernel
theorem dX1_choice_30 : decode cX1_choice 30 = .ok (.aload_n 0, 1) := by decide +kernel
theorem dX1_choice_31 : decode cX1_choice 31 = .ok (.iload_n 1, 1) := by decide +kernel
theorem dX1_choice_32 : decode cX1_choice 32 = .ok (.invokevirtual 112, 3) := by decide +kernel
theorem dX1_choice_35 : decode cX1_choice 35 = .ok (.ifCond .eq 12, 3) := by decide +kernel
theorem dX1_choice_38 : decode cX1_choice 38 = .ok (.aload_n 0, 1) := by decide +kernel
theorem dX1_choice_39 : decode cX1_choice 39 = .ok (.bipush 14, 2) := by decide +kernel
theorem dX1_choice_41 : decode cX1_choice 41 = .ok (.invokevirtual 115, 3) := by decide +kernel
theorem dX1_choice_44 : decode cX1_choice 44 = .ok (.ifCond .ne 5, 3) := by decide +kernel
theorem dX1_choice_47 : decode cX1_choice 47 = .ok (.iconst 0, 1) := by decide +kernel
theorem dX1_choice_48 : decode cX1_choice 48 = .ok (.ireturn, 1) := by decide +kernel
theorem dX1_choice_49 : decode cX1_choice 49 = .ok (.aload_n 0, 1) := by decide +kernel
theorem dX1_choice_50 : decode cX1_choice 50 = .ok (.getfield 34, 3) := by decide +kernel
theorem dX1_choice_53 : decode cX1_choice 53 = .ok (.bipush 14, 2) := by decide +kernel
theorem dX1_choice_55 : decode cX1_choice 55 = .ok (.iconst 0, 1) := by decide +kernel
theorem dX1_choice_56 : decode cX1_choice 56 = .ok (.invokevirtual 136, 3) := by decide +kernel
theorem dX1_choice_59 : decode cX1_choice 59 = .ok (.istore_n 3, 1) := by decide +kernel
theorem dX1_choice_60 : decode cX1_choice 60 = .ok (.aload_n 0, 1) := by decide +kernel
theorem dX1_choice_61 : decode cX1_choice 61 = .ok (.getfield 34, 3) := by decide +kernel
theorem dX1_choice_64 : decode cX1_choice 64 = .ok (.iload_n 2, 1) := by decide +kernel
theorem dX1_choice_65 : decode cX1_choice 65 = .ok (.invokevirtual 159, 3) := by decide +kernel
theorem dX1_choice_68 : decode cX1_choice 68 = .ok (.aload_n 0, 1) := by decide +kernel
theorem dX1_choice_69 : decode cX1_choice 69 = .ok (.iload_n 1, 1) := by decide +kernel
theorem dX1_choice_70 : decode cX1_choice 70 = .ok (.invokevirtual 112, 3) := by decide +kernel
theorem dX1_choice_73 : decode cX1_choice 73 = .ok (.ifCond .eq 12, 3) := by decide +kernel
theorem dX1_choice_76 : decode cX1_choice 76 = .ok (.aload_n 0, 1) := by decide +kernel
theorem dX1_choice_77 : decode cX1_choice 77 = .ok (.bipush 15, 2) := by decide +kernel
theorem dX1_choice_79 : decode cX1_choice 79 = .ok (.invokevirtual 115, 3) := by decide +kernel
theorem dX1_choice_82 : decode cX1_choice 82 = .ok (.ifCond .ne 5, 3) := by decide +kernel
theorem dX1_choice_85 : decode cX1_choice 85 = .ok (.iconst 0, 1) := by decide +kernel
theorem dX1_choice_86 : decode cX1_choice 86 = .ok (.ireturn, 1) := by decide +kernel
theorem dX1_choice_87 : decode cX1_choice 87 = .ok (.aload_n 0, 1) := by decide +kernel
theorem dX1_choice_88 : decode cX1_choice 88 = .ok (.getfield 34, 3) := by decide +kernel
theorem dX1_choice_91 : decode cX1_choice 91 = .ok (.iload_n 3, 1) := by decide +kernel
theorem dX1_choice_92 : decode cX1_choice 92 = .ok (.invokevirtual 159, 3) := by decide +kernel
theorem dX1_choice_95 : decode cX1_choice 95 = .ok (.iconst 1, 1) := by decide +kernel
theorem dX1_choice_96 : decode cX1_choice 96 = .ok (.ireturn, 1) := by decide +kernel
theorem dX1_either_0 : decode cX1_either 0 = .ok (.aload_n 0, 1) := by decide +kernel
theorem dX1_either_1 : decode cX1_either 1 = .ok (.iload_n 1, 1) := by decide +kernel
theorem dX1_either_2 : decode cX1_either 2 = .ok (.invokevirtual 163, 3) := by decide +kernel
theorem dX1_either_5 : decode cX1_either 5 = .ok (.ifCond .ne 5, 3) := by decide +kernel
theorem dX1_either_8 : decode cX1_either 8 = .ok (.iconst 0, 1) := by decide +kernel
theorem dX1_either_9 : decode cX1_either 9 = .ok (.ireturn, 1) := by decide +kernel
theorem dX1_either_10 : decode cX1_either 10 = .ok (.iconst 0, 1) := by decide +kernel
theorem dX1_either_11 : decode cX1_either 11 = .ok (.istore_n 2, 1) := by decide +kernel
theorem dX1_either_12 : decode cX1_either 12 = .ok (.iload_n 2, 1) := by decide +kernel
theorem dX1_either_13 : decode cX1_either 13 = .ok (.sipush 300, 3) := by decide +kernel
theorem dX1_either_16 : decode cX1_either 16 = .ok (.if_icmp .ge 54, 3) := by decide +kernel
theorem dX1_either_19 : decode cX1_either 19 = .ok (.aload_n 0, 1) := by decide +kernel
theorem dX1_either_20 : decode cX1_either 20 = .ok (.getfield 9, 3) := by decide +kernel
theorem dX1_either_23 : decode cX1_either 23 = .ok (.aload_n 0, 1) := by decide +kernel
theorem dX1_either_24 : decode cX1_either 24 = .ok (.getfield 25, 3) := by decide +kernel
theorem dX1_either_27 : decode cX1_either 27 = .ok (.iaload, 1) := by decide +kernel
theorem dX1_either_28 : decode cX1_either 28 = .ok (.bipush 16, 2) := by decide +kernel
theorem dX1_either_30 : decode cX1_either 30 = .ok (.if_icmp .ne 40, 3) := by decide +kernel
theorem dX1_either_33 : decode cX1_either 33 = .ok (.aload_n 0, 1) := by decide +kernel
theorem dX1_either_34 : decode cX1_either 34 = .ok (.dup, 1) := by decide +kernel
theorem dX1_either_35 : decode cX1_either 35 = .ok (.getfield 25, 3) := by decide +kernel
theorem dX1_either_38 : decode cX1_either 38 = .ok (.iconst 1, 1) := by decide +kernel
theorem dX1_either_39 : decode cX1_either 39 = .ok (.iadd, 1) := by decide +kernel
theorem dX1_either_40 : decode cX1_either 40 = .ok (.putfield 25, 3) := by decide +kernel
theorem dX1_either_43 : decode cX1_either 43 = .ok (.aload_n 0, 1) := by decide +kernel
theorem dX1_either_44 : decode cX1_either 44 = .ok (.iload_n 1, 1) := by decide +kernel
theorem dX1_either_45 : decode cX1_either 45 = .ok (.invokevirtual 163, 3) := by decide +kernel
theorem dX1_either_48 : decode cX1_either 48 = .ok (.ifCond .ne 5, 3) := by decide +kernel
theorem dX1_either_51 : decode cX1_either 51 = .ok (.iconst 0, 1) := by decide +kernel
theorem dX1_either_52 : decode cX1_either 52 = .ok (.ireturn, 1) := by decide +kernel
theorem dX1_either_53 : decode cX1_either 53 = .ok (.aload_n 0, 1) := by decide +kernel
theorem dX1_either_54 : decode cX1_either 54 = .ok (.getfield 34, 3) := by decide +kernel
theorem dX1_either_57 : decode cX1_either 57 = .ok (.bipush 16, 2) := by decide +kernel
theorem dX1_either_59 : decode cX1_either 59 = .ok (.iconst 0, 1) := by decide +kernel
theorem dX1_either_60 : decode cX1_either 60 = .ok (.invokevirtual 136, 3) := by decide +kernel
theorem dX1_either_63 : decode cX1_either 63 = .ok (.pop, 1) := by decide +kernel
theorem dX1_either_64 : decode cX1_either 64 = .ok (.iinc 2 1, 3) := by decide +kernel
theorem dX1_either_67 : decode cX1_either 67 = .ok (.goto (-55), 3) := by decide +kernel
theorem dX1_either_70 : decode cX1_either 70 = .ok (.iconst 1, 1) := by decide +kernel
theorem dX1_either_71 : decode cX1_either 71 = .ok (.ireturn, 1) := by decide +kernel
theorem dX1_both_0 : decode cX1_both 0 = .ok (.aload_n 0, 1) := by decide +kernel
theorem dX1_both_1 : decode cX1_both 1 = .ok (.iload_n 1, 1) := by decide +kernel
theorem dX1_both_2 : decode cX1_both 2 = .ok (.invokevirtual 166, 3) := by decide +kernel
theorem dX1_both_5 : decode cX1_both 5 = .ok (.ifCond .ne 5, 3) := by decide +kernel
theorem dX1_both_8 : decode cX1_both 8 = .ok (.iconst 0, 1) := by decide +kernel
theorem dX1_both_9 : decode cX1_both 9 = .ok (.ireturn, 1) := by decide +kernel
theorem dX1_both_10 : decode cX1_both 10 = .ok (.iconst 0, 1) := by decide +kernel
theorem dX1_both_11 : decode cX1_both 11 = .ok (.istore_n 2, 1) := by decide +kernel
theorem dX1_both_12 : decode cX1_both 12 = .ok (.iload_n 2, 1) := by decide +kernel
theorem dX1_both_13 : decode cX1_both 13 = .ok (.sipush 300, 3) := by decide +kernel
theorem dX1_both_16 : decode cX1_both 16 = .ok (.if_icmp .ge 54, 3) := by decide +kernel
theorem dX1_both_19 : decode cX1_both 19 = .ok (.aload_n 0, 1) := by decide +kernel
theorem dX1_both_20 : decode cX1_both 20 = .ok (.getfield 9, 3) := by decide +kernel
theorem dX1_both_23 : decode cX1_both 23 = .ok (.aload_n 0, 1) := by decide +kernel
theorem dX1_both_24 : decode cX1_both 24 = .ok (.getfield 25, 3) := by decide +kernel
theorem dX1_both_27 : decode cX1_both 27 = .ok (.iaload, 1) := by decide +kernel
theorem dX1_both_28 : decode cX1_both 28 = .ok (.bipush 17, 2) := by decide +kernel
theorem dX1_both_30 : decode cX1_both 30 = .ok (.if_icmp .ne 40, 3) := by decide +kernel
theorem dX1_both_33 : decode cX1_both 33 = .ok (.aload_n 0, 1) := by decide +kernel
theorem dX1_both_34 : decode cX1_both 34 = .ok (.dup, 1) := by decide +kernel
theorem dX1_both_35 : decode cX1_both 35 = .ok (.getfield 25, 3) := by decide +kernel
theorem dX1_both_38 : decode cX1_both 38 = .ok (.iconst 1, 1) := by decide +kernel
theorem dX1_both_39 : decode cX1_both 39 = .ok (.iadd, 1) := by decide +kernel
theorem dX1_both_40 : decode cX1_both 40 = .ok (.putfield 25, 3) := by decide +kernel
theorem dX1_both_43 : decode cX1_both 43 = .ok (.aload_n 0, 1) := by decide +kernel
theorem dX1_both_44 : decode cX1_both 44 = .ok (.iload_n 1, 1) := by decide +kernel
theorem dX1_both_45 : decode cX1_both 45 = .ok (.invokevirtual 166, 3) := by decide +kernel
theorem dX1_both_48 : decode cX1_both 48 = .ok (.ifCond .ne 5, 3) := by decide +kernel
theorem dX1_both_51 : decode cX1_both 51 = .ok (.iconst 0, 1) := by decide +kernel
theorem dX1_both_52 : decode cX1_both 52 = .ok (.ireturn, 1) := by decide +kernel
theorem dX1_both_53 : decode cX1_both 53 = .ok (.aload_n 0, 1) := by decide +kernel
theorem dX1_both_54 : decode cX1_both 54 = .ok (.getfield 34, 3) := by decide +kernel
theorem dX1_both_57 : decode cX1_both 57 = .ok (.bipush 17, 2) := by decide +kernel
theorem dX1_both_59 : decode cX1_both 59 = .ok (.iconst 0, 1) := by decide +kernel
theorem dX1_both_60 : decode cX1_both 60 = .ok (.invokevirtual 136, 3) := by decide +kernel
theorem dX1_both_63 : decode cX1_both 63 = .ok (.pop, 1) := by decide +kernel
theorem dX1_both_64 : decode cX1_both 64 = .ok (.iinc 2 1, 3) := by decide +kernel
theorem dX1_both_67 : decode cX1_both 67 = .ok (.goto (-55), 3) := by decide +kernel
theorem dX1_both_70 : decode cX1_both 70 = .ok (.iconst 1, 1) := by decide +kernel
theorem dX1_both_71 : decode cX1_both 71 = .ok (.ireturn, 1) := by decide +kernel
theorem dX1_asking_0 : decode cX1_asking 0 = .ok (.aload_n 0, 1) := by decide +kernel
theorem dX1_asking_1 : decode cX1_asking 1 = .ok (.getfield 9, 3) := by decide +kernel
theorem dX1_asking_4 : decode cX1_asking 4 = .ok (.aload_n 0, 1) := by decide +kernel
theorem dX1_asking_5 : decode cX1_asking 5 = .ok (.getfield 25, 3) := by decide +kernel
theorem dX1_asking_8 : decode cX1_asking 8 = .ok (.iaload, 1) := by decide +kernel
theorem dX1_asking_9 : decode cX1_asking 9 = .ok (.bipush 18, 2) := by decide +kernel
theorem dX1_asking_11 : decode cX1_asking 11 = .ok (.if_icmp .ne 36, 3) := by decide +kernel
theorem dX1_asking_14 : decode cX1_asking 14 = .ok (.aload_n 0, 1) := by decide +kernel
theorem dX1_asking_15 : decode cX1_asking 15 = .ok (.iload_n 1, 1) := by decide +kernel
theorem dX1_asking_16 : decode cX1_asking 16 = .ok (.invokevirtual 146, 3) := by decide +kernel
theorem dX1_asking_19 : decode cX1_asking 19 = .ok (.ifCond .eq 13, 3) := by decide +kernel
theorem dX1_asking_22 : decode cX1_asking 22 = .ok (.aload_n 0, 1) := by decide +kernel
theorem dX1_asking_23 : decode cX1_asking 23 = .ok (.iload_n 1, 1) := by decide +kernel
theorem dX1_asking_24 : decode cX1_asking 24 = .ok (.iconst 1, 1) := by decide +kernel
theorem dX1_asking_25 : decode cX1_asking 25 = .ok (.iadd, 1) := by decide +kernel
theorem dX1_asking_26 : decode cX1_asking 26 = .ok (.invokevirtual 166, 3) := by decide +kernel
theorem dX1_asking_29 : decode cX1_asking 29 = .ok (.ifCond .ne 5, 3) := by decide +kernel
theorem dX1_asking_32 : decode cX1_asking 32 = .ok (.iconst 0, 1) := by decide +kernel
theorem dX1_asking_33 : decode cX1_asking 33 = .ok (.ireturn, 1) := by decide +kernel
theorem dX1_asking_34 : decode cX1_asking 34 = .ok (.aload_n 0, 1) := by decide +kernel
theorem dX1_asking_35 : decode cX1_asking 35 = .ok (.getfield 34, 3) := by decide +kernel
theorem dX1_asking_38 : decode cX1_asking 38 = .ok (.bipush 18, 2) := by decide +kernel
theorem dX1_asking_40 : decode cX1_asking 40 = .ok (.iconst 0, 1) := by decide +kernel
theorem dX1_asking_41 : decode cX1_asking 41 = .ok (.invokevirtual 136, 3) := by decide +kernel
theorem dX1_asking_44 : decode cX1_asking 44 = .ok (.pop, 1) := by decide +kernel
theorem dX1_asking_45 : decode cX1_asking 45 = .ok (.iconst 1, 1) := by decide +kernel
theorem dX1_asking_46 : decode cX1_asking 46 = .ok (.ireturn, 1) := by decide +kernel
theorem dX1_asking_47 : decode cX1_asking 47 = .ok (.aload_n 0, 1) := by decide +kernel
theorem dX1_asking_48 : decode cX1_asking 48 = .ok (.iload_n 1, 1) := by decide +kernel
theorem dX1_asking_49 : decode cX1_asking 49 = .ok (.invokevirtual 112, 3) := by decide +kernel
theorem dX1_asking_52 : decode cX1_asking 52 = .ok (.ifCond .ne 5, 3) := by decide +kernel
theorem dX1_asking_55 : decode cX1_asking 55 = .ok (.iconst 0, 1) := by decide +kernel
theorem dX1_asking_56 : decode cX1_asking 56 = .ok (.ireturn, 1) := by decide +kernel
theorem dX1_asking_57 : decode cX1_asking 57 = .ok (.aload_n 0, 1) := by decide +kernel
theorem dX1_asking_58 : decode cX1_asking 58 = .ok (.getfield 9, 3) := by decide +kernel
theorem dX1_asking_61 : decode cX1_asking 61 = .ok (.aload_n 0, 1) := by decide +kernel
theorem dX1_asking_62 : decode cX1_asking 62 = .ok (.getfield 25, 3) := by decide +kernel
theorem dX1_asking_65 : decode cX1_asking 65 = .ok (.iaload, 1) := by decide +kernel
theorem dX1_asking_66 : decode cX1_asking 66 = .ok (.istore_n 2, 1) := by decide +kernel
theorem dX1_asking_67 : decode cX1_asking 67 = .ok (.iload_n 2, 1) := by decide +kernel
theorem dX1_asking_68 : decode cX1_asking 68 = .ok (.invokestatic 169, 3) := by decide +kernel
theorem dX1_asking_71 : decode cX1_asking 71 = .ok (.ifCond .ne 9, 3) := by decide +kernel
theorem dX1_asking_74 : decode cX1_asking 74 = .ok (.aload_n 0, 1) := by decide +kernel
theorem dX1_asking_75 : decode cX1_asking 75 = .ok (.iconst 1, 1) := by decide +kernel
theorem dX1_asking_76 : decode cX1_asking 76 = .ok (.invokevirtual 91, 3) := by decide +kernel
theorem dX1_asking_79 : decode cX1_asking 79 = .ok (.ireturn, 1) := by decide +kernel
theorem dX1_asking_80 : decode cX1_asking 80 = .ok (.aload_n 0, 1) := by decide +kernel
theorem dX1_asking_81 : decode cX1_asking 81 = .ok (.dup, 1) := by decide +kernel
theorem dX1_asking_82 : decode cX1_asking 82 = .ok (.getfield 25, 3) := by decide +kernel
theorem dX1_asking_85 : decode cX1_asking 85 = .ok (.iconst 1, 1) := by decide +kernel
theorem dX1_asking_86 : decode cX1_asking 86 = .ok (.iadd, 1) := by decide +kernel
theorem dX1_asking_87 : decode cX1_asking 87 = .ok (.putfield 25, 3) := by decide +kernel
theorem dX1_asking_90 : decode cX1_asking 90 = .ok (.aload_n 0, 1) := by decide +kernel
theorem dX1_asking_91 : decode cX1_asking 91 = .ok (.iload_n 1, 1) := by decide +kernel
theorem dX1_asking_92 : decode cX1_asking 92 = .ok (.invokevirtual 112, 3) := by decide +kernel
theorem dX1_asking_95 : decode cX1_asking 95 = .ok (.ifCond .ne 5, 3) := by decide +kernel
theorem dX1_asking_98 : decode cX1_asking 98 = .ok (.iconst 0, 1) := by decide +kernel
theorem dX1_asking_99 : decode cX1_asking 99 = .ok (.ireturn, 1) := by decide +kernel
theorem dX1_asking_100 : decode cX1_asking 100 = .ok (.aload_n 0, 1) := by decide +kernel
theorem dX1_asking_101 : decode cX1_asking 101 = .ok (.getfield 34, 3) := by decide +kernel
theorem dX1_asking_104 : decode cX1_asking 104 = .ok (.iload_n 2, 1) := by decide +kernel
theorem dX1_asking_105 : decode cX1_asking 105 = .ok (.iconst 0, 1) := by decide +kernel
theorem dX1_asking_106 : decode cX1_asking 106 = .ok (.invokevirtual 136, 3) := by decide +kernel
theorem dX1_asking_109 : decode cX1_asking 109 = .ok (.pop, 1) := by decide +kernel
theorem dX1_asking_110 : decode cX1_asking 110 = .ok (.iconst 1, 1) := by decide +kernel
theorem dX1_asking_111 : decode cX1_asking 111 = .ok (.ireturn, 1) := by decide +kernel
theorem dX1_name_0 : decode cX1_name 0 = .ok (.iload_n 2, 1) := by decide +kernel
theorem dX1_name_1 : decode cX1_name 1 = .ok (.ifCond .ne 9, 3) := by decide +kernel
theorem dX1_name_4 : decode cX1_name 4 = .ok (.aload_n 0, 1) := by decide +kernel
theorem dX1_name_5 : decode cX1_name 5 = .ok (.iconst 5, 1) := by decide +kernel
theorem dX1_name_6 : decode cX1_name 6 = .ok (.invokevirtual 91, 3) := by decide +kernel
theorem dX1_name_9 : decode cX1_name 9 = .ok (.ireturn, 1) := by decide +kernel
theorem dX1_name_10 : decode cX1_name 10 = .ok (.aload_n 0, 1) := by decide +kernel
theorem dX1_name_11 : decode cX1_name 11 = .ok (.dup, 1) := by decide +kernel
theorem dX1_name_12 : decode cX1_name 12 = .ok (.getfield 25, 3) := by decide +kernel
theorem dX1_name_15 : decode cX1_name 15 = .ok (.iconst 1, 1) := by decide +kernel
theorem dX1_name_16 : decode cX1_name 16 = .ok (.iadd, 1) := by decide +kernel
theorem dX1_name_17 : decode cX1_name 17 = .ok (.putfield 25, 3) := by decide +kernel
theorem dX1_name_20 : decode cX1_name 20 = .ok (.aload_n 0, 1) := by decide +kernel
theorem dX1_name_21 : decode cX1_name 21 = .ok (.getfield 34, 3) := by decide +kernel
theorem dX1_name_24 : decode cX1_name 24 = .ok (.iload_n 1, 1) := by decide +kernel
theorem dX1_name_25 : decode cX1_name 25 = .ok (.iconst 0, 1) := by decide +kernel
theorem dX1_name_26 : decode cX1_name 26 = .ok (.invokevirtual 136, 3) := by decide +kernel
theorem dX1_name_29 : decode cX1_name 29 = .ok (.pop, 1) := by decide +kernel
theorem dX1_name_30 : decode cX1_name 30 = .ok (.iconst 1, 1) := by decide +kernel
theorem dX1_name_31 : decode cX1_name 31 = .ok (.ireturn, 1) := by decide +kernel
theorem dX1_opens_0 : decode cX1_opens 0 = .ok (.iload_n 1, 1) := by decide +kernel
theorem dX1_opens_1 : decode cX1_opens 1 = .ok (.bipush 8, 2) := by decide +kernel
theorem dX1_opens_3 : decode cX1_opens 3 = .ok (.if_icmp .lt 9, 3) := by decide +kernel
theorem dX1_opens_6 : decode cX1_opens 6 = .ok (.aload_n 0, 1) := by decide +kernel
theorem dX1_opens_7 : decode cX1_opens 7 = .ok (.iconst 3, 1) := by decide +kernel
theorem dX1_opens_8 : decode cX1_opens 8 = .ok (.invokevirtual 91, 3) := by decide +kernel
theorem dX1_opens_11 : decode cX1_opens 11 = .ok (.ireturn, 1) := by decide +kernel
theorem dX1_opens_12 : decode cX1_opens 12 = .ok (.aload_n 0, 1) := by decide +kernel
theorem dX1_opens_13 : decode cX1_opens 13 = .ok (.dup, 1) := by decide +kernel
theorem dX1_opens_14 : decode cX1_opens 14 = .ok (.getfield 25, 3) := by decide +kernel
theorem dX1_opens_17 : decode cX1_opens 17 = .ok (.iconst 1, 1) := by decide +kernel
theorem dX1_opens_18 : decode cX1_opens 18 = .ok (.iadd, 1) := by decide +kernel
theorem dX1_opens_19 : decode cX1_opens 19 = .ok (.putfield 25, 3) := by decide +kernel
theorem dX1_opens_22 : decode cX1_opens 22 = .ok (.iconst 1, 1) := by decide +kernel
theorem dX1_opens_23 : decode cX1_opens 23 = .ok (.ireturn, 1) := by decide +kernel
theorem dX1_takes_0 : decode cX1_takes 0 = .ok (.aload_n 0, 1) := by decide +kernel
theorem dX1_takes_1 : decode cX1_takes 1 = .ok (.getfield 9, 3) := by decide +kernel
theorem dX1_takes_4 : decode cX1_takes 4 = .ok (.aload_n 0, 1) := by decide +kernel
theorem dX1_takes_5 : decode cX1_takes 5 = .ok (.getfield 25, 3) := by decide +kernel
theorem dX1_takes_8 : decode cX1_takes 8 = .ok (.iaload, 1) := by decide +kernel
theorem dX1_takes_9 : decode cX1_takes 9 = .ok (.iload_n 1, 1) := by decide +kernel
theorem dX1_takes_10 : decode cX1_takes 10 = .ok (.if_icmp .eq 9, 3) := by decide +kernel
theorem dX1_takes_13 : decode cX1_takes 13 = .ok (.aload_n 0, 1) := by decide +kernel
theorem dX1_takes_14 : decode cX1_takes 14 = .ok (.iconst 1, 1) := by decide +kernel
theorem dX1_takes_15 : decode cX1_takes 15 = .ok (.invokevirtual 91, 3) := by decide +kernel
theorem dX1_takes_18 : decode cX1_takes 18 = .ok (.ireturn, 1) := by decide +kernel
theorem dX1_takes_19 : decode cX1_takes 19 = .ok (.aload_n 0, 1) := by decide +kernel
theorem dX1_takes_20 : decode cX1_takes 20 = .ok (.dup, 1) := by decide +kernel
theorem dX1_takes_21 : decode cX1_takes 21 = .ok (.getfield 25, 3) := by decide +kernel
theorem dX1_takes_24 : decode cX1_takes 24 = .ok (.iconst 1, 1) := by decide +kernel
theorem dX1_takes_25 : decode cX1_takes 25 = .ok (.iadd, 1) := by decide +kernel
theorem dX1_takes_26 : decode cX1_takes 26 = .ok (.putfield 25, 3) := by decide +kernel
theorem dX1_takes_29 : decode cX1_takes 29 = .ok (.iconst 1, 1) := by decide +kernel
theorem dX1_takes_30 : decode cX1_takes 30 = .ok (.ireturn, 1) := by decide +kernel
theorem dX1_fails_0 : decode cX1_fails 0 = .ok (.aload_n 0, 1) := by decide +kernel
theorem dX1_fails_1 : decode cX1_fails 1 = .ok (.iload_n 1, 1) := by decide +kernel
theorem dX1_fails_2 : decode cX1_fails 2 = .ok (.putfield 38, 3) := by decide +kernel
theorem dX1_fails_5 : decode cX1_fails 5 = .ok (.aload_n 0, 1) := by decide +kernel
theorem dX1_fails_6 : decode cX1_fails 6 = .ok (.aload_n 0, 1) := by decide +kernel
theorem dX1_fails_7 : decode cX1_fails 7 = .ok (.getfield 18, 3) := by decide +kernel
theorem dX1_fails_10 : decode cX1_fails 10 = .ok (.aload_n 0, 1) := by decide +kernel
theorem dX1_fails_11 : decode cX1_fails 11 = .ok (.getfield 25, 3) := by decide +kernel
theorem dX1_fails_14 : decode cX1_fails 14 = .ok (.iaload, 1) := by decide +kernel
theorem dX1_fails_15 : decode cX1_fails 15 = .ok (.putfield 41, 3) := by decide +kernel
theorem dX1_fails_18 : decode cX1_fails 18 = .ok (.iconst 0, 1) := by decide +kernel
theorem dX1_fails_19 : decode cX1_fails 19 = .ok (.ireturn, 1) := by decide +kernel
theorem dX2_init_0 : decode cX2_init 0 = .ok (.aload_n 0, 1) := by decide +kernel
theorem dX2_init_1 : decode cX2_init 1 = .ok (.invokespecial 3, 3) := by decide +kernel
theorem dX2_init_4 : decode cX2_init 4 = .ok (.aload_n 0, 1) := by decide +kernel
theorem dX2_init_5 : decode cX2_init 5 = .ok (.bipush 64, 2) := by decide +kernel
theorem dX2_init_7 : decode cX2_init 7 = .ok (.newarray .int, 2) := by decide +kernel
theorem dX2_init_9 : decode cX2_init 9 = .ok (.putfield 9, 3) := by decide +kernel
theorem dX2_init_12 : decode cX2_init 12 = .ok (.return_, 1) := by decide +kernel
theorem dX2_worked_0 : decode cX2_worked 0 = .ok (.iconst 0, 1) := by decide +kernel
theorem dX2_worked_1 : decode cX2_worked 1 = .ok (.istore 7, 2) := by decide +kernel
theorem dX2_worked_3 : decode cX2_worked 3 = .ok (.aload_n 1, 1) := by decide +kernel
theorem dX2_worked_4 : decode cX2_worked 4 = .ok (.getfield 15, 3) := by decide +kernel
theorem dX2_worked_7 : decode cX2_worked 7 = .ok (.iload_n 2, 1) := by decide +kernel
theorem dX2_worked_8 : decode cX2_worked 8 = .ok (.iaload, 1) := by decide +kernel
theorem dX2_worked_9 : decode cX2_worked 9 = .ok (.istore 8, 2) := by decide +kernel
theorem dX2_worked_11 : decode cX2_worked 11 = .ok (.iconst 0, 1) := by decide +kernel
theorem dX2_worked_12 : decode cX2_worked 12 = .ok (.istore 9, 2) := by decide +kernel
theorem dX2_worked_14 : decode cX2_worked 14 = .ok (.iload 9, 2) := by decide +kernel
theorem dX2_worked_16 : decode cX2_worked 16 = .ok (.sipush 300, 3) := by decide +kernel
theorem dX2_worked_19 : decode cX2_worked 19 = .ok (.if_icmp .ge 259, 3) := by decide +kernel
theorem dX2_worked_22 : decode cX2_worked 22 = .ok (.iload 8, 2) := by decide +kernel
theorem dX2_worked_24 : decode cX2_worked 24 = .ok (.aload_n 1, 1) := by decide +kernel
theorem dX2_worked_25 : decode cX2_worked 25 = .ok (.getfield 20, 3) := by decide +kernel
theorem dX2_worked_28 : decode cX2_worked 28 = .ok (.iload_n 2, 1) := by decide +kernel
theorem dX2_worked_29 : decode cX2_worked 29 = .ok (.iaload, 1) := by decide +kernel
theorem dX2_worked_30 : decode cX2_worked 30 = .ok (.if_icmp .ge 248, 3) := by decide +kernel
theorem dX2_worked_33 : decode cX2_worked 33 = .ok (.iload 8, 2) := by decide +kernel
theorem dX2_worked_35 : decode cX2_worked 35 = .ok (.sipush 300, 3) := by decide +kernel
theorem dX2_worked_38 : decode cX2_worked 38 = .ok (.if_icmp .ge 240, 3) := by decide +kernel
theorem dX2_worked_41 : decode cX2_worked 41 = .ok (.aload_n 1, 1) := by decide +kernel
theorem dX2_worked_42 : decode cX2_worked 42 = .ok (.getfield 23, 3) := by decide +kernel
theorem dX2_worked_45 : decode cX2_worked 45 = .ok (.iload 8, 2) := by decide +kernel
theorem dX2_worked_47 : decode cX2_worked 47 = .ok (.iaload, 1) := by decide +kernel
theorem dX2_worked_48 : decode cX2_worked 48 = .ok (.istore 10, 2) := by decide +kernel
theorem dX2_worked_50 : decode cX2_worked 50 = .ok (.aload_n 1, 1) := by decide +kernel
theorem dX2_worked_51 : decode cX2_worked 51 = .ok (.getfield 26, 3) := by decide +kernel
theorem dX2_worked_54 : decode cX2_worked 54 = .ok (.iload 8, 2) := by decide +kernel
theorem dX2_worked_56 : decode cX2_worked 56 = .ok (.iaload, 1) := by decide +kernel
theorem dX2_worked_57 : decode cX2_worked 57 = .ok (.istore 11, 2) := by decide +kernel
theorem dX2_worked_59 : decode cX2_worked 59 = .ok (.iinc 8 1, 3) := by decide +kernel
theorem dX2_worked_62 : decode cX2_worked 62 = .ok (.iload 10, 2) := by decide +kernel
theorem dX2_worked_64 : decode cX2_worked 64 = .ok (.bipush 14, 2) := by decide +kernel
theorem dX2_worked_66 : decode cX2_worked 66 = .ok (.if_icmp .ne 10, 3) := by decide +kernel
theorem dX2_worked_69 : decode cX2_worked 69 = .ok (.iload 11, 2) := by decide +kernel
theorem dX2_worked_71 : decode cX2_worked 71 = .ok (.istore 8, 2) := by decide +kernel
theorem dX2_worked_73 : decode cX2_worked 73 = .ok (.goto 199, 3) := by decide +kernel
theorem dX2_worked_76 : decode cX2_worked 76 = .ok (.iload 10, 2) := by decide +kernel
theorem dX2_worked_78 : decode cX2_worked 78 = .ok (.bipush 13, 2) := by decide +kernel
theorem dX2_worked_80 : decode cX2_worked 80 = .ok (.if_icmp .ne 35, 3) := by decide +kernel
theorem dX2_worked_83 : decode cX2_worked 83 = .ok (.iconst 0, 1) := by decide +kernel
theorem dX2_worked_84 : decode cX2_worked 84 = .ok (.iload 7, 2) := by decide +kernel
theorem dX2_worked_86 : decode cX2_worked 86 = .ok (.iconst 1, 1) := by decide +kernel
theorem dX2_worked_87 : decode cX2_worked 87 = .ok (.isub, 1) := by decide +kernel
theorem dX2_worked_88 : decode cX2_worked 88 = .ok (.invokestatic 31, 3) := by decide +kernel
theorem dX2_worked_91 : decode cX2_worked 91 = .ok (.istore 7, 2) := by decide +kernel
theorem dX2_worked_93 : decode cX2_worked 93 = .ok (.aload_n 0, 1) := by decide +kernel
theorem dX2_worked_94 : decode cX2_worked 94 = .ok (.getfield 9, 3) := by decide +kernel
theorem dX2_worked_97 : decode cX2_worked 97 = .ok (.iload 7, 2) := by decide +kernel
theorem dX2_worked_99 : decode cX2_worked 99 = .ok (.iaload, 1) := by decide +kernel
theorem dX2_worked_100 : decode cX2_worked 100 = .ok (.ifCond .ne 8, 3) := by decide +kernel
theorem dX2_worked_103 : decode cX2_worked 103 = .ok (.iload 11, 2) := by decide +kernel
theorem dX2_worked_105 : decode cX2_worked 105 = .ok (.goto 5, 3) := by decide +kernel
theorem dX2_worked_108 : decode cX2_worked 108 = .ok (.iload 8, 2) := by decide +kernel
theorem dX2_worked_110 : decode cX2_worked 110 = .ok (.istore 8, 2) := by decide +kernel
theorem dX2_worked_112 : decode cX2_worked 112 = .ok (.goto 160, 3) := by decide +kernel
theorem dX2_worked_115 : decode cX2_worked 115 = .ok (.iload 10, 2) := by decide +kernel
theorem dX2_worked_117 : decode cX2_worked 117 = .ok (.bipush 25, 2) := by decide +kernel
theorem dX2_worked_119 : decode cX2_worked 119 = .ok (.if_icmp .lt 10, 3) := by decide +kernel
theorem dX2_worked_122 : decode cX2_worked 122 = .ok (.iload 10, 2) := by decide +kernel
theorem dX2_worked_124 : decode cX2_worked 124 = .ok (.bipush 38, 2) := by decide +kernel
theorem dX2_worked_126 : decode cX2_worked 126 = .ok (.if_icmp .lt 11, 3) := by decide +kernel
theorem dX2_worked_129 : decode cX2_worked 129 = .ok (.iload 10, 2) := by decide +kernel
theorem dX2_worked_131 : decode cX2_worked 131 = .ok (.invokestatic 37, 3) := by decide +kernel
theorem dX2_worked_134 : decode cX2_worked 134 = .ok (.ifCond .eq 52, 3) := by decide +kernel
theorem dX2_worked_137 : decode cX2_worked 137 = .ok (.iload 7, 2) := by decide +kernel
theorem dX2_worked_139 : decode cX2_worked 139 = .ok (.iconst 2, 1) := by decide +kernel
theorem dX2_worked_140 : decode cX2_worked 140 = .ok (.if_icmp .ge 5, 3) := by decide +kernel
theorem dX2_worked_143 : decode cX2_worked 143 = .ok (.iconst 0, 1) := by decide +kernel
theorem dX2_worked_144 : decode cX2_worked 144 = .ok (.ireturn, 1) := by decide +kernel
theorem dX2_worked_145 : decode cX2_worked 145 = .ok (.iinc 7 (-1), 3) := by decide +kernel
theorem dX2_worked_148 : decode cX2_worked 148 = .ok (.aload_n 0, 1) := by decide +kernel
theorem dX2_worked_149 : decode cX2_worked 149 = .ok (.getfield 9, 3) := by decide +kernel
theorem dX2_worked_152 : decode cX2_worked 152 = .ok (.iload 7, 2) := by decide +kernel
theorem dX2_worked_154 : decode cX2_worked 154 = .ok (.iconst 1, 1) := by decide +kernel
theorem dX2_worked_155 : decode cX2_worked 155 = .ok (.isub, 1) := by decide +kernel
theorem dX2_worked_156 : decode cX2_worked 156 = .ok (.iload 10, 2) := by decide +kernel
theorem dX2_worked_158 : decode cX2_worked 158 = .ok (.aload_n 0, 1) := by decide +kernel
theorem dX2_worked_159 : decode cX2_worked 159 = .ok (.getfield 9, 3) := by decide +kernel
theorem dX2_worked_162 : decode cX2_worked 162 = .ok (.iload 7, 2) := by decide +kernel
theorem dX2_worked_164 : decode cX2_worked 164 = .ok (.iconst 1, 1) := by decide +kernel
theorem dX2_worked_165 : decode cX2_worked 165 = .ok (.isub, 1) := by decide +kernel
theorem dX2_worked_166 : decode cX2_worked 166 = .ok (.iaload, 1) := by decide +kernel
theorem dX2_worked_167 : decode cX2_worked 167 = .ok (.i2l, 1) := by decide +kernel
theorem dX2_worked_168 : decode cX2_worked 168 = .ok (.aload_n 0, 1) := by decide +kernel
theorem dX2_worked_169 : decode cX2_worked 169 = .ok (.getfield 9, 3) := by decide +kernel
theorem dX2_worked_172 : decode cX2_worked 172 = .ok (.iload 7, 2) := by decide +kernel
theorem dX2_worked_174 : decode cX2_worked 174 = .ok (.iaload, 1) := by decide +kernel
theorem dX2_worked_175 : decode cX2_worked 175 = .ok (.i2l, 1) := by decide +kernel
theorem dX2_worked_176 : decode cX2_worked 176 = .ok (.invokestatic 41, 3) := by decide +kernel
theorem dX2_worked_179 : decode cX2_worked 179 = .ok (.invokestatic 45, 3) := by decide +kernel
theorem dX2_worked_182 : decode cX2_worked 182 = .ok (.iastore, 1) := by decide +kernel
theorem dX2_worked_183 : decode cX2_worked 183 = .ok (.goto 89, 3) := by decide +kernel
theorem dX2_worked_186 : decode cX2_worked 186 = .ok (.iload 10, 2) := by decide +kernel
theorem dX2_worked_188 : decode cX2_worked 188 = .ok (.invokestatic 49, 3) := by decide +kernel
theorem dX2_worked_191 : decode cX2_worked 191 = .ok (.ifCond .eq 40, 3) := by decide +kernel
theorem dX2_worked_194 : decode cX2_worked 194 = .ok (.iload 7, 2) := by decide +kernel
theorem dX2_worked_196 : decode cX2_worked 196 = .ok (.iconst 1, 1) := by decide +kernel
theorem dX2_worked_197 : decode cX2_worked 197 = .ok (.if_icmp .ge 5, 3) := by decide +kernel
theorem dX2_worked_200 : decode cX2_worked 200 = .ok (.iconst 0, 1) := by decide +kernel
theorem dX2_worked_201 : decode cX2_worked 201 = .ok (.ireturn, 1) := by decide +kernel
theorem dX2_worked_202 : decode cX2_worked 202 = .ok (.aload_n 0, 1) := by decide +kernel
theorem dX2_worked_203 : decode cX2_worked 203 = .ok (.getfield 9, 3) := by decide +kernel
theorem dX2_worked_206 : decode cX2_worked 206 = .ok (.iload 7, 2) := by decide +kernel
theorem dX2_worked_208 : decode cX2_worked 208 = .ok (.iconst 1, 1) := by decide +kernel
theorem dX2_worked_209 : decode cX2_worked 209 = .ok (.isub, 1) := by decide +kernel
theorem dX2_worked_210 : decode cX2_worked 210 = .ok (.iload 10, 2) := by decide +kernel
theorem dX2_worked_212 : decode cX2_worked 212 = .ok (.aload_n 0, 1) := by decide +kernel
theorem dX2_worked_213 : decode cX2_worked 213 = .ok (.getfield 9, 3) := by decide +kernel
theorem dX2_worked_216 : decode cX2_worked 216 = .ok (.iload 7, 2) := by decide +kernel
theorem dX2_worked_218 : decode cX2_worked 218 = .ok (.iconst 1, 1) := by decide +kernel
theorem dX2_worked_219 : decode cX2_worked 219 = .ok (.isub, 1) := by decide +kernel
theorem dX2_worked_220 : decode cX2_worked 220 = .ok (.iaload, 1) := by decide +kernel
theorem dX2_worked_221 : decode cX2_worked 221 = .ok (.aload_n 3, 1) := by decide +kernel
theorem dX2_worked_222 : decode cX2_worked 222 = .ok (.aload 4, 2) := by decide +kernel
theorem dX2_worked_224 : decode cX2_worked 224 = .ok (.invokestatic 52, 3) := by decide +kernel
theorem dX2_worked_227 : decode cX2_worked 227 = .ok (.iastore, 1) := by decide +kernel
theorem dX2_worked_228 : decode cX2_worked 228 = .ok (.goto 44, 3) := by decide +kernel
theorem dX2_worked_231 : decode cX2_worked 231 = .ok (.iload 7, 2) := by decide +kernel
theorem dX2_worked_233 : decode cX2_worked 233 = .ok (.bipush 64, 2) := by decide +kernel
theorem dX2_worked_235 : decode cX2_worked 235 = .ok (.if_icmp .ge 37, 3) := by decide +kernel
theorem dX2_worked_238 : decode cX2_worked 238 = .ok (.aload_n 0, 1) := by decide +kernel
theorem dX2_worked_239 : decode cX2_worked 239 = .ok (.getfield 9, 3) := by decide +kernel
theorem dX2_worked_242 : decode cX2_worked 242 = .ok (.iload 7, 2) := by decide +kernel
theorem dX2_worked_244 : decode cX2_worked 244 = .ok (.iload 10, 2) := by decide +kernel
theorem dX2_worked_246 : decode cX2_worked 246 = .ok (.bipush 24, 2) := by decide +kernel
theorem dX2_worked_248 : decode cX2_worked 248 = .ok (.if_icmp .ne 8, 3) := by decide +kernel
theorem dX2_worked_251 : decode cX2_worked 251 = .ok (.iload 11, 2) := by decide +kernel
theorem dX2_worked_253 : decode cX2_worked 253 = .ok (.goto 15, 3) := by decide +kernel
theorem dX2_worked_256 : decode cX2_worked 256 = .ok (.iload 10, 2) := by decide +kernel
theorem dX2_worked_258 : decode cX2_worked 258 = .ok (.aload_n 3, 1) := by decide +kernel
theorem dX2_worked_259 : decode cX2_worked 259 = .ok (.aload 4, 2) := by decide +kernel
theorem dX2_worked_261 : decode cX2_worked 261 = .ok (.iload 5, 2) := by decide +kernel
theorem dX2_worked_263 : decode cX2_worked 263 = .ok (.iload 6, 2) := by decide +kernel
theorem dX2_worked_265 : decode cX2_worked 265 = .ok (.invokestatic 56, 3) := by decide +kernel
theorem dX2_worked_268 : decode cX2_worked 268 = .ok (.iastore, 1) := by decide +kernel
theorem dX2_worked_269 : decode cX2_worked 269 = .ok (.iinc 7 1, 3) := by decide +kernel
theorem dX2_worked_272 : decode cX2_worked 272 = .ok (.iinc 9 1, 3) := by decide +kernel
theorem dX2_worked_275 : decode cX2_worked 275 = .ok (.goto (-261), 3) := by decide +kernel
theorem dX2_worked_278 : decode cX2_worked 278 = .ok (.aload_n 0, 1) := by decide +kernel
theorem dX2_worked_279 : decode cX2_worked 279 = .ok (.getfield 9, 3) := by decide +kernel
theorem dX2_worked_282 : decode cX2_worked 282 = .ok (.iconst 0, 1) := by decide +kernel
theorem dX2_worked_283 : decode cX2_worked 283 = .ok (.iaload, 1) := by decide +kernel
theorem dX2_worked_284 : decode cX2_worked 284 = .ok (.ireturn, 1) := by decide +kernel
theorem dX2_isLink_0 : decode cX2_isLink 0 = .ok (.iload_n 0, 1) := by decide +kernel
theorem dX2_isLink_1 : decode cX2_isLink 1 = .ok (.bipush 16, 2) := by decide +kernel
theorem dX2_isLink_3 : decode cX2_isLink 3 = .ok (.if_icmp .eq 9, 3) := by decide +kernel
theorem dX2_isLink_6 : decode cX2_isLink 6 = .ok (.iload_n 0, 1) := by decide +kernel
theorem dX2_isLink_7 : decode cX2_isLink 7 = .ok (.bipush 17, 2) := by decide +kernel
theorem dX2_isLink_9 : decode cX2_isLink 9 = .ok (.if_icmp .ne 7, 3) := by decide +kernel
theorem dX2_isLink_12 : decode cX2_isLink 12 = .ok (.iconst 1, 1) := by decide +kernel
theorem dX2_isLink_13 : decode cX2_isLink 13 = .ok (.goto 4, 3) := by decide +kernel
theorem dX2_isLink_16 : decode cX2_isLink 16 = .ok (.iconst 0, 1) := by decide +kernel
theorem dX2_isLink_17 : decode cX2_isLink 17 = .ok (.ireturn, 1) := by decide +kernel
theorem dX2_isOnOne_0 : decode cX2_isOnOne 0 = .ok (.iload_n 0, 1) := by decide +kernel
theorem dX2_isOnOne_1 : decode cX2_isOnOne 1 = .ok (.lookupswitch 45 #[(10, 43), (11, 43), (18, 43), (38, 43)], 43) := by decide +kernel
theorem dX2_isOnOne_44 : decode cX2_isOnOne 44 = .ok (.iconst 1, 1) := by decide +kernel
theorem dX2_isOnOne_45 : decode cX2_isOnOne 45 = .ok (.ireturn, 1) := by decide +kernel
theorem dX2_isOnOne_46 : decode cX2_isOnOne 46 = .ok (.iconst 0, 1) := by decide +kernel
theorem dX2_isOnOne_47 : decode cX2_isOnOne 47 = .ok (.ireturn, 1) := by decide +kernel
theorem dX2_limited_0 : decode cX2_limited 0 = .ok (.lload_n 0, 1) := by decide +kernel
theorem dX2_limited_1 : decode cX2_limited 1 = .ok (.ldc2_w 60, 3) := by decide +kernel
theorem dX2_limited_4 : decode cX2_limited 4 = .ok (.lcmp, 1) := by decide +kernel
theorem dX2_limited_5 : decode cX2_limited 5 = .ok (.ifCond .le 6, 3) := by decide +kernel
theorem dX2_limited_8 : decode cX2_limited 8 = .ok (.ldc 62, 2) := by decide +kernel
theorem dX2_limited_10 : decode cX2_limited 10 = .ok (.ireturn, 1) := by decide +kernel
theorem dX2_limited_11 : decode cX2_limited 11 = .ok (.lload_n 0, 1) := by decide +kernel
theorem dX2_limited_12 : decode cX2_limited 12 = .ok (.ldc2_w 63, 3) := by decide +kernel
theorem dX2_limited_15 : decode cX2_limited 15 = .ok (.lcmp, 1) := by decide +kernel
theorem dX2_limited_16 : decode cX2_limited 16 = .ok (.ifCond .ge 8, 3) := by decide +kernel
theorem dX2_limited_19 : decode cX2_limited 19 = .ok (.ldc 65, 2) := by decide +kernel
theorem dX2_limited_21 : decode cX2_limited 21 = .ok (.goto 5, 3) := by decide +kernel
theorem dX2_limited_24 : decode cX2_limited 24 = .ok (.lload_n 0, 1) := by decide +kernel
theorem dX2_limited_25 : decode cX2_limited 25 = .ok (.l2i, 1) := by decide +kernel
theorem dX2_limited_26 : decode cX2_limited 26 = .ok (.ireturn, 1) := by decide +kernel
theorem dX2_ofTwo_0 : decode cX2_ofTwo 0 = .ok (.iload_n 0, 1) := by decide +kernel
theorem dX2_ofTwo_1 : decode cX2_ofTwo 1 = .ok (.tableswitch 197 16 34 #[189, 193, 197, 197, 197, 197, 197, 197, 197, 117, 129, 141, 153, 165, 177, 91, 95, 99, 103], 91) := by decide +kernel
theorem dX2_ofTwo_92 : decode cX2_ofTwo 92 = .ok (.lload_n 1, 1) := by decide +kernel
theorem dX2_ofTwo_93 : decode cX2_ofTwo 93 = .ok (.lload_n 3, 1) := by decide +kernel
theorem dX2_ofTwo_94 : decode cX2_ofTwo 94 = .ok (.ladd, 1) := by decide +kernel
theorem dX2_ofTwo_95 : decode cX2_ofTwo 95 = .ok (.lreturn, 1) := by decide +kernel
theorem dX2_ofTwo_96 : decode cX2_ofTwo 96 = .ok (.lload_n 1, 1) := by decide +kernel
theorem dX2_ofTwo_97 : decode cX2_ofTwo 97 = .ok (.lload_n 3, 1) := by decide +kernel
theorem dX2_ofTwo_98 : decode cX2_ofTwo 98 = .ok (.lsub, 1) := by decide +kernel
theorem dX2_ofTwo_99 : decode cX2_ofTwo 99 = .ok (.lreturn, 1) := by decide +kernel
theorem dX2_ofTwo_100 : decode cX2_ofTwo 100 = .ok (.lload_n 1, 1) := by decide +kernel
theorem dX2_ofTwo_101 : decode cX2_ofTwo 101 = .ok (.lload_n 3, 1) := by decide +kernel
theorem dX2_ofTwo_102 : decode cX2_ofTwo 102 = .ok (.lmul, 1) := by decide +kernel
theorem dX2_ofTwo_103 : decode cX2_ofTwo 103 = .ok (.lreturn, 1) := by decide +kernel
theorem dX2_ofTwo_104 : decode cX2_ofTwo 104 = .ok (.lload_n 3, 1) := by decide +kernel
theorem dX2_ofTwo_105 : decode cX2_ofTwo 105 = .ok (.lconst 0, 1) := by decide +kernel
theorem dX2_ofTwo_106 : decode cX2_ofTwo 106 = .ok (.lcmp, 1) := by decide +kernel
theorem dX2_ofTwo_107 : decode cX2_ofTwo 107 = .ok (.ifCond .ne 7, 3) := by decide +kernel
theorem dX2_ofTwo_110 : decode cX2_ofTwo 110 = .ok (.lconst 0, 1) := by decide +kernel
theorem dX2_ofTwo_111 : decode cX2_ofTwo 111 = .ok (.goto 6, 3) := by decide +kernel
theorem dX2_ofTwo_114 : decode cX2_ofTwo 114 = .ok (.lload_n 1, 1) := by decide +kernel
theorem dX2_ofTwo_115 : decode cX2_ofTwo 115 = .ok (.lload_n 3, 1) := by decide +kernel
theorem dX2_ofTwo_116 : decode cX2_ofTwo 116 = .ok (.ldiv, 1) := by decide +kernel
theorem dX2_ofTwo_117 : decode cX2_ofTwo 117 = .ok (.lreturn, 1) := by decide +kernel
theorem dX2_ofTwo_118 : decode cX2_ofTwo 118 = .ok (.lload_n 1, 1) := by decide +kernel
theorem dX2_ofTwo_119 : decode cX2_ofTwo 119 = .ok (.lload_n 3, 1) := by decide +kernel
theorem dX2_ofTwo_120 : decode cX2_ofTwo 120 = .ok (.lcmp, 1) := by decide +kernel
theorem dX2_ofTwo_121 : decode cX2_ofTwo 121 = .ok (.ifCond .gt 7, 3) := by decide +kernel
theorem dX2_ofTwo_124 : decode cX2_ofTwo 124 = .ok (.lconst 1, 1) := by decide +kernel
theorem dX2_ofTwo_125 : decode cX2_ofTwo 125 = .ok (.goto 4, 3) := by decide +kernel
theorem dX2_ofTwo_128 : decode cX2_ofTwo 128 = .ok (.lconst 0, 1) := by decide +kernel
theorem dX2_ofTwo_129 : decode cX2_ofTwo 129 = .ok (.lreturn, 1) := by decide +kernel
theorem dX2_ofTwo_130 : decode cX2_ofTwo 130 = .ok (.lload_n 1, 1) := by decide +kernel
theorem dX2_ofTwo_131 : decode cX2_ofTwo 131 = .ok (.lload_n 3, 1) := by decide +kernel
theorem dX2_ofTwo_132 : decode cX2_ofTwo 132 = .ok (.lcmp, 1) := by decide +kernel
theorem dX2_ofTwo_133 : decode cX2_ofTwo 133 = .ok (.ifCond .lt 7, 3) := by decide +kernel
theorem dX2_ofTwo_136 : decode cX2_ofTwo 136 = .ok (.lconst 1, 1) := by decide +kernel
theorem dX2_ofTwo_137 : decode cX2_ofTwo 137 = .ok (.goto 4, 3) := by decide +kernel
theorem dX2_ofTwo_140 : decode cX2_ofTwo 140 = .ok (.lconst 0, 1) := by decide +kernel
theorem dX2_ofTwo_141 : decode cX2_ofTwo 141 = .ok (.lreturn, 1) := by decide +kernel
theorem dX2_ofTwo_142 : decode cX2_ofTwo 142 = .ok (.lload_n 1, 1) := by decide +kernel
theorem dX2_ofTwo_143 : decode cX2_ofTwo 143 = .ok (.lload_n 3, 1) := by decide +kernel
theorem dX2_ofTwo_144 : decode cX2_ofTwo 144 = .ok (.lcmp, 1) := by decide +kernel
theorem dX2_ofTwo_145 : decode cX2_ofTwo 145 = .ok (.ifCond .ge 7, 3) := by decide +kernel
theorem dX2_ofTwo_148 : decode cX2_ofTwo 148 = .ok (.lconst 1, 1) := by decide +kernel
theorem dX2_ofTwo_149 : decode cX2_ofTwo 149 = .ok (.goto 4, 3) := by decide +kernel
theorem dX2_ofTwo_152 : decode cX2_ofTwo 152 = .ok (.lconst 0, 1) := by decide +kernel
theorem dX2_ofTwo_153 : decode cX2_ofTwo 153 = .ok (.lreturn, 1) := by decide +kernel
theorem dX2_ofTwo_154 : decode cX2_ofTwo 154 = .ok (.lload_n 1, 1) := by decide +kernel
theorem dX2_ofTwo_155 : decode cX2_ofTwo 155 = .ok (.lload_n 3, 1) := by decide +kernel
theorem dX2_ofTwo_156 : decode cX2_ofTwo 156 = .ok (.lcmp, 1) := by decide +kernel
theorem dX2_ofTwo_157 : decode cX2_ofTwo 157 = .ok (.ifCond .le 7, 3) := by decide +kernel
theorem dX2_ofTwo_160 : decode cX2_ofTwo 160 = .ok (.lconst 1, 1) := by decide +kernel
theorem dX2_ofTwo_161 : decode cX2_ofTwo 161 = .ok (.goto 4, 3) := by decide +kernel
theorem dX2_ofTwo_164 : decode cX2_ofTwo 164 = .ok (.lconst 0, 1) := by decide +kernel
theorem dX2_ofTwo_165 : decode cX2_ofTwo 165 = .ok (.lreturn, 1) := by decide +kernel
theorem dX2_ofTwo_166 : decode cX2_ofTwo 166 = .ok (.lload_n 1, 1) := by decide +kernel
theorem dX2_ofTwo_167 : decode cX2_ofTwo 167 = .ok (.lload_n 3, 1) := by decide +kernel
theorem dX2_ofTwo_168 : decode cX2_ofTwo 168 = .ok (.lcmp, 1) := by decide +kernel
theorem dX2_ofTwo_169 : decode cX2_ofTwo 169 = .ok (.ifCond .ne 7, 3) := by decide +kernel
theorem dX2_ofTwo_172 : decode cX2_ofTwo 172 = .ok (.lconst 1, 1) := by decide +kernel
theorem dX2_ofTwo_173 : decode cX2_ofTwo 173 = .ok (.goto 4, 3) := by decide +kernel
theorem dX2_ofTwo_176 : decode cX2_ofTwo 176 = .ok (.lconst 0, 1) := by decide +kernel
theorem dX2_ofTwo_177 : decode cX2_ofTwo 177 = .ok (.lreturn, 1) := by decide +kernel
theorem dX2_ofTwo_178 : decode cX2_ofTwo 178 = .ok (.lload_n 1, 1) := by decide +kernel
theorem dX2_ofTwo_179 : decode cX2_ofTwo 179 = .ok (.lload_n 3, 1) := by decide +kernel
theorem dX2_ofTwo_180 : decode cX2_ofTwo 180 = .ok (.lcmp, 1) := by decide +kernel
theorem dX2_ofTwo_181 : decode cX2_ofTwo 181 = .ok (.ifCond .eq 7, 3) := by decide +kernel
theorem dX2_ofTwo_184 : decode cX2_ofTwo 184 = .ok (.lconst 1, 1) := by decide +kernel
theorem dX2_ofTwo_185 : decode cX2_ofTwo 185 = .ok (.goto 4, 3) := by decide +kernel
theorem dX2_ofTwo_188 : decode cX2_ofTwo 188 = .ok (.lconst 0, 1) := by decide +kernel
theorem dX2_ofTwo_189 : decode cX2_ofTwo 189 = .ok (.lreturn, 1) := by decide +kernel
theorem dX2_ofTwo_190 : decode cX2_ofTwo 190 = .ok (.lload_n 1, 1) := by decide +kernel
theorem dX2_ofTwo_191 : decode cX2_ofTwo 191 = .ok (.lload_n 3, 1) := by decide +kernel
theorem dX2_ofTwo_192 : decode cX2_ofTwo 192 = .ok (.lor, 1) := by decide +kernel
theorem dX2_ofTwo_193 : decode cX2_ofTwo 193 = .ok (.lreturn, 1) := by decide +kernel
theorem dX2_ofTwo_194 : decode cX2_ofTwo 194 = .ok (.lload_n 1, 1) := by decide +kernel
theorem dX2_ofTwo_195 : decode cX2_ofTwo 195 = .ok (.lload_n 3, 1) := by decide +kernel
theorem dX2_ofTwo_196 : decode cX2_ofTwo 196 = .ok (.land, 1) := by decide +kernel
theorem dX2_ofTwo_197 : decode cX2_ofTwo 197 = .ok (.lreturn, 1) := by decide +kernel
theorem dX2_ofTwo_198 : decode cX2_ofTwo 198 = .ok (.lconst 0, 1) := by decide +kernel
theorem dX2_ofTwo_199 : decode cX2_ofTwo 199 = .ok (.lreturn, 1) := by decide +kernel
theorem dX2_ofOne_0 : decode cX2_ofOne 0 = .ok (.iload_n 0, 1) := by decide +kernel
theorem dX2_ofOne_1 : decode cX2_ofOne 1 = .ok (.lookupswitch 93 #[(10, 50), (11, 70), (18, 46), (38, 43)], 43) := by decide +kernel
theorem dX2_ofOne_44 : decode cX2_ofOne 44 = .ok (.iload_n 1, 1) := by decide +kernel
theorem dX2_ofOne_45 : decode cX2_ofOne 45 = .ok (.ineg, 1) := by decide +kernel
theorem dX2_ofOne_46 : decode cX2_ofOne 46 = .ok (.ireturn, 1) := by decide +kernel
theorem dX2_ofOne_47 : decode cX2_ofOne 47 = .ok (.iconst 1, 1) := by decide +kernel
theorem dX2_ofOne_48 : decode cX2_ofOne 48 = .ok (.iload_n 1, 1) := by decide +kernel
theorem dX2_ofOne_49 : decode cX2_ofOne 49 = .ok (.isub, 1) := by decide +kernel
theorem dX2_ofOne_50 : decode cX2_ofOne 50 = .ok (.ireturn, 1) := by decide +kernel
theorem dX2_ofOne_51 : decode cX2_ofOne 51 = .ok (.iload_n 1, 1) := by decide +kernel
theorem dX2_ofOne_52 : decode cX2_ofOne 52 = .ok (.ifCond .lt 17, 3) := by decide +kernel
theorem dX2_ofOne_55 : decode cX2_ofOne 55 = .ok (.iload_n 1, 1) := by decide +kernel
theorem dX2_ofOne_56 : decode cX2_ofOne 56 = .ok (.iconst 5, 1) := by decide +kernel
theorem dX2_ofOne_57 : decode cX2_ofOne 57 = .ok (.if_icmp .ge 12, 3) := by decide +kernel
theorem dX2_ofOne_60 : decode cX2_ofOne 60 = .ok (.aload_n 2, 1) := by decide +kernel
theorem dX2_ofOne_61 : decode cX2_ofOne 61 = .ok (.getfield 66, 3) := by decide +kernel
theorem dX2_ofOne_64 : decode cX2_ofOne 64 = .ok (.iload_n 1, 1) := by decide +kernel
theorem dX2_ofOne_65 : decode cX2_ofOne 65 = .ok (.iaload, 1) := by decide +kernel
theorem dX2_ofOne_66 : decode cX2_ofOne 66 = .ok (.goto 4, 3) := by decide +kernel
theorem dX2_ofOne_69 : decode cX2_ofOne 69 = .ok (.iconst 0, 1) := by decide +kernel
theorem dX2_ofOne_70 : decode cX2_ofOne 70 = .ok (.ireturn, 1) := by decide +kernel
theorem dX2_ofOne_71 : decode cX2_ofOne 71 = .ok (.iload_n 1, 1) := by decide +kernel
theorem dX2_ofOne_72 : decode cX2_ofOne 72 = .ok (.ifCond .lt 20, 3) := by decide +kernel
theorem dX2_ofOne_75 : decode cX2_ofOne 75 = .ok (.iload_n 1, 1) := by decide +kernel
theorem dX2_ofOne_76 : decode cX2_ofOne 76 = .ok (.aload_n 2, 1) := by decide +kernel
theorem dX2_ofOne_77 : decode cX2_ofOne 77 = .ok (.getfield 71, 3) := by decide +kernel
theorem dX2_ofOne_80 : decode cX2_ofOne 80 = .ok (.if_icmp .ge 12, 3) := by decide +kernel
theorem dX2_ofOne_83 : decode cX2_ofOne 83 = .ok (.aload_n 3, 1) := by decide +kernel
theorem dX2_ofOne_84 : decode cX2_ofOne 84 = .ok (.getfield 75, 3) := by decide +kernel
theorem dX2_ofOne_87 : decode cX2_ofOne 87 = .ok (.iload_n 1, 1) := by decide +kernel
theorem dX2_ofOne_88 : decode cX2_ofOne 88 = .ok (.iaload, 1) := by decide +kernel
theorem dX2_ofOne_89 : decode cX2_ofOne 89 = .ok (.goto 4, 3) := by decide +kernel
theorem dX2_ofOne_92 : decode cX2_ofOne 92 = .ok (.iconst 0, 1) := by decide +kernel
theorem dX2_ofOne_93 : decode cX2_ofOne 93 = .ok (.ireturn, 1) := by decide +kernel
theorem dX2_ofOne_94 : decode cX2_ofOne 94 = .ok (.iconst 0, 1) := by decide +kernel
theorem dX2_ofOne_95 : decode cX2_ofOne 95 = .ok (.ireturn, 1) := by decide +kernel
theorem dX2_named_0 : decode cX2_named 0 = .ok (.iload_n 0, 1) := by decide +kernel
theorem dX2_named_1 : decode cX2_named 1 = .ok (.tableswitch 156 2 23 #[108, 156, 110, 156, 156, 156, 156, 103, 156, 156, 156, 156, 156, 156, 156, 156, 156, 113, 119, 126, 134, 146], 103) := by decide +kernel
theorem dX2_named_104 : decode cX2_named 104 = .ok (.aload_n 2, 1) := by decide +kernel
theorem dX2_named_105 : decode cX2_named 105 = .ok (.getfield 80, 3) := by decide +kernel
theorem dX2_named_108 : decode cX2_named 108 = .ok (.ireturn, 1) := by decide +kernel
theorem dX2_named_109 : decode cX2_named 109 = .ok (.iload_n 3, 1) := by decide +kernel
theorem dX2_named_110 : decode cX2_named 110 = .ok (.ireturn, 1) := by decide +kernel
theorem dX2_named_111 : decode cX2_named 111 = .ok (.iload 4, 2) := by decide +kernel
theorem dX2_named_113 : decode cX2_named 113 = .ok (.ireturn, 1) := by decide +kernel
theorem dX2_named_114 : decode cX2_named 114 = .ok (.aload_n 1, 1) := by decide +kernel
theorem dX2_named_115 : decode cX2_named 115 = .ok (.iload_n 3, 1) := by decide +kernel
theorem dX2_named_116 : decode cX2_named 116 = .ok (.invokevirtual 83, 3) := by decide +kernel
theorem dX2_named_119 : decode cX2_named 119 = .ok (.ireturn, 1) := by decide +kernel
theorem dX2_named_120 : decode cX2_named 120 = .ok (.aload_n 2, 1) := by decide +kernel
theorem dX2_named_121 : decode cX2_named 121 = .ok (.getfield 75, 3) := by decide +kernel
theorem dX2_named_124 : decode cX2_named 124 = .ok (.iload_n 3, 1) := by decide +kernel
theorem dX2_named_125 : decode cX2_named 125 = .ok (.iaload, 1) := by decide +kernel
theorem dX2_named_126 : decode cX2_named 126 = .ok (.ireturn, 1) := by decide +kernel
theorem dX2_named_127 : decode cX2_named 127 = .ok (.aload_n 2, 1) := by decide +kernel
theorem dX2_named_128 : decode cX2_named 128 = .ok (.getfield 87, 3) := by decide +kernel
theorem dX2_named_131 : decode cX2_named 131 = .ok (.invokestatic 90, 3) := by decide +kernel
theorem dX2_named_134 : decode cX2_named 134 = .ok (.ireturn, 1) := by decide +kernel
theorem dX2_named_135 : decode cX2_named 135 = .ok (.aload_n 1, 1) := by decide +kernel
theorem dX2_named_136 : decode cX2_named 136 = .ok (.getfield 95, 3) := by decide +kernel
theorem dX2_named_139 : decode cX2_named 139 = .ok (.iload_n 3, 1) := by decide +kernel
theorem dX2_named_140 : decode cX2_named 140 = .ok (.iaload, 1) := by decide +kernel
theorem dX2_named_141 : decode cX2_named 141 = .ok (.iload 4, 2) := by decide +kernel
theorem dX2_named_143 : decode cX2_named 143 = .ok (.ishr, 1) := by decide +kernel
theorem dX2_named_144 : decode cX2_named 144 = .ok (.iconst 1, 1) := by decide +kernel
theorem dX2_named_145 : decode cX2_named 145 = .ok (.iand, 1) := by decide +kernel
theorem dX2_named_146 : decode cX2_named 146 = .ok (.ireturn, 1) := by decide +kernel
theorem dX2_named_147 : decode cX2_named 147 = .ok (.aload_n 2, 1) := by decide +kernel
theorem dX2_named_148 : decode cX2_named 148 = .ok (.getfield 98, 3) := by decide +kernel
theorem dX2_named_151 : decode cX2_named 151 = .ok (.iload_n 3, 1) := by decide +kernel
theorem dX2_named_152 : decode cX2_named 152 = .ok (.iaload, 1) := by decide +kernel
theorem dX2_named_153 : decode cX2_named 153 = .ok (.invokestatic 90, 3) := by decide +kernel
theorem dX2_named_156 : decode cX2_named 156 = .ok (.ireturn, 1) := by decide +kernel
theorem dX2_named_157 : decode cX2_named 157 = .ok (.iconst 0, 1) := by decide +kernel
theorem dX2_named_158 : decode cX2_named 158 = .ok (.ireturn, 1) := by decide +kernel
theorem dX3_init_0 : decode cX3_init 0 = .ok (.aload_n 0, 1) := by decide +kernel
theorem dX3_init_1 : decode cX3_init 1 = .ok (.invokespecial 3, 3) := by decide +kernel
theorem dX3_init_4 : decode cX3_init 4 = .ok (.aload_n 0, 1) := by decide +kernel
theorem dX3_init_5 : decode cX3_init 5 = .ok (.bipush 24, 2) := by decide +kernel
theorem dX3_init_7 : decode cX3_init 7 = .ok (.newarray .int, 2) := by decide +kernel
theorem dX3_init_9 : decode cX3_init 9 = .ok (.putfield 9, 3) := by decide +kernel
theorem dX3_init_12 : decode cX3_init 12 = .ok (.aload_n 0, 1) := by decide +kernel
theorem dX3_init_13 : decode cX3_init 13 = .ok (.bipush 24, 2) := by decide +kernel
theorem dX3_init_15 : decode cX3_init 15 = .ok (.newarray .int, 2) := by decide +kernel
theorem dX3_init_17 : decode cX3_init 17 = .ok (.putfield 15, 3) := by decide +kernel
theorem dX3_init_20 : decode cX3_init 20 = .ok (.aload_n 0, 1) := by decide +kernel
theorem dX3_init_21 : decode cX3_init 21 = .ok (.bipush 24, 2) := by decide +kernel
theorem dX3_init_23 : decode cX3_init 23 = .ok (.newarray .int, 2) := by decide +kernel
theorem dX3_init_25 : decode cX3_init 25 = .ok (.putfield 18, 3) := by decide +kernel
theorem dX3_init_28 : decode cX3_init 28 = .ok (.aload_n 0, 1) := by decide +kernel
theorem dX3_init_29 : decode cX3_init 29 = .ok (.sipush 300, 3) := by decide +kernel
theorem dX3_init_32 : decode cX3_init 32 = .ok (.newarray .int, 2) := by decide +kernel
theorem dX3_init_34 : decode cX3_init 34 = .ok (.putfield 21, 3) := by decide +kernel
theorem dX3_init_37 : decode cX3_init 37 = .ok (.aload_n 0, 1) := by decide +kernel
theorem dX3_init_38 : decode cX3_init 38 = .ok (.sipush 300, 3) := by decide +kernel
theorem dX3_init_41 : decode cX3_init 41 = .ok (.newarray .int, 2) := by decide +kernel
theorem dX3_init_43 : decode cX3_init 43 = .ok (.putfield 24, 3) := by decide +kernel
theorem dX3_init_46 : decode cX3_init 46 = .ok (.aload_n 0, 1) := by decide +kernel
theorem dX3_init_47 : decode cX3_init 47 = .ok (.iconst 2, 1) := by decide +kernel
theorem dX3_init_48 : decode cX3_init 48 = .ok (.newarray .int, 2) := by decide +kernel
theorem dX3_init_50 : decode cX3_init 50 = .ok (.putfield 27, 3) := by decide +kernel
theorem dX3_init_53 : decode cX3_init 53 = .ok (.aload_n 0, 1) := by decide +kernel
theorem dX3_init_54 : decode cX3_init 54 = .ok (.iconst 2, 1) := by decide +kernel
theorem dX3_init_55 : decode cX3_init 55 = .ok (.newarray .int, 2) := by decide +kernel
theorem dX3_init_57 : decode cX3_init 57 = .ok (.putfield 30, 3) := by decide +kernel
theorem dX3_init_60 : decode cX3_init 60 = .ok (.aload_n 0, 1) := by decide +kernel
theorem dX3_init_61 : decode cX3_init 61 = .ok (.iconst 0, 1) := by decide +kernel
theorem dX3_init_62 : decode cX3_init 62 = .ok (.putfield 33, 3) := by decide +kernel
theorem dX3_init_65 : decode cX3_init 65 = .ok (.aload_n 0, 1) := by decide +kernel
theorem dX3_init_66 : decode cX3_init 66 = .ok (.iconst 0, 1) := by decide +kernel
theorem dX3_init_67 : decode cX3_init 67 = .ok (.putfield 37, 3) := by decide +kernel
theorem dX3_init_70 : decode cX3_init 70 = .ok (.return_, 1) := by decide +kernel
theorem dX3_clear_0 : decode cX3_clear 0 = .ok (.aload_n 0, 1) := by decide +kernel
theorem dX3_clear_1 : decode cX3_clear 1 = .ok (.iconst 0, 1) := by decide +kernel
theorem dX3_clear_2 : decode cX3_clear 2 = .ok (.putfield 33, 3) := by decide +kernel
theorem dX3_clear_5 : decode cX3_clear 5 = .ok (.aload_n 0, 1) := by decide +kernel
theorem dX3_clear_6 : decode cX3_clear 6 = .ok (.iconst 0, 1) := by decide +kernel
theorem dX3_clear_7 : decode cX3_clear 7 = .ok (.putfield 37, 3) := by decide +kernel
theorem dX3_clear_10 : decode cX3_clear 10 = .ok (.iconst 0, 1) := by decide +kernel
theorem dX3_clear_11 : decode cX3_clear 11 = .ok (.istore_n 1, 1) := by decide +kernel
theorem dX3_clear_12 : decode cX3_clear 12 = .ok (.iload_n 1, 1) := by decide +kernel
theorem dX3_clear_13 : decode cX3_clear 13 = .ok (.iconst 2, 1) := by decide +kernel
theorem dX3_clear_14 : decode cX3_clear 14 = .ok (.if_icmp .ge 23, 3) := by decide +kernel
theorem dX3_clear_17 : decode cX3_clear 17 = .ok (.aload_n 0, 1) := by decide +kernel
theorem dX3_clear_18 : decode cX3_clear 18 = .ok (.getfield 27, 3) := by decide +kernel
theorem dX3_clear_21 : decode cX3_clear 21 = .ok (.iload_n 1, 1) := by decide +kernel
theorem dX3_clear_22 : decode cX3_clear 22 = .ok (.iconst 0, 1) := by decide +kernel
theorem dX3_clear_23 : decode cX3_clear 23 = .ok (.iastore, 1) := by decide +kernel
theorem dX3_clear_24 : decode cX3_clear 24 = .ok (.aload_n 0, 1) := by decide +kernel
theorem dX3_clear_25 : decode cX3_clear 25 = .ok (.getfield 30, 3) := by decide +kernel
theorem dX3_clear_28 : decode cX3_clear 28 = .ok (.iload_n 1, 1) := by decide +kernel
theorem dX3_clear_29 : decode cX3_clear 29 = .ok (.iconst 0, 1) := by decide +kernel
theorem dX3_clear_30 : decode cX3_clear 30 = .ok (.iastore, 1) := by decide +kernel
theorem dX3_clear_31 : decode cX3_clear 31 = .ok (.iinc 1 1, 3) := by decide +kernel
theorem dX3_clear_34 : decode cX3_clear 34 = .ok (.goto (-22), 3) := by decide +kernel
theorem dX3_clear_37 : decode cX3_clear 37 = .ok (.return_, 1) := by decide +kernel
theorem dX3_rules_0 : decode cX3_rules 0 = .ok (.aload_n 0, 1) := by decide +kernel
theorem dX3_rules_1 : decode cX3_rules 1 = .ok (.getfield 30, 3) := by decide +kernel
theorem dX3_rules_4 : decode cX3_rules 4 = .ok (.iload_n 1, 1) := by decide +kernel
theorem dX3_rules_5 : decode cX3_rules 5 = .ok (.iaload, 1) := by decide +kernel
theorem dX3_rules_6 : decode cX3_rules 6 = .ok (.aload_n 0, 1) := by decide +kernel
theorem dX3_rules_7 : decode cX3_rules 7 = .ok (.getfield 27, 3) := by decide +kernel
theorem dX3_rules_10 : decode cX3_rules 10 = .ok (.iload_n 1, 1) := by decide +kernel
theorem dX3_rules_11 : decode cX3_rules 11 = .ok (.iaload, 1) := by decide +kernel
theorem dX3_rules_12 : decode cX3_rules 12 = .ok (.if_icmp .le 7, 3) := by decide +kernel
theorem dX3_rules_15 : decode cX3_rules 15 = .ok (.iconst 1, 1) := by decide +kernel
theorem dX3_rules_16 : decode cX3_rules 16 = .ok (.goto 4, 3) := by decide +kernel
theorem dX3_rules_19 : decode cX3_rules 19 = .ok (.iconst 0, 1) := by decide +kernel
theorem dX3_rules_20 : decode cX3_rules 20 = .ok (.ireturn, 1) := by decide +kernel
theorem dX3_emit_0 : decode cX3_emit 0 = .ok (.aload_n 0, 1) := by decide +kernel
theorem dX3_emit_1 : decode cX3_emit 1 = .ok (.getfield 37, 3) := by decide +kernel
theorem dX3_emit_4 : decode cX3_emit 4 = .ok (.sipush 300, 3) := by decide +kernel
theorem dX3_emit_7 : decode cX3_emit 7 = .ok (.if_icmp .ge 33, 3) := by decide +kernel
theorem dX3_emit_10 : decode cX3_emit 10 = .ok (.aload_n 0, 1) := by decide +kernel
theorem dX3_emit_11 : decode cX3_emit 11 = .ok (.getfield 21, 3) := by decide +kernel
theorem dX3_emit_14 : decode cX3_emit 14 = .ok (.aload_n 0, 1) := by decide +kernel
theorem dX3_emit_15 : decode cX3_emit 15 = .ok (.getfield 37, 3) := by decide +kernel
theorem dX3_emit_18 : decode cX3_emit 18 = .ok (.iload_n 1, 1) := by decide +kernel
theorem dX3_emit_19 : decode cX3_emit 19 = .ok (.iastore, 1) := by decide +kernel
theorem dX3_emit_20 : decode cX3_emit 20 = .ok (.aload_n 0, 1) := by decide +kernel
theorem dX3_emit_21 : decode cX3_emit 21 = .ok (.getfield 24, 3) := by decide +kernel
theorem dX3_emit_24 : decode cX3_emit 24 = .ok (.aload_n 0, 1) := by decide +kernel
theorem dX3_emit_25 : decode cX3_emit 25 = .ok (.getfield 37, 3) := by decide +kernel
theorem dX3_emit_28 : decode cX3_emit 28 = .ok (.iload_n 2, 1) := by decide +kernel
theorem dX3_emit_29 : decode cX3_emit 29 = .ok (.iastore, 1) := by decide +kernel
theorem dX3_emit_30 : decode cX3_emit 30 = .ok (.aload_n 0, 1) := by decide +kernel
theorem dX3_emit_31 : decode cX3_emit 31 = .ok (.dup, 1) := by decide +kernel
theorem dX3_emit_32 : decode cX3_emit 32 = .ok (.getfield 37, 3) := by decide +kernel
theorem dX3_emit_35 : decode cX3_emit 35 = .ok (.iconst 1, 1) := by decide +kernel
theorem dX3_emit_36 : decode cX3_emit 36 = .ok (.iadd, 1) := by decide +kernel
theorem dX3_emit_37 : decode cX3_emit 37 = .ok (.putfield 37, 3) := by decide +kernel
theorem dX3_emit_40 : decode cX3_emit 40 = .ok (.aload_n 0, 1) := by decide +kernel
theorem dX3_emit_41 : decode cX3_emit 41 = .ok (.getfield 37, 3) := by decide +kernel
theorem dX3_emit_44 : decode cX3_emit 44 = .ok (.iconst 1, 1) := by decide +kernel
theorem dX3_emit_45 : decode cX3_emit 45 = .ok (.isub, 1) := by decide +kernel
theorem dX3_emit_46 : decode cX3_emit 46 = .ok (.ireturn, 1) := by decide +kernel
theorem dX3_jumpHere_0 : decode cX3_jumpHere 0 = .ok (.iload_n 1, 1) := by decide +kernel
theorem dX3_jumpHere_1 : decode cX3_jumpHere 1 = .ok (.ifCond .lt 20, 3) := by decide +kernel
theorem dX3_jumpHere_4 : decode cX3_jumpHere 4 = .ok (.iload_n 1, 1) := by decide +kernel
theorem dX3_jumpHere_5 : decode cX3_jumpHere 5 = .ok (.sipush 300, 3) := by decide +kernel
theorem dX3_jumpHere_8 : decode cX3_jumpHere 8 = .ok (.if_icmp .ge 13, 3) := by decide +kernel
theorem dX3_jumpHere_11 : decode cX3_jumpHere 11 = .ok (.aload_n 0, 1) := by decide +kernel
theorem dX3_jumpHere_12 : decode cX3_jumpHere 12 = .ok (.getfield 24, 3) := by decide +kernel
theorem dX3_jumpHere_15 : decode cX3_jumpHere 15 = .ok (.iload_n 1, 1) := by decide +kernel
theorem dX3_jumpHere_16 : decode cX3_jumpHere 16 = .ok (.aload_n 0, 1) := by decide +kernel
theorem dX3_jumpHere_17 : decode cX3_jumpHere 17 = .ok (.getfield 37, 3) := by decide +kernel
theorem dX3_jumpHere_20 : decode cX3_jumpHere 20 = .ok (.iastore, 1) := by decide +kernel
theorem dX3_jumpHere_21 : decode cX3_jumpHere 21 = .ok (.return_, 1) := by decide +kernel
theorem dX3_add_0 : decode cX3_add 0 = .ok (.aload_n 0, 1) := by decide +kernel
theorem dX3_add_1 : decode cX3_add 1 = .ok (.getfield 33, 3) := by decide +kernel
theorem dX3_add_4 : decode cX3_add 4 = .ok (.bipush 24, 2) := by decide +kernel
theorem dX3_add_6 : decode cX3_add 6 = .ok (.if_icmp .ge 43, 3) := by decide +kernel
theorem dX3_add_9 : decode cX3_add 9 = .ok (.aload_n 0, 1) := by decide +kernel
theorem dX3_add_10 : decode cX3_add 10 = .ok (.getfield 9, 3) := by decide +kernel
theorem dX3_add_13 : decode cX3_add 13 = .ok (.aload_n 0, 1) := by decide +kernel
theorem dX3_add_14 : decode cX3_add 14 = .ok (.getfield 33, 3) := by decide +kernel
theorem dX3_add_17 : decode cX3_add 17 = .ok (.iload_n 1, 1) := by decide +kernel
theorem dX3_add_18 : decode cX3_add 18 = .ok (.iastore, 1) := by decide +kernel
theorem dX3_add_19 : decode cX3_add 19 = .ok (.aload_n 0, 1) := by decide +kernel
theorem dX3_add_20 : decode cX3_add 20 = .ok (.getfield 15, 3) := by decide +kernel
theorem dX3_add_23 : decode cX3_add 23 = .ok (.aload_n 0, 1) := by decide +kernel
theorem dX3_add_24 : decode cX3_add 24 = .ok (.getfield 33, 3) := by decide +kernel
theorem dX3_add_27 : decode cX3_add 27 = .ok (.iload_n 2, 1) := by decide +kernel
theorem dX3_add_28 : decode cX3_add 28 = .ok (.iastore, 1) := by decide +kernel
theorem dX3_add_29 : decode cX3_add 29 = .ok (.aload_n 0, 1) := by decide +kernel
theorem dX3_add_30 : decode cX3_add 30 = .ok (.getfield 18, 3) := by decide +kernel
theorem dX3_add_33 : decode cX3_add 33 = .ok (.aload_n 0, 1) := by decide +kernel
theorem dX3_add_34 : decode cX3_add 34 = .ok (.getfield 33, 3) := by decide +kernel
theorem dX3_add_37 : decode cX3_add 37 = .ok (.iload_n 3, 1) := by decide +kernel
theorem dX3_add_38 : decode cX3_add 38 = .ok (.iastore, 1) := by decide +kernel
theorem dX3_add_39 : decode cX3_add 39 = .ok (.aload_n 0, 1) := by decide +kernel
theorem dX3_add_40 : decode cX3_add 40 = .ok (.dup, 1) := by decide +kernel
theorem dX3_add_41 : decode cX3_add 41 = .ok (.getfield 33, 3) := by decide +kernel
theorem dX3_add_44 : decode cX3_add 44 = .ok (.iconst 1, 1) := by decide +kernel
theorem dX3_add_45 : decode cX3_add 45 = .ok (.iadd, 1) := by decide +kernel
theorem dX3_add_46 : decode cX3_add 46 = .ok (.putfield 33, 3) := by decide +kernel
theorem dX3_add_49 : decode cX3_add 49 = .ok (.return_, 1) := by decide +kernel
theorem dX4_ofWord_0 : decode cX4_ofWord 0 = .ok (.iload_n 2, 1) := by decide +kernel
theorem dX4_ofWord_1 : decode cX4_ofWord 1 = .ok (.iload_n 1, 1) := by decide +kernel
theorem dX4_ofWord_2 : decode cX4_ofWord 2 = .ok (.isub, 1) := by decide +kernel
theorem dX4_ofWord_3 : decode cX4_ofWord 3 = .ok (.istore_n 3, 1) := by decide +kernel
theorem dX4_ofWord_4 : decode cX4_ofWord 4 = .ok (.iconst 0, 1) := by decide +kernel
theorem dX4_ofWord_5 : decode cX4_ofWord 5 = .ok (.istore 4, 2) := by decide +kernel
theorem dX4_ofWord_7 : decode cX4_ofWord 7 = .ok (.iload 4, 2) := by decide +kernel
theorem dX4_ofWord_9 : decode cX4_ofWord 9 = .ok (.bipush 24, 2) := by decide +kernel
theorem dX4_ofWord_11 : decode cX4_ofWord 11 = .ok (.if_icmp .ge 88, 3) := by decide +kernel
theorem dX4_ofWord_14 : decode cX4_ofWord 14 = .ok (.iload_n 3, 1) := by decide +kernel
theorem dX4_ofWord_15 : decode cX4_ofWord 15 = .ok (.iconst 5, 1) := by decide +kernel
theorem dX4_ofWord_16 : decode cX4_ofWord 16 = .ok (.if_icmp .gt 83, 3) := by decide +kernel
theorem dX4_ofWord_19 : decode cX4_ofWord 19 = .ok (.iconst 1, 1) := by decide +kernel
theorem dX4_ofWord_20 : decode cX4_ofWord 20 = .ok (.istore 5, 2) := by decide +kernel
theorem dX4_ofWord_22 : decode cX4_ofWord 22 = .ok (.iconst 0, 1) := by decide +kernel
theorem dX4_ofWord_23 : decode cX4_ofWord 23 = .ok (.istore 6, 2) := by decide +kernel
theorem dX4_ofWord_25 : decode cX4_ofWord 25 = .ok (.iload 6, 2) := by decide +kernel
theorem dX4_ofWord_27 : decode cX4_ofWord 27 = .ok (.iconst 5, 1) := by decide +kernel
theorem dX4_ofWord_28 : decode cX4_ofWord 28 = .ok (.if_icmp .ge 57, 3) := by decide +kernel
theorem dX4_ofWord_31 : decode cX4_ofWord 31 = .ok (.iload 5, 2) := by decide +kernel
theorem dX4_ofWord_33 : decode cX4_ofWord 33 = .ok (.ifCond .eq 52, 3) := by decide +kernel
theorem dX4_ofWord_36 : decode cX4_ofWord 36 = .ok (.iload 6, 2) := by decide +kernel
theorem dX4_ofWord_38 : decode cX4_ofWord 38 = .ok (.iload_n 3, 1) := by decide +kernel
theorem dX4_ofWord_39 : decode cX4_ofWord 39 = .ok (.if_icmp .ge 12, 3) := by decide +kernel
theorem dX4_ofWord_42 : decode cX4_ofWord 42 = .ok (.aload_n 0, 1) := by decide +kernel
theorem dX4_ofWord_43 : decode cX4_ofWord 43 = .ok (.iload_n 1, 1) := by decide +kernel
theorem dX4_ofWord_44 : decode cX4_ofWord 44 = .ok (.iload 6, 2) := by decide +kernel
theorem dX4_ofWord_46 : decode cX4_ofWord 46 = .ok (.iadd, 1) := by decide +kernel
theorem dX4_ofWord_47 : decode cX4_ofWord 47 = .ok (.caload, 1) := by decide +kernel
theorem dX4_ofWord_48 : decode cX4_ofWord 48 = .ok (.goto 5, 3) := by decide +kernel
theorem dX4_ofWord_51 : decode cX4_ofWord 51 = .ok (.bipush 32, 2) := by decide +kernel
theorem dX4_ofWord_53 : decode cX4_ofWord 53 = .ok (.istore 7, 2) := by decide +kernel
theorem dX4_ofWord_55 : decode cX4_ofWord 55 = .ok (.iload 7, 2) := by decide +kernel
theorem dX4_ofWord_57 : decode cX4_ofWord 57 = .ok (.ldc 9, 2) := by decide +kernel
theorem dX4_ofWord_59 : decode cX4_ofWord 59 = .ok (.iload 4, 2) := by decide +kernel
theorem dX4_ofWord_61 : decode cX4_ofWord 61 = .ok (.iconst 5, 1) := by decide +kernel
theorem dX4_ofWord_62 : decode cX4_ofWord 62 = .ok (.imul, 1) := by decide +kernel
theorem dX4_ofWord_63 : decode cX4_ofWord 63 = .ok (.iload 6, 2) := by decide +kernel
theorem dX4_ofWord_65 : decode cX4_ofWord 65 = .ok (.iadd, 1) := by decide +kernel
theorem dX4_ofWord_66 : decode cX4_ofWord 66 = .ok (.invokevirtual 11, 3) := by decide +kernel
theorem dX4_ofWord_69 : decode cX4_ofWord 69 = .ok (.if_icmp .ne 7, 3) := by decide +kernel
theorem dX4_ofWord_72 : decode cX4_ofWord 72 = .ok (.iconst 1, 1) := by decide +kernel
theorem dX4_ofWord_73 : decode cX4_ofWord 73 = .ok (.goto 4, 3) := by decide +kernel
theorem dX4_ofWord_76 : decode cX4_ofWord 76 = .ok (.iconst 0, 1) := by decide +kernel
theorem dX4_ofWord_77 : decode cX4_ofWord 77 = .ok (.istore 5, 2) := by decide +kernel
theorem dX4_ofWord_79 : decode cX4_ofWord 79 = .ok (.iinc 6 1, 3) := by decide +kernel
theorem dX4_ofWord_82 : decode cX4_ofWord 82 = .ok (.goto (-57), 3) := by decide +kernel
theorem dX4_ofWord_85 : decode cX4_ofWord 85 = .ok (.iload 5, 2) := by decide +kernel
theorem dX4_ofWord_87 : decode cX4_ofWord 87 = .ok (.ifCond .eq 6, 3) := by decide +kernel
theorem dX4_ofWord_90 : decode cX4_ofWord 90 = .ok (.iload 4, 2) := by decide +kernel
theorem dX4_ofWord_92 : decode cX4_ofWord 92 = .ok (.ireturn, 1) := by decide +kernel
theorem dX4_ofWord_93 : decode cX4_ofWord 93 = .ok (.iinc 4 1, 3) := by decide +kernel
theorem dX4_ofWord_96 : decode cX4_ofWord 96 = .ok (.goto (-89), 3) := by decide +kernel
theorem dX4_ofWord_99 : decode cX4_ofWord 99 = .ok (.bipush 39, 2) := by decide +kernel
theorem dX4_ofWord_101 : decode cX4_ofWord 101 = .ok (.ireturn, 1) := by decide +kernel
theorem dX4_ofSign_0 : decode cX4_ofSign 0 = .ok (.iload_n 0, 1) := by decide +kernel
theorem dX4_ofSign_1 : decode cX4_ofSign 1 = .ok (.tableswitch 178 35 62 #[154, 178, 178, 178, 178, 169, 172, 163, 157, 178, 160, 178, 166, 178, 178, 178, 178, 178, 178, 178, 178, 178, 178, 178, 175, 127, 151, 139], 127) := by decide +kernel
theorem dX4_ofSign_128 : decode cX4_ofSign 128 = .ok (.iload_n 1, 1) := by decide +kernel
theorem dX4_ofSign_129 : decode cX4_ofSign 129 = .ok (.ifCond .eq 8, 3) := by decide +kernel
theorem dX4_ofSign_132 : decode cX4_ofSign 132 = .ok (.bipush 25, 2) := by decide +kernel
theorem dX4_ofSign_134 : decode cX4_ofSign 134 = .ok (.goto 5, 3) := by decide +kernel
theorem dX4_ofSign_137 : decode cX4_ofSign 137 = .ok (.bipush 27, 2) := by decide +kernel
theorem dX4_ofSign_139 : decode cX4_ofSign 139 = .ok (.ireturn, 1) := by decide +kernel
theorem dX4_ofSign_140 : decode cX4_ofSign 140 = .ok (.iload_n 1, 1) := by decide +kernel
theorem dX4_ofSign_141 : decode cX4_ofSign 141 = .ok (.ifCond .eq 8, 3) := by decide +kernel
theorem dX4_ofSign_144 : decode cX4_ofSign 144 = .ok (.bipush 26, 2) := by decide +kernel
theorem dX4_ofSign_146 : decode cX4_ofSign 146 = .ok (.goto 5, 3) := by decide +kernel
theorem dX4_ofSign_149 : decode cX4_ofSign 149 = .ok (.bipush 28, 2) := by decide +kernel
theorem dX4_ofSign_151 : decode cX4_ofSign 151 = .ok (.ireturn, 1) := by decide +kernel
theorem dX4_ofSign_152 : decode cX4_ofSign 152 = .ok (.bipush 29, 2) := by decide +kernel
theorem dX4_ofSign_154 : decode cX4_ofSign 154 = .ok (.ireturn, 1) := by decide +kernel
theorem dX4_ofSign_155 : decode cX4_ofSign 155 = .ok (.bipush 30, 2) := by decide +kernel
theorem dX4_ofSign_157 : decode cX4_ofSign 157 = .ok (.ireturn, 1) := by decide +kernel
theorem dX4_ofSign_158 : decode cX4_ofSign 158 = .ok (.bipush 31, 2) := by decide +kernel
theorem dX4_ofSign_160 : decode cX4_ofSign 160 = .ok (.ireturn, 1) := by decide +kernel
theorem dX4_ofSign_161 : decode cX4_ofSign 161 = .ok (.bipush 32, 2) := by decide +kernel
theorem dX4_ofSign_163 : decode cX4_ofSign 163 = .ok (.ireturn, 1) := by decide +kernel
theorem dX4_ofSign_164 : decode cX4_ofSign 164 = .ok (.bipush 33, 2) := by decide +kernel
theorem dX4_ofSign_166 : decode cX4_ofSign 166 = .ok (.ireturn, 1) := by decide +kernel
theorem dX4_ofSign_167 : decode cX4_ofSign 167 = .ok (.bipush 34, 2) := by decide +kernel
theorem dX4_ofSign_169 : decode cX4_ofSign 169 = .ok (.ireturn, 1) := by decide +kernel
theorem dX4_ofSign_170 : decode cX4_ofSign 170 = .ok (.bipush 35, 2) := by decide +kernel
theorem dX4_ofSign_172 : decode cX4_ofSign 172 = .ok (.ireturn, 1) := by decide +kernel
theorem dX4_ofSign_173 : decode cX4_ofSign 173 = .ok (.bipush 36, 2) := by decide +kernel
theorem dX4_ofSign_175 : decode cX4_ofSign 175 = .ok (.ireturn, 1) := by decide +kernel
theorem dX4_ofSign_176 : decode cX4_ofSign 176 = .ok (.bipush 37, 2) := by decide +kernel
theorem dX4_ofSign_178 : decode cX4_ofSign 178 = .ok (.ireturn, 1) := by decide +kernel
theorem dX4_ofSign_179 : decode cX4_ofSign 179 = .ok (.bipush 39, 2) := by decide +kernel
theorem dX4_ofSign_181 : decode cX4_ofSign 181 = .ok (.ireturn, 1) := by decide +kernel
theorem dX4_isLetter_0 : decode cX4_isLetter 0 = .ok (.iload_n 0, 1) := by decide +kernel
theorem dX4_isLetter_1 : decode cX4_isLetter 1 = .ok (.bipush 97, 2) := by decide +kernel
theorem dX4_isLetter_3 : decode cX4_isLetter 3 = .ok (.if_icmp .lt 9, 3) := by decide +kernel
theorem dX4_isLetter_6 : decode cX4_isLetter 6 = .ok (.iload_n 0, 1) := by decide +kernel
theorem dX4_isLetter_7 : decode cX4_isLetter 7 = .ok (.bipush 122, 2) := by decide +kernel
theorem dX4_isLetter_9 : decode cX4_isLetter 9 = .ok (.if_icmp .le 15, 3) := by decide +kernel
theorem dX4_isLetter_12 : decode cX4_isLetter 12 = .ok (.iload_n 0, 1) := by decide +kernel
theorem dX4_isLetter_13 : decode cX4_isLetter 13 = .ok (.bipush 65, 2) := by decide +kernel
theorem dX4_isLetter_15 : decode cX4_isLetter 15 = .ok (.if_icmp .lt 13, 3) := by decide +kernel
theorem dX4_isLetter_18 : decode cX4_isLetter 18 = .ok (.iload_n 0, 1) := by decide +kernel
theorem dX4_isLetter_19 : decode cX4_isLetter 19 = .ok (.bipush 90, 2) := by decide +kernel
theorem dX4_isLetter_21 : decode cX4_isLetter 21 = .ok (.if_icmp .gt 7, 3) := by decide +kernel
theorem dX4_isLetter_24 : decode cX4_isLetter 24 = .ok (.iconst 1, 1) := by decide +kernel
theorem dX4_isLetter_25 : decode cX4_isLetter 25 = .ok (.goto 4, 3) := by decide +kernel
theorem dX4_isLetter_28 : decode cX4_isLetter 28 = .ok (.iconst 0, 1) := by decide +kernel
theorem dX4_isLetter_29 : decode cX4_isLetter 29 = .ok (.ireturn, 1) := by decide +kernel
theorem dX4_isDigit_0 : decode cX4_isDigit 0 = .ok (.iload_n 0, 1) := by decide +kernel
theorem dX4_isDigit_1 : decode cX4_isDigit 1 = .ok (.bipush 48, 2) := by decide +kernel
theorem dX4_isDigit_3 : decode cX4_isDigit 3 = .ok (.if_icmp .lt 13, 3) := by decide +kernel
theorem dX4_isDigit_6 : decode cX4_isDigit 6 = .ok (.iload_n 0, 1) := by decide +kernel
theorem dX4_isDigit_7 : decode cX4_isDigit 7 = .ok (.bipush 57, 2) := by decide +kernel
theorem dX4_isDigit_9 : decode cX4_isDigit 9 = .ok (.if_icmp .gt 7, 3) := by decide +kernel
theorem dX4_isDigit_12 : decode cX4_isDigit 12 = .ok (.iconst 1, 1) := by decide +kernel
theorem dX4_isDigit_13 : decode cX4_isDigit 13 = .ok (.goto 4, 3) := by decide +kernel
theorem dX4_isDigit_16 : decode cX4_isDigit 16 = .ok (.iconst 0, 1) := by decide +kernel
theorem dX4_isDigit_17 : decode cX4_isDigit 17 = .ok (.ireturn, 1) := by decide +kernel
theorem dX4_isComparison_0 : decode cX4_isComparison 0 = .ok (.iload_n 0, 1) := by decide +kernel
theorem dX4_isComparison_1 : decode cX4_isComparison 1 = .ok (.bipush 25, 2) := by decide +kernel
theorem dX4_isComparison_3 : decode cX4_isComparison 3 = .ok (.if_icmp .lt 13, 3) := by decide +kernel
theorem dX4_isComparison_6 : decode cX4_isComparison 6 = .ok (.iload_n 0, 1) := by decide +kernel
theorem dX4_isComparison_7 : decode cX4_isComparison 7 = .ok (.bipush 30, 2) := by decide +kernel
theorem dX4_isComparison_9 : decode cX4_isComparison 9 = .ok (.if_icmp .gt 7, 3) := by decide +kernel
theorem dX4_isComparison_12 : decode cX4_isComparison 12 = .ok (.iconst 1, 1) := by decide +kernel
theorem dX4_isComparison_13 : decode cX4_isComparison 13 = .ok (.goto 4, 3) := by decide +kernel
theorem dX4_isComparison_16 : decode cX4_isComparison 16 = .ok (.iconst 0, 1) := by decide +kernel
theorem dX4_isComparison_17 : decode cX4_isComparison 17 = .ok (.ireturn, 1) := by decide +kernel
theorem dX5_init_0 : decode cX5_init 0 = .ok (.aload_n 0, 1) := by decide +kernel
theorem dX5_init_1 : decode cX5_init 1 = .ok (.invokespecial 3, 3) := by decide +kernel
theorem dX5_init_4 : decode cX5_init 4 = .ok (.aload_n 0, 1) := by decide +kernel
theorem dX5_init_5 : decode cX5_init 5 = .ok (.bipush 6, 2) := by decide +kernel
theorem dX5_init_7 : decode cX5_init 7 = .ok (.newarray .int, 2) := by decide +kernel
theorem dX5_init_9 : decode cX5_init 9 = .ok (.putfield 9, 3) := by decide +kernel
theorem dX5_init_12 : decode cX5_init 12 = .ok (.aload_n 0, 1) := by decide +kernel
theorem dX5_init_13 : decode cX5_init 13 = .ok (.bipush 6, 2) := by decide +kernel
theorem dX5_init_15 : decode cX5_init 15 = .ok (.newarray .int, 2) := by decide +kernel
theorem dX5_init_17 : decode cX5_init 17 = .ok (.putfield 15, 3) := by decide +kernel
theorem dX5_init_20 : decode cX5_init 20 = .ok (.aload_n 0, 1) := by decide +kernel
theorem dX5_init_21 : decode cX5_init 21 = .ok (.bipush 25, 2) := by decide +kernel
theorem dX5_init_23 : decode cX5_init 23 = .ok (.newarray .int, 2) := by decide +kernel
theorem dX5_init_25 : decode cX5_init 25 = .ok (.putfield 18, 3) := by decide +kernel
theorem dX5_init_28 : decode cX5_init 28 = .ok (.aload_n 0, 1) := by decide +kernel
theorem dX5_init_29 : decode cX5_init 29 = .ok (.iconst 0, 1) := by decide +kernel
theorem dX5_init_30 : decode cX5_init 30 = .ok (.putfield 21, 3) := by decide +kernel
theorem dX5_init_33 : decode cX5_init 33 = .ok (.aload_n 0, 1) := by decide +kernel
theorem dX5_init_34 : decode cX5_init 34 = .ok (.sipush 4095, 3) := by decide +kernel
theorem dX5_init_37 : decode cX5_init 37 = .ok (.putfield 25, 3) := by decide +kernel
theorem dX5_init_40 : decode cX5_init 40 = .ok (.aload_n 0, 1) := by decide +kernel
theorem dX5_init_41 : decode cX5_init 41 = .ok (.iconst 0, 1) := by decide +kernel
theorem dX5_init_42 : decode cX5_init 42 = .ok (.putfield 28, 3) := by decide +kernel
theorem dX5_init_45 : decode cX5_init 45 = .ok (.aload_n 0, 1) := by decide +kernel
theorem dX5_init_46 : decode cX5_init 46 = .ok (.iconst 0, 1) := by decide +kernel
theorem dX5_init_47 : decode cX5_init 47 = .ok (.putfield 31, 3) := by decide +kernel
theorem dX5_init_50 : decode cX5_init 50 = .ok (.aload_n 0, 1) := by decide +kernel
theorem dX5_init_51 : decode cX5_init 51 = .ok (.iconst 0, 1) := by decide +kernel
theorem dX5_init_52 : decode cX5_init 52 = .ok (.putfield 34, 3) := by decide +kernel
theorem dX5_init_55 : decode cX5_init 55 = .ok (.aload_n 0, 1) := by decide +kernel
theorem dX5_init_56 : decode cX5_init 56 = .ok (.sipush 457, 3) := by decide +kernel
theorem dX5_init_59 : decode cX5_init 59 = .ok (.putfield 37, 3) := by decide +kernel
theorem dX5_init_62 : decode cX5_init 62 = .ok (.return_, 1) := by decide +kernel
theorem dX5_become_0 : decode cX5_become 0 = .ok (.aload_n 1, 1) := by decide +kernel
theorem dX5_become_1 : decode cX5_become 1 = .ok (.getfield 9, 3) := by decide +kernel
theorem dX5_become_4 : decode cX5_become 4 = .ok (.iconst 0, 1) := by decide +kernel
theorem dX5_become_5 : decode cX5_become 5 = .ok (.aload_n 0, 1) := by decide +kernel
theorem dX5_become_6 : decode cX5_become 6 = .ok (.getfield 9, 3) := by decide +kernel
theorem dX5_become_9 : decode cX5_become 9 = .ok (.iconst 0, 1) := by decide +kernel
theorem dX5_become_10 : decode cX5_become 10 = .ok (.bipush 6, 2) := by decide +kernel
theorem dX5_become_12 : decode cX5_become 12 = .ok (.invokestatic 40, 3) := by decide +kernel
theorem dX5_become_15 : decode cX5_become 15 = .ok (.aload_n 1, 1) := by decide +kernel
theorem dX5_become_16 : decode cX5_become 16 = .ok (.getfield 15, 3) := by decide +kernel
theorem dX5_become_19 : decode cX5_become 19 = .ok (.iconst 0, 1) := by decide +kernel
theorem dX5_become_20 : decode cX5_become 20 = .ok (.aload_n 0, 1) := by decide +kernel
theorem dX5_become_21 : decode cX5_become 21 = .ok (.getfield 15, 3) := by decide +kernel
theorem dX5_become_24 : decode cX5_become 24 = .ok (.iconst 0, 1) := by decide +kernel
theorem dX5_become_25 : decode cX5_become 25 = .ok (.bipush 6, 2) := by decide +kernel
theorem dX5_become_27 : decode cX5_become 27 = .ok (.invokestatic 40, 3) := by decide +kernel
theorem dX5_become_30 : decode cX5_become 30 = .ok (.aload_n 1, 1) := by decide +kernel
theorem dX5_become_31 : decode cX5_become 31 = .ok (.getfield 18, 3) := by decide +kernel
theorem dX5_become_34 : decode cX5_become 34 = .ok (.iconst 0, 1) := by decide +kernel
theorem dX5_become_35 : decode cX5_become 35 = .ok (.aload_n 0, 1) := by decide +kernel
theorem dX5_become_36 : decode cX5_become 36 = .ok (.getfield 18, 3) := by decide +kernel
theorem dX5_become_39 : decode cX5_become 39 = .ok (.iconst 0, 1) := by decide +kernel
theorem dX5_become_40 : decode cX5_become 40 = .ok (.bipush 25, 2) := by decide +kernel
theorem dX5_become_42 : decode cX5_become 42 = .ok (.invokestatic 40, 3) := by decide +kernel
theorem dX5_become_45 : decode cX5_become 45 = .ok (.aload_n 0, 1) := by decide +kernel
theorem dX5_become_46 : decode cX5_become 46 = .ok (.aload_n 1, 1) := by decide +kernel
theorem dX5_become_47 : decode cX5_become 47 = .ok (.getfield 21, 3) := by decide +kernel
theorem dX5_become_50 : decode cX5_become 50 = .ok (.putfield 21, 3) := by decide +kernel
theorem dX5_become_53 : decode cX5_become 53 = .ok (.aload_n 0, 1) := by decide +kernel
theorem dX5_become_54 : decode cX5_become 54 = .ok (.aload_n 1, 1) := by decide +kernel
theorem dX5_become_55 : decode cX5_become 55 = .ok (.getfield 25, 3) := by decide +kernel
theorem dX5_become_58 : decode cX5_become 58 = .ok (.putfield 25, 3) := by decide +kernel
theorem dX5_become_61 : decode cX5_become 61 = .ok (.aload_n 0, 1) := by decide +kernel
theorem dX5_become_62 : decode cX5_become 62 = .ok (.aload_n 1, 1) := by decide +kernel
theorem dX5_become_63 : decode cX5_become 63 = .ok (.getfield 28, 3) := by decide +kernel
theorem dX5_become_66 : decode cX5_become 66 = .ok (.putfield 28, 3) := by decide +kernel
theorem dX5_become_69 : decode cX5_become 69 = .ok (.aload_n 0, 1) := by decide +kernel
theorem dX5_become_70 : decode cX5_become 70 = .ok (.aload_n 1, 1) := by decide +kernel
theorem dX5_become_71 : decode cX5_become 71 = .ok (.getfield 31, 3) := by decide +kernel
theorem dX5_become_74 : decode cX5_become 74 = .ok (.putfield 31, 3) := by decide +kernel
theorem dX5_become_77 : decode cX5_become 77 = .ok (.aload_n 0, 1) := by decide +kernel
theorem dX5_become_78 : decode cX5_become 78 = .ok (.aload_n 1, 1) := by decide +kernel
theorem dX5_become_79 : decode cX5_become 79 = .ok (.getfield 34, 3) := by decide +kernel
theorem dX5_become_82 : decode cX5_become 82 = .ok (.putfield 34, 3) := by decide +kernel
theorem dX5_become_85 : decode cX5_become 85 = .ok (.aload_n 0, 1) := by decide +kernel
theorem dX5_become_86 : decode cX5_become 86 = .ok (.aload_n 1, 1) := by decide +kernel
theorem dX5_become_87 : decode cX5_become 87 = .ok (.getfield 37, 3) := by decide +kernel
theorem dX5_become_90 : decode cX5_become 90 = .ok (.putfield 37, 3) := by decide +kernel
theorem dX5_become_93 : decode cX5_become 93 = .ok (.return_, 1) := by decide +kernel
theorem dX5_writeDown_0 : decode cX5_writeDown 0 = .ok (.aload_n 0, 1) := by decide +kernel
theorem dX5_writeDown_1 : decode cX5_writeDown 1 = .ok (.getfield 21, 3) := by decide +kernel
theorem dX5_writeDown_4 : decode cX5_writeDown 4 = .ok (.bipush 25, 2) := by decide +kernel
theorem dX5_writeDown_6 : decode cX5_writeDown 6 = .ok (.if_icmp .lt 24, 3) := by decide +kernel
theorem dX5_writeDown_9 : decode cX5_writeDown 9 = .ok (.aload_n 0, 1) := by decide +kernel
theorem dX5_writeDown_10 : decode cX5_writeDown 10 = .ok (.getfield 18, 3) := by decide +kernel
theorem dX5_writeDown_13 : decode cX5_writeDown 13 = .ok (.iconst 1, 1) := by decide +kernel
theorem dX5_writeDown_14 : decode cX5_writeDown 14 = .ok (.aload_n 0, 1) := by decide +kernel
theorem dX5_writeDown_15 : decode cX5_writeDown 15 = .ok (.getfield 18, 3) := by decide +kernel
theorem dX5_writeDown_18 : decode cX5_writeDown 18 = .ok (.iconst 0, 1) := by decide +kernel
theorem dX5_writeDown_19 : decode cX5_writeDown 19 = .ok (.bipush 24, 2) := by decide +kernel
theorem dX5_writeDown_21 : decode cX5_writeDown 21 = .ok (.invokestatic 40, 3) := by decide +kernel
theorem dX5_writeDown_24 : decode cX5_writeDown 24 = .ok (.aload_n 0, 1) := by decide +kernel
theorem dX5_writeDown_25 : decode cX5_writeDown 25 = .ok (.bipush 24, 2) := by decide +kernel
theorem dX5_writeDown_27 : decode cX5_writeDown 27 = .ok (.putfield 21, 3) := by decide +kernel
theorem dX5_writeDown_30 : decode cX5_writeDown 30 = .ok (.aload_n 0, 1) := by decide +kernel
theorem dX5_writeDown_31 : decode cX5_writeDown 31 = .ok (.getfield 18, 3) := by decide +kernel
theorem dX5_writeDown_34 : decode cX5_writeDown 34 = .ok (.aload_n 0, 1) := by decide +kernel
theorem dX5_writeDown_35 : decode cX5_writeDown 35 = .ok (.getfield 21, 3) := by decide +kernel
theorem dX5_writeDown_38 : decode cX5_writeDown 38 = .ok (.aload_n 0, 1) := by decide +kernel
theorem dX5_writeDown_39 : decode cX5_writeDown 39 = .ok (.getfield 34, 3) := by decide +kernel
theorem dX5_writeDown_42 : decode cX5_writeDown 42 = .ok (.bipush 14, 2) := by decide +kernel
theorem dX5_writeDown_44 : decode cX5_writeDown 44 = .ok (.ishl, 1) := by decide +kernel
theorem dX5_writeDown_45 : decode cX5_writeDown 45 = .ok (.iload_n 1, 1) := by decide +kernel
theorem dX5_writeDown_46 : decode cX5_writeDown 46 = .ok (.bipush 11, 2) := by decide +kernel
theorem dX5_writeDown_48 : decode cX5_writeDown 48 = .ok (.ishl, 1) := by decide +kernel
theorem dX5_writeDown_49 : decode cX5_writeDown 49 = .ok (.ior, 1) := by decide +kernel
theorem dX5_writeDown_50 : decode cX5_writeDown 50 = .ok (.iload_n 2, 1) := by decide +kernel
theorem dX5_writeDown_51 : decode cX5_writeDown 51 = .ok (.bipush 7, 2) := by decide +kernel
theorem dX5_writeDown_53 : decode cX5_writeDown 53 = .ok (.ishl, 1) := by decide +kernel
theorem dX5_writeDown_54 : decode cX5_writeDown 54 = .ok (.ior, 1) := by decide +kernel
theorem dX5_writeDown_55 : decode cX5_writeDown 55 = .ok (.iload_n 3, 1) := by decide +kernel
theorem dX5_writeDown_56 : decode cX5_writeDown 56 = .ok (.ior, 1) := by decide +kernel
theorem dX5_writeDown_57 : decode cX5_writeDown 57 = .ok (.iastore, 1) := by decide +kernel
theorem dX5_writeDown_58 : decode cX5_writeDown 58 = .ok (.aload_n 0, 1) := by decide +kernel
theorem dX5_writeDown_59 : decode cX5_writeDown 59 = .ok (.dup, 1) := by decide +kernel
theorem dX5_writeDown_60 : decode cX5_writeDown 60 = .ok (.getfield 21, 3) := by decide +kernel
theorem dX5_writeDown_63 : decode cX5_writeDown 63 = .ok (.iconst 1, 1) := by decide +kernel
theorem dX5_writeDown_64 : decode cX5_writeDown 64 = .ok (.iadd, 1) := by decide +kernel
theorem dX5_writeDown_65 : decode cX5_writeDown 65 = .ok (.putfield 21, 3) := by decide +kernel
theorem dX5_writeDown_68 : decode cX5_writeDown 68 = .ok (.return_, 1) := by decide +kernel
theorem dX5_dayOf_0 : decode cX5_dayOf 0 = .ok (.iload_n 0, 1) := by decide +kernel
theorem dX5_dayOf_1 : decode cX5_dayOf 1 = .ok (.bipush 14, 2) := by decide +kernel
theorem dX5_dayOf_3 : decode cX5_dayOf 3 = .ok (.ishr, 1) := by decide +kernel
theorem dX5_dayOf_4 : decode cX5_dayOf 4 = .ok (.ireturn, 1) := by decide +kernel
theorem dX5_kindOf_0 : decode cX5_kindOf 0 = .ok (.iload_n 0, 1) := by decide +kernel
theorem dX5_kindOf_1 : decode cX5_kindOf 1 = .ok (.bipush 11, 2) := by decide +kernel
theorem dX5_kindOf_3 : decode cX5_kindOf 3 = .ok (.ishr, 1) := by decide +kernel
theorem dX5_kindOf_4 : decode cX5_kindOf 4 = .ok (.bipush 7, 2) := by decide +kernel
theorem dX5_kindOf_6 : decode cX5_kindOf 6 = .ok (.iand, 1) := by decide +kernel
theorem dX5_kindOf_7 : decode cX5_kindOf 7 = .ok (.ireturn, 1) := by decide +kernel
theorem dX5_whomOf_0 : decode cX5_whomOf 0 = .ok (.iload_n 0, 1) := by decide +kernel
theorem dX5_whomOf_1 : decode cX5_whomOf 1 = .ok (.bipush 7, 2) := by decide +kernel
theorem dX5_whomOf_3 : decode cX5_whomOf 3 = .ok (.ishr, 1) := by decide +kernel
theorem dX5_whomOf_4 : decode cX5_whomOf 4 = .ok (.bipush 15, 2) := by decide +kernel
theorem dX5_whomOf_6 : decode cX5_whomOf 6 = .ok (.iand, 1) := by decide +kernel
theorem dX5_whomOf_7 : decode cX5_whomOf 7 = .ok (.ireturn, 1) := by decide +kernel
theorem dX5_priceOf_0 : decode cX5_priceOf 0 = .ok (.iload_n 0, 1) := by decide +kernel
theorem dX5_priceOf_1 : decode cX5_priceOf 1 = .ok (.bipush 127, 2) := by decide +kernel
theorem dX5_priceOf_3 : decode cX5_priceOf 3 = .ok (.iand, 1) := by decide +kernel
theorem dX5_priceOf_4 : decode cX5_priceOf 4 = .ok (.ireturn, 1) := by decide +kernel
theorem dJ6_bitCount_0f7a4_0 : decode cJ6_bitCount_0f7a4 0 = .ok (.iload_n 0, 1) := by decide +kernel
theorem dJ6_bitCount_0f7a4_1 : decode cJ6_bitCount_0f7a4 1 = .ok (.iload_n 0, 1) := by decide +kernel
theorem dJ6_bitCount_0f7a4_2 : decode cJ6_bitCount_0f7a4 2 = .ok (.iconst 1, 1) := by decide +kernel
theorem dJ6_bitCount_0f7a4_3 : decode cJ6_bitCount_0f7a4 3 = .ok (.iushr, 1) := by decide +kernel
theorem dJ6_bitCount_0f7a4_4 : decode cJ6_bitCount_0f7a4 4 = .ok (.ldc_w 265, 3) := by decide +kernel
theorem dJ6_bitCount_0f7a4_7 : decode cJ6_bitCount_0f7a4 7 = .ok (.iand, 1) := by decide +kernel
theorem dJ6_bitCount_0f7a4_8 : decode cJ6_bitCount_0f7a4 8 = .ok (.isub, 1) := by decide +kernel
theorem dJ6_bitCount_0f7a4_9 : decode cJ6_bitCount_0f7a4 9 = .ok (.istore_n 0, 1) := by decide +kernel
theorem dJ6_bitCount_0f7a4_10 : decode cJ6_bitCount_0f7a4 10 = .ok (.iload_n 0, 1) := by decide +kernel
theorem dJ6_bitCount_0f7a4_11 : decode cJ6_bitCount_0f7a4 11 = .ok (.ldc_w 266, 3) := by decide +kernel
theorem dJ6_bitCount_0f7a4_14 : decode cJ6_bitCount_0f7a4 14 = .ok (.iand, 1) := by decide +kernel
theorem dJ6_bitCount_0f7a4_15 : decode cJ6_bitCount_0f7a4 15 = .ok (.iload_n 0, 1) := by decide +kernel
theorem dJ6_bitCount_0f7a4_16 : decode cJ6_bitCount_0f7a4 16 = .ok (.iconst 2, 1) := by decide +kernel
theorem dJ6_bitCount_0f7a4_17 : decode cJ6_bitCount_0f7a4 17 = .ok (.iushr, 1) := by decide +kernel
theorem dJ6_bitCount_0f7a4_18 : decode cJ6_bitCount_0f7a4 18 = .ok (.ldc_w 266, 3) := by decide +kernel
theorem dJ6_bitCount_0f7a4_21 : decode cJ6_bitCount_0f7a4 21 = .ok (.iand, 1) := by decide +kernel
theorem dJ6_bitCount_0f7a4_22 : decode cJ6_bitCount_0f7a4 22 = .ok (.iadd, 1) := by decide +kernel
theorem dJ6_bitCount_0f7a4_23 : decode cJ6_bitCount_0f7a4 23 = .ok (.istore_n 0, 1) := by decide +kernel
theorem dJ6_bitCount_0f7a4_24 : decode cJ6_bitCount_0f7a4 24 = .ok (.iload_n 0, 1) := by decide +kernel
theorem dJ6_bitCount_0f7a4_25 : decode cJ6_bitCount_0f7a4 25 = .ok (.iload_n 0, 1) := by decide +kernel
theorem dJ6_bitCount_0f7a4_26 : decode cJ6_bitCount_0f7a4 26 = .ok (.iconst 4, 1) := by decide +kernel
theorem dJ6_bitCount_0f7a4_27 : decode cJ6_bitCount_0f7a4 27 = .ok (.iushr, 1) := by decide +kernel
theorem dJ6_bitCount_0f7a4_28 : decode cJ6_bitCount_0f7a4 28 = .ok (.iadd, 1) := by decide +kernel
theorem dJ6_bitCount_0f7a4_29 : decode cJ6_bitCount_0f7a4 29 = .ok (.ldc_w 267, 3) := by decide +kernel
theorem dJ6_bitCount_0f7a4_32 : decode cJ6_bitCount_0f7a4 32 = .ok (.iand, 1) := by decide +kernel
theorem dJ6_bitCount_0f7a4_33 : decode cJ6_bitCount_0f7a4 33 = .ok (.istore_n 0, 1) := by decide +kernel
theorem dJ6_bitCount_0f7a4_34 : decode cJ6_bitCount_0f7a4 34 = .ok (.iload_n 0, 1) := by decide +kernel
theorem dJ6_bitCount_0f7a4_35 : decode cJ6_bitCount_0f7a4 35 = .ok (.iload_n 0, 1) := by decide +kernel
theorem dJ6_bitCount_0f7a4_36 : decode cJ6_bitCount_0f7a4 36 = .ok (.bipush 8, 2) := by decide +kernel
theorem dJ6_bitCount_0f7a4_38 : decode cJ6_bitCount_0f7a4 38 = .ok (.iushr, 1) := by decide +kernel
theorem dJ6_bitCount_0f7a4_39 : decode cJ6_bitCount_0f7a4 39 = .ok (.iadd, 1) := by decide +kernel
theorem dJ6_bitCount_0f7a4_40 : decode cJ6_bitCount_0f7a4 40 = .ok (.istore_n 0, 1) := by decide +kernel
theorem dJ6_bitCount_0f7a4_41 : decode cJ6_bitCount_0f7a4 41 = .ok (.iload_n 0, 1) := by decide +kernel
theorem dJ6_bitCount_0f7a4_42 : decode cJ6_bitCount_0f7a4 42 = .ok (.iload_n 0, 1) := by decide +kernel
theorem dJ6_bitCount_0f7a4_43 : decode cJ6_bitCount_0f7a4 43 = .ok (.bipush 16, 2) := by decide +kernel
theorem dJ6_bitCount_0f7a4_45 : decode cJ6_bitCount_0f7a4 45 = .ok (.iushr, 1) := by decide +kernel
theorem dJ6_bitCount_0f7a4_46 : decode cJ6_bitCount_0f7a4 46 = .ok (.iadd, 1) := by decide +kernel
theorem dJ6_bitCount_0f7a4_47 : decode cJ6_bitCount_0f7a4 47 = .ok (.istore_n 0, 1) := by decide +kernel
theorem dJ6_bitCount_0f7a4_48 : decode cJ6_bitCount_0f7a4 48 = .ok (.iload_n 0, 1) := by decide +kernel
theorem dJ6_bitCount_0f7a4_49 : decode cJ6_bitCount_0f7a4 49 = .ok (.bipush 63, 2) := by decide +kernel
theorem dJ6_bitCount_0f7a4_51 : decode cJ6_bitCount_0f7a4 51 = .ok (.iand, 1) := by decide +kernel
theorem dJ6_bitCount_0f7a4_52 : decode cJ6_bitCount_0f7a4 52 = .ok (.ireturn, 1) := by decide +kernel
theorem dJ9_max_7cf53_0 : decode cJ9_max_7cf53 0 = .ok (.iload_n 0, 1) := by decide +kernel
theorem dJ9_max_7cf53_1 : decode cJ9_max_7cf53 1 = .ok (.iload_n 1, 1) := by decide +kernel
theorem dJ9_max_7cf53_2 : decode cJ9_max_7cf53 2 = .ok (.if_icmp .lt 7, 3) := by decide +kernel
theorem dJ9_max_7cf53_5 : decode cJ9_max_7cf53 5 = .ok (.iload_n 0, 1) := by decide +kernel
theorem dJ9_max_7cf53_6 : decode cJ9_max_7cf53 6 = .ok (.goto 4, 3) := by decide +kernel
theorem dJ9_max_7cf53_9 : decode cJ9_max_7cf53 9 = .ok (.iload_n 1, 1) := by decide +kernel
theorem dJ9_max_7cf53_10 : decode cJ9_max_7cf53 10 = .ok (.ireturn, 1) := by decide +kernel
theorem dJ9_max_f86c9_0 : decode cJ9_max_f86c9 0 = .ok (.lload_n 0, 1) := by decide +kernel
theorem dJ9_max_f86c9_1 : decode cJ9_max_f86c9 1 = .ok (.lload_n 2, 1) := by decide +kernel
theorem dJ9_max_f86c9_2 : decode cJ9_max_f86c9 2 = .ok (.lcmp, 1) := by decide +kernel
theorem dJ9_max_f86c9_3 : decode cJ9_max_f86c9 3 = .ok (.ifCond .lt 7, 3) := by decide +kernel
theorem dJ9_max_f86c9_6 : decode cJ9_max_f86c9 6 = .ok (.lload_n 0, 1) := by decide +kernel
theorem dJ9_max_f86c9_7 : decode cJ9_max_f86c9 7 = .ok (.goto 4, 3) := by decide +kernel
theorem dJ9_max_f86c9_10 : decode cJ9_max_f86c9 10 = .ok (.lload_n 2, 1) := by decide +kernel
theorem dJ9_max_f86c9_11 : decode cJ9_max_f86c9 11 = .ok (.lreturn, 1) := by decide +kernel
theorem dJ9_min_7cf53_0 : decode cJ9_min_7cf53 0 = .ok (.iload_n 0, 1) := by decide +kernel
theorem dJ9_min_7cf53_1 : decode cJ9_min_7cf53 1 = .ok (.iload_n 1, 1) := by decide +kernel
theorem dJ9_min_7cf53_2 : decode cJ9_min_7cf53 2 = .ok (.if_icmp .gt 7, 3) := by decide +kernel
theorem dJ9_min_7cf53_5 : decode cJ9_min_7cf53 5 = .ok (.iload_n 0, 1) := by decide +kernel
theorem dJ9_min_7cf53_6 : decode cJ9_min_7cf53 6 = .ok (.goto 4, 3) := by decide +kernel
theorem dJ9_min_7cf53_9 : decode cJ9_min_7cf53 9 = .ok (.iload_n 1, 1) := by decide +kernel
theorem dJ9_min_7cf53_10 : decode cJ9_min_7cf53 10 = .ok (.ireturn, 1) := by decide +kernel
theorem dJ0_charAt_5068e_0 : decode cJ0_charAt_5068e 0 = .ok (.aload_n 0, 1) := by decide +kernel
theorem dJ0_charAt_5068e_1 : decode cJ0_charAt_5068e 1 = .ok (.invokevirtual 492, 3) := by decide +kernel
theorem dJ0_charAt_5068e_4 : decode cJ0_charAt_5068e 4 = .ok (.ifCond .eq 12, 3) := by decide +kernel
theorem dJ0_charAt_5068e_7 : decode cJ0_charAt_5068e 7 = .ok (.aload_n 0, 1) := by decide +kernel
theorem dJ0_charAt_5068e_8 : decode cJ0_charAt_5068e 8 = .ok (.getfield 9, 3) := by decide +kernel
theorem dJ0_charAt_5068e_11 : decode cJ0_charAt_5068e 11 = .ok (.iload_n 1, 1) := by decide +kernel
theorem dJ0_charAt_5068e_12 : decode cJ0_charAt_5068e 12 = .ok (.invokestatic 495, 3) := by decide +kernel
theorem dJ0_charAt_5068e_15 : decode cJ0_charAt_5068e 15 = .ok (.ireturn, 1) := by decide +kernel
theorem dJ0_charAt_5068e_16 : decode cJ0_charAt_5068e 16 = .ok (.aload_n 0, 1) := by decide +kernel
theorem dJ0_charAt_5068e_17 : decode cJ0_charAt_5068e 17 = .ok (.getfield 9, 3) := by decide +kernel
theorem dJ0_charAt_5068e_20 : decode cJ0_charAt_5068e 20 = .ok (.iload_n 1, 1) := by decide +kernel
theorem dJ0_charAt_5068e_21 : decode cJ0_charAt_5068e 21 = .ok (.invokestatic 498, 3) := by decide +kernel
theorem dJ0_charAt_5068e_24 : decode cJ0_charAt_5068e 24 = .ok (.ireturn, 1) := by decide +kernel
theorem dJ0_isLatin1_aae02_0 : decode cJ0_isLatin1_aae02 0 = .ok (.getstatic 38, 3) := by decide +kernel
theorem dJ0_isLatin1_aae02_3 : decode cJ0_isLatin1_aae02 3 = .ok (.ifCond .eq 14, 3) := by decide +kernel
theorem dJ0_isLatin1_aae02_6 : decode cJ0_isLatin1_aae02 6 = .ok (.aload_n 0, 1) := by decide +kernel
theorem dJ0_isLatin1_aae02_7 : decode cJ0_isLatin1_aae02 7 = .ok (.getfield 15, 3) := by decide +kernel
theorem dJ0_isLatin1_aae02_10 : decode cJ0_isLatin1_aae02 10 = .ok (.ifCond .ne 7, 3) := by decide +kernel
theorem dJ0_isLatin1_aae02_13 : decode cJ0_isLatin1_aae02 13 = .ok (.iconst 1, 1) := by decide +kernel
theorem dJ0_isLatin1_aae02_14 : decode cJ0_isLatin1_aae02 14 = .ok (.goto 4, 3) := by decide +kernel
theorem dJ0_isLatin1_aae02_17 : decode cJ0_isLatin1_aae02 17 = .ok (.iconst 0, 1) := by decide +kernel
theorem dJ0_isLatin1_aae02_18 : decode cJ0_isLatin1_aae02 18 = .ok (.ireturn, 1) := by decide +kernel
theorem dJ0_checkIndex_df160_0 : decode cJ0_checkIndex_df160 0 = .ok (.iload_n 0, 1) := by decide +kernel
theorem dJ0_checkIndex_df160_1 : decode cJ0_checkIndex_df160 1 = .ok (.iload_n 1, 1) := by decide +kernel
theorem dJ0_checkIndex_df160_2 : decode cJ0_checkIndex_df160 2 = .ok (.getstatic 1053, 3) := by decide +kernel
theorem dJ0_checkIndex_df160_5 : decode cJ0_checkIndex_df160 5 = .ok (.invokestatic 1059, 3) := by decide +kernel
theorem dJ0_checkIndex_df160_8 : decode cJ0_checkIndex_df160 8 = .ok (.pop, 1) := by decide +kernel
theorem dJ0_checkIndex_df160_9 : decode cJ0_checkIndex_df160 9 = .ok (.return_, 1) := by decide +kernel
theorem dJ1_charAt_3b067_0 : decode cJ1_charAt_3b067 0 = .ok (.iload_n 1, 1) := by decide +kernel
theorem dJ1_charAt_3b067_1 : decode cJ1_charAt_3b067 1 = .ok (.aload_n 0, 1) := by decide +kernel
theorem dJ1_charAt_3b067_2 : decode cJ1_charAt_3b067 2 = .ok (.arraylength, 1) := by decide +kernel
theorem dJ1_charAt_3b067_3 : decode cJ1_charAt_3b067 3 = .ok (.invokestatic 9, 3) := by decide +kernel
theorem dJ1_charAt_3b067_6 : decode cJ1_charAt_3b067 6 = .ok (.aload_n 0, 1) := by decide +kernel
theorem dJ1_charAt_3b067_7 : decode cJ1_charAt_3b067 7 = .ok (.iload_n 1, 1) := by decide +kernel
theorem dJ1_charAt_3b067_8 : decode cJ1_charAt_3b067 8 = .ok (.baload, 1) := by decide +kernel
theorem dJ1_charAt_3b067_9 : decode cJ1_charAt_3b067 9 = .ok (.sipush 255, 3) := by decide +kernel
theorem dJ1_charAt_3b067_12 : decode cJ1_charAt_3b067 12 = .ok (.iand, 1) := by decide +kernel
theorem dJ1_charAt_3b067_13 : decode cJ1_charAt_3b067 13 = .ok (.i2c, 1) := by decide +kernel
theorem dJ1_charAt_3b067_14 : decode cJ1_charAt_3b067 14 = .ok (.ireturn, 1) := by decide +kernel
theorem dJ2_getChar_3b067_0 : decode cJ2_getChar_3b067 0 = .ok (.getstatic 44, 3) := by decide +kernel
theorem dJ2_getChar_3b067_3 : decode cJ2_getChar_3b067 3 = .ok (.ifCond .ne 25, 3) := by decide +kernel
theorem dJ2_getChar_3b067_6 : decode cJ2_getChar_3b067 6 = .ok (.iload_n 1, 1) := by decide +kernel
theorem dJ2_getChar_3b067_7 : decode cJ2_getChar_3b067 7 = .ok (.ifCond .lt 11, 3) := by decide +kernel
theorem dJ2_getChar_3b067_10 : decode cJ2_getChar_3b067 10 = .ok (.iload_n 1, 1) := by decide +kernel
theorem dJ2_getChar_3b067_11 : decode cJ2_getChar_3b067 11 = .ok (.aload_n 0, 1) := by decide +kernel
theorem dJ2_getChar_3b067_12 : decode cJ2_getChar_3b067 12 = .ok (.invokestatic 48, 3) := by decide +kernel
theorem dJ2_getChar_3b067_15 : decode cJ2_getChar_3b067 15 = .ok (.if_icmp .lt 13, 3) := by decide +kernel
theorem dJ2_getChar_3b067_18 : decode cJ2_getChar_3b067 18 = .ok (.new 52, 3) := by decide +kernel
theorem dJ2_getChar_3b067_21 : decode cJ2_getChar_3b067 21 = .ok (.dup, 1) := by decide +kernel
theorem dJ2_getChar_3b067_22 : decode cJ2_getChar_3b067 22 = .ok (.ldc 54, 2) := by decide +kernel
theorem dJ2_getChar_3b067_24 : decode cJ2_getChar_3b067 24 = .ok (.invokespecial 56, 3) := by decide +kernel
theorem dJ2_getChar_3b067_27 : decode cJ2_getChar_3b067 27 = .ok (.athrow, 1) := by decide +kernel
theorem dJ2_getChar_3b067_28 : decode cJ2_getChar_3b067 28 = .ok (.iload_n 1, 1) := by decide +kernel
theorem dJ2_getChar_3b067_29 : decode cJ2_getChar_3b067 29 = .ok (.iconst 1, 1) := by decide +kernel
theorem dJ2_getChar_3b067_30 : decode cJ2_getChar_3b067 30 = .ok (.ishl, 1) := by decide +kernel
theorem dJ2_getChar_3b067_31 : decode cJ2_getChar_3b067 31 = .ok (.istore_n 1, 1) := by decide +kernel
theorem dJ2_getChar_3b067_32 : decode cJ2_getChar_3b067 32 = .ok (.aload_n 0, 1) := by decide +kernel
theorem dJ2_getChar_3b067_33 : decode cJ2_getChar_3b067 33 = .ok (.iload_n 1, 1) := by decide +kernel
theorem dJ2_getChar_3b067_34 : decode cJ2_getChar_3b067 34 = .ok (.iinc 1 1, 3) := by decide +kernel
theorem dJ2_getChar_3b067_37 : decode cJ2_getChar_3b067 37 = .ok (.baload, 1) := by decide +kernel
theorem dJ2_getChar_3b067_38 : decode cJ2_getChar_3b067 38 = .ok (.sipush 255, 3) := by decide +kernel
theorem dJ2_getChar_3b067_41 : decode cJ2_getChar_3b067 41 = .ok (.iand, 1) := by decide +kernel
theorem dJ2_getChar_3b067_42 : decode cJ2_getChar_3b067 42 = .ok (.getstatic 59, 3) := by decide +kernel
theorem dJ2_getChar_3b067_45 : decode cJ2_getChar_3b067 45 = .ok (.ishl, 1) := by decide +kernel
theorem dJ2_getChar_3b067_46 : decode cJ2_getChar_3b067 46 = .ok (.aload_n 0, 1) := by decide +kernel
theorem dJ2_getChar_3b067_47 : decode cJ2_getChar_3b067 47 = .ok (.iload_n 1, 1) := by decide +kernel
theorem dJ2_getChar_3b067_48 : decode cJ2_getChar_3b067 48 = .ok (.baload, 1) := by decide +kernel
theorem dJ2_getChar_3b067_49 : decode cJ2_getChar_3b067 49 = .ok (.sipush 255, 3) := by decide +kernel
theorem dJ2_getChar_3b067_52 : decode cJ2_getChar_3b067 52 = .ok (.iand, 1) := by decide +kernel
theorem dJ2_getChar_3b067_53 : decode cJ2_getChar_3b067 53 = .ok (.getstatic 63, 3) := by decide +kernel
theorem dJ2_getChar_3b067_56 : decode cJ2_getChar_3b067 56 = .ok (.ishl, 1) := by decide +kernel
theorem dJ2_getChar_3b067_57 : decode cJ2_getChar_3b067 57 = .ok (.ior, 1) := by decide +kernel
theorem dJ2_getChar_3b067_58 : decode cJ2_getChar_3b067 58 = .ok (.i2c, 1) := by decide +kernel
theorem dJ2_getChar_3b067_59 : decode cJ2_getChar_3b067 59 = .ok (.ireturn, 1) := by decide +kernel
theorem dJ2_length_9d52b_0 : decode cJ2_length_9d52b 0 = .ok (.aload_n 0, 1) := by decide +kernel
theorem dJ2_length_9d52b_1 : decode cJ2_length_9d52b 1 = .ok (.arraylength, 1) := by decide +kernel
theorem dJ2_length_9d52b_2 : decode cJ2_length_9d52b 2 = .ok (.iconst 1, 1) := by decide +kernel
theorem dJ2_length_9d52b_3 : decode cJ2_length_9d52b 3 = .ok (.ishr, 1) := by decide +kernel
theorem dJ2_length_9d52b_4 : decode cJ2_length_9d52b 4 = .ok (.ireturn, 1) := by decide +kernel
theorem dJ2_charAt_3b067_0 : decode cJ2_charAt_3b067 0 = .ok (.iload_n 1, 1) := by decide +kernel
theorem dJ2_charAt_3b067_1 : decode cJ2_charAt_3b067 1 = .ok (.aload_n 0, 1) := by decide +kernel
theorem dJ2_charAt_3b067_2 : decode cJ2_charAt_3b067 2 = .ok (.invokestatic 67, 3) := by decide +kernel
theorem dJ2_charAt_3b067_5 : decode cJ2_charAt_3b067 5 = .ok (.aload_n 0, 1) := by decide +kernel
theorem dJ2_charAt_3b067_6 : decode cJ2_charAt_3b067 6 = .ok (.iload_n 1, 1) := by decide +kernel
theorem dJ2_charAt_3b067_7 : decode cJ2_charAt_3b067 7 = .ok (.invokestatic 71, 3) := by decide +kernel
theorem dJ2_charAt_3b067_10 : decode cJ2_charAt_3b067 10 = .ok (.ireturn, 1) := by decide +kernel
theorem dJ2_checkIndex_2214a_0 : decode cJ2_checkIndex_2214a 0 = .ok (.iload_n 0, 1) := by decide +kernel
theorem dJ2_checkIndex_2214a_1 : decode cJ2_checkIndex_2214a 1 = .ok (.aload_n 1, 1) := by decide +kernel
theorem dJ2_checkIndex_2214a_2 : decode cJ2_checkIndex_2214a 2 = .ok (.invokestatic 48, 3) := by decide +kernel
theorem dJ2_checkIndex_2214a_5 : decode cJ2_checkIndex_2214a 5 = .ok (.invokestatic 414, 3) := by decide +kernel
theorem dJ2_checkIndex_2214a_8 : decode cJ2_checkIndex_2214a 8 = .ok (.return_, 1) := by decide +kernel
theorem dJ3_checkIndex_8e157_0 : decode cJ3_checkIndex_8e157 0 = .ok (.iload_n 0, 1) := by decide +kernel
theorem dJ3_checkIndex_8e157_1 : decode cJ3_checkIndex_8e157 1 = .ok (.ifCond .lt 8, 3) := by decide +kernel
theorem dJ3_checkIndex_8e157_4 : decode cJ3_checkIndex_8e157 4 = .ok (.iload_n 0, 1) := by decide +kernel
theorem dJ3_checkIndex_8e157_5 : decode cJ3_checkIndex_8e157 5 = .ok (.iload_n 1, 1) := by decide +kernel
theorem dJ3_checkIndex_8e157_6 : decode cJ3_checkIndex_8e157 6 = .ok (.if_icmp .lt 10, 3) := by decide +kernel
theorem dJ3_checkIndex_8e157_9 : decode cJ3_checkIndex_8e157 9 = .ok (.aload_n 2, 1) := by decide +kernel
theorem dJ3_checkIndex_8e157_10 : decode cJ3_checkIndex_8e157 10 = .ok (.iload_n 0, 1) := by decide +kernel
theorem dJ3_checkIndex_8e157_11 : decode cJ3_checkIndex_8e157 11 = .ok (.iload_n 1, 1) := by decide +kernel
theorem dJ3_checkIndex_8e157_12 : decode cJ3_checkIndex_8e157 12 = .ok (.invokestatic 95, 3) := by decide +kernel
theorem dJ3_checkIndex_8e157_15 : decode cJ3_checkIndex_8e157 15 = .ok (.athrow, 1) := by decide +kernel
theorem dJ3_checkIndex_8e157_16 : decode cJ3_checkIndex_8e157 16 = .ok (.iload_n 0, 1) := by decide +kernel
theorem dJ3_checkIndex_8e157_17 : decode cJ3_checkIndex_8e157 17 = .ok (.ireturn, 1) := by decide +kernel

theorem dX3_init_0 : decode cX3_init 0 = .ok (.aload_n 0, 1) := by decide +kernel
theorem dX3_init_1 : decode cX3_init 1 = .ok (.invokespecial 3, 3) := by decide +kernel
theorem dX3_init_4 : decode cX3_init 4 = .ok (.aload_n 0, 1) := by decide +kernel
theorem dX3_init_5 : decode cX3_init 5 = .ok (.bipush 100, 2) := by decide +kernel
theorem dX3_init_7 : decode cX3_init 7 = .ok (.newarray .int, 2) := by decide +kernel
theorem dX3_init_9 : decode cX3_init 9 = .ok (.putfield 9, 3) := by decide +kernel
theorem dX3_init_12 : decode cX3_init 12 = .ok (.aload_n 0, 1) := by decide +kernel
theorem dX3_init_13 : decode cX3_init 13 = .ok (.bipush 100, 2) := by decide +kernel
theorem dX3_init_15 : decode cX3_init 15 = .ok (.newarray .int, 2) := by decide +kernel
theorem dX3_init_17 : decode cX3_init 17 = .ok (.putfield 15, 3) := by decide +kernel
theorem dX3_init_20 : decode cX3_init 20 = .ok (.aload_n 0, 1) := by decide +kernel
theorem dX3_init_21 : decode cX3_init 21 = .ok (.bipush 100, 2) := by decide +kernel
theorem dX3_init_23 : decode cX3_init 23 = .ok (.newarray .int, 2) := by decide +kernel
theorem dX3_init_25 : decode cX3_init 25 = .ok (.putfield 18, 3) := by decide +kernel
theorem dX3_init_28 : decode cX3_init 28 = .ok (.aload_n 0, 1) := by decide +kernel
theorem dX3_init_29 : decode cX3_init 29 = .ok (.bipush 6, 2) := by decide +kernel
theorem dX3_init_31 : decode cX3_init 31 = .ok (.putfield 21, 3) := by decide +kernel
theorem dX3_init_34 : decode cX3_init 34 = .ok (.return_, 1) := by decide +kernel
theorem dX3_empty_0 : decode cX3_empty 0 = .ok (.aload_n 0, 1) := by decide +kernel
theorem dX3_empty_1 : decode cX3_empty 1 = .ok (.iconst 0, 1) := by decide +kernel
theorem dX3_empty_2 : decode cX3_empty 2 = .ok (.putfield 25, 3) := by decide +kernel
theorem dX3_empty_5 : decode cX3_empty 5 = .ok (.aload_n 0, 1) := by decide +kernel
theorem dX3_empty_6 : decode cX3_empty 6 = .ok (.bipush 6, 2) := by decide +kernel
theorem dX3_empty_8 : decode cX3_empty 8 = .ok (.putfield 21, 3) := by decide +kernel
theorem dX3_empty_11 : decode cX3_empty 11 = .ok (.return_, 1) := by decide +kernel
theorem dX3_put_0 : decode cX3_put 0 = .ok (.aload_n 0, 1) := by decide +kernel
theorem dX3_put_1 : decode cX3_put 1 = .ok (.getfield 25, 3) := by decide +kernel
theorem dX3_put_4 : decode cX3_put 4 = .ok (.bipush 100, 2) := by decide +kernel
theorem dX3_put_6 : decode cX3_put 6 = .ok (.if_icmp .ge 43, 3) := by decide +kernel
theorem dX3_put_9 : decode cX3_put 9 = .ok (.aload_n 0, 1) := by decide +kernel
theorem dX3_put_10 : decode cX3_put 10 = .ok (.getfield 9, 3) := by decide +kernel
theorem dX3_put_13 : decode cX3_put 13 = .ok (.aload_n 0, 1) := by decide +kernel
theorem dX3_put_14 : decode cX3_put 14 = .ok (.getfield 25, 3) := by decide +kernel
theorem dX3_put_17 : decode cX3_put 17 = .ok (.iload_n 1, 1) := by decide +kernel
theorem dX3_put_18 : decode cX3_put 18 = .ok (.iastore, 1) := by decide +kernel
theorem dX3_put_19 : decode cX3_put 19 = .ok (.aload_n 0, 1) := by decide +kernel
theorem dX3_put_20 : decode cX3_put 20 = .ok (.getfield 15, 3) := by decide +kernel
theorem dX3_put_23 : decode cX3_put 23 = .ok (.aload_n 0, 1) := by decide +kernel
theorem dX3_put_24 : decode cX3_put 24 = .ok (.getfield 25, 3) := by decide +kernel
theorem dX3_put_27 : decode cX3_put 27 = .ok (.iload_n 2, 1) := by decide +kernel
theorem dX3_put_28 : decode cX3_put 28 = .ok (.iastore, 1) := by decide +kernel
theorem dX3_put_29 : decode cX3_put 29 = .ok (.aload_n 0, 1) := by decide +kernel
theorem dX3_put_30 : decode cX3_put 30 = .ok (.getfield 18, 3) := by decide +kernel
theorem dX3_put_33 : decode cX3_put 33 = .ok (.aload_n 0, 1) := by decide +kernel
theorem dX3_put_34 : decode cX3_put 34 = .ok (.getfield 25, 3) := by decide +kernel
theorem dX3_put_37 : decode cX3_put 37 = .ok (.iload_n 3, 1) := by decide +kernel
theorem dX3_put_38 : decode cX3_put 38 = .ok (.iastore, 1) := by decide +kernel
theorem dX3_put_39 : decode cX3_put 39 = .ok (.aload_n 0, 1) := by decide +kernel
theorem dX3_put_40 : decode cX3_put 40 = .ok (.dup, 1) := by decide +kernel
theorem dX3_put_41 : decode cX3_put 41 = .ok (.getfield 25, 3) := by decide +kernel
theorem dX3_put_44 : decode cX3_put 44 = .ok (.iconst 1, 1) := by decide +kernel
theorem dX3_put_45 : decode cX3_put 45 = .ok (.iadd, 1) := by decide +kernel
theorem dX3_put_46 : decode cX3_put 46 = .ok (.putfield 25, 3) := by decide +kernel
theorem dX3_put_49 : decode cX3_put 49 = .ok (.return_, 1) := by decide +kernel
theorem dX3_sumFor_0 : decode cX3_sumFor 0 = .ok (.iconst 0, 1) := by decide +kernel
theorem dX3_sumFor_1 : decode cX3_sumFor 1 = .ok (.istore_n 2, 1) := by decide +kernel
theorem dX3_sumFor_2 : decode cX3_sumFor 2 = .ok (.iconst 0, 1) := by decide +kernel
theorem dX3_sumFor_3 : decode cX3_sumFor 3 = .ok (.istore_n 3, 1) := by decide +kernel
theorem dX3_sumFor_4 : decode cX3_sumFor 4 = .ok (.iconst 0, 1) := by decide +kernel
theorem dX3_sumFor_5 : decode cX3_sumFor 5 = .ok (.istore 4, 2) := by decide +kernel
theorem dX3_sumFor_7 : decode cX3_sumFor 7 = .ok (.iload 4, 2) := by decide +kernel
theorem dX3_sumFor_9 : decode cX3_sumFor 9 = .ok (.aload_n 0, 1) := by decide +kernel
theorem dX3_sumFor_10 : decode cX3_sumFor 10 = .ok (.getfield 25, 3) := by decide +kernel
theorem dX3_sumFor_13 : decode cX3_sumFor 13 = .ok (.if_icmp .ge 198, 3) := by decide +kernel
theorem dX3_sumFor_16 : decode cX3_sumFor 16 = .ok (.aload_n 0, 1) := by decide +kernel
theorem dX3_sumFor_17 : decode cX3_sumFor 17 = .ok (.getfield 18, 3) := by decide +kernel
theorem dX3_sumFor_20 : decode cX3_sumFor 20 = .ok (.iload 4, 2) := by decide +kernel
theorem dX3_sumFor_22 : decode cX3_sumFor 22 = .ok (.iaload, 1) := by decide +kernel
theorem dX3_sumFor_23 : decode cX3_sumFor 23 = .ok (.istore 5, 2) := by decide +kernel
theorem dX3_sumFor_25 : decode cX3_sumFor 25 = .ok (.aload_n 1, 1) := by decide +kernel
theorem dX3_sumFor_26 : decode cX3_sumFor 26 = .ok (.aload_n 0, 1) := by decide +kernel
theorem dX3_sumFor_27 : decode cX3_sumFor 27 = .ok (.getfield 15, 3) := by decide +kernel
theorem dX3_sumFor_30 : decode cX3_sumFor 30 = .ok (.iload 4, 2) := by decide +kernel
theorem dX3_sumFor_32 : decode cX3_sumFor 32 = .ok (.iaload, 1) := by decide +kernel
theorem dX3_sumFor_33 : decode cX3_sumFor 33 = .ok (.iaload, 1) := by decide +kernel
theorem dX3_sumFor_34 : decode cX3_sumFor 34 = .ok (.istore 6, 2) := by decide +kernel
theorem dX3_sumFor_36 : decode cX3_sumFor 36 = .ok (.iload_n 3, 1) := by decide +kernel
theorem dX3_sumFor_37 : decode cX3_sumFor 37 = .ok (.iconst 1, 1) := by decide +kernel
theorem dX3_sumFor_38 : decode cX3_sumFor 38 = .ok (.iand, 1) := by decide +kernel
theorem dX3_sumFor_39 : decode cX3_sumFor 39 = .ok (.istore 7, 2) := by decide +kernel
theorem dX3_sumFor_41 : decode cX3_sumFor 41 = .ok (.aload_n 0, 1) := by decide +kernel
theorem dX3_sumFor_42 : decode cX3_sumFor 42 = .ok (.getfield 9, 3) := by decide +kernel
theorem dX3_sumFor_45 : decode cX3_sumFor 45 = .ok (.iload 4, 2) := by decide +kernel
theorem dX3_sumFor_47 : decode cX3_sumFor 47 = .ok (.iaload, 1) := by decide +kernel
theorem dX3_sumFor_48 : decode cX3_sumFor 48 = .ok (.tableswitch 147 0 6 #[44, 64, 84, 104, 111, 124, 134], 44) := by decide +kernel
theorem dX3_sumFor_92 : decode cX3_sumFor 92 = .ok (.iload_n 3, 1) := by decide +kernel
theorem dX3_sumFor_93 : decode cX3_sumFor 93 = .ok (.iconst 1, 1) := by decide +kernel
theorem dX3_sumFor_94 : decode cX3_sumFor 94 = .ok (.ishl, 1) := by decide +kernel
theorem dX3_sumFor_95 : decode cX3_sumFor 95 = .ok (.iload 6, 2) := by decide +kernel
theorem dX3_sumFor_97 : decode cX3_sumFor 97 = .ok (.iload 5, 2) := by decide +kernel
theorem dX3_sumFor_99 : decode cX3_sumFor 99 = .ok (.if_icmp .ge 7, 3) := by decide +kernel
theorem dX3_sumFor_102 : decode cX3_sumFor 102 = .ok (.iconst 1, 1) := by decide +kernel
theorem dX3_sumFor_103 : decode cX3_sumFor 103 = .ok (.goto 4, 3) := by decide +kernel
theorem dX3_sumFor_106 : decode cX3_sumFor 106 = .ok (.iconst 0, 1) := by decide +kernel
theorem dX3_sumFor_107 : decode cX3_sumFor 107 = .ok (.ior, 1) := by decide +kernel
theorem dX3_sumFor_108 : decode cX3_sumFor 108 = .ok (.istore_n 3, 1) := by decide +kernel
theorem dX3_sumFor_109 : decode cX3_sumFor 109 = .ok (.goto 96, 3) := by decide +kernel
theorem dX3_sumFor_112 : decode cX3_sumFor 112 = .ok (.iload_n 3, 1) := by decide +kernel
theorem dX3_sumFor_113 : decode cX3_sumFor 113 = .ok (.iconst 1, 1) := by decide +kernel
theorem dX3_sumFor_114 : decode cX3_sumFor 114 = .ok (.ishl, 1) := by decide +kernel
theorem dX3_sumFor_115 : decode cX3_sumFor 115 = .ok (.iload 6, 2) := by decide +kernel
theorem dX3_sumFor_117 : decode cX3_sumFor 117 = .ok (.iload 5, 2) := by decide +kernel
theorem dX3_sumFor_119 : decode cX3_sumFor 119 = .ok (.if_icmp .ne 7, 3) := by decide +kernel
theorem dX3_sumFor_122 : decode cX3_sumFor 122 = .ok (.iconst 1, 1) := by decide +kernel
theorem dX3_sumFor_123 : decode cX3_sumFor 123 = .ok (.goto 4, 3) := by decide +kernel
theorem dX3_sumFor_126 : decode cX3_sumFor 126 = .ok (.iconst 0, 1) := by decide +kernel
theorem dX3_sumFor_127 : decode cX3_sumFor 127 = .ok (.ior, 1) := by decide +kernel
theorem dX3_sumFor_128 : decode cX3_sumFor 128 = .ok (.istore_n 3, 1) := by decide +kernel
theorem dX3_sumFor_129 : decode cX3_sumFor 129 = .ok (.goto 76, 3) := by decide +kernel
theorem dX3_sumFor_132 : decode cX3_sumFor 132 = .ok (.iload_n 3, 1) := by decide +kernel
theorem dX3_sumFor_133 : decode cX3_sumFor 133 = .ok (.iconst 1, 1) := by decide +kernel
theorem dX3_sumFor_134 : decode cX3_sumFor 134 = .ok (.ishl, 1) := by decide +kernel
theorem dX3_sumFor_135 : decode cX3_sumFor 135 = .ok (.iload 6, 2) := by decide +kernel
theorem dX3_sumFor_137 : decode cX3_sumFor 137 = .ok (.iload 5, 2) := by decide +kernel
theorem dX3_sumFor_139 : decode cX3_sumFor 139 = .ok (.if_icmp .le 7, 3) := by decide +kernel
theorem dX3_sumFor_142 : decode cX3_sumFor 142 = .ok (.iconst 1, 1) := by decide +kernel
theorem dX3_sumFor_143 : decode cX3_sumFor 143 = .ok (.goto 4, 3) := by decide +kernel
theorem dX3_sumFor_146 : decode cX3_sumFor 146 = .ok (.iconst 0, 1) := by decide +kernel
theorem dX3_sumFor_147 : decode cX3_sumFor 147 = .ok (.ior, 1) := by decide +kernel
theorem dX3_sumFor_148 : decode cX3_sumFor 148 = .ok (.istore_n 3, 1) := by decide +kernel
theorem dX3_sumFor_149 : decode cX3_sumFor 149 = .ok (.goto 56, 3) := by decide +kernel
theorem dX3_sumFor_152 : decode cX3_sumFor 152 = .ok (.iload_n 3, 1) := by decide +kernel
theorem dX3_sumFor_153 : decode cX3_sumFor 153 = .ok (.iconst 1, 1) := by decide +kernel
theorem dX3_sumFor_154 : decode cX3_sumFor 154 = .ok (.ixor, 1) := by decide +kernel
theorem dX3_sumFor_155 : decode cX3_sumFor 155 = .ok (.istore_n 3, 1) := by decide +kernel
theorem dX3_sumFor_156 : decode cX3_sumFor 156 = .ok (.goto 49, 3) := by decide +kernel
theorem dX3_sumFor_159 : decode cX3_sumFor 159 = .ok (.iload_n 3, 1) := by decide +kernel
theorem dX3_sumFor_160 : decode cX3_sumFor 160 = .ok (.iconst 1, 1) := by decide +kernel
theorem dX3_sumFor_161 : decode cX3_sumFor 161 = .ok (.iushr, 1) := by decide +kernel
theorem dX3_sumFor_162 : decode cX3_sumFor 162 = .ok (.bipush (-2), 2) := by decide +kernel
theorem dX3_sumFor_164 : decode cX3_sumFor 164 = .ok (.iload 7, 2) := by decide +kernel
theorem dX3_sumFor_166 : decode cX3_sumFor 166 = .ok (.ior, 1) := by decide +kernel
theorem dX3_sumFor_167 : decode cX3_sumFor 167 = .ok (.iand, 1) := by decide +kernel
theorem dX3_sumFor_168 : decode cX3_sumFor 168 = .ok (.istore_n 3, 1) := by decide +kernel
theorem dX3_sumFor_169 : decode cX3_sumFor 169 = .ok (.goto 36, 3) := by decide +kernel
theorem dX3_sumFor_172 : decode cX3_sumFor 172 = .ok (.iload_n 3, 1) := by decide +kernel
theorem dX3_sumFor_173 : decode cX3_sumFor 173 = .ok (.iconst 1, 1) := by decide +kernel
theorem dX3_sumFor_174 : decode cX3_sumFor 174 = .ok (.iushr, 1) := by decide +kernel
theorem dX3_sumFor_175 : decode cX3_sumFor 175 = .ok (.iload 7, 2) := by decide +kernel
theorem dX3_sumFor_177 : decode cX3_sumFor 177 = .ok (.ior, 1) := by decide +kernel
theorem dX3_sumFor_178 : decode cX3_sumFor 178 = .ok (.istore_n 3, 1) := by decide +kernel
theorem dX3_sumFor_179 : decode cX3_sumFor 179 = .ok (.goto 26, 3) := by decide +kernel
theorem dX3_sumFor_182 : decode cX3_sumFor 182 = .ok (.iload_n 2, 1) := by decide +kernel
theorem dX3_sumFor_183 : decode cX3_sumFor 183 = .ok (.iload 7, 2) := by decide +kernel
theorem dX3_sumFor_185 : decode cX3_sumFor 185 = .ok (.iload 5, 2) := by decide +kernel
theorem dX3_sumFor_187 : decode cX3_sumFor 187 = .ok (.imul, 1) := by decide +kernel
theorem dX3_sumFor_188 : decode cX3_sumFor 188 = .ok (.iadd, 1) := by decide +kernel
theorem dX3_sumFor_189 : decode cX3_sumFor 189 = .ok (.istore_n 2, 1) := by decide +kernel
theorem dX3_sumFor_190 : decode cX3_sumFor 190 = .ok (.iconst 0, 1) := by decide +kernel
theorem dX3_sumFor_191 : decode cX3_sumFor 191 = .ok (.istore_n 3, 1) := by decide +kernel
theorem dX3_sumFor_192 : decode cX3_sumFor 192 = .ok (.goto 13, 3) := by decide +kernel
theorem dX3_sumFor_195 : decode cX3_sumFor 195 = .ok (.iload_n 2, 1) := by decide +kernel
theorem dX3_sumFor_196 : decode cX3_sumFor 196 = .ok (.iload 7, 2) := by decide +kernel
theorem dX3_sumFor_198 : decode cX3_sumFor 198 = .ok (.iload 5, 2) := by decide +kernel
theorem dX3_sumFor_200 : decode cX3_sumFor 200 = .ok (.imul, 1) := by decide +kernel
theorem dX3_sumFor_201 : decode cX3_sumFor 201 = .ok (.isub, 1) := by decide +kernel
theorem dX3_sumFor_202 : decode cX3_sumFor 202 = .ok (.istore_n 2, 1) := by decide +kernel
theorem dX3_sumFor_203 : decode cX3_sumFor 203 = .ok (.iconst 0, 1) := by decide +kernel
theorem dX3_sumFor_204 : decode cX3_sumFor 204 = .ok (.istore_n 3, 1) := by decide +kernel
theorem dX3_sumFor_205 : decode cX3_sumFor 205 = .ok (.iinc 4 1, 3) := by decide +kernel
theorem dX3_sumFor_208 : decode cX3_sumFor 208 = .ok (.goto (-201), 3) := by decide +kernel
theorem dX3_sumFor_211 : decode cX3_sumFor 211 = .ok (.iload_n 2, 1) := by decide +kernel
theorem dX3_sumFor_212 : decode cX3_sumFor 212 = .ok (.ireturn, 1) := by decide +kernel

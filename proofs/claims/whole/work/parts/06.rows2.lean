theorem dX3_decidesRing_136 : decode cX3_decidesRing 136 = .ok (.fload 9, 2) := by decide +kernel
theorem dX3_decidesRing_138 : decode cX3_decidesRing 138 = .ok (.fmul, 1) := by decide +kernel
theorem dX3_decidesRing_139 : decode cX3_decidesRing 139 = .ok (.fload 10, 2) := by decide +kernel
theorem dX3_decidesRing_141 : decode cX3_decidesRing 141 = .ok (.fload 10, 2) := by decide +kernel
theorem dX3_decidesRing_143 : decode cX3_decidesRing 143 = .ok (.fmul, 1) := by decide +kernel
theorem dX3_decidesRing_144 : decode cX3_decidesRing 144 = .ok (.fadd, 1) := by decide +kernel
theorem dX3_decidesRing_145 : decode cX3_decidesRing 145 = .ok (.fload 5, 2) := by decide +kernel
theorem dX3_decidesRing_147 : decode cX3_decidesRing 147 = .ok (.fload 8, 2) := by decide +kernel
theorem dX3_decidesRing_149 : decode cX3_decidesRing 149 = .ok (.fmul, 1) := by decide +kernel
theorem dX3_decidesRing_150 : decode cX3_decidesRing 150 = .ok (.fload 6, 2) := by decide +kernel
theorem dX3_decidesRing_152 : decode cX3_decidesRing 152 = .ok (.fload 7, 2) := by decide +kernel
theorem dX3_decidesRing_154 : decode cX3_decidesRing 154 = .ok (.fmul, 1) := by decide +kernel
theorem dX3_decidesRing_155 : decode cX3_decidesRing 155 = .ok (.fsub, 1) := by decide +kernel
theorem dX3_decidesRing_156 : decode cX3_decidesRing 156 = .ok (.fmul, 1) := by decide +kernel
theorem dX3_decidesRing_157 : decode cX3_decidesRing 157 = .ok (.fstore 13, 2) := by decide +kernel
theorem dX3_decidesRing_159 : decode cX3_decidesRing 159 = .ok (.aload_n 0, 1) := by decide +kernel
theorem dX3_decidesRing_160 : decode cX3_decidesRing 160 = .ok (.iload_n 1, 1) := by decide +kernel
theorem dX3_decidesRing_161 : decode cX3_decidesRing 161 = .ok (.invokevirtual 34, 3) := by decide +kernel
theorem dX3_decidesRing_164 : decode cX3_decidesRing 164 = .ok (.aload_n 0, 1) := by decide +kernel
theorem dX3_decidesRing_165 : decode cX3_decidesRing 165 = .ok (.iload_n 2, 1) := by decide +kernel
theorem dX3_decidesRing_166 : decode cX3_decidesRing 166 = .ok (.invokevirtual 34, 3) := by decide +kernel
theorem dX3_decidesRing_169 : decode cX3_decidesRing 169 = .ok (.invokestatic 37, 3) := by decide +kernel
theorem dX3_decidesRing_172 : decode cX3_decidesRing 172 = .ok (.aload_n 0, 1) := by decide +kernel
theorem dX3_decidesRing_173 : decode cX3_decidesRing 173 = .ok (.iload_n 3, 1) := by decide +kernel
theorem dX3_decidesRing_174 : decode cX3_decidesRing 174 = .ok (.invokevirtual 34, 3) := by decide +kernel
theorem dX3_decidesRing_177 : decode cX3_decidesRing 177 = .ok (.aload_n 0, 1) := by decide +kernel
theorem dX3_decidesRing_178 : decode cX3_decidesRing 178 = .ok (.iload 4, 2) := by decide +kernel
theorem dX3_decidesRing_180 : decode cX3_decidesRing 180 = .ok (.invokevirtual 34, 3) := by decide +kernel
theorem dX3_decidesRing_183 : decode cX3_decidesRing 183 = .ok (.invokestatic 37, 3) := by decide +kernel
theorem dX3_decidesRing_186 : decode cX3_decidesRing 186 = .ok (.invokestatic 37, 3) := by decide +kernel
theorem dX3_decidesRing_189 : decode cX3_decidesRing 189 = .ok (.fstore 14, 2) := by decide +kernel
theorem dX3_decidesRing_191 : decode cX3_decidesRing 191 = .ok (.fload 14, 2) := by decide +kernel
theorem dX3_decidesRing_193 : decode cX3_decidesRing 193 = .ok (.fload 14, 2) := by decide +kernel
theorem dX3_decidesRing_195 : decode cX3_decidesRing 195 = .ok (.fmul, 1) := by decide +kernel
theorem dX3_decidesRing_196 : decode cX3_decidesRing 196 = .ok (.fload 14, 2) := by decide +kernel
theorem dX3_decidesRing_198 : decode cX3_decidesRing 198 = .ok (.fload 14, 2) := by decide +kernel
theorem dX3_decidesRing_200 : decode cX3_decidesRing 200 = .ok (.fmul, 1) := by decide +kernel
theorem dX3_decidesRing_201 : decode cX3_decidesRing 201 = .ok (.fmul, 1) := by decide +kernel
theorem dX3_decidesRing_202 : decode cX3_decidesRing 202 = .ok (.ldc 46, 2) := by decide +kernel
theorem dX3_decidesRing_204 : decode cX3_decidesRing 204 = .ok (.fmul, 1) := by decide +kernel
theorem dX3_decidesRing_205 : decode cX3_decidesRing 205 = .ok (.fstore 15, 2) := by decide +kernel
theorem dX3_decidesRing_207 : decode cX3_decidesRing 207 = .ok (.fload 11, 2) := by decide +kernel
theorem dX3_decidesRing_209 : decode cX3_decidesRing 209 = .ok (.fload 12, 2) := by decide +kernel
theorem dX3_decidesRing_211 : decode cX3_decidesRing 211 = .ok (.fadd, 1) := by decide +kernel
theorem dX3_decidesRing_212 : decode cX3_decidesRing 212 = .ok (.fload 13, 2) := by decide +kernel
theorem dX3_decidesRing_214 : decode cX3_decidesRing 214 = .ok (.fadd, 1) := by decide +kernel
theorem dX3_decidesRing_215 : decode cX3_decidesRing 215 = .ok (.invokestatic 41, 3) := by decide +kernel
theorem dX3_decidesRing_218 : decode cX3_decidesRing 218 = .ok (.fload 15, 2) := by decide +kernel
theorem dX3_decidesRing_220 : decode cX3_decidesRing 220 = .ok (.fcmp .l, 1) := by decide +kernel
theorem dX3_decidesRing_221 : decode cX3_decidesRing 221 = .ok (.ifCond .le 7, 3) := by decide +kernel
theorem dX3_decidesRing_224 : decode cX3_decidesRing 224 = .ok (.iconst 1, 1) := by decide +kernel
theorem dX3_decidesRing_225 : decode cX3_decidesRing 225 = .ok (.goto 4, 3) := by decide +kernel
theorem dX3_decidesRing_228 : decode cX3_decidesRing 228 = .ok (.iconst 0, 1) := by decide +kernel
theorem dX3_decidesRing_229 : decode cX3_decidesRing 229 = .ok (.ireturn, 1) := by decide +kernel
theorem dX3_floatX_0 : decode cX3_floatX 0 = .ok (.aload_n 0, 1) := by decide +kernel
theorem dX3_floatX_1 : decode cX3_floatX 1 = .ok (.getfield 23, 3) := by decide +kernel
theorem dX3_floatX_4 : decode cX3_floatX 4 = .ok (.getfield 47, 3) := by decide +kernel
theorem dX3_floatX_7 : decode cX3_floatX 7 = .ok (.iload_n 1, 1) := by decide +kernel
theorem dX3_floatX_8 : decode cX3_floatX 8 = .ok (.iaload, 1) := by decide +kernel
theorem dX3_floatX_9 : decode cX3_floatX 9 = .ok (.i2f, 1) := by decide +kernel
theorem dX3_floatX_10 : decode cX3_floatX 10 = .ok (.ldc 53, 2) := by decide +kernel
theorem dX3_floatX_12 : decode cX3_floatX 12 = .ok (.fdiv, 1) := by decide +kernel
theorem dX3_floatX_13 : decode cX3_floatX 13 = .ok (.freturn, 1) := by decide +kernel
theorem dX3_floatY_0 : decode cX3_floatY 0 = .ok (.aload_n 0, 1) := by decide +kernel
theorem dX3_floatY_1 : decode cX3_floatY 1 = .ok (.getfield 23, 3) := by decide +kernel
theorem dX3_floatY_4 : decode cX3_floatY 4 = .ok (.getfield 54, 3) := by decide +kernel
theorem dX3_floatY_7 : decode cX3_floatY 7 = .ok (.iload_n 1, 1) := by decide +kernel
theorem dX3_floatY_8 : decode cX3_floatY 8 = .ok (.iaload, 1) := by decide +kernel
theorem dX3_floatY_9 : decode cX3_floatY 9 = .ok (.i2f, 1) := by decide +kernel
theorem dX3_floatY_10 : decode cX3_floatY 10 = .ok (.ldc 53, 2) := by decide +kernel
theorem dX3_floatY_12 : decode cX3_floatY 12 = .ok (.fdiv, 1) := by decide +kernel
theorem dX3_floatY_13 : decode cX3_floatY 13 = .ok (.freturn, 1) := by decide +kernel
theorem dX3_reach_0 : decode cX3_reach 0 = .ok (.aload_n 0, 1) := by decide +kernel
theorem dX3_reach_1 : decode cX3_reach 1 = .ok (.iload_n 1, 1) := by decide +kernel
theorem dX3_reach_2 : decode cX3_reach 2 = .ok (.invokevirtual 27, 3) := by decide +kernel
theorem dX3_reach_5 : decode cX3_reach 5 = .ok (.invokestatic 41, 3) := by decide +kernel
theorem dX3_reach_8 : decode cX3_reach 8 = .ok (.aload_n 0, 1) := by decide +kernel
theorem dX3_reach_9 : decode cX3_reach 9 = .ok (.iload_n 1, 1) := by decide +kernel
theorem dX3_reach_10 : decode cX3_reach 10 = .ok (.invokevirtual 31, 3) := by decide +kernel
theorem dX3_reach_13 : decode cX3_reach 13 = .ok (.invokestatic 41, 3) := by decide +kernel
theorem dX3_reach_16 : decode cX3_reach 16 = .ok (.invokestatic 37, 3) := by decide +kernel
theorem dX3_reach_19 : decode cX3_reach 19 = .ok (.freturn, 1) := by decide +kernel
theorem dX3_greater_0 : decode cX3_greater 0 = .ok (.fload_n 0, 1) := by decide +kernel
theorem dX3_greater_1 : decode cX3_greater 1 = .ok (.fload_n 1, 1) := by decide +kernel
theorem dX3_greater_2 : decode cX3_greater 2 = .ok (.fcmp .l, 1) := by decide +kernel
theorem dX3_greater_3 : decode cX3_greater 3 = .ok (.ifCond .lt 7, 3) := by decide +kernel
theorem dX3_greater_6 : decode cX3_greater 6 = .ok (.fload_n 0, 1) := by decide +kernel
theorem dX3_greater_7 : decode cX3_greater 7 = .ok (.goto 4, 3) := by decide +kernel
theorem dX3_greater_10 : decode cX3_greater 10 = .ok (.fload_n 1, 1) := by decide +kernel
theorem dX3_greater_11 : decode cX3_greater 11 = .ok (.freturn, 1) := by decide +kernel
theorem dX3_unsigned_0 : decode cX3_unsigned 0 = .ok (.fload_n 0, 1) := by decide +kernel
theorem dX3_unsigned_1 : decode cX3_unsigned 1 = .ok (.fconst 0, 1) := by decide +kernel
theorem dX3_unsigned_2 : decode cX3_unsigned 2 = .ok (.fcmp .g, 1) := by decide +kernel
theorem dX3_unsigned_3 : decode cX3_unsigned 3 = .ok (.ifCond .ge 8, 3) := by decide +kernel
theorem dX3_unsigned_6 : decode cX3_unsigned 6 = .ok (.fload_n 0, 1) := by decide +kernel
theorem dX3_unsigned_7 : decode cX3_unsigned 7 = .ok (.fneg, 1) := by decide +kernel
theorem dX3_unsigned_8 : decode cX3_unsigned 8 = .ok (.goto 4, 3) := by decide +kernel
theorem dX3_unsigned_11 : decode cX3_unsigned 11 = .ok (.fload_n 0, 1) := by decide +kernel
theorem dX3_unsigned_12 : decode cX3_unsigned 12 = .ok (.freturn, 1) := by decide +kernel
theorem dX4_init_0 : decode cX4_init 0 = .ok (.aload_n 0, 1) := by decide +kernel
theorem dX4_init_1 : decode cX4_init 1 = .ok (.invokespecial 3, 3) := by decide +kernel
theorem dX4_init_4 : decode cX4_init 4 = .ok (.aload_n 0, 1) := by decide +kernel
theorem dX4_init_5 : decode cX4_init 5 = .ok (.bipush 24, 2) := by decide +kernel
theorem dX4_init_7 : decode cX4_init 7 = .ok (.newarray .int, 2) := by decide +kernel
theorem dX4_init_9 : decode cX4_init 9 = .ok (.putfield 9, 3) := by decide +kernel
theorem dX4_init_12 : decode cX4_init 12 = .ok (.aload_n 0, 1) := by decide +kernel
theorem dX4_init_13 : decode cX4_init 13 = .ok (.iconst 0, 1) := by decide +kernel
theorem dX4_init_14 : decode cX4_init 14 = .ok (.putfield 15, 3) := by decide +kernel
theorem dX4_init_17 : decode cX4_init 17 = .ok (.aload_n 0, 1) := by decide +kernel
theorem dX4_init_18 : decode cX4_init 18 = .ok (.aload_n 1, 1) := by decide +kernel
theorem dX4_init_19 : decode cX4_init 19 = .ok (.putfield 19, 3) := by decide +kernel
theorem dX4_init_22 : decode cX4_init 22 = .ok (.return_, 1) := by decide +kernel
theorem dX4_resize_0 : decode cX4_resize 0 = .ok (.aload_n 0, 1) := by decide +kernel
theorem dX4_resize_1 : decode cX4_resize 1 = .ok (.getfield 15, 3) := by decide +kernel
theorem dX4_resize_4 : decode cX4_resize 4 = .ok (.istore_n 2, 1) := by decide +kernel
theorem dX4_resize_5 : decode cX4_resize 5 = .ok (.iconst 0, 1) := by decide +kernel
theorem dX4_resize_6 : decode cX4_resize 6 = .ok (.istore_n 3, 1) := by decide +kernel
theorem dX4_resize_7 : decode cX4_resize 7 = .ok (.iload_n 3, 1) := by decide +kernel
theorem dX4_resize_8 : decode cX4_resize 8 = .ok (.bipush 24, 2) := by decide +kernel
theorem dX4_resize_10 : decode cX4_resize 10 = .ok (.if_icmp .ge 16, 3) := by decide +kernel
theorem dX4_resize_13 : decode cX4_resize 13 = .ok (.aload_n 0, 1) := by decide +kernel
theorem dX4_resize_14 : decode cX4_resize 14 = .ok (.getfield 9, 3) := by decide +kernel
theorem dX4_resize_17 : decode cX4_resize 17 = .ok (.iload_n 3, 1) := by decide +kernel
theorem dX4_resize_18 : decode cX4_resize 18 = .ok (.iconst (-1), 1) := by decide +kernel
theorem dX4_resize_19 : decode cX4_resize 19 = .ok (.iastore, 1) := by decide +kernel
theorem dX4_resize_20 : decode cX4_resize 20 = .ok (.iinc 3 1, 3) := by decide +kernel
theorem dX4_resize_23 : decode cX4_resize 23 = .ok (.goto (-16), 3) := by decide +kernel
theorem dX4_resize_26 : decode cX4_resize 26 = .ok (.aload_n 0, 1) := by decide +kernel
theorem dX4_resize_27 : decode cX4_resize 27 = .ok (.iload_n 1, 1) := by decide +kernel
theorem dX4_resize_28 : decode cX4_resize 28 = .ok (.putfield 15, 3) := by decide +kernel
theorem dX4_resize_31 : decode cX4_resize 31 = .ok (.iload_n 2, 1) := by decide +kernel
theorem dX4_resize_32 : decode cX4_resize 32 = .ok (.ireturn, 1) := by decide +kernel
theorem dX4_hasPlace_0 : decode cX4_hasPlace 0 = .ok (.iload_n 1, 1) := by decide +kernel
theorem dX4_hasPlace_1 : decode cX4_hasPlace 1 = .ok (.ifCond .lt 15, 3) := by decide +kernel
theorem dX4_hasPlace_4 : decode cX4_hasPlace 4 = .ok (.iload_n 1, 1) := by decide +kernel
theorem dX4_hasPlace_5 : decode cX4_hasPlace 5 = .ok (.aload_n 0, 1) := by decide +kernel
theorem dX4_hasPlace_6 : decode cX4_hasPlace 6 = .ok (.getfield 15, 3) := by decide +kernel
theorem dX4_hasPlace_9 : decode cX4_hasPlace 9 = .ok (.if_icmp .ge 7, 3) := by decide +kernel
theorem dX4_hasPlace_12 : decode cX4_hasPlace 12 = .ok (.iconst 1, 1) := by decide +kernel
theorem dX4_hasPlace_13 : decode cX4_hasPlace 13 = .ok (.goto 4, 3) := by decide +kernel
theorem dX4_hasPlace_16 : decode cX4_hasPlace 16 = .ok (.iconst 0, 1) := by decide +kernel
theorem dX4_hasPlace_17 : decode cX4_hasPlace 17 = .ok (.ireturn, 1) := by decide +kernel
theorem dX4_put_0 : decode cX4_put 0 = .ok (.aload_n 0, 1) := by decide +kernel
theorem dX4_put_1 : decode cX4_put 1 = .ok (.getfield 9, 3) := by decide +kernel
theorem dX4_put_4 : decode cX4_put 4 = .ok (.iload_n 1, 1) := by decide +kernel
theorem dX4_put_5 : decode cX4_put 5 = .ok (.iaload, 1) := by decide +kernel
theorem dX4_put_6 : decode cX4_put 6 = .ok (.istore_n 3, 1) := by decide +kernel
theorem dX4_put_7 : decode cX4_put 7 = .ok (.aload_n 0, 1) := by decide +kernel
theorem dX4_put_8 : decode cX4_put 8 = .ok (.getfield 9, 3) := by decide +kernel
theorem dX4_put_11 : decode cX4_put 11 = .ok (.iload_n 1, 1) := by decide +kernel
theorem dX4_put_12 : decode cX4_put 12 = .ok (.iload_n 2, 1) := by decide +kernel
theorem dX4_put_13 : decode cX4_put 13 = .ok (.iastore, 1) := by decide +kernel
theorem dX4_put_14 : decode cX4_put 14 = .ok (.iload_n 3, 1) := by decide +kernel
theorem dX4_put_15 : decode cX4_put 15 = .ok (.ireturn, 1) := by decide +kernel
theorem dX4_fault_0 : decode cX4_fault 0 = .ok (.iload_n 1, 1) := by decide +kernel
theorem dX4_fault_1 : decode cX4_fault 1 = .ok (.iload_n 2, 1) := by decide +kernel
theorem dX4_fault_2 : decode cX4_fault 2 = .ok (.if_icmp .lt 11, 3) := by decide +kernel
theorem dX4_fault_5 : decode cX4_fault 5 = .ok (.iload_n 1, 1) := by decide +kernel
theorem dX4_fault_6 : decode cX4_fault 6 = .ok (.aload_n 0, 1) := by decide +kernel
theorem dX4_fault_7 : decode cX4_fault 7 = .ok (.getfield 15, 3) := by decide +kernel
theorem dX4_fault_10 : decode cX4_fault 10 = .ok (.if_icmp .le 6, 3) := by decide +kernel
theorem dX4_fault_13 : decode cX4_fault 13 = .ok (.bipush (-2), 2) := by decide +kernel
theorem dX4_fault_15 : decode cX4_fault 15 = .ok (.ireturn, 1) := by decide +kernel
theorem dX4_fault_16 : decode cX4_fault 16 = .ok (.iconst 0, 1) := by decide +kernel
theorem dX4_fault_17 : decode cX4_fault 17 = .ok (.istore_n 3, 1) := by decide +kernel
theorem dX4_fault_18 : decode cX4_fault 18 = .ok (.iload_n 3, 1) := by decide +kernel
theorem dX4_fault_19 : decode cX4_fault 19 = .ok (.iload_n 1, 1) := by decide +kernel
theorem dX4_fault_20 : decode cX4_fault 20 = .ok (.if_icmp .ge 22, 3) := by decide +kernel
theorem dX4_fault_23 : decode cX4_fault 23 = .ok (.aload_n 0, 1) := by decide +kernel
theorem dX4_fault_24 : decode cX4_fault 24 = .ok (.getfield 9, 3) := by decide +kernel
theorem dX4_fault_27 : decode cX4_fault 27 = .ok (.iload_n 3, 1) := by decide +kernel
theorem dX4_fault_28 : decode cX4_fault 28 = .ok (.iaload, 1) := by decide +kernel
theorem dX4_fault_29 : decode cX4_fault 29 = .ok (.iconst (-1), 1) := by decide +kernel
theorem dX4_fault_30 : decode cX4_fault 30 = .ok (.if_icmp .ne 6, 3) := by decide +kernel
theorem dX4_fault_33 : decode cX4_fault 33 = .ok (.bipush (-4), 2) := by decide +kernel
theorem dX4_fault_35 : decode cX4_fault 35 = .ok (.ireturn, 1) := by decide +kernel
theorem dX4_fault_36 : decode cX4_fault 36 = .ok (.iinc 3 1, 3) := by decide +kernel
theorem dX4_fault_39 : decode cX4_fault 39 = .ok (.goto (-21), 3) := by decide +kernel
theorem dX4_fault_42 : decode cX4_fault 42 = .ok (.iconst 0, 1) := by decide +kernel
theorem dX4_fault_43 : decode cX4_fault 43 = .ok (.ireturn, 1) := by decide +kernel
theorem dX4_endOf_0 : decode cX4_endOf 0 = .ok (.iload_n 1, 1) := by decide +kernel
theorem dX4_endOf_1 : decode cX4_endOf 1 = .ok (.iconst 1, 1) := by decide +kernel
theorem dX4_endOf_2 : decode cX4_endOf 2 = .ok (.iadd, 1) := by decide +kernel
theorem dX4_endOf_3 : decode cX4_endOf 3 = .ok (.iload_n 2, 1) := by decide +kernel
theorem dX4_endOf_4 : decode cX4_endOf 4 = .ok (.if_icmp .ge 14, 3) := by decide +kernel
theorem dX4_endOf_7 : decode cX4_endOf 7 = .ok (.aload_n 0, 1) := by decide +kernel
theorem dX4_endOf_8 : decode cX4_endOf 8 = .ok (.getfield 9, 3) := by decide +kernel
theorem dX4_endOf_11 : decode cX4_endOf 11 = .ok (.iload_n 1, 1) := by decide +kernel
theorem dX4_endOf_12 : decode cX4_endOf 12 = .ok (.iconst 1, 1) := by decide +kernel
theorem dX4_endOf_13 : decode cX4_endOf 13 = .ok (.iadd, 1) := by decide +kernel
theorem dX4_endOf_14 : decode cX4_endOf 14 = .ok (.iaload, 1) := by decide +kernel
theorem dX4_endOf_15 : decode cX4_endOf 15 = .ok (.goto 9, 3) := by decide +kernel
theorem dX4_endOf_18 : decode cX4_endOf 18 = .ok (.aload_n 0, 1) := by decide +kernel
theorem dX4_endOf_19 : decode cX4_endOf 19 = .ok (.getfield 9, 3) := by decide +kernel
theorem dX4_endOf_22 : decode cX4_endOf 22 = .ok (.iconst 0, 1) := by decide +kernel
theorem dX4_endOf_23 : decode cX4_endOf 23 = .ok (.iaload, 1) := by decide +kernel
theorem dX4_endOf_24 : decode cX4_endOf 24 = .ok (.ireturn, 1) := by decide +kernel
theorem dX4_convexity_0 : decode cX4_convexity 0 = .ok (.aload_n 0, 1) := by decide +kernel
theorem dX4_convexity_1 : decode cX4_convexity 1 = .ok (.iconst 0, 1) := by decide +kernel
theorem dX4_convexity_2 : decode cX4_convexity 2 = .ok (.iconst 2, 1) := by decide +kernel
theorem dX4_convexity_3 : decode cX4_convexity 3 = .ok (.iload_n 1, 1) := by decide +kernel
theorem dX4_convexity_4 : decode cX4_convexity 4 = .ok (.invokevirtual 23, 3) := by decide +kernel
theorem dX4_convexity_7 : decode cX4_convexity 7 = .ok (.istore_n 2, 1) := by decide +kernel
theorem dX4_convexity_8 : decode cX4_convexity 8 = .ok (.iconst 0, 1) := by decide +kernel
theorem dX4_convexity_9 : decode cX4_convexity 9 = .ok (.istore_n 3, 1) := by decide +kernel
theorem dX4_convexity_10 : decode cX4_convexity 10 = .ok (.iload_n 3, 1) := by decide +kernel
theorem dX4_convexity_11 : decode cX4_convexity 11 = .ok (.iload_n 1, 1) := by decide +kernel
theorem dX4_convexity_12 : decode cX4_convexity 12 = .ok (.if_icmp .ge 38, 3) := by decide +kernel
theorem dX4_convexity_15 : decode cX4_convexity 15 = .ok (.iconst 2, 1) := by decide +kernel
theorem dX4_convexity_16 : decode cX4_convexity 16 = .ok (.istore 4, 2) := by decide +kernel
theorem dX4_convexity_18 : decode cX4_convexity 18 = .ok (.iload 4, 2) := by decide +kernel
theorem dX4_convexity_20 : decode cX4_convexity 20 = .ok (.iload_n 1, 1) := by decide +kernel
theorem dX4_convexity_21 : decode cX4_convexity 21 = .ok (.if_icmp .ge 23, 3) := by decide +kernel
theorem dX4_convexity_24 : decode cX4_convexity 24 = .ok (.aload_n 0, 1) := by decide +kernel
theorem dX4_convexity_25 : decode cX4_convexity 25 = .ok (.iload_n 3, 1) := by decide +kernel
theorem dX4_convexity_26 : decode cX4_convexity 26 = .ok (.iload 4, 2) := by decide +kernel
theorem dX4_convexity_28 : decode cX4_convexity 28 = .ok (.iload_n 1, 1) := by decide +kernel
theorem dX4_convexity_29 : decode cX4_convexity 29 = .ok (.invokevirtual 23, 3) := by decide +kernel
theorem dX4_convexity_32 : decode cX4_convexity 32 = .ok (.iload_n 2, 1) := by decide +kernel
theorem dX4_convexity_33 : decode cX4_convexity 33 = .ok (.if_icmp .eq 5, 3) := by decide +kernel
theorem dX4_convexity_36 : decode cX4_convexity 36 = .ok (.iconst 0, 1) := by decide +kernel
theorem dX4_convexity_37 : decode cX4_convexity 37 = .ok (.ireturn, 1) := by decide +kernel
theorem dX4_convexity_38 : decode cX4_convexity 38 = .ok (.iinc 4 1, 3) := by decide +kernel
theorem dX4_convexity_41 : decode cX4_convexity 41 = .ok (.goto (-23), 3) := by decide +kernel
theorem dX4_convexity_44 : decode cX4_convexity 44 = .ok (.iinc 3 1, 3) := by decide +kernel
theorem dX4_convexity_47 : decode cX4_convexity 47 = .ok (.goto (-37), 3) := by decide +kernel
theorem dX4_convexity_50 : decode cX4_convexity 50 = .ok (.iload_n 2, 1) := by decide +kernel
theorem dX4_convexity_51 : decode cX4_convexity 51 = .ok (.ireturn, 1) := by decide +kernel
theorem dX4_sideOfOther_0 : decode cX4_sideOfOther 0 = .ok (.iload_n 1, 1) := by decide +kernel
theorem dX4_sideOfOther_1 : decode cX4_sideOfOther 1 = .ok (.iload_n 2, 1) := by decide +kernel
theorem dX4_sideOfOther_2 : decode cX4_sideOfOther 2 = .ok (.iadd, 1) := by decide +kernel
theorem dX4_sideOfOther_3 : decode cX4_sideOfOther 3 = .ok (.iload_n 3, 1) := by decide +kernel
theorem dX4_sideOfOther_4 : decode cX4_sideOfOther 4 = .ok (.if_icmp .ge 9, 3) := by decide +kernel
theorem dX4_sideOfOther_7 : decode cX4_sideOfOther 7 = .ok (.iload_n 1, 1) := by decide +kernel
theorem dX4_sideOfOther_8 : decode cX4_sideOfOther 8 = .ok (.iload_n 2, 1) := by decide +kernel
theorem dX4_sideOfOther_9 : decode cX4_sideOfOther 9 = .ok (.iadd, 1) := by decide +kernel
theorem dX4_sideOfOther_10 : decode cX4_sideOfOther 10 = .ok (.goto 8, 3) := by decide +kernel
theorem dX4_sideOfOther_13 : decode cX4_sideOfOther 13 = .ok (.iload_n 1, 1) := by decide +kernel
theorem dX4_sideOfOther_14 : decode cX4_sideOfOther 14 = .ok (.iload_n 2, 1) := by decide +kernel
theorem dX4_sideOfOther_15 : decode cX4_sideOfOther 15 = .ok (.iadd, 1) := by decide +kernel
theorem dX4_sideOfOther_16 : decode cX4_sideOfOther 16 = .ok (.iload_n 3, 1) := by decide +kernel
theorem dX4_sideOfOther_17 : decode cX4_sideOfOther 17 = .ok (.isub, 1) := by decide +kernel
theorem dX4_sideOfOther_18 : decode cX4_sideOfOther 18 = .ok (.istore 4, 2) := by decide +kernel
theorem dX4_sideOfOther_20 : decode cX4_sideOfOther 20 = .ok (.aload_n 0, 1) := by decide +kernel
theorem dX4_sideOfOther_21 : decode cX4_sideOfOther 21 = .ok (.getfield 19, 3) := by decide +kernel
theorem dX4_sideOfOther_24 : decode cX4_sideOfOther 24 = .ok (.aload_n 0, 1) := by decide +kernel
theorem dX4_sideOfOther_25 : decode cX4_sideOfOther 25 = .ok (.getfield 9, 3) := by decide +kernel
theorem dX4_sideOfOther_28 : decode cX4_sideOfOther 28 = .ok (.iload_n 1, 1) := by decide +kernel
theorem dX4_sideOfOther_29 : decode cX4_sideOfOther 29 = .ok (.iaload, 1) := by decide +kernel
theorem dX4_sideOfOther_30 : decode cX4_sideOfOther 30 = .ok (.aload_n 0, 1) := by decide +kernel
theorem dX4_sideOfOther_31 : decode cX4_sideOfOther 31 = .ok (.iload_n 1, 1) := by decide +kernel
theorem dX4_sideOfOther_32 : decode cX4_sideOfOther 32 = .ok (.iload_n 3, 1) := by decide +kernel
theorem dX4_sideOfOther_33 : decode cX4_sideOfOther 33 = .ok (.invokevirtual 27, 3) := by decide +kernel
theorem dX4_sideOfOther_36 : decode cX4_sideOfOther 36 = .ok (.aload_n 0, 1) := by decide +kernel
theorem dX4_sideOfOther_37 : decode cX4_sideOfOther 37 = .ok (.getfield 9, 3) := by decide +kernel
theorem dX4_sideOfOther_40 : decode cX4_sideOfOther 40 = .ok (.iload 4, 2) := by decide +kernel
theorem dX4_sideOfOther_42 : decode cX4_sideOfOther 42 = .ok (.iaload, 1) := by decide +kernel
theorem dX4_sideOfOther_43 : decode cX4_sideOfOther 43 = .ok (.invokevirtual 31, 3) := by decide +kernel
theorem dX4_sideOfOther_46 : decode cX4_sideOfOther 46 = .ok (.ireturn, 1) := by decide +kernel
theorem dX4_anyEdgeHolds_0 : decode cX4_anyEdgeHolds 0 = .ok (.iconst 0, 1) := by decide +kernel
theorem dX4_anyEdgeHolds_1 : decode cX4_anyEdgeHolds 1 = .ok (.istore_n 3, 1) := by decide +kernel
theorem dX4_anyEdgeHolds_2 : decode cX4_anyEdgeHolds 2 = .ok (.iload_n 3, 1) := by decide +kernel
theorem dX4_anyEdgeHolds_3 : decode cX4_anyEdgeHolds 3 = .ok (.iload_n 1, 1) := by decide +kernel
theorem dX4_anyEdgeHolds_4 : decode cX4_anyEdgeHolds 4 = .ok (.if_icmp .ge 34, 3) := by decide +kernel
theorem dX4_anyEdgeHolds_7 : decode cX4_anyEdgeHolds 7 = .ok (.aload_n 0, 1) := by decide +kernel
theorem dX4_anyEdgeHolds_8 : decode cX4_anyEdgeHolds 8 = .ok (.getfield 19, 3) := by decide +kernel
theorem dX4_anyEdgeHolds_11 : decode cX4_anyEdgeHolds 11 = .ok (.aload_n 0, 1) := by decide +kernel
theorem dX4_anyEdgeHolds_12 : decode cX4_anyEdgeHolds 12 = .ok (.getfield 9, 3) := by decide +kernel
theorem dX4_anyEdgeHolds_15 : decode cX4_anyEdgeHolds 15 = .ok (.iload_n 3, 1) := by decide +kernel
theorem dX4_anyEdgeHolds_16 : decode cX4_anyEdgeHolds 16 = .ok (.iaload, 1) := by decide +kernel
theorem dX4_anyEdgeHolds_17 : decode cX4_anyEdgeHolds 17 = .ok (.aload_n 0, 1) := by decide +kernel
theorem dX4_anyEdgeHolds_18 : decode cX4_anyEdgeHolds 18 = .ok (.iload_n 3, 1) := by decide +kernel
theorem dX4_anyEdgeHolds_19 : decode cX4_anyEdgeHolds 19 = .ok (.iload_n 1, 1) := by decide +kernel
theorem dX4_anyEdgeHolds_20 : decode cX4_anyEdgeHolds 20 = .ok (.invokevirtual 27, 3) := by decide +kernel
theorem dX4_anyEdgeHolds_23 : decode cX4_anyEdgeHolds 23 = .ok (.iload_n 2, 1) := by decide +kernel
theorem dX4_anyEdgeHolds_24 : decode cX4_anyEdgeHolds 24 = .ok (.invokevirtual 36, 3) := by decide +kernel
theorem dX4_anyEdgeHolds_27 : decode cX4_anyEdgeHolds 27 = .ok (.ifCond .eq 5, 3) := by decide +kernel
theorem dX4_anyEdgeHolds_30 : decode cX4_anyEdgeHolds 30 = .ok (.iconst 1, 1) := by decide +kernel
theorem dX4_anyEdgeHolds_31 : decode cX4_anyEdgeHolds 31 = .ok (.ireturn, 1) := by decide +kernel
theorem dX4_anyEdgeHolds_32 : decode cX4_anyEdgeHolds 32 = .ok (.iinc 3 1, 3) := by decide +kernel
theorem dX4_anyEdgeHolds_35 : decode cX4_anyEdgeHolds 35 = .ok (.goto (-33), 3) := by decide +kernel
theorem dX4_anyEdgeHolds_38 : decode cX4_anyEdgeHolds 38 = .ok (.iconst 0, 1) := by decide +kernel
theorem dX4_anyEdgeHolds_39 : decode cX4_anyEdgeHolds 39 = .ok (.ireturn, 1) := by decide +kernel
theorem dX4_risesAt_0 : decode cX4_risesAt 0 = .ok (.iconst 0, 1) := by decide +kernel
theorem dX4_risesAt_1 : decode cX4_risesAt 1 = .ok (.istore_n 3, 1) := by decide +kernel
theorem dX4_risesAt_2 : decode cX4_risesAt 2 = .ok (.iconst 0, 1) := by decide +kernel
theorem dX4_risesAt_3 : decode cX4_risesAt 3 = .ok (.istore 4, 2) := by decide +kernel
theorem dX4_risesAt_5 : decode cX4_risesAt 5 = .ok (.iload 4, 2) := by decide +kernel
theorem dX4_risesAt_7 : decode cX4_risesAt 7 = .ok (.iload_n 1, 1) := by decide +kernel
theorem dX4_risesAt_8 : decode cX4_risesAt 8 = .ok (.if_icmp .ge 34, 3) := by decide +kernel
theorem dX4_risesAt_11 : decode cX4_risesAt 11 = .ok (.aload_n 0, 1) := by decide +kernel
theorem dX4_risesAt_12 : decode cX4_risesAt 12 = .ok (.aload_n 0, 1) := by decide +kernel
theorem dX4_risesAt_13 : decode cX4_risesAt 13 = .ok (.getfield 9, 3) := by decide +kernel
theorem dX4_risesAt_16 : decode cX4_risesAt 16 = .ok (.iload 4, 2) := by decide +kernel
theorem dX4_risesAt_18 : decode cX4_risesAt 18 = .ok (.iaload, 1) := by decide +kernel
theorem dX4_risesAt_19 : decode cX4_risesAt 19 = .ok (.aload_n 0, 1) := by decide +kernel
theorem dX4_risesAt_20 : decode cX4_risesAt 20 = .ok (.iload 4, 2) := by decide +kernel
theorem dX4_risesAt_22 : decode cX4_risesAt 22 = .ok (.iload_n 1, 1) := by decide +kernel
theorem dX4_risesAt_23 : decode cX4_risesAt 23 = .ok (.invokevirtual 27, 3) := by decide +kernel
theorem dX4_risesAt_26 : decode cX4_risesAt 26 = .ok (.iload_n 2, 1) := by decide +kernel
theorem dX4_risesAt_27 : decode cX4_risesAt 27 = .ok (.invokevirtual 40, 3) := by decide +kernel
theorem dX4_risesAt_30 : decode cX4_risesAt 30 = .ok (.ifCond .eq 6, 3) := by decide +kernel
theorem dX4_risesAt_33 : decode cX4_risesAt 33 = .ok (.iinc 3 1, 3) := by decide +kernel
theorem dX4_risesAt_36 : decode cX4_risesAt 36 = .ok (.iinc 4 1, 3) := by decide +kernel
theorem dX4_risesAt_39 : decode cX4_risesAt 39 = .ok (.goto (-34), 3) := by decide +kernel
theorem dX4_risesAt_42 : decode cX4_risesAt 42 = .ok (.iload_n 3, 1) := by decide +kernel
theorem dX4_risesAt_43 : decode cX4_risesAt 43 = .ok (.ireturn, 1) := by decide +kernel
theorem dX4_fallsAt_0 : decode cX4_fallsAt 0 = .ok (.iconst 0, 1) := by decide +kernel
theorem dX4_fallsAt_1 : decode cX4_fallsAt 1 = .ok (.istore_n 3, 1) := by decide +kernel
theorem dX4_fallsAt_2 : decode cX4_fallsAt 2 = .ok (.iconst 0, 1) := by decide +kernel
theorem dX4_fallsAt_3 : decode cX4_fallsAt 3 = .ok (.istore 4, 2) := by decide +kernel
theorem dX4_fallsAt_5 : decode cX4_fallsAt 5 = .ok (.iload 4, 2) := by decide +kernel
theorem dX4_fallsAt_7 : decode cX4_fallsAt 7 = .ok (.iload_n 1, 1) := by decide +kernel
theorem dX4_fallsAt_8 : decode cX4_fallsAt 8 = .ok (.if_icmp .ge 34, 3) := by decide +kernel
theorem dX4_fallsAt_11 : decode cX4_fallsAt 11 = .ok (.aload_n 0, 1) := by decide +kernel
theorem dX4_fallsAt_12 : decode cX4_fallsAt 12 = .ok (.aload_n 0, 1) := by decide +kernel
theorem dX4_fallsAt_13 : decode cX4_fallsAt 13 = .ok (.iload 4, 2) := by decide +kernel
theorem dX4_fallsAt_15 : decode cX4_fallsAt 15 = .ok (.iload_n 1, 1) := by decide +kernel
theorem dX4_fallsAt_16 : decode cX4_fallsAt 16 = .ok (.invokevirtual 27, 3) := by decide +kernel
theorem dX4_fallsAt_19 : decode cX4_fallsAt 19 = .ok (.aload_n 0, 1) := by decide +kernel
theorem dX4_fallsAt_20 : decode cX4_fallsAt 20 = .ok (.getfield 9, 3) := by decide +kernel
theorem dX4_fallsAt_23 : decode cX4_fallsAt 23 = .ok (.iload 4, 2) := by decide +kernel
theorem dX4_fallsAt_25 : decode cX4_fallsAt 25 = .ok (.iaload, 1) := by decide +kernel
theorem dX4_fallsAt_26 : decode cX4_fallsAt 26 = .ok (.iload_n 2, 1) := by decide +kernel
theorem dX4_fallsAt_27 : decode cX4_fallsAt 27 = .ok (.invokevirtual 40, 3) := by decide +kernel
theorem dX4_fallsAt_30 : decode cX4_fallsAt 30 = .ok (.ifCond .eq 6, 3) := by decide +kernel
theorem dX4_fallsAt_33 : decode cX4_fallsAt 33 = .ok (.iinc 3 1, 3) := by decide +kernel
theorem dX4_fallsAt_36 : decode cX4_fallsAt 36 = .ok (.iinc 4 1, 3) := by decide +kernel
theorem dX4_fallsAt_39 : decode cX4_fallsAt 39 = .ok (.goto (-34), 3) := by decide +kernel
theorem dX4_fallsAt_42 : decode cX4_fallsAt 42 = .ok (.iload_n 3, 1) := by decide +kernel
theorem dX4_fallsAt_43 : decode cX4_fallsAt 43 = .ok (.ireturn, 1) := by decide +kernel
theorem dX4_climbsBeside_0 : decode cX4_climbsBeside 0 = .ok (.aload_n 0, 1) := by decide +kernel
theorem dX4_climbsBeside_1 : decode cX4_climbsBeside 1 = .ok (.getfield 19, 3) := by decide +kernel
theorem dX4_climbsBeside_4 : decode cX4_climbsBeside 4 = .ok (.getfield 43, 3) := by decide +kernel
theorem dX4_climbsBeside_7 : decode cX4_climbsBeside 7 = .ok (.iload_n 3, 1) := by decide +kernel
theorem dX4_climbsBeside_8 : decode cX4_climbsBeside 8 = .ok (.iaload, 1) := by decide +kernel
theorem dX4_climbsBeside_9 : decode cX4_climbsBeside 9 = .ok (.istore 4, 2) := by decide +kernel
theorem dX4_climbsBeside_11 : decode cX4_climbsBeside 11 = .ok (.aload_n 0, 1) := by decide +kernel
theorem dX4_climbsBeside_12 : decode cX4_climbsBeside 12 = .ok (.getfield 19, 3) := by decide +kernel
theorem dX4_climbsBeside_15 : decode cX4_climbsBeside 15 = .ok (.getfield 43, 3) := by decide +kernel
theorem dX4_climbsBeside_18 : decode cX4_climbsBeside 18 = .ok (.iload_n 1, 1) := by decide +kernel
theorem dX4_climbsBeside_19 : decode cX4_climbsBeside 19 = .ok (.iaload, 1) := by decide +kernel
theorem dX4_climbsBeside_20 : decode cX4_climbsBeside 20 = .ok (.iload 4, 2) := by decide +kernel
theorem dX4_climbsBeside_22 : decode cX4_climbsBeside 22 = .ok (.if_icmp .gt 35, 3) := by decide +kernel
theorem dX4_climbsBeside_25 : decode cX4_climbsBeside 25 = .ok (.aload_n 0, 1) := by decide +kernel
theorem dX4_climbsBeside_26 : decode cX4_climbsBeside 26 = .ok (.getfield 19, 3) := by decide +kernel
theorem dX4_climbsBeside_29 : decode cX4_climbsBeside 29 = .ok (.getfield 43, 3) := by decide +kernel
theorem dX4_climbsBeside_32 : decode cX4_climbsBeside 32 = .ok (.iload_n 2, 1) := by decide +kernel
theorem dX4_climbsBeside_33 : decode cX4_climbsBeside 33 = .ok (.iaload, 1) := by decide +kernel
theorem dX4_climbsBeside_34 : decode cX4_climbsBeside 34 = .ok (.iload 4, 2) := by decide +kernel
theorem dX4_climbsBeside_36 : decode cX4_climbsBeside 36 = .ok (.if_icmp .le 21, 3) := by decide +kernel
theorem dX4_climbsBeside_39 : decode cX4_climbsBeside 39 = .ok (.aload_n 0, 1) := by decide +kernel
theorem dX4_climbsBeside_40 : decode cX4_climbsBeside 40 = .ok (.getfield 19, 3) := by decide +kernel
theorem dX4_climbsBeside_43 : decode cX4_climbsBeside 43 = .ok (.iload_n 1, 1) := by decide +kernel
theorem dX4_climbsBeside_44 : decode cX4_climbsBeside 44 = .ok (.iload_n 2, 1) := by decide +kernel
theorem dX4_climbsBeside_45 : decode cX4_climbsBeside 45 = .ok (.iload_n 3, 1) := by decide +kernel
theorem dX4_climbsBeside_46 : decode cX4_climbsBeside 46 = .ok (.invokevirtual 31, 3) := by decide +kernel
theorem dX4_climbsBeside_49 : decode cX4_climbsBeside 49 = .ok (.iconst 1, 1) := by decide +kernel
theorem dX4_climbsBeside_50 : decode cX4_climbsBeside 50 = .ok (.if_icmp .ne 7, 3) := by decide +kernel
theorem dX4_climbsBeside_53 : decode cX4_climbsBeside 53 = .ok (.iconst 1, 1) := by decide +kernel
theorem dX4_climbsBeside_54 : decode cX4_climbsBeside 54 = .ok (.goto 4, 3) := by decide +kernel
theorem dX4_climbsBeside_57 : decode cX4_climbsBeside 57 = .ok (.iconst 0, 1) := by decide +kernel
theorem dX4_climbsBeside_58 : decode cX4_climbsBeside 58 = .ok (.ireturn, 1) := by decide +kernel
theorem dX4_nearestBits_0 : decode cX4_nearestBits 0 = .ok (.aload_n 0, 1) := by decide +kernel
theorem dX4_nearestBits_1 : decode cX4_nearestBits 1 = .ok (.getfield 19, 3) := by decide +kernel
theorem dX4_nearestBits_4 : decode cX4_nearestBits 4 = .ok (.iload_n 1, 1) := by decide +kernel
theorem dX4_nearestBits_5 : decode cX4_nearestBits 5 = .ok (.aload_n 0, 1) := by decide +kernel
theorem dX4_nearestBits_6 : decode cX4_nearestBits 6 = .ok (.getfield 9, 3) := by decide +kernel
theorem dX4_nearestBits_9 : decode cX4_nearestBits 9 = .ok (.iconst 0, 1) := by decide +kernel
theorem dX4_nearestBits_10 : decode cX4_nearestBits 10 = .ok (.iaload, 1) := by decide +kernel
theorem dX4_nearestBits_11 : decode cX4_nearestBits 11 = .ok (.invokevirtual 46, 3) := by decide +kernel
theorem dX4_nearestBits_14 : decode cX4_nearestBits 14 = .ok (.lstore_n 3, 1) := by decide +kernel
theorem dX4_nearestBits_15 : decode cX4_nearestBits 15 = .ok (.iconst 0, 1) := by decide +kernel
theorem dX4_nearestBits_16 : decode cX4_nearestBits 16 = .ok (.istore 5, 2) := by decide +kernel
theorem dX4_nearestBits_18 : decode cX4_nearestBits 18 = .ok (.iconst 0, 1) := by decide +kernel
theorem dX4_nearestBits_19 : decode cX4_nearestBits 19 = .ok (.istore 6, 2) := by decide +kernel
theorem dX4_nearestBits_21 : decode cX4_nearestBits 21 = .ok (.iload 6, 2) := by decide +kernel
theorem dX4_nearestBits_23 : decode cX4_nearestBits 23 = .ok (.iload_n 2, 1) := by decide +kernel
theorem dX4_nearestBits_24 : decode cX4_nearestBits 24 = .ok (.if_icmp .ge 55, 3) := by decide +kernel
theorem dX4_nearestBits_27 : decode cX4_nearestBits 27 = .ok (.aload_n 0, 1) := by decide +kernel
theorem dX4_nearestBits_28 : decode cX4_nearestBits 28 = .ok (.getfield 19, 3) := by decide +kernel
theorem dX4_nearestBits_31 : decode cX4_nearestBits 31 = .ok (.iload_n 1, 1) := by decide +kernel
theorem dX4_nearestBits_32 : decode cX4_nearestBits 32 = .ok (.aload_n 0, 1) := by decide +kernel
theorem dX4_nearestBits_33 : decode cX4_nearestBits 33 = .ok (.getfield 9, 3) := by decide +kernel
theorem dX4_nearestBits_36 : decode cX4_nearestBits 36 = .ok (.iload 6, 2) := by decide +kernel
theorem dX4_nearestBits_38 : decode cX4_nearestBits 38 = .ok (.iaload, 1) := by decide +kernel
theorem dX4_nearestBits_39 : decode cX4_nearestBits 39 = .ok (.invokevirtual 46, 3) := by decide +kernel
theorem dX4_nearestBits_42 : decode cX4_nearestBits 42 = .ok (.lstore 7, 2) := by decide +kernel
theorem dX4_nearestBits_44 : decode cX4_nearestBits 44 = .ok (.lload 7, 2) := by decide +kernel
theorem dX4_nearestBits_46 : decode cX4_nearestBits 46 = .ok (.lload_n 3, 1) := by decide +kernel
theorem dX4_nearestBits_47 : decode cX4_nearestBits 47 = .ok (.lcmp, 1) := by decide +kernel
theorem dX4_nearestBits_48 : decode cX4_nearestBits 48 = .ok (.ifCond .ge 9, 3) := by decide +kernel
theorem dX4_nearestBits_51 : decode cX4_nearestBits 51 = .ok (.lload 7, 2) := by decide +kernel
theorem dX4_nearestBits_53 : decode cX4_nearestBits 53 = .ok (.lstore_n 3, 1) := by decide +kernel
theorem dX4_nearestBits_54 : decode cX4_nearestBits 54 = .ok (.iconst 0, 1) := by decide +kernel
theorem dX4_nearestBits_55 : decode cX4_nearestBits 55 = .ok (.istore 5, 2) := by decide +kernel
theorem dX4_nearestBits_57 : decode cX4_nearestBits 57 = .ok (.lload 7, 2) := by decide +kernel
theorem dX4_nearestBits_59 : decode cX4_nearestBits 59 = .ok (.lload_n 3, 1) := by decide +kernel
theorem dX4_nearestBits_60 : decode cX4_nearestBits 60 = .ok (.lcmp, 1) := by decide +kernel
theorem dX4_nearestBits_61 : decode cX4_nearestBits 61 = .ok (.ifCond .ne 12, 3) := by decide +kernel
theorem dX4_nearestBits_64 : decode cX4_nearestBits 64 = .ok (.iload 5, 2) := by decide +kernel
theorem dX4_nearestBits_66 : decode cX4_nearestBits 66 = .ok (.iconst 1, 1) := by decide +kernel
theorem dX4_nearestBits_67 : decode cX4_nearestBits 67 = .ok (.iload 6, 2) := by decide +kernel
theorem dX4_nearestBits_69 : decode cX4_nearestBits 69 = .ok (.ishl, 1) := by decide +kernel
theorem dX4_nearestBits_70 : decode cX4_nearestBits 70 = .ok (.ior, 1) := by decide +kernel
theorem dX4_nearestBits_71 : decode cX4_nearestBits 71 = .ok (.istore 5, 2) := by decide +kernel
theorem dX4_nearestBits_73 : decode cX4_nearestBits 73 = .ok (.iinc 6 1, 3) := by decide +kernel
theorem dX4_nearestBits_76 : decode cX4_nearestBits 76 = .ok (.goto (-55), 3) := by decide +kernel
theorem dX4_nearestBits_79 : decode cX4_nearestBits 79 = .ok (.iload 5, 2) := by decide +kernel
theorem dX4_nearestBits_81 : decode cX4_nearestBits 81 = .ok (.ireturn, 1) := by decide +kernel
theorem dX4_placeRound_0 : decode cX4_placeRound 0 = .ok (.iconst 0, 1) := by decide +kernel
theorem dX4_placeRound_1 : decode cX4_placeRound 1 = .ok (.istore 4, 2) := by decide +kernel
theorem dX4_placeRound_3 : decode cX4_placeRound 3 = .ok (.iload 4, 2) := by decide +kernel
theorem dX4_placeRound_5 : decode cX4_placeRound 5 = .ok (.iload_n 2, 1) := by decide +kernel
theorem dX4_placeRound_6 : decode cX4_placeRound 6 = .ok (.if_icmp .ge 24, 3) := by decide +kernel
theorem dX4_placeRound_9 : decode cX4_placeRound 9 = .ok (.aload_n 0, 1) := by decide +kernel
theorem dX4_placeRound_10 : decode cX4_placeRound 10 = .ok (.iload_n 1, 1) := by decide +kernel
theorem dX4_placeRound_11 : decode cX4_placeRound 11 = .ok (.iload_n 2, 1) := by decide +kernel
theorem dX4_placeRound_12 : decode cX4_placeRound 12 = .ok (.iload 4, 2) := by decide +kernel
theorem dX4_placeRound_14 : decode cX4_placeRound 14 = .ok (.invokevirtual 50, 3) := by decide +kernel
theorem dX4_placeRound_17 : decode cX4_placeRound 17 = .ok (.iload_n 3, 1) := by decide +kernel
theorem dX4_placeRound_18 : decode cX4_placeRound 18 = .ok (.if_icmp .ne 6, 3) := by decide +kernel
theorem dX4_placeRound_21 : decode cX4_placeRound 21 = .ok (.iload 4, 2) := by decide +kernel
theorem dX4_placeRound_23 : decode cX4_placeRound 23 = .ok (.ireturn, 1) := by decide +kernel
theorem dX4_placeRound_24 : decode cX4_placeRound 24 = .ok (.iinc 4 1, 3) := by decide +kernel
theorem dX4_placeRound_27 : decode cX4_placeRound 27 = .ok (.goto (-24), 3) := by decide +kernel
theorem dX4_placeRound_30 : decode cX4_placeRound 30 = .ok (.bipush (-2), 2) := by decide +kernel
theorem dX4_placeRound_32 : decode cX4_placeRound 32 = .ok (.ireturn, 1) := by decide +kernel
theorem dX4_aheadRound_0 : decode cX4_aheadRound 0 = .ok (.iconst 0, 1) := by decide +kernel
theorem dX4_aheadRound_1 : decode cX4_aheadRound 1 = .ok (.istore 4, 2) := by decide +kernel
theorem dX4_aheadRound_3 : decode cX4_aheadRound 3 = .ok (.iconst 0, 1) := by decide +kernel
theorem dX4_aheadRound_4 : decode cX4_aheadRound 4 = .ok (.istore 5, 2) := by decide +kernel
theorem dX4_aheadRound_6 : decode cX4_aheadRound 6 = .ok (.iload 5, 2) := by decide +kernel
theorem dX4_aheadRound_8 : decode cX4_aheadRound 8 = .ok (.iload_n 2, 1) := by decide +kernel
theorem dX4_aheadRound_9 : decode cX4_aheadRound 9 = .ok (.if_icmp .ge 23, 3) := by decide +kernel
theorem dX4_aheadRound_12 : decode cX4_aheadRound 12 = .ok (.aload_n 0, 1) := by decide +kernel
theorem dX4_aheadRound_13 : decode cX4_aheadRound 13 = .ok (.iload_n 1, 1) := by decide +kernel
theorem dX4_aheadRound_14 : decode cX4_aheadRound 14 = .ok (.iload 5, 2) := by decide +kernel
theorem dX4_aheadRound_16 : decode cX4_aheadRound 16 = .ok (.iload_n 3, 1) := by decide +kernel
theorem dX4_aheadRound_17 : decode cX4_aheadRound 17 = .ok (.invokevirtual 53, 3) := by decide +kernel
theorem dX4_aheadRound_20 : decode cX4_aheadRound 20 = .ok (.ifCond .ge 6, 3) := by decide +kernel
theorem dX4_aheadRound_23 : decode cX4_aheadRound 23 = .ok (.iinc 4 1, 3) := by decide +kernel
theorem dX4_aheadRound_26 : decode cX4_aheadRound 26 = .ok (.iinc 5 1, 3) := by decide +kernel
theorem dX4_aheadRound_29 : decode cX4_aheadRound 29 = .ok (.goto (-23), 3) := by decide +kernel
theorem dX4_aheadRound_32 : decode cX4_aheadRound 32 = .ok (.iload 4, 2) := by decide +kernel
theorem dX4_aheadRound_34 : decode cX4_aheadRound 34 = .ok (.ireturn, 1) := by decide +kernel
theorem dX4_compareRound_0 : decode cX4_compareRound 0 = .ok (.aload_n 0, 1) := by decide +kernel
theorem dX4_compareRound_1 : decode cX4_compareRound 1 = .ok (.getfield 9, 3) := by decide +kernel
theorem dX4_compareRound_4 : decode cX4_compareRound 4 = .ok (.iload_n 2, 1) := by decide +kernel
theorem dX4_compareRound_5 : decode cX4_compareRound 5 = .ok (.iaload, 1) := by decide +kernel
theorem dX4_compareRound_6 : decode cX4_compareRound 6 = .ok (.istore 4, 2) := by decide +kernel
theorem dX4_compareRound_8 : decode cX4_compareRound 8 = .ok (.aload_n 0, 1) := by decide +kernel
theorem dX4_compareRound_9 : decode cX4_compareRound 9 = .ok (.getfield 9, 3) := by decide +kernel
theorem dX4_compareRound_12 : decode cX4_compareRound 12 = .ok (.iload_n 3, 1) := by decide +kernel
theorem dX4_compareRound_13 : decode cX4_compareRound 13 = .ok (.iaload, 1) := by decide +kernel
theorem dX4_compareRound_14 : decode cX4_compareRound 14 = .ok (.istore 5, 2) := by decide +kernel
theorem dX4_compareRound_16 : decode cX4_compareRound 16 = .ok (.aload_n 0, 1) := by decide +kernel
theorem dX4_compareRound_17 : decode cX4_compareRound 17 = .ok (.iload_n 1, 1) := by decide +kernel
theorem dX4_compareRound_18 : decode cX4_compareRound 18 = .ok (.iload 4, 2) := by decide +kernel
theorem dX4_compareRound_20 : decode cX4_compareRound 20 = .ok (.invokevirtual 56, 3) := by decide +kernel
theorem dX4_compareRound_23 : decode cX4_compareRound 23 = .ok (.istore 6, 2) := by decide +kernel
theorem dX4_compareRound_25 : decode cX4_compareRound 25 = .ok (.aload_n 0, 1) := by decide +kernel
theorem dX4_compareRound_26 : decode cX4_compareRound 26 = .ok (.iload_n 1, 1) := by decide +kernel
theorem dX4_compareRound_27 : decode cX4_compareRound 27 = .ok (.iload 5, 2) := by decide +kernel
theorem dX4_compareRound_29 : decode cX4_compareRound 29 = .ok (.invokevirtual 56, 3) := by decide +kernel
theorem dX4_compareRound_32 : decode cX4_compareRound 32 = .ok (.istore 7, 2) := by decide +kernel
theorem dX4_compareRound_34 : decode cX4_compareRound 34 = .ok (.iload 6, 2) := by decide +kernel
theorem dX4_compareRound_36 : decode cX4_compareRound 36 = .ok (.iload 7, 2) := by decide +kernel
theorem dX4_compareRound_38 : decode cX4_compareRound 38 = .ok (.if_icmp .eq 11, 3) := by decide +kernel
theorem dX4_compareRound_41 : decode cX4_compareRound 41 = .ok (.iload 6, 2) := by decide +kernel
theorem dX4_compareRound_43 : decode cX4_compareRound 43 = .ok (.iload 7, 2) := by decide +kernel
theorem dX4_compareRound_45 : decode cX4_compareRound 45 = .ok (.invokestatic 59, 3) := by decide +kernel
theorem dX4_compareRound_48 : decode cX4_compareRound 48 = .ok (.ireturn, 1) := by decide +kernel
theorem dX4_compareRound_49 : decode cX4_compareRound 49 = .ok (.aload_n 0, 1) := by decide +kernel
theorem dX4_compareRound_50 : decode cX4_compareRound 50 = .ok (.getfield 19, 3) := by decide +kernel
theorem dX4_compareRound_53 : decode cX4_compareRound 53 = .ok (.iload_n 1, 1) := by decide +kernel
theorem dX4_compareRound_54 : decode cX4_compareRound 54 = .ok (.iload 4, 2) := by decide +kernel
theorem dX4_compareRound_56 : decode cX4_compareRound 56 = .ok (.iload 5, 2) := by decide +kernel
theorem dX4_compareRound_58 : decode cX4_compareRound 58 = .ok (.invokevirtual 31, 3) := by decide +kernel
theorem dX4_compareRound_61 : decode cX4_compareRound 61 = .ok (.istore 8, 2) := by decide +kernel
theorem dX4_compareRound_63 : decode cX4_compareRound 63 = .ok (.iload 8, 2) := by decide +kernel
theorem dX4_compareRound_65 : decode cX4_compareRound 65 = .ok (.ifCond .eq 7, 3) := by decide +kernel
theorem dX4_compareRound_68 : decode cX4_compareRound 68 = .ok (.iload 8, 2) := by decide +kernel
theorem dX4_compareRound_70 : decode cX4_compareRound 70 = .ok (.ineg, 1) := by decide +kernel
theorem dX4_compareRound_71 : decode cX4_compareRound 71 = .ok (.ireturn, 1) := by decide +kernel
theorem dX4_compareRound_72 : decode cX4_compareRound 72 = .ok (.aload_n 0, 1) := by decide +kernel
theorem dX4_compareRound_73 : decode cX4_compareRound 73 = .ok (.getfield 19, 3) := by decide +kernel
theorem dX4_compareRound_76 : decode cX4_compareRound 76 = .ok (.iload_n 1, 1) := by decide +kernel
theorem dX4_compareRound_77 : decode cX4_compareRound 77 = .ok (.iload 4, 2) := by decide +kernel
theorem dX4_compareRound_79 : decode cX4_compareRound 79 = .ok (.invokevirtual 46, 3) := by decide +kernel
theorem dX4_compareRound_82 : decode cX4_compareRound 82 = .ok (.aload_n 0, 1) := by decide +kernel
theorem dX4_compareRound_83 : decode cX4_compareRound 83 = .ok (.getfield 19, 3) := by decide +kernel
theorem dX4_compareRound_86 : decode cX4_compareRound 86 = .ok (.iload_n 1, 1) := by decide +kernel
theorem dX4_compareRound_87 : decode cX4_compareRound 87 = .ok (.iload 5, 2) := by decide +kernel
theorem dX4_compareRound_89 : decode cX4_compareRound 89 = .ok (.invokevirtual 46, 3) := by decide +kernel
theorem dX4_compareRound_92 : decode cX4_compareRound 92 = .ok (.invokestatic 64, 3) := by decide +kernel
theorem dX4_compareRound_95 : decode cX4_compareRound 95 = .ok (.istore 9, 2) := by decide +kernel
theorem dX4_compareRound_97 : decode cX4_compareRound 97 = .ok (.iload 9, 2) := by decide +kernel
theorem dX4_compareRound_99 : decode cX4_compareRound 99 = .ok (.ifCond .eq 8, 3) := by decide +kernel
theorem dX4_compareRound_102 : decode cX4_compareRound 102 = .ok (.iload 9, 2) := by decide +kernel
theorem dX4_compareRound_104 : decode cX4_compareRound 104 = .ok (.goto 8, 3) := by decide +kernel
theorem dX4_compareRound_107 : decode cX4_compareRound 107 = .ok (.iload_n 2, 1) := by decide +kernel
theorem dX4_compareRound_108 : decode cX4_compareRound 108 = .ok (.iload_n 3, 1) := by decide +kernel
theorem dX4_compareRound_109 : decode cX4_compareRound 109 = .ok (.invokestatic 59, 3) := by decide +kernel
theorem dX4_compareRound_112 : decode cX4_compareRound 112 = .ok (.ireturn, 1) := by decide +kernel
theorem dX4_partOfTurn_0 : decode cX4_partOfTurn 0 = .ok (.aload_n 0, 1) := by decide +kernel
theorem dX4_partOfTurn_1 : decode cX4_partOfTurn 1 = .ok (.getfield 19, 3) := by decide +kernel
theorem dX4_partOfTurn_4 : decode cX4_partOfTurn 4 = .ok (.getfield 69, 3) := by decide +kernel
theorem dX4_partOfTurn_7 : decode cX4_partOfTurn 7 = .ok (.iload_n 2, 1) := by decide +kernel
theorem dX4_partOfTurn_8 : decode cX4_partOfTurn 8 = .ok (.iaload, 1) := by decide +kernel
theorem dX4_partOfTurn_9 : decode cX4_partOfTurn 9 = .ok (.aload_n 0, 1) := by decide +kernel
theorem dX4_partOfTurn_10 : decode cX4_partOfTurn 10 = .ok (.getfield 19, 3) := by decide +kernel
theorem dX4_partOfTurn_13 : decode cX4_partOfTurn 13 = .ok (.getfield 69, 3) := by decide +kernel
theorem dX4_partOfTurn_16 : decode cX4_partOfTurn 16 = .ok (.iload_n 1, 1) := by decide +kernel
theorem dX4_partOfTurn_17 : decode cX4_partOfTurn 17 = .ok (.iaload, 1) := by decide +kernel
theorem dX4_partOfTurn_18 : decode cX4_partOfTurn 18 = .ok (.isub, 1) := by decide +kernel
theorem dX4_partOfTurn_19 : decode cX4_partOfTurn 19 = .ok (.istore_n 3, 1) := by decide +kernel
theorem dX4_partOfTurn_20 : decode cX4_partOfTurn 20 = .ok (.aload_n 0, 1) := by decide +kernel
theorem dX4_partOfTurn_21 : decode cX4_partOfTurn 21 = .ok (.getfield 19, 3) := by decide +kernel
theorem dX4_partOfTurn_24 : decode cX4_partOfTurn 24 = .ok (.getfield 43, 3) := by decide +kernel
theorem dX4_partOfTurn_27 : decode cX4_partOfTurn 27 = .ok (.iload_n 2, 1) := by decide +kernel
theorem dX4_partOfTurn_28 : decode cX4_partOfTurn 28 = .ok (.iaload, 1) := by decide +kernel
theorem dX4_partOfTurn_29 : decode cX4_partOfTurn 29 = .ok (.aload_n 0, 1) := by decide +kernel
theorem dX4_partOfTurn_30 : decode cX4_partOfTurn 30 = .ok (.getfield 19, 3) := by decide +kernel
theorem dX4_partOfTurn_33 : decode cX4_partOfTurn 33 = .ok (.getfield 43, 3) := by decide +kernel
theorem dX4_partOfTurn_36 : decode cX4_partOfTurn 36 = .ok (.iload_n 1, 1) := by decide +kernel
theorem dX4_partOfTurn_37 : decode cX4_partOfTurn 37 = .ok (.iaload, 1) := by decide +kernel
theorem dX4_partOfTurn_38 : decode cX4_partOfTurn 38 = .ok (.isub, 1) := by decide +kernel
theorem dX4_partOfTurn_39 : decode cX4_partOfTurn 39 = .ok (.istore 4, 2) := by decide +kernel
theorem dX4_partOfTurn_41 : decode cX4_partOfTurn 41 = .ok (.iload_n 3, 1) := by decide +kernel
theorem dX4_partOfTurn_42 : decode cX4_partOfTurn 42 = .ok (.ifCond .ne 10, 3) := by decide +kernel
theorem dX4_partOfTurn_45 : decode cX4_partOfTurn 45 = .ok (.iload 4, 2) := by decide +kernel
theorem dX4_partOfTurn_47 : decode cX4_partOfTurn 47 = .ok (.ifCond .ne 5, 3) := by decide +kernel
theorem dX4_partOfTurn_50 : decode cX4_partOfTurn 50 = .ok (.iconst 0, 1) := by decide +kernel
theorem dX4_partOfTurn_51 : decode cX4_partOfTurn 51 = .ok (.ireturn, 1) := by decide +kernel
theorem dX4_partOfTurn_52 : decode cX4_partOfTurn 52 = .ok (.iload 4, 2) := by decide +kernel
theorem dX4_partOfTurn_54 : decode cX4_partOfTurn 54 = .ok (.ifCond .gt 12, 3) := by decide +kernel
theorem dX4_partOfTurn_57 : decode cX4_partOfTurn 57 = .ok (.iload 4, 2) := by decide +kernel
theorem dX4_partOfTurn_59 : decode cX4_partOfTurn 59 = .ok (.ifCond .ne 11, 3) := by decide +kernel
theorem dX4_partOfTurn_62 : decode cX4_partOfTurn 62 = .ok (.iload_n 3, 1) := by decide +kernel
theorem dX4_partOfTurn_63 : decode cX4_partOfTurn 63 = .ok (.ifCond .le 7, 3) := by decide +kernel
theorem dX4_partOfTurn_66 : decode cX4_partOfTurn 66 = .ok (.iconst 1, 1) := by decide +kernel
theorem dX4_partOfTurn_67 : decode cX4_partOfTurn 67 = .ok (.goto 4, 3) := by decide +kernel
theorem dX4_partOfTurn_70 : decode cX4_partOfTurn 70 = .ok (.iconst 2, 1) := by decide +kernel
theorem dX4_partOfTurn_71 : decode cX4_partOfTurn 71 = .ok (.ireturn, 1) := by decide +kernel
theorem dX4_placeAlong_0 : decode cX4_placeAlong 0 = .ok (.iconst 0, 1) := by decide +kernel
theorem dX4_placeAlong_1 : decode cX4_placeAlong 1 = .ok (.istore_n 3, 1) := by decide +kernel
theorem dX4_placeAlong_2 : decode cX4_placeAlong 2 = .ok (.iload_n 3, 1) := by decide +kernel
theorem dX4_placeAlong_3 : decode cX4_placeAlong 3 = .ok (.iload_n 1, 1) := by decide +kernel
theorem dX4_placeAlong_4 : decode cX4_placeAlong 4 = .ok (.if_icmp .ge 21, 3) := by decide +kernel
theorem dX4_placeAlong_7 : decode cX4_placeAlong 7 = .ok (.aload_n 0, 1) := by decide +kernel
theorem dX4_placeAlong_8 : decode cX4_placeAlong 8 = .ok (.iload_n 1, 1) := by decide +kernel
theorem dX4_placeAlong_9 : decode cX4_placeAlong 9 = .ok (.iload_n 3, 1) := by decide +kernel
theorem dX4_placeAlong_10 : decode cX4_placeAlong 10 = .ok (.invokevirtual 72, 3) := by decide +kernel
theorem dX4_placeAlong_13 : decode cX4_placeAlong 13 = .ok (.iload_n 2, 1) := by decide +kernel
theorem dX4_placeAlong_14 : decode cX4_placeAlong 14 = .ok (.if_icmp .ne 5, 3) := by decide +kernel
theorem dX4_placeAlong_17 : decode cX4_placeAlong 17 = .ok (.iload_n 3, 1) := by decide +kernel
theorem dX4_placeAlong_18 : decode cX4_placeAlong 18 = .ok (.ireturn, 1) := by decide +kernel
theorem dX4_placeAlong_19 : decode cX4_placeAlong 19 = .ok (.iinc 3 1, 3) := by decide +kernel
theorem dX4_placeAlong_22 : decode cX4_placeAlong 22 = .ok (.goto (-20), 3) := by decide +kernel
theorem dX4_placeAlong_25 : decode cX4_placeAlong 25 = .ok (.bipush (-2), 2) := by decide +kernel
theorem dX4_placeAlong_27 : decode cX4_placeAlong 27 = .ok (.ireturn, 1) := by decide +kernel
theorem dX4_aheadAlong_0 : decode cX4_aheadAlong 0 = .ok (.iconst 0, 1) := by decide +kernel
theorem dX4_aheadAlong_1 : decode cX4_aheadAlong 1 = .ok (.istore_n 3, 1) := by decide +kernel
theorem dX4_aheadAlong_2 : decode cX4_aheadAlong 2 = .ok (.iconst 0, 1) := by decide +kernel
theorem dX4_aheadAlong_3 : decode cX4_aheadAlong 3 = .ok (.istore 4, 2) := by decide +kernel
theorem dX4_aheadAlong_5 : decode cX4_aheadAlong 5 = .ok (.iload 4, 2) := by decide +kernel
theorem dX4_aheadAlong_7 : decode cX4_aheadAlong 7 = .ok (.iload_n 1, 1) := by decide +kernel
theorem dX4_aheadAlong_8 : decode cX4_aheadAlong 8 = .ok (.if_icmp .ge 22, 3) := by decide +kernel
theorem dX4_aheadAlong_11 : decode cX4_aheadAlong 11 = .ok (.aload_n 0, 1) := by decide +kernel
theorem dX4_aheadAlong_12 : decode cX4_aheadAlong 12 = .ok (.iload 4, 2) := by decide +kernel
theorem dX4_aheadAlong_14 : decode cX4_aheadAlong 14 = .ok (.iload_n 2, 1) := by decide +kernel
theorem dX4_aheadAlong_15 : decode cX4_aheadAlong 15 = .ok (.invokevirtual 75, 3) := by decide +kernel
theorem dX4_aheadAlong_18 : decode cX4_aheadAlong 18 = .ok (.ifCond .ge 6, 3) := by decide +kernel
theorem dX4_aheadAlong_21 : decode cX4_aheadAlong 21 = .ok (.iinc 3 1, 3) := by decide +kernel
theorem dX4_aheadAlong_24 : decode cX4_aheadAlong 24 = .ok (.iinc 4 1, 3) := by decide +kernel
theorem dX4_aheadAlong_27 : decode cX4_aheadAlong 27 = .ok (.goto (-22), 3) := by decide +kernel
theorem dX4_aheadAlong_30 : decode cX4_aheadAlong 30 = .ok (.iload_n 3, 1) := by decide +kernel
theorem dX4_aheadAlong_31 : decode cX4_aheadAlong 31 = .ok (.ireturn, 1) := by decide +kernel
theorem dX4_compareAlong_0 : decode cX4_compareAlong 0 = .ok (.aload_n 0, 1) := by decide +kernel
theorem dX4_compareAlong_1 : decode cX4_compareAlong 1 = .ok (.getfield 19, 3) := by decide +kernel
theorem dX4_compareAlong_4 : decode cX4_compareAlong 4 = .ok (.aload_n 0, 1) := by decide +kernel
theorem dX4_compareAlong_5 : decode cX4_compareAlong 5 = .ok (.getfield 9, 3) := by decide +kernel
theorem dX4_compareAlong_8 : decode cX4_compareAlong 8 = .ok (.iload_n 1, 1) := by decide +kernel
theorem dX4_compareAlong_9 : decode cX4_compareAlong 9 = .ok (.iaload, 1) := by decide +kernel
theorem dX4_compareAlong_10 : decode cX4_compareAlong 10 = .ok (.aload_n 0, 1) := by decide +kernel
theorem dX4_compareAlong_11 : decode cX4_compareAlong 11 = .ok (.getfield 9, 3) := by decide +kernel
theorem dX4_compareAlong_14 : decode cX4_compareAlong 14 = .ok (.iload_n 2, 1) := by decide +kernel
theorem dX4_compareAlong_15 : decode cX4_compareAlong 15 = .ok (.iaload, 1) := by decide +kernel
theorem dX4_compareAlong_16 : decode cX4_compareAlong 16 = .ok (.invokevirtual 78, 3) := by decide +kernel
theorem dX4_compareAlong_19 : decode cX4_compareAlong 19 = .ok (.istore_n 3, 1) := by decide +kernel
theorem dX4_compareAlong_20 : decode cX4_compareAlong 20 = .ok (.iload_n 3, 1) := by decide +kernel
theorem dX4_compareAlong_21 : decode cX4_compareAlong 21 = .ok (.ifCond .eq 7, 3) := by decide +kernel
theorem dX4_compareAlong_24 : decode cX4_compareAlong 24 = .ok (.iload_n 3, 1) := by decide +kernel
theorem dX4_compareAlong_25 : decode cX4_compareAlong 25 = .ok (.goto 8, 3) := by decide +kernel
theorem dX4_compareAlong_28 : decode cX4_compareAlong 28 = .ok (.iload_n 1, 1) := by decide +kernel
theorem dX4_compareAlong_29 : decode cX4_compareAlong 29 = .ok (.iload_n 2, 1) := by decide +kernel
theorem dX4_compareAlong_30 : decode cX4_compareAlong 30 = .ok (.invokestatic 59, 3) := by decide +kernel
theorem dX4_compareAlong_33 : decode cX4_compareAlong 33 = .ok (.ireturn, 1) := by decide +kernel
theorem dX4_crossSum_0 : decode cX4_crossSum 0 = .ok (.lconst 0, 1) := by decide +kernel
theorem dX4_crossSum_1 : decode cX4_crossSum 1 = .ok (.lstore_n 2, 1) := by decide +kernel
theorem dX4_crossSum_2 : decode cX4_crossSum 2 = .ok (.iconst 0, 1) := by decide +kernel
theorem dX4_crossSum_3 : decode cX4_crossSum 3 = .ok (.istore 4, 2) := by decide +kernel
theorem dX4_crossSum_5 : decode cX4_crossSum 5 = .ok (.iload 4, 2) := by decide +kernel
theorem dX4_crossSum_7 : decode cX4_crossSum 7 = .ok (.iload_n 1, 1) := by decide +kernel
theorem dX4_crossSum_8 : decode cX4_crossSum 8 = .ok (.if_icmp .ge 77, 3) := by decide +kernel
theorem dX4_crossSum_11 : decode cX4_crossSum 11 = .ok (.aload_n 0, 1) := by decide +kernel
theorem dX4_crossSum_12 : decode cX4_crossSum 12 = .ok (.getfield 9, 3) := by decide +kernel
theorem dX4_crossSum_15 : decode cX4_crossSum 15 = .ok (.iload 4, 2) := by decide +kernel
theorem dX4_crossSum_17 : decode cX4_crossSum 17 = .ok (.iaload, 1) := by decide +kernel
theorem dX4_crossSum_18 : decode cX4_crossSum 18 = .ok (.istore 5, 2) := by decide +kernel
theorem dX4_crossSum_20 : decode cX4_crossSum 20 = .ok (.aload_n 0, 1) := by decide +kernel
theorem dX4_crossSum_21 : decode cX4_crossSum 21 = .ok (.iload 4, 2) := by decide +kernel
theorem dX4_crossSum_23 : decode cX4_crossSum 23 = .ok (.iload_n 1, 1) := by decide +kernel
theorem dX4_crossSum_24 : decode cX4_crossSum 24 = .ok (.invokevirtual 27, 3) := by decide +kernel
theorem dX4_crossSum_27 : decode cX4_crossSum 27 = .ok (.istore 6, 2) := by decide +kernel
theorem dX4_crossSum_29 : decode cX4_crossSum 29 = .ok (.lload_n 2, 1) := by decide +kernel
theorem dX4_crossSum_30 : decode cX4_crossSum 30 = .ok (.aload_n 0, 1) := by decide +kernel
theorem dX4_crossSum_31 : decode cX4_crossSum 31 = .ok (.getfield 19, 3) := by decide +kernel
theorem dX4_crossSum_34 : decode cX4_crossSum 34 = .ok (.getfield 69, 3) := by decide +kernel
theorem dX4_crossSum_37 : decode cX4_crossSum 37 = .ok (.iload 5, 2) := by decide +kernel
theorem dX4_crossSum_39 : decode cX4_crossSum 39 = .ok (.iaload, 1) := by decide +kernel
theorem dX4_crossSum_40 : decode cX4_crossSum 40 = .ok (.i2l, 1) := by decide +kernel
theorem dX4_crossSum_41 : decode cX4_crossSum 41 = .ok (.aload_n 0, 1) := by decide +kernel
theorem dX4_crossSum_42 : decode cX4_crossSum 42 = .ok (.getfield 19, 3) := by decide +kernel
theorem dX4_crossSum_45 : decode cX4_crossSum 45 = .ok (.getfield 43, 3) := by decide +kernel
theorem dX4_crossSum_48 : decode cX4_crossSum 48 = .ok (.iload 6, 2) := by decide +kernel
theorem dX4_crossSum_50 : decode cX4_crossSum 50 = .ok (.iaload, 1) := by decide +kernel
theorem dX4_crossSum_51 : decode cX4_crossSum 51 = .ok (.i2l, 1) := by decide +kernel
theorem dX4_crossSum_52 : decode cX4_crossSum 52 = .ok (.lmul, 1) := by decide +kernel
theorem dX4_crossSum_53 : decode cX4_crossSum 53 = .ok (.aload_n 0, 1) := by decide +kernel
theorem dX4_crossSum_54 : decode cX4_crossSum 54 = .ok (.getfield 19, 3) := by decide +kernel
theorem dX4_crossSum_57 : decode cX4_crossSum 57 = .ok (.getfield 69, 3) := by decide +kernel
theorem dX4_crossSum_60 : decode cX4_crossSum 60 = .ok (.iload 6, 2) := by decide +kernel
theorem dX4_crossSum_62 : decode cX4_crossSum 62 = .ok (.iaload, 1) := by decide +kernel
theorem dX4_crossSum_63 : decode cX4_crossSum 63 = .ok (.i2l, 1) := by decide +kernel
theorem dX4_crossSum_64 : decode cX4_crossSum 64 = .ok (.aload_n 0, 1) := by decide +kernel
theorem dX4_crossSum_65 : decode cX4_crossSum 65 = .ok (.getfield 19, 3) := by decide +kernel
theorem dX4_crossSum_68 : decode cX4_crossSum 68 = .ok (.getfield 43, 3) := by decide +kernel
theorem dX4_crossSum_71 : decode cX4_crossSum 71 = .ok (.iload 5, 2) := by decide +kernel
theorem dX4_crossSum_73 : decode cX4_crossSum 73 = .ok (.iaload, 1) := by decide +kernel
theorem dX4_crossSum_74 : decode cX4_crossSum 74 = .ok (.i2l, 1) := by decide +kernel
theorem dX4_crossSum_75 : decode cX4_crossSum 75 = .ok (.lmul, 1) := by decide +kernel
theorem dX4_crossSum_76 : decode cX4_crossSum 76 = .ok (.lsub, 1) := by decide +kernel
theorem dX4_crossSum_77 : decode cX4_crossSum 77 = .ok (.ladd, 1) := by decide +kernel
theorem dX4_crossSum_78 : decode cX4_crossSum 78 = .ok (.lstore_n 2, 1) := by decide +kernel
theorem dX4_crossSum_79 : decode cX4_crossSum 79 = .ok (.iinc 4 1, 3) := by decide +kernel
theorem dX4_crossSum_82 : decode cX4_crossSum 82 = .ok (.goto (-77), 3) := by decide +kernel
theorem dX4_crossSum_85 : decode cX4_crossSum 85 = .ok (.lload_n 2, 1) := by decide +kernel
theorem dX4_crossSum_86 : decode cX4_crossSum 86 = .ok (.lreturn, 1) := by decide +kernel
theorem dX5_init_0 : decode cX5_init 0 = .ok (.aload_n 0, 1) := by decide +kernel
theorem dX5_init_1 : decode cX5_init 1 = .ok (.invokespecial 1, 3) := by decide +kernel
theorem dX5_init_4 : decode cX5_init 4 = .ok (.aload_n 0, 1) := by decide +kernel
theorem dX5_init_5 : decode cX5_init 5 = .ok (.new 7, 3) := by decide +kernel
theorem dX5_init_8 : decode cX5_init 8 = .ok (.dup, 1) := by decide +kernel
theorem dX5_init_9 : decode cX5_init 9 = .ok (.invokespecial 9, 3) := by decide +kernel
theorem dX5_init_12 : decode cX5_init 12 = .ok (.putfield 10, 3) := by decide +kernel
theorem dX5_init_15 : decode cX5_init 15 = .ok (.aload_n 0, 1) := by decide +kernel
theorem dX5_init_16 : decode cX5_init 16 = .ok (.new 16, 3) := by decide +kernel
theorem dX5_init_19 : decode cX5_init 19 = .ok (.dup, 1) := by decide +kernel
theorem dX5_init_20 : decode cX5_init 20 = .ok (.aload_n 0, 1) := by decide +kernel
theorem dX5_init_21 : decode cX5_init 21 = .ok (.getfield 10, 3) := by decide +kernel
theorem dX5_init_24 : decode cX5_init 24 = .ok (.invokespecial 18, 3) := by decide +kernel
theorem dX5_init_27 : decode cX5_init 27 = .ok (.putfield 21, 3) := by decide +kernel
theorem dX5_init_30 : decode cX5_init 30 = .ok (.aload_n 0, 1) := by decide +kernel
theorem dX5_init_31 : decode cX5_init 31 = .ok (.new 25, 3) := by decide +kernel
theorem dX5_init_34 : decode cX5_init 34 = .ok (.dup, 1) := by decide +kernel
theorem dX5_init_35 : decode cX5_init 35 = .ok (.aload_n 0, 1) := by decide +kernel
theorem dX5_init_36 : decode cX5_init 36 = .ok (.getfield 10, 3) := by decide +kernel
theorem dX5_init_39 : decode cX5_init 39 = .ok (.invokespecial 27, 3) := by decide +kernel
theorem dX5_init_42 : decode cX5_init 42 = .ok (.putfield 28, 3) := by decide +kernel
theorem dX5_init_45 : decode cX5_init 45 = .ok (.aload_n 0, 1) := by decide +kernel
theorem dX5_init_46 : decode cX5_init 46 = .ok (.new 32, 3) := by decide +kernel
theorem dX5_init_49 : decode cX5_init 49 = .ok (.dup, 1) := by decide +kernel
theorem dX5_init_50 : decode cX5_init 50 = .ok (.aload_n 0, 1) := by decide +kernel
theorem dX5_init_51 : decode cX5_init 51 = .ok (.getfield 10, 3) := by decide +kernel
theorem dX5_init_54 : decode cX5_init 54 = .ok (.invokespecial 34, 3) := by decide +kernel
theorem dX5_init_57 : decode cX5_init 57 = .ok (.putfield 35, 3) := by decide +kernel
theorem dX5_init_60 : decode cX5_init 60 = .ok (.aload_n 0, 1) := by decide +kernel
theorem dX5_init_61 : decode cX5_init 61 = .ok (.new 39, 3) := by decide +kernel
theorem dX5_init_64 : decode cX5_init 64 = .ok (.dup, 1) := by decide +kernel
theorem dX5_init_65 : decode cX5_init 65 = .ok (.aload_n 0, 1) := by decide +kernel
theorem dX5_init_66 : decode cX5_init 66 = .ok (.getfield 10, 3) := by decide +kernel
theorem dX5_init_69 : decode cX5_init 69 = .ok (.invokespecial 41, 3) := by decide +kernel
theorem dX5_init_72 : decode cX5_init 72 = .ok (.putfield 42, 3) := by decide +kernel
theorem dX5_init_75 : decode cX5_init 75 = .ok (.return_, 1) := by decide +kernel
theorem dX5_point_0 : decode cX5_point 0 = .ok (.lload_n 1, 1) := by decide +kernel
theorem dX5_point_1 : decode cX5_point 1 = .ok (.invokestatic 46, 3) := by decide +kernel
theorem dX5_point_4 : decode cX5_point 4 = .ok (.ifCond .eq 18, 3) := by decide +kernel
theorem dX5_point_7 : decode cX5_point 7 = .ok (.lload_n 3, 1) := by decide +kernel
theorem dX5_point_8 : decode cX5_point 8 = .ok (.invokestatic 46, 3) := by decide +kernel
theorem dX5_point_11 : decode cX5_point 11 = .ok (.ifCond .eq 11, 3) := by decide +kernel
theorem dX5_point_14 : decode cX5_point 14 = .ok (.lload 5, 2) := by decide +kernel
theorem dX5_point_16 : decode cX5_point 16 = .ok (.invokestatic 50, 3) := by decide +kernel
theorem dX5_point_19 : decode cX5_point 19 = .ok (.ifCond .ne 6, 3) := by decide +kernel
theorem dX5_point_22 : decode cX5_point 22 = .ok (.bipush (-2), 2) := by decide +kernel
theorem dX5_point_24 : decode cX5_point 24 = .ok (.ireturn, 1) := by decide +kernel
theorem dX5_point_25 : decode cX5_point 25 = .ok (.bipush 12, 2) := by decide +kernel
theorem dX5_point_27 : decode cX5_point 27 = .ok (.lload 5, 2) := by decide +kernel
theorem dX5_point_29 : decode cX5_point 29 = .ok (.l2i, 1) := by decide +kernel
theorem dX5_point_30 : decode cX5_point 30 = .ok (.idiv, 1) := by decide +kernel
theorem dX5_point_31 : decode cX5_point 31 = .ok (.istore 7, 2) := by decide +kernel
theorem dX5_point_33 : decode cX5_point 33 = .ok (.aload_n 0, 1) := by decide +kernel
theorem dX5_point_34 : decode cX5_point 34 = .ok (.getfield 10, 3) := by decide +kernel
theorem dX5_point_37 : decode cX5_point 37 = .ok (.lload_n 1, 1) := by decide +kernel
theorem dX5_point_38 : decode cX5_point 38 = .ok (.l2i, 1) := by decide +kernel
theorem dX5_point_39 : decode cX5_point 39 = .ok (.iload 7, 2) := by decide +kernel
theorem dX5_point_41 : decode cX5_point 41 = .ok (.imul, 1) := by decide +kernel
theorem dX5_point_42 : decode cX5_point 42 = .ok (.lload_n 3, 1) := by decide +kernel
theorem dX5_point_43 : decode cX5_point 43 = .ok (.l2i, 1) := by decide +kernel
theorem dX5_point_44 : decode cX5_point 44 = .ok (.iload 7, 2) := by decide +kernel
theorem dX5_point_46 : decode cX5_point 46 = .ok (.imul, 1) := by decide +kernel
theorem dX5_point_47 : decode cX5_point 47 = .ok (.invokevirtual 53, 3) := by decide +kernel
theorem dX5_point_50 : decode cX5_point 50 = .ok (.ireturn, 1) := by decide +kernel
theorem dX5_size_0 : decode cX5_size 0 = .ok (.iload_n 1, 1) := by decide +kernel
theorem dX5_size_1 : decode cX5_size 1 = .ok (.ifCond .ge 13, 3) := by decide +kernel
theorem dX5_size_4 : decode cX5_size 4 = .ok (.new 57, 3) := by decide +kernel
theorem dX5_size_7 : decode cX5_size 7 = .ok (.dup, 1) := by decide +kernel
theorem dX5_size_8 : decode cX5_size 8 = .ok (.ldc 59, 2) := by decide +kernel
theorem dX5_size_10 : decode cX5_size 10 = .ok (.invokespecial 61, 3) := by decide +kernel
theorem dX5_size_13 : decode cX5_size 13 = .ok (.athrow, 1) := by decide +kernel
theorem dX5_size_14 : decode cX5_size 14 = .ok (.iload_n 1, 1) := by decide +kernel
theorem dX5_size_15 : decode cX5_size 15 = .ok (.bipush 24, 2) := by decide +kernel
theorem dX5_size_17 : decode cX5_size 17 = .ok (.if_icmp .le 6, 3) := by decide +kernel
theorem dX5_size_20 : decode cX5_size 20 = .ok (.bipush (-2), 2) := by decide +kernel
theorem dX5_size_22 : decode cX5_size 22 = .ok (.ireturn, 1) := by decide +kernel
theorem dX5_size_23 : decode cX5_size 23 = .ok (.aload_n 0, 1) := by decide +kernel
theorem dX5_size_24 : decode cX5_size 24 = .ok (.getfield 35, 3) := by decide +kernel
theorem dX5_size_27 : decode cX5_size 27 = .ok (.iload_n 1, 1) := by decide +kernel
theorem dX5_size_28 : decode cX5_size 28 = .ok (.invokevirtual 64, 3) := by decide +kernel
theorem dX5_size_31 : decode cX5_size 31 = .ok (.ireturn, 1) := by decide +kernel
theorem dX5_of_0 : decode cX5_of 0 = .ok (.iload_n 2, 1) := by decide +kernel
theorem dX5_of_1 : decode cX5_of 1 = .ok (.iconst (-1), 1) := by decide +kernel
theorem dX5_of_2 : decode cX5_of 2 = .ok (.if_icmp .eq 17, 3) := by decide +kernel
theorem dX5_of_5 : decode cX5_of 5 = .ok (.aload_n 0, 1) := by decide +kernel
theorem dX5_of_6 : decode cX5_of 6 = .ok (.getfield 10, 3) := by decide +kernel
theorem dX5_of_9 : decode cX5_of 9 = .ok (.iload_n 2, 1) := by decide +kernel
theorem dX5_of_10 : decode cX5_of 10 = .ok (.invokevirtual 68, 3) := by decide +kernel
theorem dX5_of_13 : decode cX5_of 13 = .ok (.ifCond .ne 6, 3) := by decide +kernel
theorem dX5_of_16 : decode cX5_of 16 = .ok (.bipush (-2), 2) := by decide +kernel
theorem dX5_of_18 : decode cX5_of 18 = .ok (.ireturn, 1) := by decide +kernel
theorem dX5_of_19 : decode cX5_of 19 = .ok (.aload_n 0, 1) := by decide +kernel
theorem dX5_of_20 : decode cX5_of 20 = .ok (.getfield 35, 3) := by decide +kernel
theorem dX5_of_23 : decode cX5_of 23 = .ok (.iload_n 1, 1) := by decide +kernel
theorem dX5_of_24 : decode cX5_of 24 = .ok (.invokevirtual 72, 3) := by decide +kernel
theorem dX5_of_27 : decode cX5_of 27 = .ok (.ifCond .ne 13, 3) := by decide +kernel
theorem dX5_of_30 : decode cX5_of 30 = .ok (.new 75, 3) := by decide +kernel
theorem dX5_of_33 : decode cX5_of 33 = .ok (.dup, 1) := by decide +kernel
theorem dX5_of_34 : decode cX5_of 34 = .ok (.ldc 77, 2) := by decide +kernel
theorem dX5_of_36 : decode cX5_of 36 = .ok (.invokespecial 79, 3) := by decide +kernel
theorem dX5_of_39 : decode cX5_of 39 = .ok (.athrow, 1) := by decide +kernel
theorem dX5_of_40 : decode cX5_of 40 = .ok (.aload_n 0, 1) := by decide +kernel
theorem dX5_of_41 : decode cX5_of 41 = .ok (.getfield 35, 3) := by decide +kernel
theorem dX5_of_44 : decode cX5_of 44 = .ok (.iload_n 1, 1) := by decide +kernel
theorem dX5_of_45 : decode cX5_of 45 = .ok (.iload_n 2, 1) := by decide +kernel
theorem dX5_of_46 : decode cX5_of 46 = .ok (.invokevirtual 80, 3) := by decide +kernel
theorem dX5_of_49 : decode cX5_of 49 = .ok (.ireturn, 1) := by decide +kernel
theorem dX5_at_0 : decode cX5_at 0 = .ok (.aload_n 0, 1) := by decide +kernel
theorem dX5_at_1 : decode cX5_at 1 = .ok (.getfield 35, 3) := by decide +kernel
theorem dX5_at_4 : decode cX5_at 4 = .ok (.iload_n 1, 1) := by decide +kernel
theorem dX5_at_5 : decode cX5_at 5 = .ok (.invokevirtual 72, 3) := by decide +kernel
theorem dX5_at_8 : decode cX5_at 8 = .ok (.ifCond .ne 13, 3) := by decide +kernel
theorem dX5_at_11 : decode cX5_at 11 = .ok (.new 75, 3) := by decide +kernel
theorem dX5_at_14 : decode cX5_at 14 = .ok (.dup, 1) := by decide +kernel
theorem dX5_at_15 : decode cX5_at 15 = .ok (.ldc 77, 2) := by decide +kernel
theorem dX5_at_17 : decode cX5_at 17 = .ok (.invokespecial 79, 3) := by decide +kernel
theorem dX5_at_20 : decode cX5_at 20 = .ok (.athrow, 1) := by decide +kernel
theorem dX5_at_21 : decode cX5_at 21 = .ok (.aload_n 0, 1) := by decide +kernel
theorem dX5_at_22 : decode cX5_at 22 = .ok (.getfield 35, 3) := by decide +kernel
theorem dX5_at_25 : decode cX5_at 25 = .ok (.getfield 83, 3) := by decide +kernel
theorem dX5_at_28 : decode cX5_at 28 = .ok (.iload_n 1, 1) := by decide +kernel
theorem dX5_at_29 : decode cX5_at 29 = .ok (.iaload, 1) := by decide +kernel
theorem dX5_at_30 : decode cX5_at 30 = .ok (.istore_n 3, 1) := by decide +kernel
theorem dX5_at_31 : decode cX5_at 31 = .ok (.aload_n 0, 1) := by decide +kernel
theorem dX5_at_32 : decode cX5_at 32 = .ok (.getfield 10, 3) := by decide +kernel
theorem dX5_at_35 : decode cX5_at 35 = .ok (.iload_n 3, 1) := by decide +kernel
theorem dX5_at_36 : decode cX5_at 36 = .ok (.invokevirtual 68, 3) := by decide +kernel
theorem dX5_at_39 : decode cX5_at 39 = .ok (.ifCond .ne 13, 3) := by decide +kernel
theorem dX5_at_42 : decode cX5_at 42 = .ok (.new 87, 3) := by decide +kernel
theorem dX5_at_45 : decode cX5_at 45 = .ok (.dup, 1) := by decide +kernel
theorem dX5_at_46 : decode cX5_at 46 = .ok (.ldc 89, 2) := by decide +kernel
theorem dX5_at_48 : decode cX5_at 48 = .ok (.invokespecial 91, 3) := by decide +kernel
theorem dX5_at_51 : decode cX5_at 51 = .ok (.athrow, 1) := by decide +kernel
theorem dX5_at_52 : decode cX5_at 52 = .ok (.iload_n 2, 1) := by decide +kernel
theorem dX5_at_53 : decode cX5_at 53 = .ok (.ifCond .ne 13, 3) := by decide +kernel
theorem dX5_at_56 : decode cX5_at 56 = .ok (.aload_n 0, 1) := by decide +kernel
theorem dX5_at_57 : decode cX5_at 57 = .ok (.getfield 10, 3) := by decide +kernel
theorem dX5_at_60 : decode cX5_at 60 = .ok (.getfield 92, 3) := by decide +kernel
theorem dX5_at_63 : decode cX5_at 63 = .ok (.iload_n 3, 1) := by decide +kernel
theorem dX5_at_64 : decode cX5_at 64 = .ok (.iaload, 1) := by decide +kernel
theorem dX5_at_65 : decode cX5_at 65 = .ok (.ireturn, 1) := by decide +kernel
theorem dX5_at_66 : decode cX5_at 66 = .ok (.iload_n 2, 1) := by decide +kernel
theorem dX5_at_67 : decode cX5_at 67 = .ok (.iconst 1, 1) := by decide +kernel
theorem dX5_at_68 : decode cX5_at 68 = .ok (.if_icmp .ne 15, 3) := by decide +kernel
theorem dX5_at_71 : decode cX5_at 71 = .ok (.aload_n 0, 1) := by decide +kernel
theorem dX5_at_72 : decode cX5_at 72 = .ok (.getfield 10, 3) := by decide +kernel
theorem dX5_at_75 : decode cX5_at 75 = .ok (.getfield 95, 3) := by decide +kernel
theorem dX5_at_78 : decode cX5_at 78 = .ok (.iload_n 3, 1) := by decide +kernel
theorem dX5_at_79 : decode cX5_at 79 = .ok (.iaload, 1) := by decide +kernel
theorem dX5_at_80 : decode cX5_at 80 = .ok (.goto 4, 3) := by decide +kernel
theorem dX5_at_83 : decode cX5_at 83 = .ok (.iload_n 3, 1) := by decide +kernel
theorem dX5_at_84 : decode cX5_at 84 = .ok (.ireturn, 1) := by decide +kernel
theorem dX5_side_0 : decode cX5_side 0 = .ok (.aload_n 0, 1) := by decide +kernel
theorem dX5_side_1 : decode cX5_side 1 = .ok (.getfield 10, 3) := by decide +kernel
theorem dX5_side_4 : decode cX5_side 4 = .ok (.iload_n 1, 1) := by decide +kernel
theorem dX5_side_5 : decode cX5_side 5 = .ok (.iload_n 2, 1) := by decide +kernel
theorem dX5_side_6 : decode cX5_side 6 = .ok (.iload_n 3, 1) := by decide +kernel
theorem dX5_side_7 : decode cX5_side 7 = .ok (.invokevirtual 98, 3) := by decide +kernel
theorem dX5_side_10 : decode cX5_side 10 = .ok (.ifCond .ne 6, 3) := by decide +kernel
theorem dX5_side_13 : decode cX5_side 13 = .ok (.bipush (-2), 2) := by decide +kernel
theorem dX5_side_15 : decode cX5_side 15 = .ok (.ireturn, 1) := by decide +kernel
theorem dX5_side_16 : decode cX5_side 16 = .ok (.aload_n 0, 1) := by decide +kernel
theorem dX5_side_17 : decode cX5_side 17 = .ok (.getfield 10, 3) := by decide +kernel
theorem dX5_side_20 : decode cX5_side 20 = .ok (.iload_n 1, 1) := by decide +kernel
theorem dX5_side_21 : decode cX5_side 21 = .ok (.iload_n 2, 1) := by decide +kernel
theorem dX5_side_22 : decode cX5_side 22 = .ok (.invokevirtual 102, 3) := by decide +kernel
theorem dX5_side_25 : decode cX5_side 25 = .ok (.ifCond .eq 6, 3) := by decide +kernel
theorem dX5_side_28 : decode cX5_side 28 = .ok (.bipush (-4), 2) := by decide +kernel
theorem dX5_side_30 : decode cX5_side 30 = .ok (.ireturn, 1) := by decide +kernel
theorem dX5_side_31 : decode cX5_side 31 = .ok (.aload_n 0, 1) := by decide +kernel
theorem dX5_side_32 : decode cX5_side 32 = .ok (.getfield 21, 3) := by decide +kernel
theorem dX5_side_35 : decode cX5_side 35 = .ok (.aload_n 0, 1) := by decide +kernel
theorem dX5_side_36 : decode cX5_side 36 = .ok (.getfield 21, 3) := by decide +kernel
theorem dX5_side_39 : decode cX5_side 39 = .ok (.iload_n 1, 1) := by decide +kernel
theorem dX5_side_40 : decode cX5_side 40 = .ok (.iload_n 2, 1) := by decide +kernel
theorem dX5_side_41 : decode cX5_side 41 = .ok (.iload_n 3, 1) := by decide +kernel
theorem dX5_side_42 : decode cX5_side 42 = .ok (.invokevirtual 106, 3) := by decide +kernel
theorem dX5_side_45 : decode cX5_side 45 = .ok (.aload_n 0, 1) := by decide +kernel
theorem dX5_side_46 : decode cX5_side 46 = .ok (.getfield 10, 3) := by decide +kernel
theorem dX5_side_49 : decode cX5_side 49 = .ok (.iload_n 1, 1) := by decide +kernel
theorem dX5_side_50 : decode cX5_side 50 = .ok (.iload_n 2, 1) := by decide +kernel
theorem dX5_side_51 : decode cX5_side 51 = .ok (.iload_n 3, 1) := by decide +kernel
theorem dX5_side_52 : decode cX5_side 52 = .ok (.invokevirtual 109, 3) := by decide +kernel
theorem dX5_side_55 : decode cX5_side 55 = .ok (.invokevirtual 113, 3) := by decide +kernel
theorem dX5_side_58 : decode cX5_side 58 = .ok (.ireturn, 1) := by decide +kernel
theorem dX5_circle_0 : decode cX5_circle 0 = .ok (.aload_n 0, 1) := by decide +kernel
theorem dX5_circle_1 : decode cX5_circle 1 = .ok (.getfield 10, 3) := by decide +kernel
theorem dX5_circle_4 : decode cX5_circle 4 = .ok (.iload_n 1, 1) := by decide +kernel
theorem dX5_circle_5 : decode cX5_circle 5 = .ok (.iload_n 2, 1) := by decide +kernel
theorem dX5_circle_6 : decode cX5_circle 6 = .ok (.iload_n 3, 1) := by decide +kernel
theorem dX5_circle_7 : decode cX5_circle 7 = .ok (.invokevirtual 98, 3) := by decide +kernel
theorem dX5_circle_10 : decode cX5_circle 10 = .ok (.ifCond .eq 15, 3) := by decide +kernel
theorem dX5_circle_13 : decode cX5_circle 13 = .ok (.aload_n 0, 1) := by decide +kernel
theorem dX5_circle_14 : decode cX5_circle 14 = .ok (.getfield 10, 3) := by decide +kernel
theorem dX5_circle_17 : decode cX5_circle 17 = .ok (.iload 4, 2) := by decide +kernel
theorem dX5_circle_19 : decode cX5_circle 19 = .ok (.invokevirtual 68, 3) := by decide +kernel
theorem dX5_circle_22 : decode cX5_circle 22 = .ok (.ifCond .ne 6, 3) := by decide +kernel
theorem dX5_circle_25 : decode cX5_circle 25 = .ok (.bipush (-2), 2) := by decide +kernel
theorem dX5_circle_27 : decode cX5_circle 27 = .ok (.ireturn, 1) := by decide +kernel
theorem dX5_circle_28 : decode cX5_circle 28 = .ok (.aload_n 0, 1) := by decide +kernel
theorem dX5_circle_29 : decode cX5_circle 29 = .ok (.getfield 10, 3) := by decide +kernel
theorem dX5_circle_32 : decode cX5_circle 32 = .ok (.iload_n 1, 1) := by decide +kernel
theorem dX5_circle_33 : decode cX5_circle 33 = .ok (.iload_n 2, 1) := by decide +kernel
theorem dX5_circle_34 : decode cX5_circle 34 = .ok (.iload_n 3, 1) := by decide +kernel
theorem dX5_circle_35 : decode cX5_circle 35 = .ok (.invokevirtual 109, 3) := by decide +kernel
theorem dX5_circle_38 : decode cX5_circle 38 = .ok (.ifCond .ne 6, 3) := by decide +kernel
theorem dX5_circle_41 : decode cX5_circle 41 = .ok (.bipush (-4), 2) := by decide +kernel
theorem dX5_circle_43 : decode cX5_circle 43 = .ok (.ireturn, 1) := by decide +kernel
theorem dX5_circle_44 : decode cX5_circle 44 = .ok (.aload_n 0, 1) := by decide +kernel
theorem dX5_circle_45 : decode cX5_circle 45 = .ok (.getfield 21, 3) := by decide +kernel
theorem dX5_circle_48 : decode cX5_circle 48 = .ok (.aload_n 0, 1) := by decide +kernel
theorem dX5_circle_49 : decode cX5_circle 49 = .ok (.getfield 21, 3) := by decide +kernel
theorem dX5_circle_52 : decode cX5_circle 52 = .ok (.iload_n 1, 1) := by decide +kernel
theorem dX5_circle_53 : decode cX5_circle 53 = .ok (.iload_n 2, 1) := by decide +kernel
theorem dX5_circle_54 : decode cX5_circle 54 = .ok (.iload_n 3, 1) := by decide +kernel
theorem dX5_circle_55 : decode cX5_circle 55 = .ok (.iload 4, 2) := by decide +kernel
theorem dX5_circle_57 : decode cX5_circle 57 = .ok (.invokevirtual 117, 3) := by decide +kernel
theorem dX5_circle_60 : decode cX5_circle 60 = .ok (.aload_n 0, 1) := by decide +kernel
theorem dX5_circle_61 : decode cX5_circle 61 = .ok (.getfield 10, 3) := by decide +kernel
theorem dX5_circle_64 : decode cX5_circle 64 = .ok (.iload_n 1, 1) := by decide +kernel
theorem dX5_circle_65 : decode cX5_circle 65 = .ok (.iload_n 2, 1) := by decide +kernel
theorem dX5_circle_66 : decode cX5_circle 66 = .ok (.iload_n 3, 1) := by decide +kernel
theorem dX5_circle_67 : decode cX5_circle 67 = .ok (.iload 4, 2) := by decide +kernel
theorem dX5_circle_69 : decode cX5_circle 69 = .ok (.invokevirtual 121, 3) := by decide +kernel
theorem dX5_circle_72 : decode cX5_circle 72 = .ok (.invokevirtual 113, 3) := by decide +kernel
theorem dX5_circle_75 : decode cX5_circle 75 = .ok (.ireturn, 1) := by decide +kernel
theorem dX5_filter_0 : decode cX5_filter 0 = .ok (.aload_n 0, 1) := by decide +kernel
theorem dX5_filter_1 : decode cX5_filter 1 = .ok (.getfield 21, 3) := by decide +kernel
theorem dX5_filter_4 : decode cX5_filter 4 = .ok (.getfield 125, 3) := by decide +kernel
theorem dX5_filter_7 : decode cX5_filter 7 = .ok (.ifCond .eq 7, 3) := by decide +kernel
theorem dX5_filter_10 : decode cX5_filter 10 = .ok (.iconst 1, 1) := by decide +kernel
theorem dX5_filter_11 : decode cX5_filter 11 = .ok (.goto 4, 3) := by decide +kernel
theorem dX5_filter_14 : decode cX5_filter 14 = .ok (.iconst 0, 1) := by decide +kernel
theorem dX5_filter_15 : decode cX5_filter 15 = .ok (.istore_n 2, 1) := by decide +kernel
theorem dX5_filter_16 : decode cX5_filter 16 = .ok (.aload_n 0, 1) := by decide +kernel
theorem dX5_filter_17 : decode cX5_filter 17 = .ok (.getfield 21, 3) := by decide +kernel
theorem dX5_filter_20 : decode cX5_filter 20 = .ok (.iload_n 1, 1) := by decide +kernel
theorem dX5_filter_21 : decode cX5_filter 21 = .ok (.putfield 125, 3) := by decide +kernel
theorem dX5_filter_24 : decode cX5_filter 24 = .ok (.iload_n 2, 1) := by decide +kernel
theorem dX5_filter_25 : decode cX5_filter 25 = .ok (.ireturn, 1) := by decide +kernel
theorem dX5_decided_0 : decode cX5_decided 0 = .ok (.iload_n 1, 1) := by decide +kernel
theorem dX5_decided_1 : decode cX5_decided 1 = .ok (.tableswitch 51 0 2 #[27, 35, 43], 27) := by decide +kernel
theorem dX5_decided_28 : decode cX5_decided 28 = .ok (.aload_n 0, 1) := by decide +kernel
theorem dX5_decided_29 : decode cX5_decided 29 = .ok (.getfield 21, 3) := by decide +kernel
theorem dX5_decided_32 : decode cX5_decided 32 = .ok (.getfield 129, 3) := by decide +kernel
theorem dX5_decided_35 : decode cX5_decided 35 = .ok (.ireturn, 1) := by decide +kernel
theorem dX5_decided_36 : decode cX5_decided 36 = .ok (.aload_n 0, 1) := by decide +kernel
theorem dX5_decided_37 : decode cX5_decided 37 = .ok (.getfield 21, 3) := by decide +kernel
theorem dX5_decided_40 : decode cX5_decided 40 = .ok (.getfield 133, 3) := by decide +kernel
theorem dX5_decided_43 : decode cX5_decided 43 = .ok (.ireturn, 1) := by decide +kernel
theorem dX5_decided_44 : decode cX5_decided 44 = .ok (.aload_n 0, 1) := by decide +kernel
theorem dX5_decided_45 : decode cX5_decided 45 = .ok (.getfield 21, 3) := by decide +kernel
theorem dX5_decided_48 : decode cX5_decided 48 = .ok (.getfield 136, 3) := by decide +kernel
theorem dX5_decided_51 : decode cX5_decided 51 = .ok (.ireturn, 1) := by decide +kernel
theorem dX5_decided_52 : decode cX5_decided 52 = .ok (.bipush (-2), 2) := by decide +kernel
theorem dX5_decided_54 : decode cX5_decided 54 = .ok (.ireturn, 1) := by decide +kernel
theorem dX5_between_0 : decode cX5_between 0 = .ok (.aload_n 0, 1) := by decide +kernel
theorem dX5_between_1 : decode cX5_between 1 = .ok (.getfield 10, 3) := by decide +kernel
theorem dX5_between_4 : decode cX5_between 4 = .ok (.iload_n 1, 1) := by decide +kernel
theorem dX5_between_5 : decode cX5_between 5 = .ok (.iload_n 2, 1) := by decide +kernel
theorem dX5_between_6 : decode cX5_between 6 = .ok (.iload_n 3, 1) := by decide +kernel
theorem dX5_between_7 : decode cX5_between 7 = .ok (.invokevirtual 98, 3) := by decide +kernel
theorem dX5_between_10 : decode cX5_between 10 = .ok (.ifCond .eq 16, 3) := by decide +kernel
theorem dX5_between_13 : decode cX5_between 13 = .ok (.aload_n 0, 1) := by decide +kernel
theorem dX5_between_14 : decode cX5_between 14 = .ok (.getfield 28, 3) := by decide +kernel
theorem dX5_between_17 : decode cX5_between 17 = .ok (.iload_n 1, 1) := by decide +kernel
theorem dX5_between_18 : decode cX5_between 18 = .ok (.iload_n 2, 1) := by decide +kernel
theorem dX5_between_19 : decode cX5_between 19 = .ok (.iload_n 3, 1) := by decide +kernel
theorem dX5_between_20 : decode cX5_between 20 = .ok (.invokevirtual 139, 3) := by decide +kernel
theorem dX5_between_23 : decode cX5_between 23 = .ok (.goto 5, 3) := by decide +kernel
theorem dX5_between_26 : decode cX5_between 26 = .ok (.bipush (-2), 2) := by decide +kernel
theorem dX5_between_28 : decode cX5_between 28 = .ok (.ireturn, 1) := by decide +kernel
theorem dX5_inside_0 : decode cX5_inside 0 = .ok (.aload_n 0, 1) := by decide +kernel
theorem dX5_inside_1 : decode cX5_inside 1 = .ok (.getfield 10, 3) := by decide +kernel
theorem dX5_inside_4 : decode cX5_inside 4 = .ok (.iload_n 1, 1) := by decide +kernel
theorem dX5_inside_5 : decode cX5_inside 5 = .ok (.iload_n 2, 1) := by decide +kernel
theorem dX5_inside_6 : decode cX5_inside 6 = .ok (.iload_n 3, 1) := by decide +kernel
theorem dX5_inside_7 : decode cX5_inside 7 = .ok (.invokevirtual 98, 3) := by decide +kernel
theorem dX5_inside_10 : decode cX5_inside 10 = .ok (.ifCond .eq 15, 3) := by decide +kernel
theorem dX5_inside_13 : decode cX5_inside 13 = .ok (.aload_n 0, 1) := by decide +kernel
theorem dX5_inside_14 : decode cX5_inside 14 = .ok (.getfield 10, 3) := by decide +kernel
theorem dX5_inside_17 : decode cX5_inside 17 = .ok (.iload 4, 2) := by decide +kernel
theorem dX5_inside_19 : decode cX5_inside 19 = .ok (.invokevirtual 68, 3) := by decide +kernel
theorem dX5_inside_22 : decode cX5_inside 22 = .ok (.ifCond .ne 6, 3) := by decide +kernel
theorem dX5_inside_25 : decode cX5_inside 25 = .ok (.bipush (-2), 2) := by decide +kernel
theorem dX5_inside_27 : decode cX5_inside 27 = .ok (.ireturn, 1) := by decide +kernel
theorem dX5_inside_28 : decode cX5_inside 28 = .ok (.aload_n 0, 1) := by decide +kernel
theorem dX5_inside_29 : decode cX5_inside 29 = .ok (.getfield 10, 3) := by decide +kernel
theorem dX5_inside_32 : decode cX5_inside 32 = .ok (.iload_n 1, 1) := by decide +kernel
theorem dX5_inside_33 : decode cX5_inside 33 = .ok (.iload_n 2, 1) := by decide +kernel
theorem dX5_inside_34 : decode cX5_inside 34 = .ok (.invokevirtual 102, 3) := by decide +kernel
theorem dX5_inside_37 : decode cX5_inside 37 = .ok (.ifCond .ne 15, 3) := by decide +kernel
theorem dX5_inside_40 : decode cX5_inside 40 = .ok (.aload_n 0, 1) := by decide +kernel
theorem dX5_inside_41 : decode cX5_inside 41 = .ok (.getfield 10, 3) := by decide +kernel
theorem dX5_inside_44 : decode cX5_inside 44 = .ok (.iload_n 1, 1) := by decide +kernel
theorem dX5_inside_45 : decode cX5_inside 45 = .ok (.iload_n 3, 1) := by decide +kernel
theorem dX5_inside_46 : decode cX5_inside 46 = .ok (.invokevirtual 102, 3) := by decide +kernel
theorem dX5_inside_49 : decode cX5_inside 49 = .ok (.ifCond .eq 6, 3) := by decide +kernel
theorem dX5_inside_52 : decode cX5_inside 52 = .ok (.bipush (-4), 2) := by decide +kernel
theorem dX5_inside_54 : decode cX5_inside 54 = .ok (.ireturn, 1) := by decide +kernel
theorem dX5_inside_55 : decode cX5_inside 55 = .ok (.aload_n 0, 1) := by decide +kernel
theorem dX5_inside_56 : decode cX5_inside 56 = .ok (.getfield 28, 3) := by decide +kernel
theorem dX5_inside_59 : decode cX5_inside 59 = .ok (.iload_n 1, 1) := by decide +kernel
theorem dX5_inside_60 : decode cX5_inside 60 = .ok (.iload_n 2, 1) := by decide +kernel
theorem dX5_inside_61 : decode cX5_inside 61 = .ok (.iload_n 3, 1) := by decide +kernel
theorem dX5_inside_62 : decode cX5_inside 62 = .ok (.iload 4, 2) := by decide +kernel
theorem dX5_inside_64 : decode cX5_inside 64 = .ok (.invokevirtual 142, 3) := by decide +kernel
theorem dX5_inside_67 : decode cX5_inside 67 = .ok (.ireturn, 1) := by decide +kernel
theorem dX5_cross_0 : decode cX5_cross 0 = .ok (.aload_n 0, 1) := by decide +kernel
theorem dX5_cross_1 : decode cX5_cross 1 = .ok (.getfield 10, 3) := by decide +kernel
theorem dX5_cross_4 : decode cX5_cross 4 = .ok (.iload_n 1, 1) := by decide +kernel
theorem dX5_cross_5 : decode cX5_cross 5 = .ok (.iload_n 2, 1) := by decide +kernel
theorem dX5_cross_6 : decode cX5_cross 6 = .ok (.iload_n 3, 1) := by decide +kernel
theorem dX5_cross_7 : decode cX5_cross 7 = .ok (.invokevirtual 98, 3) := by decide +kernel
theorem dX5_cross_10 : decode cX5_cross 10 = .ok (.ifCond .eq 15, 3) := by decide +kernel
theorem dX5_cross_13 : decode cX5_cross 13 = .ok (.aload_n 0, 1) := by decide +kernel
theorem dX5_cross_14 : decode cX5_cross 14 = .ok (.getfield 10, 3) := by decide +kernel
theorem dX5_cross_17 : decode cX5_cross 17 = .ok (.iload 4, 2) := by decide +kernel
theorem dX5_cross_19 : decode cX5_cross 19 = .ok (.invokevirtual 68, 3) := by decide +kernel
theorem dX5_cross_22 : decode cX5_cross 22 = .ok (.ifCond .ne 6, 3) := by decide +kernel
theorem dX5_cross_25 : decode cX5_cross 25 = .ok (.bipush (-2), 2) := by decide +kernel
theorem dX5_cross_27 : decode cX5_cross 27 = .ok (.ireturn, 1) := by decide +kernel
theorem dX5_cross_28 : decode cX5_cross 28 = .ok (.aload_n 0, 1) := by decide +kernel
theorem dX5_cross_29 : decode cX5_cross 29 = .ok (.getfield 28, 3) := by decide +kernel
theorem dX5_cross_32 : decode cX5_cross 32 = .ok (.iload_n 1, 1) := by decide +kernel
theorem dX5_cross_33 : decode cX5_cross 33 = .ok (.iload_n 2, 1) := by decide +kernel
theorem dX5_cross_34 : decode cX5_cross 34 = .ok (.iload_n 3, 1) := by decide +kernel
theorem dX5_cross_35 : decode cX5_cross 35 = .ok (.iload 4, 2) := by decide +kernel
theorem dX5_cross_37 : decode cX5_cross 37 = .ok (.invokevirtual 145, 3) := by decide +kernel
theorem dX5_cross_40 : decode cX5_cross 40 = .ok (.ireturn, 1) := by decide +kernel
theorem dX5_separated_0 : decode cX5_separated 0 = .ok (.aload_n 0, 1) := by decide +kernel
theorem dX5_separated_1 : decode cX5_separated 1 = .ok (.getfield 10, 3) := by decide +kernel
theorem dX5_separated_4 : decode cX5_separated 4 = .ok (.iload_n 1, 1) := by decide +kernel
theorem dX5_separated_5 : decode cX5_separated 5 = .ok (.iload_n 2, 1) := by decide +kernel
theorem dX5_separated_6 : decode cX5_separated 6 = .ok (.iload_n 3, 1) := by decide +kernel
theorem dX5_separated_7 : decode cX5_separated 7 = .ok (.invokevirtual 98, 3) := by decide +kernel
theorem dX5_separated_10 : decode cX5_separated 10 = .ok (.ifCond .eq 15, 3) := by decide +kernel
theorem dX5_separated_13 : decode cX5_separated 13 = .ok (.aload_n 0, 1) := by decide +kernel
theorem dX5_separated_14 : decode cX5_separated 14 = .ok (.getfield 10, 3) := by decide +kernel
theorem dX5_separated_17 : decode cX5_separated 17 = .ok (.iload 4, 2) := by decide +kernel
theorem dX5_separated_19 : decode cX5_separated 19 = .ok (.invokevirtual 68, 3) := by decide +kernel
theorem dX5_separated_22 : decode cX5_separated 22 = .ok (.ifCond .ne 6, 3) := by decide +kernel
theorem dX5_separated_25 : decode cX5_separated 25 = .ok (.bipush (-2), 2) := by decide +kernel
theorem dX5_separated_27 : decode cX5_separated 27 = .ok (.ireturn, 1) := by decide +kernel
theorem dX5_separated_28 : decode cX5_separated 28 = .ok (.aload_n 0, 1) := by decide +kernel
theorem dX5_separated_29 : decode cX5_separated 29 = .ok (.getfield 28, 3) := by decide +kernel
theorem dX5_separated_32 : decode cX5_separated 32 = .ok (.iload_n 1, 1) := by decide +kernel
theorem dX5_separated_33 : decode cX5_separated 33 = .ok (.iload_n 2, 1) := by decide +kernel
theorem dX5_separated_34 : decode cX5_separated 34 = .ok (.iload_n 3, 1) := by decide +kernel
theorem dX5_separated_35 : decode cX5_separated 35 = .ok (.iload 4, 2) := by decide +kernel
theorem dX5_separated_37 : decode cX5_separated 37 = .ok (.invokevirtual 148, 3) := by decide +kernel
theorem dX5_separated_40 : decode cX5_separated 40 = .ok (.ireturn, 1) := by decide +kernel
theorem dX5_convex_0 : decode cX5_convex 0 = .ok (.aload_n 0, 1) := by decide +kernel
theorem dX5_convex_1 : decode cX5_convex 1 = .ok (.getfield 35, 3) := by decide +kernel
theorem dX5_convex_4 : decode cX5_convex 4 = .ok (.iload_n 1, 1) := by decide +kernel
theorem dX5_convex_5 : decode cX5_convex 5 = .ok (.iconst 3, 1) := by decide +kernel
theorem dX5_convex_6 : decode cX5_convex 6 = .ok (.invokevirtual 151, 3) := by decide +kernel
theorem dX5_convex_9 : decode cX5_convex 9 = .ok (.istore_n 2, 1) := by decide +kernel
theorem dX5_convex_10 : decode cX5_convex 10 = .ok (.iload_n 2, 1) := by decide +kernel
theorem dX5_convex_11 : decode cX5_convex 11 = .ok (.ifCond .ne 14, 3) := by decide +kernel
theorem dX5_convex_14 : decode cX5_convex 14 = .ok (.aload_n 0, 1) := by decide +kernel
theorem dX5_convex_15 : decode cX5_convex 15 = .ok (.getfield 35, 3) := by decide +kernel
theorem dX5_convex_18 : decode cX5_convex 18 = .ok (.iload_n 1, 1) := by decide +kernel
theorem dX5_convex_19 : decode cX5_convex 19 = .ok (.invokevirtual 154, 3) := by decide +kernel
theorem dX5_convex_22 : decode cX5_convex 22 = .ok (.goto 4, 3) := by decide +kernel
theorem dX5_convex_25 : decode cX5_convex 25 = .ok (.iload_n 2, 1) := by decide +kernel
theorem dX5_convex_26 : decode cX5_convex 26 = .ok (.ireturn, 1) := by decide +kernel
theorem dX5_polygon_0 : decode cX5_polygon 0 = .ok (.aload_n 0, 1) := by decide +kernel
theorem dX5_polygon_1 : decode cX5_polygon 1 = .ok (.getfield 10, 3) := by decide +kernel
theorem dX5_polygon_4 : decode cX5_polygon 4 = .ok (.iload_n 2, 1) := by decide +kernel
theorem dX5_polygon_5 : decode cX5_polygon 5 = .ok (.invokevirtual 68, 3) := by decide +kernel
theorem dX5_polygon_8 : decode cX5_polygon 8 = .ok (.ifCond .eq 15, 3) := by decide +kernel
theorem dX5_polygon_11 : decode cX5_polygon 11 = .ok (.aload_n 0, 1) := by decide +kernel
theorem dX5_polygon_12 : decode cX5_polygon 12 = .ok (.getfield 35, 3) := by decide +kernel
theorem dX5_polygon_15 : decode cX5_polygon 15 = .ok (.iload_n 1, 1) := by decide +kernel
theorem dX5_polygon_16 : decode cX5_polygon 16 = .ok (.iconst 1, 1) := by decide +kernel
theorem dX5_polygon_17 : decode cX5_polygon 17 = .ok (.invokevirtual 151, 3) := by decide +kernel
theorem dX5_polygon_20 : decode cX5_polygon 20 = .ok (.goto 5, 3) := by decide +kernel
theorem dX5_polygon_23 : decode cX5_polygon 23 = .ok (.bipush (-2), 2) := by decide +kernel
theorem dX5_polygon_25 : decode cX5_polygon 25 = .ok (.istore_n 3, 1) := by decide +kernel
theorem dX5_polygon_26 : decode cX5_polygon 26 = .ok (.iload_n 3, 1) := by decide +kernel
theorem dX5_polygon_27 : decode cX5_polygon 27 = .ok (.ifCond .eq 5, 3) := by decide +kernel
theorem dX5_polygon_30 : decode cX5_polygon 30 = .ok (.iload_n 3, 1) := by decide +kernel
theorem dX5_polygon_31 : decode cX5_polygon 31 = .ok (.ireturn, 1) := by decide +kernel
theorem dX5_polygon_32 : decode cX5_polygon 32 = .ok (.aload_n 0, 1) := by decide +kernel
theorem dX5_polygon_33 : decode cX5_polygon 33 = .ok (.getfield 35, 3) := by decide +kernel
theorem dX5_polygon_36 : decode cX5_polygon 36 = .ok (.iload_n 1, 1) := by decide +kernel
theorem dX5_polygon_37 : decode cX5_polygon 37 = .ok (.iload_n 2, 1) := by decide +kernel
theorem dX5_polygon_38 : decode cX5_polygon 38 = .ok (.invokevirtual 157, 3) := by decide +kernel
theorem dX5_polygon_41 : decode cX5_polygon 41 = .ok (.ifCond .eq 5, 3) := by decide +kernel
theorem dX5_polygon_44 : decode cX5_polygon 44 = .ok (.iconst 2, 1) := by decide +kernel
theorem dX5_polygon_45 : decode cX5_polygon 45 = .ok (.ireturn, 1) := by decide +kernel
theorem dX5_polygon_46 : decode cX5_polygon 46 = .ok (.aload_n 0, 1) := by decide +kernel
theorem dX5_polygon_47 : decode cX5_polygon 47 = .ok (.getfield 35, 3) := by decide +kernel
theorem dX5_polygon_50 : decode cX5_polygon 50 = .ok (.iload_n 1, 1) := by decide +kernel
theorem dX5_polygon_51 : decode cX5_polygon 51 = .ok (.iload_n 2, 1) := by decide +kernel
theorem dX5_polygon_52 : decode cX5_polygon 52 = .ok (.invokevirtual 160, 3) := by decide +kernel
theorem dX5_polygon_55 : decode cX5_polygon 55 = .ok (.aload_n 0, 1) := by decide +kernel
theorem dX5_polygon_56 : decode cX5_polygon 56 = .ok (.getfield 35, 3) := by decide +kernel
theorem dX5_polygon_59 : decode cX5_polygon 59 = .ok (.iload_n 1, 1) := by decide +kernel
theorem dX5_polygon_60 : decode cX5_polygon 60 = .ok (.iload_n 2, 1) := by decide +kernel
theorem dX5_polygon_61 : decode cX5_polygon 61 = .ok (.invokevirtual 163, 3) := by decide +kernel
theorem dX5_polygon_64 : decode cX5_polygon 64 = .ok (.iadd, 1) := by decide +kernel
theorem dX5_polygon_65 : decode cX5_polygon 65 = .ok (.iconst 2, 1) := by decide +kernel
theorem dX5_polygon_66 : decode cX5_polygon 66 = .ok (.irem, 1) := by decide +kernel
theorem dX5_polygon_67 : decode cX5_polygon 67 = .ok (.ireturn, 1) := by decide +kernel
theorem dX5_winding_0 : decode cX5_winding 0 = .ok (.aload_n 0, 1) := by decide +kernel
theorem dX5_winding_1 : decode cX5_winding 1 = .ok (.getfield 10, 3) := by decide +kernel
theorem dX5_winding_4 : decode cX5_winding 4 = .ok (.iload_n 2, 1) := by decide +kernel
theorem dX5_winding_5 : decode cX5_winding 5 = .ok (.invokevirtual 68, 3) := by decide +kernel
theorem dX5_winding_8 : decode cX5_winding 8 = .ok (.ifCond .eq 15, 3) := by decide +kernel
theorem dX5_winding_11 : decode cX5_winding 11 = .ok (.aload_n 0, 1) := by decide +kernel
theorem dX5_winding_12 : decode cX5_winding 12 = .ok (.getfield 35, 3) := by decide +kernel
theorem dX5_winding_15 : decode cX5_winding 15 = .ok (.iload_n 1, 1) := by decide +kernel
theorem dX5_winding_16 : decode cX5_winding 16 = .ok (.iconst 1, 1) := by decide +kernel
theorem dX5_winding_17 : decode cX5_winding 17 = .ok (.invokevirtual 151, 3) := by decide +kernel
theorem dX5_winding_20 : decode cX5_winding 20 = .ok (.ifCond .eq 6, 3) := by decide +kernel
theorem dX5_winding_23 : decode cX5_winding 23 = .ok (.bipush (-100), 2) := by decide +kernel
theorem dX5_winding_25 : decode cX5_winding 25 = .ok (.ireturn, 1) := by decide +kernel
theorem dX5_winding_26 : decode cX5_winding 26 = .ok (.aload_n 0, 1) := by decide +kernel
theorem dX5_winding_27 : decode cX5_winding 27 = .ok (.getfield 35, 3) := by decide +kernel
theorem dX5_winding_30 : decode cX5_winding 30 = .ok (.iload_n 1, 1) := by decide +kernel
theorem dX5_winding_31 : decode cX5_winding 31 = .ok (.iload_n 2, 1) := by decide +kernel
theorem dX5_winding_32 : decode cX5_winding 32 = .ok (.invokevirtual 157, 3) := by decide +kernel
theorem dX5_winding_35 : decode cX5_winding 35 = .ok (.ifCond .eq 6, 3) := by decide +kernel
theorem dX5_winding_38 : decode cX5_winding 38 = .ok (.bipush 100, 2) := by decide +kernel
theorem dX5_winding_40 : decode cX5_winding 40 = .ok (.ireturn, 1) := by decide +kernel
theorem dX5_winding_41 : decode cX5_winding 41 = .ok (.aload_n 0, 1) := by decide +kernel
theorem dX5_winding_42 : decode cX5_winding 42 = .ok (.getfield 35, 3) := by decide +kernel
theorem dX5_winding_45 : decode cX5_winding 45 = .ok (.iload_n 1, 1) := by decide +kernel
theorem dX5_winding_46 : decode cX5_winding 46 = .ok (.iload_n 2, 1) := by decide +kernel
theorem dX5_winding_47 : decode cX5_winding 47 = .ok (.invokevirtual 160, 3) := by decide +kernel
theorem dX5_winding_50 : decode cX5_winding 50 = .ok (.aload_n 0, 1) := by decide +kernel
theorem dX5_winding_51 : decode cX5_winding 51 = .ok (.getfield 35, 3) := by decide +kernel
theorem dX5_winding_54 : decode cX5_winding 54 = .ok (.iload_n 1, 1) := by decide +kernel
theorem dX5_winding_55 : decode cX5_winding 55 = .ok (.iload_n 2, 1) := by decide +kernel
theorem dX5_winding_56 : decode cX5_winding 56 = .ok (.invokevirtual 163, 3) := by decide +kernel
theorem dX5_winding_59 : decode cX5_winding 59 = .ok (.isub, 1) := by decide +kernel
theorem dX5_winding_60 : decode cX5_winding 60 = .ok (.ireturn, 1) := by decide +kernel
theorem dX5_nearest_0 : decode cX5_nearest 0 = .ok (.aload_n 0, 1) := by decide +kernel
theorem dX5_nearest_1 : decode cX5_nearest 1 = .ok (.getfield 10, 3) := by decide +kernel
theorem dX5_nearest_4 : decode cX5_nearest 4 = .ok (.iload_n 1, 1) := by decide +kernel
theorem dX5_nearest_5 : decode cX5_nearest 5 = .ok (.invokevirtual 68, 3) := by decide +kernel
theorem dX5_nearest_8 : decode cX5_nearest 8 = .ok (.ifCond .eq 15, 3) := by decide +kernel
theorem dX5_nearest_11 : decode cX5_nearest 11 = .ok (.aload_n 0, 1) := by decide +kernel
theorem dX5_nearest_12 : decode cX5_nearest 12 = .ok (.getfield 35, 3) := by decide +kernel
theorem dX5_nearest_15 : decode cX5_nearest 15 = .ok (.iload_n 2, 1) := by decide +kernel
theorem dX5_nearest_16 : decode cX5_nearest 16 = .ok (.iconst 1, 1) := by decide +kernel
theorem dX5_nearest_17 : decode cX5_nearest 17 = .ok (.invokevirtual 151, 3) := by decide +kernel
theorem dX5_nearest_20 : decode cX5_nearest 20 = .ok (.goto 5, 3) := by decide +kernel
theorem dX5_nearest_23 : decode cX5_nearest 23 = .ok (.bipush (-2), 2) := by decide +kernel
theorem dX5_nearest_25 : decode cX5_nearest 25 = .ok (.istore_n 3, 1) := by decide +kernel
theorem dX5_nearest_26 : decode cX5_nearest 26 = .ok (.iload_n 3, 1) := by decide +kernel
theorem dX5_nearest_27 : decode cX5_nearest 27 = .ok (.ifCond .ne 15, 3) := by decide +kernel
theorem dX5_nearest_30 : decode cX5_nearest 30 = .ok (.aload_n 0, 1) := by decide +kernel
theorem dX5_nearest_31 : decode cX5_nearest 31 = .ok (.getfield 35, 3) := by decide +kernel
theorem dX5_nearest_34 : decode cX5_nearest 34 = .ok (.iload_n 1, 1) := by decide +kernel
theorem dX5_nearest_35 : decode cX5_nearest 35 = .ok (.iload_n 2, 1) := by decide +kernel
theorem dX5_nearest_36 : decode cX5_nearest 36 = .ok (.invokevirtual 166, 3) := by decide +kernel
theorem dX5_nearest_39 : decode cX5_nearest 39 = .ok (.goto 4, 3) := by decide +kernel
theorem dX5_nearest_42 : decode cX5_nearest 42 = .ok (.iload_n 3, 1) := by decide +kernel
theorem dX5_nearest_43 : decode cX5_nearest 43 = .ok (.ireturn, 1) := by decide +kernel
theorem dX5_around_0 : decode cX5_around 0 = .ok (.aload_n 0, 1) := by decide +kernel
theorem dX5_around_1 : decode cX5_around 1 = .ok (.getfield 10, 3) := by decide +kernel
theorem dX5_around_4 : decode cX5_around 4 = .ok (.iload_n 1, 1) := by decide +kernel
theorem dX5_around_5 : decode cX5_around 5 = .ok (.invokevirtual 68, 3) := by decide +kernel
theorem dX5_around_8 : decode cX5_around 8 = .ok (.ifCond .eq 24, 3) := by decide +kernel
theorem dX5_around_11 : decode cX5_around 11 = .ok (.iload_n 3, 1) := by decide +kernel
theorem dX5_around_12 : decode cX5_around 12 = .ok (.ifCond .lt 20, 3) := by decide +kernel
theorem dX5_around_15 : decode cX5_around 15 = .ok (.iload_n 3, 1) := by decide +kernel
theorem dX5_around_16 : decode cX5_around 16 = .ok (.iload_n 2, 1) := by decide +kernel
theorem dX5_around_17 : decode cX5_around 17 = .ok (.if_icmp .ge 15, 3) := by decide +kernel
theorem dX5_around_20 : decode cX5_around 20 = .ok (.aload_n 0, 1) := by decide +kernel
theorem dX5_around_21 : decode cX5_around 21 = .ok (.getfield 35, 3) := by decide +kernel
theorem dX5_around_24 : decode cX5_around 24 = .ok (.iload_n 2, 1) := by decide +kernel
theorem dX5_around_25 : decode cX5_around 25 = .ok (.iconst 1, 1) := by decide +kernel
theorem dX5_around_26 : decode cX5_around 26 = .ok (.invokevirtual 151, 3) := by decide +kernel
theorem dX5_around_29 : decode cX5_around 29 = .ok (.goto 5, 3) := by decide +kernel
theorem dX5_around_32 : decode cX5_around 32 = .ok (.bipush (-2), 2) := by decide +kernel
theorem dX5_around_34 : decode cX5_around 34 = .ok (.istore 4, 2) := by decide +kernel
theorem dX5_around_36 : decode cX5_around 36 = .ok (.iload 4, 2) := by decide +kernel
theorem dX5_around_38 : decode cX5_around 38 = .ok (.ifCond .ne 16, 3) := by decide +kernel
theorem dX5_around_41 : decode cX5_around 41 = .ok (.aload_n 0, 1) := by decide +kernel
theorem dX5_around_42 : decode cX5_around 42 = .ok (.getfield 35, 3) := by decide +kernel
theorem dX5_around_45 : decode cX5_around 45 = .ok (.iload_n 1, 1) := by decide +kernel
theorem dX5_around_46 : decode cX5_around 46 = .ok (.iload_n 2, 1) := by decide +kernel
theorem dX5_around_47 : decode cX5_around 47 = .ok (.iload_n 3, 1) := by decide +kernel
theorem dX5_around_48 : decode cX5_around 48 = .ok (.invokevirtual 169, 3) := by decide +kernel
theorem dX5_around_51 : decode cX5_around 51 = .ok (.goto 5, 3) := by decide +kernel
theorem dX5_around_54 : decode cX5_around 54 = .ok (.iload 4, 2) := by decide +kernel
theorem dX5_around_56 : decode cX5_around 56 = .ok (.ireturn, 1) := by decide +kernel
theorem dX5_order_0 : decode cX5_order 0 = .ok (.iload_n 2, 1) := by decide +kernel
theorem dX5_order_1 : decode cX5_order 1 = .ok (.ifCond .lt 20, 3) := by decide +kernel
theorem dX5_order_4 : decode cX5_order 4 = .ok (.iload_n 2, 1) := by decide +kernel
theorem dX5_order_5 : decode cX5_order 5 = .ok (.iload_n 1, 1) := by decide +kernel
theorem dX5_order_6 : decode cX5_order 6 = .ok (.if_icmp .ge 15, 3) := by decide +kernel
theorem dX5_order_9 : decode cX5_order 9 = .ok (.aload_n 0, 1) := by decide +kernel
theorem dX5_order_10 : decode cX5_order 10 = .ok (.getfield 35, 3) := by decide +kernel
theorem dX5_order_13 : decode cX5_order 13 = .ok (.iload_n 1, 1) := by decide +kernel
theorem dX5_order_14 : decode cX5_order 14 = .ok (.iconst 1, 1) := by decide +kernel
theorem dX5_order_15 : decode cX5_order 15 = .ok (.invokevirtual 151, 3) := by decide +kernel
theorem dX5_order_18 : decode cX5_order 18 = .ok (.goto 5, 3) := by decide +kernel
theorem dX5_order_21 : decode cX5_order 21 = .ok (.bipush (-2), 2) := by decide +kernel
theorem dX5_order_23 : decode cX5_order 23 = .ok (.istore_n 3, 1) := by decide +kernel
theorem dX5_order_24 : decode cX5_order 24 = .ok (.iload_n 3, 1) := by decide +kernel
theorem dX5_order_25 : decode cX5_order 25 = .ok (.ifCond .ne 15, 3) := by decide +kernel
theorem dX5_order_28 : decode cX5_order 28 = .ok (.aload_n 0, 1) := by decide +kernel
theorem dX5_order_29 : decode cX5_order 29 = .ok (.getfield 35, 3) := by decide +kernel
theorem dX5_order_32 : decode cX5_order 32 = .ok (.iload_n 1, 1) := by decide +kernel
theorem dX5_order_33 : decode cX5_order 33 = .ok (.iload_n 2, 1) := by decide +kernel
theorem dX5_order_34 : decode cX5_order 34 = .ok (.invokevirtual 172, 3) := by decide +kernel
theorem dX5_order_37 : decode cX5_order 37 = .ok (.goto 4, 3) := by decide +kernel
theorem dX5_order_40 : decode cX5_order 40 = .ok (.iload_n 3, 1) := by decide +kernel
theorem dX5_order_41 : decode cX5_order 41 = .ok (.ireturn, 1) := by decide +kernel
theorem dX5_area_0 : decode cX5_area 0 = .ok (.aload_n 0, 1) := by decide +kernel
theorem dX5_area_1 : decode cX5_area 1 = .ok (.getfield 35, 3) := by decide +kernel
theorem dX5_area_4 : decode cX5_area 4 = .ok (.iload_n 1, 1) := by decide +kernel
theorem dX5_area_5 : decode cX5_area 5 = .ok (.iconst 1, 1) := by decide +kernel
theorem dX5_area_6 : decode cX5_area 6 = .ok (.invokevirtual 151, 3) := by decide +kernel
theorem dX5_area_9 : decode cX5_area 9 = .ok (.ifCond .eq 5, 3) := by decide +kernel
theorem dX5_area_12 : decode cX5_area 12 = .ok (.lconst 0, 1) := by decide +kernel
theorem dX5_area_13 : decode cX5_area 13 = .ok (.lreturn, 1) := by decide +kernel
theorem dX5_area_14 : decode cX5_area 14 = .ok (.lload_n 2, 1) := by decide +kernel
theorem dX5_area_15 : decode cX5_area 15 = .ok (.lconst 0, 1) := by decide +kernel
theorem dX5_area_16 : decode cX5_area 16 = .ok (.lcmp, 1) := by decide +kernel
theorem dX5_area_17 : decode cX5_area 17 = .ok (.ifCond .ne 13, 3) := by decide +kernel
theorem dX5_area_20 : decode cX5_area 20 = .ok (.new 175, 3) := by decide +kernel
theorem dX5_area_23 : decode cX5_area 23 = .ok (.dup, 1) := by decide +kernel
theorem dX5_area_24 : decode cX5_area 24 = .ok (.ldc 177, 2) := by decide +kernel
theorem dX5_area_26 : decode cX5_area 26 = .ok (.invokespecial 179, 3) := by decide +kernel
theorem dX5_area_29 : decode cX5_area 29 = .ok (.athrow, 1) := by decide +kernel
theorem dX5_area_30 : decode cX5_area 30 = .ok (.aload_n 0, 1) := by decide +kernel
theorem dX5_area_31 : decode cX5_area 31 = .ok (.getfield 35, 3) := by decide +kernel
theorem dX5_area_34 : decode cX5_area 34 = .ok (.iload_n 1, 1) := by decide +kernel
theorem dX5_area_35 : decode cX5_area 35 = .ok (.invokevirtual 180, 3) := by decide +kernel
theorem dX5_area_38 : decode cX5_area 38 = .ok (.lload_n 2, 1) := by decide +kernel
theorem dX5_area_39 : decode cX5_area 39 = .ok (.ldiv, 1) := by decide +kernel
theorem dX5_area_40 : decode cX5_area 40 = .ok (.lreturn, 1) := by decide +kernel
theorem dX5_line_0 : decode cX5_line 0 = .ok (.aload_n 0, 1) := by decide +kernel
theorem dX5_line_1 : decode cX5_line 1 = .ok (.getfield 10, 3) := by decide +kernel
theorem dX5_line_4 : decode cX5_line 4 = .ok (.iload_n 1, 1) := by decide +kernel
theorem dX5_line_5 : decode cX5_line 5 = .ok (.invokevirtual 68, 3) := by decide +kernel
theorem dX5_line_8 : decode cX5_line 8 = .ok (.ifCond .eq 14, 3) := by decide +kernel
theorem dX5_line_11 : decode cX5_line 11 = .ok (.aload_n 0, 1) := by decide +kernel
theorem dX5_line_12 : decode cX5_line 12 = .ok (.getfield 10, 3) := by decide +kernel
theorem dX5_line_15 : decode cX5_line 15 = .ok (.iload_n 2, 1) := by decide +kernel
theorem dX5_line_16 : decode cX5_line 16 = .ok (.invokevirtual 68, 3) := by decide +kernel
theorem dX5_line_19 : decode cX5_line 19 = .ok (.ifCond .ne 6, 3) := by decide +kernel
theorem dX5_line_22 : decode cX5_line 22 = .ok (.bipush (-2), 2) := by decide +kernel
theorem dX5_line_24 : decode cX5_line 24 = .ok (.ireturn, 1) := by decide +kernel
theorem dX5_line_25 : decode cX5_line 25 = .ok (.aload_n 0, 1) := by decide +kernel
theorem dX5_line_26 : decode cX5_line 26 = .ok (.getfield 10, 3) := by decide +kernel
theorem dX5_line_29 : decode cX5_line 29 = .ok (.iload_n 1, 1) := by decide +kernel
theorem dX5_line_30 : decode cX5_line 30 = .ok (.iload_n 2, 1) := by decide +kernel
theorem dX5_line_31 : decode cX5_line 31 = .ok (.invokevirtual 102, 3) := by decide +kernel
theorem dX5_line_34 : decode cX5_line 34 = .ok (.ifCond .eq 6, 3) := by decide +kernel
theorem dX5_line_37 : decode cX5_line 37 = .ok (.bipush (-4), 2) := by decide +kernel
theorem dX5_line_39 : decode cX5_line 39 = .ok (.ireturn, 1) := by decide +kernel
theorem dX5_line_40 : decode cX5_line 40 = .ok (.aload_n 0, 1) := by decide +kernel
theorem dX5_line_41 : decode cX5_line 41 = .ok (.getfield 42, 3) := by decide +kernel
theorem dX5_line_44 : decode cX5_line 44 = .ok (.iload_n 1, 1) := by decide +kernel
theorem dX5_line_45 : decode cX5_line 45 = .ok (.iload_n 2, 1) := by decide +kernel
theorem dX5_line_46 : decode cX5_line 46 = .ok (.invokevirtual 184, 3) := by decide +kernel
theorem dX5_line_49 : decode cX5_line 49 = .ok (.ireturn, 1) := by decide +kernel
theorem dX5_lines_0 : decode cX5_lines 0 = .ok (.iload_n 1, 1) := by decide +kernel
theorem dX5_lines_1 : decode cX5_lines 1 = .ok (.ifCond .lt 23, 3) := by decide +kernel
theorem dX5_lines_4 : decode cX5_lines 4 = .ok (.iload_n 1, 1) := by decide +kernel
theorem dX5_lines_5 : decode cX5_lines 5 = .ok (.aload_n 0, 1) := by decide +kernel
theorem dX5_lines_6 : decode cX5_lines 6 = .ok (.getfield 42, 3) := by decide +kernel
theorem dX5_lines_9 : decode cX5_lines 9 = .ok (.getfield 185, 3) := by decide +kernel
theorem dX5_lines_12 : decode cX5_lines 12 = .ok (.if_icmp .gt 12, 3) := by decide +kernel
theorem dX5_lines_15 : decode cX5_lines 15 = .ok (.iload_n 2, 1) := by decide +kernel
theorem dX5_lines_16 : decode cX5_lines 16 = .ok (.ifCond .lt 8, 3) := by decide +kernel
theorem dX5_lines_19 : decode cX5_lines 19 = .ok (.iload_n 2, 1) := by decide +kernel
theorem dX5_lines_20 : decode cX5_lines 20 = .ok (.iconst 5, 1) := by decide +kernel
theorem dX5_lines_21 : decode cX5_lines 21 = .ok (.if_icmp .le 6, 3) := by decide +kernel
theorem dX5_lines_24 : decode cX5_lines 24 = .ok (.bipush (-2), 2) := by decide +kernel
theorem dX5_lines_26 : decode cX5_lines 26 = .ok (.ireturn, 1) := by decide +kernel
theorem dX5_lines_27 : decode cX5_lines 27 = .ok (.aload_n 0, 1) := by decide +kernel
theorem dX5_lines_28 : decode cX5_lines 28 = .ok (.getfield 42, 3) := by decide +kernel
theorem dX5_lines_31 : decode cX5_lines 31 = .ok (.iload_n 1, 1) := by decide +kernel
theorem dX5_lines_32 : decode cX5_lines 32 = .ok (.invokevirtual 188, 3) := by decide +kernel
theorem dX5_lines_35 : decode cX5_lines 35 = .ok (.iload_n 2, 1) := by decide +kernel
theorem dX5_lines_36 : decode cX5_lines 36 = .ok (.tableswitch 76 0 4 #[36, 44, 52, 60, 68], 36) := by decide +kernel
theorem dX5_lines_72 : decode cX5_lines 72 = .ok (.aload_n 0, 1) := by decide +kernel
theorem dX5_lines_73 : decode cX5_lines 73 = .ok (.getfield 42, 3) := by decide +kernel
theorem dX5_lines_76 : decode cX5_lines 76 = .ok (.getfield 192, 3) := by decide +kernel
theorem dX5_lines_79 : decode cX5_lines 79 = .ok (.ireturn, 1) := by decide +kernel
theorem dX5_lines_80 : decode cX5_lines 80 = .ok (.aload_n 0, 1) := by decide +kernel
theorem dX5_lines_81 : decode cX5_lines 81 = .ok (.getfield 42, 3) := by decide +kernel
theorem dX5_lines_84 : decode cX5_lines 84 = .ok (.getfield 195, 3) := by decide +kernel
theorem dX5_lines_87 : decode cX5_lines 87 = .ok (.ireturn, 1) := by decide +kernel
theorem dX5_lines_88 : decode cX5_lines 88 = .ok (.aload_n 0, 1) := by decide +kernel
theorem dX5_lines_89 : decode cX5_lines 89 = .ok (.getfield 42, 3) := by decide +kernel
theorem dX5_lines_92 : decode cX5_lines 92 = .ok (.invokevirtual 198, 3) := by decide +kernel
theorem dX5_lines_95 : decode cX5_lines 95 = .ok (.ireturn, 1) := by decide +kernel
theorem dX5_lines_96 : decode cX5_lines 96 = .ok (.aload_n 0, 1) := by decide +kernel
theorem dX5_lines_97 : decode cX5_lines 97 = .ok (.getfield 42, 3) := by decide +kernel
theorem dX5_lines_100 : decode cX5_lines 100 = .ok (.invokevirtual 202, 3) := by decide +kernel
theorem dX5_lines_103 : decode cX5_lines 103 = .ok (.ireturn, 1) := by decide +kernel
theorem dX5_lines_104 : decode cX5_lines 104 = .ok (.aload_n 0, 1) := by decide +kernel
theorem dX5_lines_105 : decode cX5_lines 105 = .ok (.getfield 42, 3) := by decide +kernel
theorem dX5_lines_108 : decode cX5_lines 108 = .ok (.invokevirtual 205, 3) := by decide +kernel
theorem dX5_lines_111 : decode cX5_lines 111 = .ok (.ireturn, 1) := by decide +kernel
theorem dX5_lines_112 : decode cX5_lines 112 = .ok (.aload_n 0, 1) := by decide +kernel
theorem dX5_lines_113 : decode cX5_lines 113 = .ok (.getfield 42, 3) := by decide +kernel
theorem dX5_lines_116 : decode cX5_lines 116 = .ok (.getfield 208, 3) := by decide +kernel
theorem dX5_lines_119 : decode cX5_lines 119 = .ok (.ireturn, 1) := by decide +kernel
theorem dX5_count_0 : decode cX5_count 0 = .ok (.iload_n 1, 1) := by decide +kernel
theorem dX5_count_1 : decode cX5_count 1 = .ok (.tableswitch 71 0 3 #[31, 39, 47, 55], 31) := by decide +kernel
theorem dX5_count_32 : decode cX5_count 32 = .ok (.aload_n 0, 1) := by decide +kernel
theorem dX5_count_33 : decode cX5_count 33 = .ok (.getfield 10, 3) := by decide +kernel
theorem dX5_count_36 : decode cX5_count 36 = .ok (.getfield 211, 3) := by decide +kernel
theorem dX5_count_39 : decode cX5_count 39 = .ok (.ireturn, 1) := by decide +kernel
theorem dX5_count_40 : decode cX5_count 40 = .ok (.aload_n 0, 1) := by decide +kernel
theorem dX5_count_41 : decode cX5_count 41 = .ok (.getfield 35, 3) := by decide +kernel
theorem dX5_count_44 : decode cX5_count 44 = .ok (.getfield 212, 3) := by decide +kernel
theorem dX5_count_47 : decode cX5_count 47 = .ok (.ireturn, 1) := by decide +kernel
theorem dX5_count_48 : decode cX5_count 48 = .ok (.aload_n 0, 1) := by decide +kernel
theorem dX5_count_49 : decode cX5_count 49 = .ok (.getfield 42, 3) := by decide +kernel
theorem dX5_count_52 : decode cX5_count 52 = .ok (.getfield 185, 3) := by decide +kernel
theorem dX5_count_55 : decode cX5_count 55 = .ok (.ireturn, 1) := by decide +kernel
theorem dX5_count_56 : decode cX5_count 56 = .ok (.aload_n 0, 1) := by decide +kernel
theorem dX5_count_57 : decode cX5_count 57 = .ok (.getfield 21, 3) := by decide +kernel
theorem dX5_count_60 : decode cX5_count 60 = .ok (.getfield 125, 3) := by decide +kernel
theorem dX5_count_63 : decode cX5_count 63 = .ok (.ifCond .eq 7, 3) := by decide +kernel
theorem dX5_count_66 : decode cX5_count 66 = .ok (.iconst 1, 1) := by decide +kernel
theorem dX5_count_67 : decode cX5_count 67 = .ok (.goto 4, 3) := by decide +kernel
theorem dX5_count_70 : decode cX5_count 70 = .ok (.iconst 0, 1) := by decide +kernel
theorem dX5_count_71 : decode cX5_count 71 = .ok (.ireturn, 1) := by decide +kernel
theorem dX5_count_72 : decode cX5_count 72 = .ok (.bipush (-2), 2) := by decide +kernel
theorem dX5_count_74 : decode cX5_count 74 = .ok (.ireturn, 1) := by decide +kernel
theorem dX5_isCoordinate_0 : decode cX5_isCoordinate 0 = .ok (.lload_n 0, 1) := by decide +kernel
theorem dX5_isCoordinate_1 : decode cX5_isCoordinate 1 = .ok (.ldc2_w 213, 3) := by decide +kernel
theorem dX5_isCoordinate_4 : decode cX5_isCoordinate 4 = .ok (.lcmp, 1) := by decide +kernel
theorem dX5_isCoordinate_5 : decode cX5_isCoordinate 5 = .ok (.ifCond .lt 15, 3) := by decide +kernel
theorem dX5_isCoordinate_8 : decode cX5_isCoordinate 8 = .ok (.lload_n 0, 1) := by decide +kernel
theorem dX5_isCoordinate_9 : decode cX5_isCoordinate 9 = .ok (.ldc2_w 215, 3) := by decide +kernel
theorem dX5_isCoordinate_12 : decode cX5_isCoordinate 12 = .ok (.lcmp, 1) := by decide +kernel
theorem dX5_isCoordinate_13 : decode cX5_isCoordinate 13 = .ok (.ifCond .gt 7, 3) := by decide +kernel
theorem dX5_isCoordinate_16 : decode cX5_isCoordinate 16 = .ok (.iconst 1, 1) := by decide +kernel
theorem dX5_isCoordinate_17 : decode cX5_isCoordinate 17 = .ok (.goto 4, 3) := by decide +kernel
theorem dX5_isCoordinate_20 : decode cX5_isCoordinate 20 = .ok (.iconst 0, 1) := by decide +kernel
theorem dX5_isCoordinate_21 : decode cX5_isCoordinate 21 = .ok (.ireturn, 1) := by decide +kernel
theorem dX5_isDown_0 : decode cX5_isDown 0 = .ok (.lload_n 0, 1) := by decide +kernel
theorem dX5_isDown_1 : decode cX5_isDown 1 = .ok (.lconst 0, 1) := by decide +kernel
theorem dX5_isDown_2 : decode cX5_isDown 2 = .ok (.lcmp, 1) := by decide +kernel
theorem dX5_isDown_3 : decode cX5_isDown 3 = .ok (.ifCond .le 25, 3) := by decide +kernel
theorem dX5_isDown_6 : decode cX5_isDown 6 = .ok (.lload_n 0, 1) := by decide +kernel
theorem dX5_isDown_7 : decode cX5_isDown 7 = .ok (.ldc2_w 217, 3) := by decide +kernel
theorem dX5_isDown_10 : decode cX5_isDown 10 = .ok (.lcmp, 1) := by decide +kernel
theorem dX5_isDown_11 : decode cX5_isDown 11 = .ok (.ifCond .gt 17, 3) := by decide +kernel
theorem dX5_isDown_14 : decode cX5_isDown 14 = .ok (.ldc2_w 217, 3) := by decide +kernel
theorem dX5_isDown_17 : decode cX5_isDown 17 = .ok (.lload_n 0, 1) := by decide +kernel
theorem dX5_isDown_18 : decode cX5_isDown 18 = .ok (.lrem, 1) := by decide +kernel
theorem dX5_isDown_19 : decode cX5_isDown 19 = .ok (.lconst 0, 1) := by decide +kernel
theorem dX5_isDown_20 : decode cX5_isDown 20 = .ok (.lcmp, 1) := by decide +kernel
theorem dX5_isDown_21 : decode cX5_isDown 21 = .ok (.ifCond .ne 7, 3) := by decide +kernel
theorem dX5_isDown_24 : decode cX5_isDown 24 = .ok (.iconst 1, 1) := by decide +kernel
theorem dX5_isDown_25 : decode cX5_isDown 25 = .ok (.goto 4, 3) := by decide +kernel
theorem dX5_isDown_28 : decode cX5_isDown 28 = .ok (.iconst 0, 1) := by decide +kernel
theorem dX5_isDown_29 : decode cX5_isDown 29 = .ok (.ireturn, 1) := by decide +kernel
theorem dX5_signOf_0 : decode cX5_signOf 0 = .ok (.lload_n 0, 1) := by decide +kernel
theorem dX5_signOf_1 : decode cX5_signOf 1 = .ok (.lconst 0, 1) := by decide +kernel
theorem dX5_signOf_2 : decode cX5_signOf 2 = .ok (.invokestatic 219, 3) := by decide +kernel
theorem dX5_signOf_5 : decode cX5_signOf 5 = .ok (.ireturn, 1) := by decide +kernel
theorem dX6_thrown_0 : decode cX6_thrown 0 = .ok (.aload_n 0, 1) := by decide +kernel
theorem dX6_thrown_1 : decode cX6_thrown 1 = .ok (.getfield 1, 3) := by decide +kernel
theorem dX6_thrown_4 : decode cX6_thrown 4 = .ok (.ireturn, 1) := by decide +kernel
theorem dX6_fail_0 : decode cX6_fail 0 = .ok (.aload_n 0, 1) := by decide +kernel
theorem dX6_fail_1 : decode cX6_fail 1 = .ok (.iload_n 1, 1) := by decide +kernel
theorem dX6_fail_2 : decode cX6_fail 2 = .ok (.putfield 1, 3) := by decide +kernel
theorem dX6_fail_5 : decode cX6_fail 5 = .ok (.iconst 0, 1) := by decide +kernel
theorem dX6_fail_6 : decode cX6_fail 6 = .ok (.ireturn, 1) := by decide +kernel
theorem dX6_init_0 : decode cX6_init 0 = .ok (.aload_n 0, 1) := by decide +kernel
theorem dX6_init_1 : decode cX6_init 1 = .ok (.invokespecial 7, 3) := by decide +kernel
theorem dX6_init_4 : decode cX6_init 4 = .ok (.aload_n 0, 1) := by decide +kernel
theorem dX6_init_5 : decode cX6_init 5 = .ok (.bipush 60, 2) := by decide +kernel
theorem dX6_init_7 : decode cX6_init 7 = .ok (.newarray .int, 2) := by decide +kernel
theorem dX6_init_9 : decode cX6_init 9 = .ok (.putfield 13, 3) := by decide +kernel
theorem dX6_init_12 : decode cX6_init 12 = .ok (.aload_n 0, 1) := by decide +kernel
theorem dX6_init_13 : decode cX6_init 13 = .ok (.bipush 60, 2) := by decide +kernel
theorem dX6_init_15 : decode cX6_init 15 = .ok (.newarray .int, 2) := by decide +kernel
theorem dX6_init_17 : decode cX6_init 17 = .ok (.putfield 17, 3) := by decide +kernel
theorem dX6_init_20 : decode cX6_init 20 = .ok (.aload_n 0, 1) := by decide +kernel
theorem dX6_init_21 : decode cX6_init 21 = .ok (.bipush 24, 2) := by decide +kernel
theorem dX6_init_23 : decode cX6_init 23 = .ok (.newarray .int, 2) := by decide +kernel
theorem dX6_init_25 : decode cX6_init 25 = .ok (.putfield 20, 3) := by decide +kernel
theorem dX6_init_28 : decode cX6_init 28 = .ok (.aload_n 0, 1) := by decide +kernel
theorem dX6_init_29 : decode cX6_init 29 = .ok (.iconst 1, 1) := by decide +kernel
theorem dX6_init_30 : decode cX6_init 30 = .ok (.putfield 23, 3) := by decide +kernel
theorem dX6_init_33 : decode cX6_init 33 = .ok (.aload_n 0, 1) := by decide +kernel
theorem dX6_init_34 : decode cX6_init 34 = .ok (.bipush 12, 2) := by decide +kernel
theorem dX6_init_36 : decode cX6_init 36 = .ok (.newarray .long, 2) := by decide +kernel
theorem dX6_init_38 : decode cX6_init 38 = .ok (.putfield 27, 3) := by decide +kernel
theorem dX6_init_41 : decode cX6_init 41 = .ok (.aload_n 0, 1) := by decide +kernel
theorem dX6_init_42 : decode cX6_init 42 = .ok (.bipush 12, 2) := by decide +kernel
theorem dX6_init_44 : decode cX6_init 44 = .ok (.newarray .long, 2) := by decide +kernel
theorem dX6_init_46 : decode cX6_init 46 = .ok (.putfield 31, 3) := by decide +kernel
theorem dX6_init_49 : decode cX6_init 49 = .ok (.aload_n 0, 1) := by decide +kernel
theorem dX6_init_50 : decode cX6_init 50 = .ok (.bipush 12, 2) := by decide +kernel
theorem dX6_init_52 : decode cX6_init 52 = .ok (.newarray .long, 2) := by decide +kernel
theorem dX6_init_54 : decode cX6_init 54 = .ok (.putfield 34, 3) := by decide +kernel
theorem dX6_init_57 : decode cX6_init 57 = .ok (.iconst 0, 1) := by decide +kernel
theorem dX6_init_58 : decode cX6_init 58 = .ok (.istore_n 1, 1) := by decide +kernel
theorem dX6_init_59 : decode cX6_init 59 = .ok (.iload_n 1, 1) := by decide +kernel
theorem dX6_init_60 : decode cX6_init 60 = .ok (.bipush 24, 2) := by decide +kernel
theorem dX6_init_62 : decode cX6_init 62 = .ok (.if_icmp .ge 16, 3) := by decide +kernel
theorem dX6_init_65 : decode cX6_init 65 = .ok (.aload_n 0, 1) := by decide +kernel
theorem dX6_init_66 : decode cX6_init 66 = .ok (.getfield 20, 3) := by decide +kernel
theorem dX6_init_69 : decode cX6_init 69 = .ok (.iload_n 1, 1) := by decide +kernel
theorem dX6_init_70 : decode cX6_init 70 = .ok (.iconst (-1), 1) := by decide +kernel
theorem dX6_init_71 : decode cX6_init 71 = .ok (.iastore, 1) := by decide +kernel
theorem dX6_init_72 : decode cX6_init 72 = .ok (.iinc 1 1, 3) := by decide +kernel
theorem dX6_init_75 : decode cX6_init 75 = .ok (.goto (-16), 3) := by decide +kernel
theorem dX6_init_78 : decode cX6_init 78 = .ok (.return_, 1) := by decide +kernel
theorem dX6_point_0 : decode cX6_point 0 = .ok (.aload_n 0, 1) := by decide +kernel
theorem dX6_point_1 : decode cX6_point 1 = .ok (.iconst 0, 1) := by decide +kernel
theorem dX6_point_2 : decode cX6_point 2 = .ok (.putfield 1, 3) := by decide +kernel
theorem dX6_point_5 : decode cX6_point 5 = .ok (.lload 5, 2) := by decide +kernel
theorem dX6_point_7 : decode cX6_point 7 = .ok (.lconst 1, 1) := by decide +kernel
theorem dX6_point_8 : decode cX6_point 8 = .ok (.lcmp, 1) := by decide +kernel
theorem dX6_point_9 : decode cX6_point 9 = .ok (.ifCond .eq 48, 3) := by decide +kernel
theorem dX6_point_12 : decode cX6_point 12 = .ok (.lload 5, 2) := by decide +kernel
theorem dX6_point_14 : decode cX6_point 14 = .ok (.ldc2_w 37, 3) := by decide +kernel
theorem dX6_point_17 : decode cX6_point 17 = .ok (.lcmp, 1) := by decide +kernel
theorem dX6_point_18 : decode cX6_point 18 = .ok (.ifCond .eq 39, 3) := by decide +kernel
theorem dX6_point_21 : decode cX6_point 21 = .ok (.lload 5, 2) := by decide +kernel
theorem dX6_point_23 : decode cX6_point 23 = .ok (.ldc2_w 39, 3) := by decide +kernel
theorem dX6_point_26 : decode cX6_point 26 = .ok (.lcmp, 1) := by decide +kernel
theorem dX6_point_27 : decode cX6_point 27 = .ok (.ifCond .eq 30, 3) := by decide +kernel
theorem dX6_point_30 : decode cX6_point 30 = .ok (.lload 5, 2) := by decide +kernel
theorem dX6_point_32 : decode cX6_point 32 = .ok (.ldc2_w 41, 3) := by decide +kernel
theorem dX6_point_35 : decode cX6_point 35 = .ok (.lcmp, 1) := by decide +kernel
theorem dX6_point_36 : decode cX6_point 36 = .ok (.ifCond .eq 21, 3) := by decide +kernel
theorem dX6_point_39 : decode cX6_point 39 = .ok (.lload 5, 2) := by decide +kernel
theorem dX6_point_41 : decode cX6_point 41 = .ok (.ldc2_w 43, 3) := by decide +kernel
theorem dX6_point_44 : decode cX6_point 44 = .ok (.lcmp, 1) := by decide +kernel
theorem dX6_point_45 : decode cX6_point 45 = .ok (.ifCond .eq 12, 3) := by decide +kernel
theorem dX6_point_48 : decode cX6_point 48 = .ok (.lload 5, 2) := by decide +kernel
theorem dX6_point_50 : decode cX6_point 50 = .ok (.ldc2_w 45, 3) := by decide +kernel
theorem dX6_point_53 : decode cX6_point 53 = .ok (.lcmp, 1) := by decide +kernel
theorem dX6_point_54 : decode cX6_point 54 = .ok (.ifCond .ne 7, 3) := by decide +kernel
theorem dX6_point_57 : decode cX6_point 57 = .ok (.iconst 1, 1) := by decide +kernel
theorem dX6_point_58 : decode cX6_point 58 = .ok (.goto 4, 3) := by decide +kernel
theorem dX6_point_61 : decode cX6_point 61 = .ok (.iconst 0, 1) := by decide +kernel
theorem dX6_point_62 : decode cX6_point 62 = .ok (.istore 7, 2) := by decide +kernel
theorem dX6_point_64 : decode cX6_point 64 = .ok (.iload 7, 2) := by decide +kernel
theorem dX6_point_66 : decode cX6_point 66 = .ok (.ifCond .eq 35, 3) := by decide +kernel
theorem dX6_point_69 : decode cX6_point 69 = .ok (.lload_n 1, 1) := by decide +kernel

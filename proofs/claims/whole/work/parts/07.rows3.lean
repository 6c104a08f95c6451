theorem dX6_point_70 : decode cX6_point 70 = .ok (.ldc2_w 47, 3) := by decide +kernel
theorem dX6_point_73 : decode cX6_point 73 = .ok (.lcmp, 1) := by decide +kernel
theorem dX6_point_74 : decode cX6_point 74 = .ok (.ifCond .lt 27, 3) := by decide +kernel
theorem dX6_point_77 : decode cX6_point 77 = .ok (.lload_n 1, 1) := by decide +kernel
theorem dX6_point_78 : decode cX6_point 78 = .ok (.ldc2_w 49, 3) := by decide +kernel
theorem dX6_point_81 : decode cX6_point 81 = .ok (.lcmp, 1) := by decide +kernel
theorem dX6_point_82 : decode cX6_point 82 = .ok (.ifCond .gt 19, 3) := by decide +kernel
theorem dX6_point_85 : decode cX6_point 85 = .ok (.lload_n 3, 1) := by decide +kernel
theorem dX6_point_86 : decode cX6_point 86 = .ok (.ldc2_w 47, 3) := by decide +kernel
theorem dX6_point_89 : decode cX6_point 89 = .ok (.lcmp, 1) := by decide +kernel
theorem dX6_point_90 : decode cX6_point 90 = .ok (.ifCond .lt 11, 3) := by decide +kernel
theorem dX6_point_93 : decode cX6_point 93 = .ok (.lload_n 3, 1) := by decide +kernel
theorem dX6_point_94 : decode cX6_point 94 = .ok (.ldc2_w 49, 3) := by decide +kernel
theorem dX6_point_97 : decode cX6_point 97 = .ok (.lcmp, 1) := by decide +kernel
theorem dX6_point_98 : decode cX6_point 98 = .ok (.ifCond .le 6, 3) := by decide +kernel
theorem dX6_point_101 : decode cX6_point 101 = .ok (.bipush (-2), 2) := by decide +kernel
theorem dX6_point_103 : decode cX6_point 103 = .ok (.ireturn, 1) := by decide +kernel
theorem dX6_point_104 : decode cX6_point 104 = .ok (.aload_n 0, 1) := by decide +kernel
theorem dX6_point_105 : decode cX6_point 105 = .ok (.getfield 51, 3) := by decide +kernel
theorem dX6_point_108 : decode cX6_point 108 = .ok (.bipush 60, 2) := by decide +kernel
theorem dX6_point_110 : decode cX6_point 110 = .ok (.if_icmp .ne 6, 3) := by decide +kernel
theorem dX6_point_113 : decode cX6_point 113 = .ok (.bipush (-3), 2) := by decide +kernel
theorem dX6_point_115 : decode cX6_point 115 = .ok (.ireturn, 1) := by decide +kernel
theorem dX6_point_116 : decode cX6_point 116 = .ok (.aload_n 0, 1) := by decide +kernel
theorem dX6_point_117 : decode cX6_point 117 = .ok (.getfield 13, 3) := by decide +kernel
theorem dX6_point_120 : decode cX6_point 120 = .ok (.aload_n 0, 1) := by decide +kernel
theorem dX6_point_121 : decode cX6_point 121 = .ok (.getfield 51, 3) := by decide +kernel
theorem dX6_point_124 : decode cX6_point 124 = .ok (.lload_n 1, 1) := by decide +kernel
theorem dX6_point_125 : decode cX6_point 125 = .ok (.ldc2_w 45, 3) := by decide +kernel
theorem dX6_point_128 : decode cX6_point 128 = .ok (.lload 5, 2) := by decide +kernel
theorem dX6_point_130 : decode cX6_point 130 = .ok (.ldiv, 1) := by decide +kernel
theorem dX6_point_131 : decode cX6_point 131 = .ok (.lmul, 1) := by decide +kernel
theorem dX6_point_132 : decode cX6_point 132 = .ok (.l2i, 1) := by decide +kernel
theorem dX6_point_133 : decode cX6_point 133 = .ok (.iastore, 1) := by decide +kernel
theorem dX6_point_134 : decode cX6_point 134 = .ok (.aload_n 0, 1) := by decide +kernel
theorem dX6_point_135 : decode cX6_point 135 = .ok (.getfield 17, 3) := by decide +kernel
theorem dX6_point_138 : decode cX6_point 138 = .ok (.aload_n 0, 1) := by decide +kernel
theorem dX6_point_139 : decode cX6_point 139 = .ok (.getfield 51, 3) := by decide +kernel
theorem dX6_point_142 : decode cX6_point 142 = .ok (.lload_n 3, 1) := by decide +kernel
theorem dX6_point_143 : decode cX6_point 143 = .ok (.ldc2_w 45, 3) := by decide +kernel
theorem dX6_point_146 : decode cX6_point 146 = .ok (.lload 5, 2) := by decide +kernel
theorem dX6_point_148 : decode cX6_point 148 = .ok (.ldiv, 1) := by decide +kernel
theorem dX6_point_149 : decode cX6_point 149 = .ok (.lmul, 1) := by decide +kernel
theorem dX6_point_150 : decode cX6_point 150 = .ok (.l2i, 1) := by decide +kernel
theorem dX6_point_151 : decode cX6_point 151 = .ok (.iastore, 1) := by decide +kernel
theorem dX6_point_152 : decode cX6_point 152 = .ok (.aload_n 0, 1) := by decide +kernel
theorem dX6_point_153 : decode cX6_point 153 = .ok (.dup, 1) := by decide +kernel
theorem dX6_point_154 : decode cX6_point 154 = .ok (.getfield 51, 3) := by decide +kernel
theorem dX6_point_157 : decode cX6_point 157 = .ok (.iconst 1, 1) := by decide +kernel
theorem dX6_point_158 : decode cX6_point 158 = .ok (.iadd, 1) := by decide +kernel
theorem dX6_point_159 : decode cX6_point 159 = .ok (.putfield 51, 3) := by decide +kernel
theorem dX6_point_162 : decode cX6_point 162 = .ok (.aload_n 0, 1) := by decide +kernel
theorem dX6_point_163 : decode cX6_point 163 = .ok (.getfield 51, 3) := by decide +kernel
theorem dX6_point_166 : decode cX6_point 166 = .ok (.iconst 1, 1) := by decide +kernel
theorem dX6_point_167 : decode cX6_point 167 = .ok (.isub, 1) := by decide +kernel
theorem dX6_point_168 : decode cX6_point 168 = .ok (.ireturn, 1) := by decide +kernel
theorem dX6_isPoint_0 : decode cX6_isPoint 0 = .ok (.iload_n 1, 1) := by decide +kernel
theorem dX6_isPoint_1 : decode cX6_isPoint 1 = .ok (.ifCond .lt 15, 3) := by decide +kernel
theorem dX6_isPoint_4 : decode cX6_isPoint 4 = .ok (.iload_n 1, 1) := by decide +kernel
theorem dX6_isPoint_5 : decode cX6_isPoint 5 = .ok (.aload_n 0, 1) := by decide +kernel
theorem dX6_isPoint_6 : decode cX6_isPoint 6 = .ok (.getfield 51, 3) := by decide +kernel
theorem dX6_isPoint_9 : decode cX6_isPoint 9 = .ok (.if_icmp .ge 7, 3) := by decide +kernel
theorem dX6_isPoint_12 : decode cX6_isPoint 12 = .ok (.iconst 1, 1) := by decide +kernel
theorem dX6_isPoint_13 : decode cX6_isPoint 13 = .ok (.goto 4, 3) := by decide +kernel
theorem dX6_isPoint_16 : decode cX6_isPoint 16 = .ok (.iconst 0, 1) := by decide +kernel
theorem dX6_isPoint_17 : decode cX6_isPoint 17 = .ok (.ireturn, 1) := by decide +kernel
theorem dX6_areEqual_0 : decode cX6_areEqual 0 = .ok (.aload_n 0, 1) := by decide +kernel
theorem dX6_areEqual_1 : decode cX6_areEqual 1 = .ok (.getfield 13, 3) := by decide +kernel
theorem dX6_areEqual_4 : decode cX6_areEqual 4 = .ok (.iload_n 1, 1) := by decide +kernel
theorem dX6_areEqual_5 : decode cX6_areEqual 5 = .ok (.iaload, 1) := by decide +kernel
theorem dX6_areEqual_6 : decode cX6_areEqual 6 = .ok (.aload_n 0, 1) := by decide +kernel
theorem dX6_areEqual_7 : decode cX6_areEqual 7 = .ok (.getfield 13, 3) := by decide +kernel
theorem dX6_areEqual_10 : decode cX6_areEqual 10 = .ok (.iload_n 2, 1) := by decide +kernel
theorem dX6_areEqual_11 : decode cX6_areEqual 11 = .ok (.iaload, 1) := by decide +kernel
theorem dX6_areEqual_12 : decode cX6_areEqual 12 = .ok (.if_icmp .ne 22, 3) := by decide +kernel
theorem dX6_areEqual_15 : decode cX6_areEqual 15 = .ok (.aload_n 0, 1) := by decide +kernel
theorem dX6_areEqual_16 : decode cX6_areEqual 16 = .ok (.getfield 17, 3) := by decide +kernel
theorem dX6_areEqual_19 : decode cX6_areEqual 19 = .ok (.iload_n 1, 1) := by decide +kernel
theorem dX6_areEqual_20 : decode cX6_areEqual 20 = .ok (.iaload, 1) := by decide +kernel
theorem dX6_areEqual_21 : decode cX6_areEqual 21 = .ok (.aload_n 0, 1) := by decide +kernel
theorem dX6_areEqual_22 : decode cX6_areEqual 22 = .ok (.getfield 17, 3) := by decide +kernel
theorem dX6_areEqual_25 : decode cX6_areEqual 25 = .ok (.iload_n 2, 1) := by decide +kernel
theorem dX6_areEqual_26 : decode cX6_areEqual 26 = .ok (.iaload, 1) := by decide +kernel
theorem dX6_areEqual_27 : decode cX6_areEqual 27 = .ok (.if_icmp .ne 7, 3) := by decide +kernel
theorem dX6_areEqual_30 : decode cX6_areEqual 30 = .ok (.iconst 1, 1) := by decide +kernel
theorem dX6_areEqual_31 : decode cX6_areEqual 31 = .ok (.goto 4, 3) := by decide +kernel
theorem dX6_areEqual_34 : decode cX6_areEqual 34 = .ok (.iconst 0, 1) := by decide +kernel
theorem dX6_areEqual_35 : decode cX6_areEqual 35 = .ok (.ireturn, 1) := by decide +kernel
theorem dX6_signOf_0 : decode cX6_signOf 0 = .ok (.lload_n 0, 1) := by decide +kernel
theorem dX6_signOf_1 : decode cX6_signOf 1 = .ok (.lconst 0, 1) := by decide +kernel
theorem dX6_signOf_2 : decode cX6_signOf 2 = .ok (.lcmp, 1) := by decide +kernel
theorem dX6_signOf_3 : decode cX6_signOf 3 = .ok (.ifCond .le 7, 3) := by decide +kernel
theorem dX6_signOf_6 : decode cX6_signOf 6 = .ok (.iconst 1, 1) := by decide +kernel
theorem dX6_signOf_7 : decode cX6_signOf 7 = .ok (.goto 14, 3) := by decide +kernel
theorem dX6_signOf_10 : decode cX6_signOf 10 = .ok (.lload_n 0, 1) := by decide +kernel
theorem dX6_signOf_11 : decode cX6_signOf 11 = .ok (.lconst 0, 1) := by decide +kernel
theorem dX6_signOf_12 : decode cX6_signOf 12 = .ok (.lcmp, 1) := by decide +kernel
theorem dX6_signOf_13 : decode cX6_signOf 13 = .ok (.ifCond .ge 7, 3) := by decide +kernel
theorem dX6_signOf_16 : decode cX6_signOf 16 = .ok (.iconst (-1), 1) := by decide +kernel
theorem dX6_signOf_17 : decode cX6_signOf 17 = .ok (.goto 4, 3) := by decide +kernel
theorem dX6_signOf_20 : decode cX6_signOf 20 = .ok (.iconst 0, 1) := by decide +kernel
theorem dX6_signOf_21 : decode cX6_signOf 21 = .ok (.ireturn, 1) := by decide +kernel
theorem dX6_turn_0 : decode cX6_turn 0 = .ok (.aload_n 0, 1) := by decide +kernel
theorem dX6_turn_1 : decode cX6_turn 1 = .ok (.getfield 13, 3) := by decide +kernel
theorem dX6_turn_4 : decode cX6_turn 4 = .ok (.iload_n 2, 1) := by decide +kernel
theorem dX6_turn_5 : decode cX6_turn 5 = .ok (.iaload, 1) := by decide +kernel
theorem dX6_turn_6 : decode cX6_turn 6 = .ok (.aload_n 0, 1) := by decide +kernel
theorem dX6_turn_7 : decode cX6_turn 7 = .ok (.getfield 13, 3) := by decide +kernel
theorem dX6_turn_10 : decode cX6_turn 10 = .ok (.iload_n 1, 1) := by decide +kernel
theorem dX6_turn_11 : decode cX6_turn 11 = .ok (.iaload, 1) := by decide +kernel
theorem dX6_turn_12 : decode cX6_turn 12 = .ok (.isub, 1) := by decide +kernel
theorem dX6_turn_13 : decode cX6_turn 13 = .ok (.i2l, 1) := by decide +kernel
theorem dX6_turn_14 : decode cX6_turn 14 = .ok (.aload_n 0, 1) := by decide +kernel
theorem dX6_turn_15 : decode cX6_turn 15 = .ok (.getfield 17, 3) := by decide +kernel
theorem dX6_turn_18 : decode cX6_turn 18 = .ok (.iload_n 3, 1) := by decide +kernel
theorem dX6_turn_19 : decode cX6_turn 19 = .ok (.iaload, 1) := by decide +kernel
theorem dX6_turn_20 : decode cX6_turn 20 = .ok (.aload_n 0, 1) := by decide +kernel
theorem dX6_turn_21 : decode cX6_turn 21 = .ok (.getfield 17, 3) := by decide +kernel
theorem dX6_turn_24 : decode cX6_turn 24 = .ok (.iload_n 1, 1) := by decide +kernel
theorem dX6_turn_25 : decode cX6_turn 25 = .ok (.iaload, 1) := by decide +kernel
theorem dX6_turn_26 : decode cX6_turn 26 = .ok (.isub, 1) := by decide +kernel
theorem dX6_turn_27 : decode cX6_turn 27 = .ok (.i2l, 1) := by decide +kernel
theorem dX6_turn_28 : decode cX6_turn 28 = .ok (.lmul, 1) := by decide +kernel
theorem dX6_turn_29 : decode cX6_turn 29 = .ok (.aload_n 0, 1) := by decide +kernel
theorem dX6_turn_30 : decode cX6_turn 30 = .ok (.getfield 17, 3) := by decide +kernel
theorem dX6_turn_33 : decode cX6_turn 33 = .ok (.iload_n 2, 1) := by decide +kernel
theorem dX6_turn_34 : decode cX6_turn 34 = .ok (.iaload, 1) := by decide +kernel
theorem dX6_turn_35 : decode cX6_turn 35 = .ok (.aload_n 0, 1) := by decide +kernel
theorem dX6_turn_36 : decode cX6_turn 36 = .ok (.getfield 17, 3) := by decide +kernel
theorem dX6_turn_39 : decode cX6_turn 39 = .ok (.iload_n 1, 1) := by decide +kernel
theorem dX6_turn_40 : decode cX6_turn 40 = .ok (.iaload, 1) := by decide +kernel
theorem dX6_turn_41 : decode cX6_turn 41 = .ok (.isub, 1) := by decide +kernel
theorem dX6_turn_42 : decode cX6_turn 42 = .ok (.i2l, 1) := by decide +kernel
theorem dX6_turn_43 : decode cX6_turn 43 = .ok (.aload_n 0, 1) := by decide +kernel
theorem dX6_turn_44 : decode cX6_turn 44 = .ok (.getfield 13, 3) := by decide +kernel
theorem dX6_turn_47 : decode cX6_turn 47 = .ok (.iload_n 3, 1) := by decide +kernel
theorem dX6_turn_48 : decode cX6_turn 48 = .ok (.iaload, 1) := by decide +kernel
theorem dX6_turn_49 : decode cX6_turn 49 = .ok (.aload_n 0, 1) := by decide +kernel
theorem dX6_turn_50 : decode cX6_turn 50 = .ok (.getfield 13, 3) := by decide +kernel
theorem dX6_turn_53 : decode cX6_turn 53 = .ok (.iload_n 1, 1) := by decide +kernel
theorem dX6_turn_54 : decode cX6_turn 54 = .ok (.iaload, 1) := by decide +kernel
theorem dX6_turn_55 : decode cX6_turn 55 = .ok (.isub, 1) := by decide +kernel
theorem dX6_turn_56 : decode cX6_turn 56 = .ok (.i2l, 1) := by decide +kernel
theorem dX6_turn_57 : decode cX6_turn 57 = .ok (.lmul, 1) := by decide +kernel
theorem dX6_turn_58 : decode cX6_turn 58 = .ok (.lsub, 1) := by decide +kernel
theorem dX6_turn_59 : decode cX6_turn 59 = .ok (.invokestatic 54, 3) := by decide +kernel
theorem dX6_turn_62 : decode cX6_turn 62 = .ok (.ireturn, 1) := by decide +kernel
theorem dX6_along_0 : decode cX6_along 0 = .ok (.aload_n 0, 1) := by decide +kernel
theorem dX6_along_1 : decode cX6_along 1 = .ok (.getfield 13, 3) := by decide +kernel
theorem dX6_along_4 : decode cX6_along 4 = .ok (.iload_n 2, 1) := by decide +kernel
theorem dX6_along_5 : decode cX6_along 5 = .ok (.iaload, 1) := by decide +kernel
theorem dX6_along_6 : decode cX6_along 6 = .ok (.aload_n 0, 1) := by decide +kernel
theorem dX6_along_7 : decode cX6_along 7 = .ok (.getfield 13, 3) := by decide +kernel
theorem dX6_along_10 : decode cX6_along 10 = .ok (.iload_n 1, 1) := by decide +kernel
theorem dX6_along_11 : decode cX6_along 11 = .ok (.iaload, 1) := by decide +kernel
theorem dX6_along_12 : decode cX6_along 12 = .ok (.isub, 1) := by decide +kernel
theorem dX6_along_13 : decode cX6_along 13 = .ok (.i2l, 1) := by decide +kernel
theorem dX6_along_14 : decode cX6_along 14 = .ok (.aload_n 0, 1) := by decide +kernel
theorem dX6_along_15 : decode cX6_along 15 = .ok (.getfield 13, 3) := by decide +kernel
theorem dX6_along_18 : decode cX6_along 18 = .ok (.iload_n 3, 1) := by decide +kernel
theorem dX6_along_19 : decode cX6_along 19 = .ok (.iaload, 1) := by decide +kernel
theorem dX6_along_20 : decode cX6_along 20 = .ok (.aload_n 0, 1) := by decide +kernel
theorem dX6_along_21 : decode cX6_along 21 = .ok (.getfield 13, 3) := by decide +kernel
theorem dX6_along_24 : decode cX6_along 24 = .ok (.iload_n 1, 1) := by decide +kernel
theorem dX6_along_25 : decode cX6_along 25 = .ok (.iaload, 1) := by decide +kernel
theorem dX6_along_26 : decode cX6_along 26 = .ok (.isub, 1) := by decide +kernel
theorem dX6_along_27 : decode cX6_along 27 = .ok (.i2l, 1) := by decide +kernel
theorem dX6_along_28 : decode cX6_along 28 = .ok (.lmul, 1) := by decide +kernel
theorem dX6_along_29 : decode cX6_along 29 = .ok (.aload_n 0, 1) := by decide +kernel
theorem dX6_along_30 : decode cX6_along 30 = .ok (.getfield 17, 3) := by decide +kernel
theorem dX6_along_33 : decode cX6_along 33 = .ok (.iload_n 2, 1) := by decide +kernel
theorem dX6_along_34 : decode cX6_along 34 = .ok (.iaload, 1) := by decide +kernel
theorem dX6_along_35 : decode cX6_along 35 = .ok (.aload_n 0, 1) := by decide +kernel
theorem dX6_along_36 : decode cX6_along 36 = .ok (.getfield 17, 3) := by decide +kernel
theorem dX6_along_39 : decode cX6_along 39 = .ok (.iload_n 1, 1) := by decide +kernel
theorem dX6_along_40 : decode cX6_along 40 = .ok (.iaload, 1) := by decide +kernel
theorem dX6_along_41 : decode cX6_along 41 = .ok (.isub, 1) := by decide +kernel
theorem dX6_along_42 : decode cX6_along 42 = .ok (.i2l, 1) := by decide +kernel
theorem dX6_along_43 : decode cX6_along 43 = .ok (.aload_n 0, 1) := by decide +kernel
theorem dX6_along_44 : decode cX6_along 44 = .ok (.getfield 17, 3) := by decide +kernel
theorem dX6_along_47 : decode cX6_along 47 = .ok (.iload_n 3, 1) := by decide +kernel
theorem dX6_along_48 : decode cX6_along 48 = .ok (.iaload, 1) := by decide +kernel
theorem dX6_along_49 : decode cX6_along 49 = .ok (.aload_n 0, 1) := by decide +kernel
theorem dX6_along_50 : decode cX6_along 50 = .ok (.getfield 17, 3) := by decide +kernel
theorem dX6_along_53 : decode cX6_along 53 = .ok (.iload_n 1, 1) := by decide +kernel
theorem dX6_along_54 : decode cX6_along 54 = .ok (.iaload, 1) := by decide +kernel
theorem dX6_along_55 : decode cX6_along 55 = .ok (.isub, 1) := by decide +kernel
theorem dX6_along_56 : decode cX6_along 56 = .ok (.i2l, 1) := by decide +kernel
theorem dX6_along_57 : decode cX6_along 57 = .ok (.lmul, 1) := by decide +kernel
theorem dX6_along_58 : decode cX6_along 58 = .ok (.ladd, 1) := by decide +kernel
theorem dX6_along_59 : decode cX6_along 59 = .ok (.lreturn, 1) := by decide +kernel
theorem dX6_ring_0 : decode cX6_ring 0 = .ok (.aload_n 0, 1) := by decide +kernel
theorem dX6_ring_1 : decode cX6_ring 1 = .ok (.getfield 13, 3) := by decide +kernel
theorem dX6_ring_4 : decode cX6_ring 4 = .ok (.iload_n 1, 1) := by decide +kernel
theorem dX6_ring_5 : decode cX6_ring 5 = .ok (.iaload, 1) := by decide +kernel
theorem dX6_ring_6 : decode cX6_ring 6 = .ok (.aload_n 0, 1) := by decide +kernel
theorem dX6_ring_7 : decode cX6_ring 7 = .ok (.getfield 13, 3) := by decide +kernel
theorem dX6_ring_10 : decode cX6_ring 10 = .ok (.iload 4, 2) := by decide +kernel
theorem dX6_ring_12 : decode cX6_ring 12 = .ok (.iaload, 1) := by decide +kernel
theorem dX6_ring_13 : decode cX6_ring 13 = .ok (.isub, 1) := by decide +kernel
theorem dX6_ring_14 : decode cX6_ring 14 = .ok (.i2l, 1) := by decide +kernel
theorem dX6_ring_15 : decode cX6_ring 15 = .ok (.lstore 5, 2) := by decide +kernel
theorem dX6_ring_17 : decode cX6_ring 17 = .ok (.aload_n 0, 1) := by decide +kernel
theorem dX6_ring_18 : decode cX6_ring 18 = .ok (.getfield 17, 3) := by decide +kernel
theorem dX6_ring_21 : decode cX6_ring 21 = .ok (.iload_n 1, 1) := by decide +kernel
theorem dX6_ring_22 : decode cX6_ring 22 = .ok (.iaload, 1) := by decide +kernel
theorem dX6_ring_23 : decode cX6_ring 23 = .ok (.aload_n 0, 1) := by decide +kernel
theorem dX6_ring_24 : decode cX6_ring 24 = .ok (.getfield 17, 3) := by decide +kernel
theorem dX6_ring_27 : decode cX6_ring 27 = .ok (.iload 4, 2) := by decide +kernel
theorem dX6_ring_29 : decode cX6_ring 29 = .ok (.iaload, 1) := by decide +kernel
theorem dX6_ring_30 : decode cX6_ring 30 = .ok (.isub, 1) := by decide +kernel
theorem dX6_ring_31 : decode cX6_ring 31 = .ok (.i2l, 1) := by decide +kernel
theorem dX6_ring_32 : decode cX6_ring 32 = .ok (.lstore 7, 2) := by decide +kernel
theorem dX6_ring_34 : decode cX6_ring 34 = .ok (.aload_n 0, 1) := by decide +kernel
theorem dX6_ring_35 : decode cX6_ring 35 = .ok (.getfield 13, 3) := by decide +kernel
theorem dX6_ring_38 : decode cX6_ring 38 = .ok (.iload_n 2, 1) := by decide +kernel
theorem dX6_ring_39 : decode cX6_ring 39 = .ok (.iaload, 1) := by decide +kernel
theorem dX6_ring_40 : decode cX6_ring 40 = .ok (.aload_n 0, 1) := by decide +kernel
theorem dX6_ring_41 : decode cX6_ring 41 = .ok (.getfield 13, 3) := by decide +kernel
theorem dX6_ring_44 : decode cX6_ring 44 = .ok (.iload 4, 2) := by decide +kernel
theorem dX6_ring_46 : decode cX6_ring 46 = .ok (.iaload, 1) := by decide +kernel
theorem dX6_ring_47 : decode cX6_ring 47 = .ok (.isub, 1) := by decide +kernel
theorem dX6_ring_48 : decode cX6_ring 48 = .ok (.i2l, 1) := by decide +kernel
theorem dX6_ring_49 : decode cX6_ring 49 = .ok (.lstore 9, 2) := by decide +kernel
theorem dX6_ring_51 : decode cX6_ring 51 = .ok (.aload_n 0, 1) := by decide +kernel
theorem dX6_ring_52 : decode cX6_ring 52 = .ok (.getfield 17, 3) := by decide +kernel
theorem dX6_ring_55 : decode cX6_ring 55 = .ok (.iload_n 2, 1) := by decide +kernel
theorem dX6_ring_56 : decode cX6_ring 56 = .ok (.iaload, 1) := by decide +kernel
theorem dX6_ring_57 : decode cX6_ring 57 = .ok (.aload_n 0, 1) := by decide +kernel
theorem dX6_ring_58 : decode cX6_ring 58 = .ok (.getfield 17, 3) := by decide +kernel
theorem dX6_ring_61 : decode cX6_ring 61 = .ok (.iload 4, 2) := by decide +kernel
theorem dX6_ring_63 : decode cX6_ring 63 = .ok (.iaload, 1) := by decide +kernel
theorem dX6_ring_64 : decode cX6_ring 64 = .ok (.isub, 1) := by decide +kernel
theorem dX6_ring_65 : decode cX6_ring 65 = .ok (.i2l, 1) := by decide +kernel
theorem dX6_ring_66 : decode cX6_ring 66 = .ok (.lstore 11, 2) := by decide +kernel
theorem dX6_ring_68 : decode cX6_ring 68 = .ok (.aload_n 0, 1) := by decide +kernel
theorem dX6_ring_69 : decode cX6_ring 69 = .ok (.getfield 13, 3) := by decide +kernel
theorem dX6_ring_72 : decode cX6_ring 72 = .ok (.iload_n 3, 1) := by decide +kernel
theorem dX6_ring_73 : decode cX6_ring 73 = .ok (.iaload, 1) := by decide +kernel
theorem dX6_ring_74 : decode cX6_ring 74 = .ok (.aload_n 0, 1) := by decide +kernel
theorem dX6_ring_75 : decode cX6_ring 75 = .ok (.getfield 13, 3) := by decide +kernel
theorem dX6_ring_78 : decode cX6_ring 78 = .ok (.iload 4, 2) := by decide +kernel
theorem dX6_ring_80 : decode cX6_ring 80 = .ok (.iaload, 1) := by decide +kernel
theorem dX6_ring_81 : decode cX6_ring 81 = .ok (.isub, 1) := by decide +kernel
theorem dX6_ring_82 : decode cX6_ring 82 = .ok (.i2l, 1) := by decide +kernel
theorem dX6_ring_83 : decode cX6_ring 83 = .ok (.lstore 13, 2) := by decide +kernel
theorem dX6_ring_85 : decode cX6_ring 85 = .ok (.aload_n 0, 1) := by decide +kernel
theorem dX6_ring_86 : decode cX6_ring 86 = .ok (.getfield 17, 3) := by decide +kernel
theorem dX6_ring_89 : decode cX6_ring 89 = .ok (.iload_n 3, 1) := by decide +kernel
theorem dX6_ring_90 : decode cX6_ring 90 = .ok (.iaload, 1) := by decide +kernel
theorem dX6_ring_91 : decode cX6_ring 91 = .ok (.aload_n 0, 1) := by decide +kernel
theorem dX6_ring_92 : decode cX6_ring 92 = .ok (.getfield 17, 3) := by decide +kernel
theorem dX6_ring_95 : decode cX6_ring 95 = .ok (.iload 4, 2) := by decide +kernel
theorem dX6_ring_97 : decode cX6_ring 97 = .ok (.iaload, 1) := by decide +kernel
theorem dX6_ring_98 : decode cX6_ring 98 = .ok (.isub, 1) := by decide +kernel
theorem dX6_ring_99 : decode cX6_ring 99 = .ok (.i2l, 1) := by decide +kernel
theorem dX6_ring_100 : decode cX6_ring 100 = .ok (.lstore 15, 2) := by decide +kernel
theorem dX6_ring_102 : decode cX6_ring 102 = .ok (.lload 5, 2) := by decide +kernel
theorem dX6_ring_104 : decode cX6_ring 104 = .ok (.lload 5, 2) := by decide +kernel
theorem dX6_ring_106 : decode cX6_ring 106 = .ok (.lmul, 1) := by decide +kernel
theorem dX6_ring_107 : decode cX6_ring 107 = .ok (.lload 7, 2) := by decide +kernel
theorem dX6_ring_109 : decode cX6_ring 109 = .ok (.lload 7, 2) := by decide +kernel
theorem dX6_ring_111 : decode cX6_ring 111 = .ok (.lmul, 1) := by decide +kernel
theorem dX6_ring_112 : decode cX6_ring 112 = .ok (.ladd, 1) := by decide +kernel
theorem dX6_ring_113 : decode cX6_ring 113 = .ok (.lstore 17, 2) := by decide +kernel
theorem dX6_ring_115 : decode cX6_ring 115 = .ok (.lload 9, 2) := by decide +kernel
theorem dX6_ring_117 : decode cX6_ring 117 = .ok (.lload 9, 2) := by decide +kernel
theorem dX6_ring_119 : decode cX6_ring 119 = .ok (.lmul, 1) := by decide +kernel
theorem dX6_ring_120 : decode cX6_ring 120 = .ok (.lload 11, 2) := by decide +kernel
theorem dX6_ring_122 : decode cX6_ring 122 = .ok (.lload 11, 2) := by decide +kernel
theorem dX6_ring_124 : decode cX6_ring 124 = .ok (.lmul, 1) := by decide +kernel
theorem dX6_ring_125 : decode cX6_ring 125 = .ok (.ladd, 1) := by decide +kernel
theorem dX6_ring_126 : decode cX6_ring 126 = .ok (.lstore 19, 2) := by decide +kernel
theorem dX6_ring_128 : decode cX6_ring 128 = .ok (.lload 13, 2) := by decide +kernel
theorem dX6_ring_130 : decode cX6_ring 130 = .ok (.lload 13, 2) := by decide +kernel
theorem dX6_ring_132 : decode cX6_ring 132 = .ok (.lmul, 1) := by decide +kernel
theorem dX6_ring_133 : decode cX6_ring 133 = .ok (.lload 15, 2) := by decide +kernel
theorem dX6_ring_135 : decode cX6_ring 135 = .ok (.lload 15, 2) := by decide +kernel
theorem dX6_ring_137 : decode cX6_ring 137 = .ok (.lmul, 1) := by decide +kernel
theorem dX6_ring_138 : decode cX6_ring 138 = .ok (.ladd, 1) := by decide +kernel
theorem dX6_ring_139 : decode cX6_ring 139 = .ok (.lstore 21, 2) := by decide +kernel
theorem dX6_ring_141 : decode cX6_ring 141 = .ok (.aload_n 0, 1) := by decide +kernel
theorem dX6_ring_142 : decode cX6_ring 142 = .ok (.iload_n 1, 1) := by decide +kernel
theorem dX6_ring_143 : decode cX6_ring 143 = .ok (.iload_n 2, 1) := by decide +kernel
theorem dX6_ring_144 : decode cX6_ring 144 = .ok (.iload_n 3, 1) := by decide +kernel
theorem dX6_ring_145 : decode cX6_ring 145 = .ok (.invokevirtual 58, 3) := by decide +kernel
theorem dX6_ring_148 : decode cX6_ring 148 = .ok (.lload 17, 2) := by decide +kernel
theorem dX6_ring_150 : decode cX6_ring 150 = .ok (.lload 9, 2) := by decide +kernel
theorem dX6_ring_152 : decode cX6_ring 152 = .ok (.lload 15, 2) := by decide +kernel
theorem dX6_ring_154 : decode cX6_ring 154 = .ok (.lmul, 1) := by decide +kernel
theorem dX6_ring_155 : decode cX6_ring 155 = .ok (.lload 11, 2) := by decide +kernel
theorem dX6_ring_157 : decode cX6_ring 157 = .ok (.lload 13, 2) := by decide +kernel
theorem dX6_ring_159 : decode cX6_ring 159 = .ok (.lmul, 1) := by decide +kernel
theorem dX6_ring_160 : decode cX6_ring 160 = .ok (.lsub, 1) := by decide +kernel
theorem dX6_ring_161 : decode cX6_ring 161 = .ok (.lmul, 1) := by decide +kernel
theorem dX6_ring_162 : decode cX6_ring 162 = .ok (.lload 19, 2) := by decide +kernel
theorem dX6_ring_164 : decode cX6_ring 164 = .ok (.lload 13, 2) := by decide +kernel
theorem dX6_ring_166 : decode cX6_ring 166 = .ok (.lload 7, 2) := by decide +kernel
theorem dX6_ring_168 : decode cX6_ring 168 = .ok (.lmul, 1) := by decide +kernel
theorem dX6_ring_169 : decode cX6_ring 169 = .ok (.lload 15, 2) := by decide +kernel
theorem dX6_ring_171 : decode cX6_ring 171 = .ok (.lload 5, 2) := by decide +kernel
theorem dX6_ring_173 : decode cX6_ring 173 = .ok (.lmul, 1) := by decide +kernel
theorem dX6_ring_174 : decode cX6_ring 174 = .ok (.lsub, 1) := by decide +kernel
theorem dX6_ring_175 : decode cX6_ring 175 = .ok (.lmul, 1) := by decide +kernel
theorem dX6_ring_176 : decode cX6_ring 176 = .ok (.ladd, 1) := by decide +kernel
theorem dX6_ring_177 : decode cX6_ring 177 = .ok (.lload 21, 2) := by decide +kernel
theorem dX6_ring_179 : decode cX6_ring 179 = .ok (.lload 5, 2) := by decide +kernel
theorem dX6_ring_181 : decode cX6_ring 181 = .ok (.lload 11, 2) := by decide +kernel
theorem dX6_ring_183 : decode cX6_ring 183 = .ok (.lmul, 1) := by decide +kernel
theorem dX6_ring_184 : decode cX6_ring 184 = .ok (.lload 7, 2) := by decide +kernel
theorem dX6_ring_186 : decode cX6_ring 186 = .ok (.lload 9, 2) := by decide +kernel
theorem dX6_ring_188 : decode cX6_ring 188 = .ok (.lmul, 1) := by decide +kernel
theorem dX6_ring_189 : decode cX6_ring 189 = .ok (.lsub, 1) := by decide +kernel
theorem dX6_ring_190 : decode cX6_ring 190 = .ok (.lmul, 1) := by decide +kernel
theorem dX6_ring_191 : decode cX6_ring 191 = .ok (.ladd, 1) := by decide +kernel
theorem dX6_ring_192 : decode cX6_ring 192 = .ok (.invokestatic 54, 3) := by decide +kernel
theorem dX6_ring_195 : decode cX6_ring 195 = .ok (.imul, 1) := by decide +kernel
theorem dX6_ring_196 : decode cX6_ring 196 = .ok (.ireturn, 1) := by decide +kernel
theorem dX6_size_0 : decode cX6_size 0 = .ok (.aload_n 0, 1) := by decide +kernel
theorem dX6_size_1 : decode cX6_size 1 = .ok (.iconst 0, 1) := by decide +kernel
theorem dX6_size_2 : decode cX6_size 2 = .ok (.putfield 1, 3) := by decide +kernel
theorem dX6_size_5 : decode cX6_size 5 = .ok (.iload_n 1, 1) := by decide +kernel
theorem dX6_size_6 : decode cX6_size 6 = .ok (.bipush 24, 2) := by decide +kernel
theorem dX6_size_8 : decode cX6_size 8 = .ok (.if_icmp .le 6, 3) := by decide +kernel
theorem dX6_size_11 : decode cX6_size 11 = .ok (.bipush (-2), 2) := by decide +kernel
theorem dX6_size_13 : decode cX6_size 13 = .ok (.ireturn, 1) := by decide +kernel
theorem dX6_size_14 : decode cX6_size 14 = .ok (.iload_n 1, 1) := by decide +kernel
theorem dX6_size_15 : decode cX6_size 15 = .ok (.ifCond .ge 9, 3) := by decide +kernel
theorem dX6_size_18 : decode cX6_size 18 = .ok (.aload_n 0, 1) := by decide +kernel
theorem dX6_size_19 : decode cX6_size 19 = .ok (.iconst 1, 1) := by decide +kernel
theorem dX6_size_20 : decode cX6_size 20 = .ok (.invokevirtual 62, 3) := by decide +kernel
theorem dX6_size_23 : decode cX6_size 23 = .ok (.ireturn, 1) := by decide +kernel
theorem dX6_size_24 : decode cX6_size 24 = .ok (.aload_n 0, 1) := by decide +kernel
theorem dX6_size_25 : decode cX6_size 25 = .ok (.getfield 66, 3) := by decide +kernel
theorem dX6_size_28 : decode cX6_size 28 = .ok (.istore_n 2, 1) := by decide +kernel
theorem dX6_size_29 : decode cX6_size 29 = .ok (.aload_n 0, 1) := by decide +kernel
theorem dX6_size_30 : decode cX6_size 30 = .ok (.iload_n 1, 1) := by decide +kernel
theorem dX6_size_31 : decode cX6_size 31 = .ok (.putfield 66, 3) := by decide +kernel
theorem dX6_size_34 : decode cX6_size 34 = .ok (.iconst 0, 1) := by decide +kernel
theorem dX6_size_35 : decode cX6_size 35 = .ok (.istore_n 3, 1) := by decide +kernel
theorem dX6_size_36 : decode cX6_size 36 = .ok (.iload_n 3, 1) := by decide +kernel
theorem dX6_size_37 : decode cX6_size 37 = .ok (.bipush 24, 2) := by decide +kernel
theorem dX6_size_39 : decode cX6_size 39 = .ok (.if_icmp .ge 16, 3) := by decide +kernel
theorem dX6_size_42 : decode cX6_size 42 = .ok (.aload_n 0, 1) := by decide +kernel
theorem dX6_size_43 : decode cX6_size 43 = .ok (.getfield 20, 3) := by decide +kernel
theorem dX6_size_46 : decode cX6_size 46 = .ok (.iload_n 3, 1) := by decide +kernel
theorem dX6_size_47 : decode cX6_size 47 = .ok (.iconst (-1), 1) := by decide +kernel
theorem dX6_size_48 : decode cX6_size 48 = .ok (.iastore, 1) := by decide +kernel
theorem dX6_size_49 : decode cX6_size 49 = .ok (.iinc 3 1, 3) := by decide +kernel
theorem dX6_size_52 : decode cX6_size 52 = .ok (.goto (-16), 3) := by decide +kernel
theorem dX6_size_55 : decode cX6_size 55 = .ok (.iload_n 2, 1) := by decide +kernel
theorem dX6_size_56 : decode cX6_size 56 = .ok (.ireturn, 1) := by decide +kernel
theorem dX6_isPlace_0 : decode cX6_isPlace 0 = .ok (.iload_n 1, 1) := by decide +kernel
theorem dX6_isPlace_1 : decode cX6_isPlace 1 = .ok (.ifCond .lt 15, 3) := by decide +kernel
theorem dX6_isPlace_4 : decode cX6_isPlace 4 = .ok (.iload_n 1, 1) := by decide +kernel
theorem dX6_isPlace_5 : decode cX6_isPlace 5 = .ok (.aload_n 0, 1) := by decide +kernel
theorem dX6_isPlace_6 : decode cX6_isPlace 6 = .ok (.getfield 66, 3) := by decide +kernel
theorem dX6_isPlace_9 : decode cX6_isPlace 9 = .ok (.if_icmp .ge 7, 3) := by decide +kernel
theorem dX6_isPlace_12 : decode cX6_isPlace 12 = .ok (.iconst 1, 1) := by decide +kernel
theorem dX6_isPlace_13 : decode cX6_isPlace 13 = .ok (.goto 4, 3) := by decide +kernel
theorem dX6_isPlace_16 : decode cX6_isPlace 16 = .ok (.iconst 0, 1) := by decide +kernel
theorem dX6_isPlace_17 : decode cX6_isPlace 17 = .ok (.ireturn, 1) := by decide +kernel
theorem dX6_of_0 : decode cX6_of 0 = .ok (.aload_n 0, 1) := by decide +kernel
theorem dX6_of_1 : decode cX6_of 1 = .ok (.iconst 0, 1) := by decide +kernel
theorem dX6_of_2 : decode cX6_of 2 = .ok (.putfield 1, 3) := by decide +kernel
theorem dX6_of_5 : decode cX6_of 5 = .ok (.iload_n 2, 1) := by decide +kernel
theorem dX6_of_6 : decode cX6_of 6 = .ok (.iconst (-1), 1) := by decide +kernel
theorem dX6_of_7 : decode cX6_of 7 = .ok (.if_icmp .eq 14, 3) := by decide +kernel
theorem dX6_of_10 : decode cX6_of 10 = .ok (.aload_n 0, 1) := by decide +kernel
theorem dX6_of_11 : decode cX6_of 11 = .ok (.iload_n 2, 1) := by decide +kernel
theorem dX6_of_12 : decode cX6_of 12 = .ok (.invokevirtual 69, 3) := by decide +kernel
theorem dX6_of_15 : decode cX6_of 15 = .ok (.ifCond .ne 6, 3) := by decide +kernel
theorem dX6_of_18 : decode cX6_of 18 = .ok (.bipush (-2), 2) := by decide +kernel
theorem dX6_of_20 : decode cX6_of 20 = .ok (.ireturn, 1) := by decide +kernel
theorem dX6_of_21 : decode cX6_of 21 = .ok (.aload_n 0, 1) := by decide +kernel
theorem dX6_of_22 : decode cX6_of 22 = .ok (.iload_n 1, 1) := by decide +kernel
theorem dX6_of_23 : decode cX6_of 23 = .ok (.invokevirtual 73, 3) := by decide +kernel
theorem dX6_of_26 : decode cX6_of 26 = .ok (.ifCond .ne 9, 3) := by decide +kernel
theorem dX6_of_29 : decode cX6_of 29 = .ok (.aload_n 0, 1) := by decide +kernel
theorem dX6_of_30 : decode cX6_of 30 = .ok (.iconst 1, 1) := by decide +kernel
theorem dX6_of_31 : decode cX6_of 31 = .ok (.invokevirtual 62, 3) := by decide +kernel
theorem dX6_of_34 : decode cX6_of 34 = .ok (.ireturn, 1) := by decide +kernel
theorem dX6_of_35 : decode cX6_of 35 = .ok (.aload_n 0, 1) := by decide +kernel
theorem dX6_of_36 : decode cX6_of 36 = .ok (.getfield 20, 3) := by decide +kernel
theorem dX6_of_39 : decode cX6_of 39 = .ok (.iload_n 1, 1) := by decide +kernel
theorem dX6_of_40 : decode cX6_of 40 = .ok (.iaload, 1) := by decide +kernel
theorem dX6_of_41 : decode cX6_of 41 = .ok (.istore_n 3, 1) := by decide +kernel
theorem dX6_of_42 : decode cX6_of 42 = .ok (.aload_n 0, 1) := by decide +kernel
theorem dX6_of_43 : decode cX6_of 43 = .ok (.getfield 20, 3) := by decide +kernel
theorem dX6_of_46 : decode cX6_of 46 = .ok (.iload_n 1, 1) := by decide +kernel
theorem dX6_of_47 : decode cX6_of 47 = .ok (.iload_n 2, 1) := by decide +kernel
theorem dX6_of_48 : decode cX6_of 48 = .ok (.iastore, 1) := by decide +kernel
theorem dX6_of_49 : decode cX6_of 49 = .ok (.iload_n 3, 1) := by decide +kernel
theorem dX6_of_50 : decode cX6_of 50 = .ok (.ireturn, 1) := by decide +kernel
theorem dX6_at_0 : decode cX6_at 0 = .ok (.aload_n 0, 1) := by decide +kernel
theorem dX6_at_1 : decode cX6_at 1 = .ok (.iconst 0, 1) := by decide +kernel
theorem dX6_at_2 : decode cX6_at 2 = .ok (.putfield 1, 3) := by decide +kernel
theorem dX6_at_5 : decode cX6_at 5 = .ok (.aload_n 0, 1) := by decide +kernel
theorem dX6_at_6 : decode cX6_at 6 = .ok (.iload_n 1, 1) := by decide +kernel
theorem dX6_at_7 : decode cX6_at 7 = .ok (.invokevirtual 73, 3) := by decide +kernel
theorem dX6_at_10 : decode cX6_at 10 = .ok (.ifCond .ne 9, 3) := by decide +kernel
theorem dX6_at_13 : decode cX6_at 13 = .ok (.aload_n 0, 1) := by decide +kernel
theorem dX6_at_14 : decode cX6_at 14 = .ok (.iconst 1, 1) := by decide +kernel
theorem dX6_at_15 : decode cX6_at 15 = .ok (.invokevirtual 62, 3) := by decide +kernel
theorem dX6_at_18 : decode cX6_at 18 = .ok (.ireturn, 1) := by decide +kernel
theorem dX6_at_19 : decode cX6_at 19 = .ok (.aload_n 0, 1) := by decide +kernel
theorem dX6_at_20 : decode cX6_at 20 = .ok (.getfield 20, 3) := by decide +kernel
theorem dX6_at_23 : decode cX6_at 23 = .ok (.iload_n 1, 1) := by decide +kernel
theorem dX6_at_24 : decode cX6_at 24 = .ok (.iaload, 1) := by decide +kernel
theorem dX6_at_25 : decode cX6_at 25 = .ok (.iconst (-1), 1) := by decide +kernel
theorem dX6_at_26 : decode cX6_at 26 = .ok (.if_icmp .ne 9, 3) := by decide +kernel
theorem dX6_at_29 : decode cX6_at 29 = .ok (.aload_n 0, 1) := by decide +kernel
theorem dX6_at_30 : decode cX6_at 30 = .ok (.iconst 2, 1) := by decide +kernel
theorem dX6_at_31 : decode cX6_at 31 = .ok (.invokevirtual 62, 3) := by decide +kernel
theorem dX6_at_34 : decode cX6_at 34 = .ok (.ireturn, 1) := by decide +kernel
theorem dX6_at_35 : decode cX6_at 35 = .ok (.iload_n 2, 1) := by decide +kernel
theorem dX6_at_36 : decode cX6_at 36 = .ok (.ifCond .ne 17, 3) := by decide +kernel
theorem dX6_at_39 : decode cX6_at 39 = .ok (.aload_n 0, 1) := by decide +kernel
theorem dX6_at_40 : decode cX6_at 40 = .ok (.getfield 13, 3) := by decide +kernel
theorem dX6_at_43 : decode cX6_at 43 = .ok (.aload_n 0, 1) := by decide +kernel
theorem dX6_at_44 : decode cX6_at 44 = .ok (.getfield 20, 3) := by decide +kernel
theorem dX6_at_47 : decode cX6_at 47 = .ok (.iload_n 1, 1) := by decide +kernel
theorem dX6_at_48 : decode cX6_at 48 = .ok (.iaload, 1) := by decide +kernel
theorem dX6_at_49 : decode cX6_at 49 = .ok (.iaload, 1) := by decide +kernel
theorem dX6_at_50 : decode cX6_at 50 = .ok (.goto 28, 3) := by decide +kernel
theorem dX6_at_53 : decode cX6_at 53 = .ok (.iload_n 2, 1) := by decide +kernel
theorem dX6_at_54 : decode cX6_at 54 = .ok (.iconst 1, 1) := by decide +kernel
theorem dX6_at_55 : decode cX6_at 55 = .ok (.if_icmp .ne 17, 3) := by decide +kernel
theorem dX6_at_58 : decode cX6_at 58 = .ok (.aload_n 0, 1) := by decide +kernel
theorem dX6_at_59 : decode cX6_at 59 = .ok (.getfield 17, 3) := by decide +kernel
theorem dX6_at_62 : decode cX6_at 62 = .ok (.aload_n 0, 1) := by decide +kernel
theorem dX6_at_63 : decode cX6_at 63 = .ok (.getfield 20, 3) := by decide +kernel
theorem dX6_at_66 : decode cX6_at 66 = .ok (.iload_n 1, 1) := by decide +kernel
theorem dX6_at_67 : decode cX6_at 67 = .ok (.iaload, 1) := by decide +kernel
theorem dX6_at_68 : decode cX6_at 68 = .ok (.iaload, 1) := by decide +kernel
theorem dX6_at_69 : decode cX6_at 69 = .ok (.goto 9, 3) := by decide +kernel
theorem dX6_at_72 : decode cX6_at 72 = .ok (.aload_n 0, 1) := by decide +kernel
theorem dX6_at_73 : decode cX6_at 73 = .ok (.getfield 20, 3) := by decide +kernel
theorem dX6_at_76 : decode cX6_at 76 = .ok (.iload_n 1, 1) := by decide +kernel
theorem dX6_at_77 : decode cX6_at 77 = .ok (.iaload, 1) := by decide +kernel
theorem dX6_at_78 : decode cX6_at 78 = .ok (.ireturn, 1) := by decide +kernel
theorem dX6_size__0 : decode cX6_size_ 0 = .ok (.fload_n 0, 1) := by decide +kernel
theorem dX6_size__1 : decode cX6_size_ 1 = .ok (.fconst 0, 1) := by decide +kernel
theorem dX6_size__2 : decode cX6_size_ 2 = .ok (.fcmp .g, 1) := by decide +kernel
theorem dX6_size__3 : decode cX6_size_ 3 = .ok (.ifCond .ge 8, 3) := by decide +kernel
theorem dX6_size__6 : decode cX6_size_ 6 = .ok (.fload_n 0, 1) := by decide +kernel
theorem dX6_size__7 : decode cX6_size_ 7 = .ok (.fneg, 1) := by decide +kernel
theorem dX6_size__8 : decode cX6_size_ 8 = .ok (.goto 4, 3) := by decide +kernel
theorem dX6_size__11 : decode cX6_size_ 11 = .ok (.fload_n 0, 1) := by decide +kernel
theorem dX6_size__12 : decode cX6_size_ 12 = .ok (.freturn, 1) := by decide +kernel
theorem dX6_greater_0 : decode cX6_greater 0 = .ok (.fload_n 0, 1) := by decide +kernel
theorem dX6_greater_1 : decode cX6_greater 1 = .ok (.fload_n 1, 1) := by decide +kernel
theorem dX6_greater_2 : decode cX6_greater 2 = .ok (.fcmp .l, 1) := by decide +kernel
theorem dX6_greater_3 : decode cX6_greater 3 = .ok (.ifCond .le 7, 3) := by decide +kernel
theorem dX6_greater_6 : decode cX6_greater 6 = .ok (.fload_n 0, 1) := by decide +kernel
theorem dX6_greater_7 : decode cX6_greater 7 = .ok (.goto 4, 3) := by decide +kernel
theorem dX6_greater_10 : decode cX6_greater 10 = .ok (.fload_n 1, 1) := by decide +kernel
theorem dX6_greater_11 : decode cX6_greater 11 = .ok (.freturn, 1) := by decide +kernel
theorem dX6_fx_0 : decode cX6_fx 0 = .ok (.aload_n 0, 1) := by decide +kernel
theorem dX6_fx_1 : decode cX6_fx 1 = .ok (.getfield 13, 3) := by decide +kernel
theorem dX6_fx_4 : decode cX6_fx 4 = .ok (.iload_n 1, 1) := by decide +kernel
theorem dX6_fx_5 : decode cX6_fx 5 = .ok (.iaload, 1) := by decide +kernel
theorem dX6_fx_6 : decode cX6_fx 6 = .ok (.i2f, 1) := by decide +kernel
theorem dX6_fx_7 : decode cX6_fx 7 = .ok (.ldc 76, 2) := by decide +kernel
theorem dX6_fx_9 : decode cX6_fx 9 = .ok (.fdiv, 1) := by decide +kernel
theorem dX6_fx_10 : decode cX6_fx 10 = .ok (.freturn, 1) := by decide +kernel
theorem dX6_fy_0 : decode cX6_fy 0 = .ok (.aload_n 0, 1) := by decide +kernel
theorem dX6_fy_1 : decode cX6_fy 1 = .ok (.getfield 17, 3) := by decide +kernel
theorem dX6_fy_4 : decode cX6_fy 4 = .ok (.iload_n 1, 1) := by decide +kernel
theorem dX6_fy_5 : decode cX6_fy 5 = .ok (.iaload, 1) := by decide +kernel
theorem dX6_fy_6 : decode cX6_fy 6 = .ok (.i2f, 1) := by decide +kernel
theorem dX6_fy_7 : decode cX6_fy 7 = .ok (.ldc 76, 2) := by decide +kernel
theorem dX6_fy_9 : decode cX6_fy 9 = .ok (.fdiv, 1) := by decide +kernel
theorem dX6_fy_10 : decode cX6_fy 10 = .ok (.freturn, 1) := by decide +kernel
theorem dX6_most_0 : decode cX6_most 0 = .ok (.aload_n 0, 1) := by decide +kernel
theorem dX6_most_1 : decode cX6_most 1 = .ok (.iload_n 1, 1) := by decide +kernel
theorem dX6_most_2 : decode cX6_most 2 = .ok (.invokevirtual 77, 3) := by decide +kernel
theorem dX6_most_5 : decode cX6_most 5 = .ok (.invokestatic 81, 3) := by decide +kernel
theorem dX6_most_8 : decode cX6_most 8 = .ok (.aload_n 0, 1) := by decide +kernel
theorem dX6_most_9 : decode cX6_most 9 = .ok (.iload_n 1, 1) := by decide +kernel
theorem dX6_most_10 : decode cX6_most 10 = .ok (.invokevirtual 85, 3) := by decide +kernel
theorem dX6_most_13 : decode cX6_most 13 = .ok (.invokestatic 81, 3) := by decide +kernel
theorem dX6_most_16 : decode cX6_most 16 = .ok (.invokestatic 88, 3) := by decide +kernel
theorem dX6_most_19 : decode cX6_most 19 = .ok (.aload_n 0, 1) := by decide +kernel
theorem dX6_most_20 : decode cX6_most 20 = .ok (.iload_n 2, 1) := by decide +kernel
theorem dX6_most_21 : decode cX6_most 21 = .ok (.invokevirtual 77, 3) := by decide +kernel
theorem dX6_most_24 : decode cX6_most 24 = .ok (.invokestatic 81, 3) := by decide +kernel
theorem dX6_most_27 : decode cX6_most 27 = .ok (.aload_n 0, 1) := by decide +kernel
theorem dX6_most_28 : decode cX6_most 28 = .ok (.iload_n 2, 1) := by decide +kernel
theorem dX6_most_29 : decode cX6_most 29 = .ok (.invokevirtual 85, 3) := by decide +kernel
theorem dX6_most_32 : decode cX6_most 32 = .ok (.invokestatic 81, 3) := by decide +kernel
theorem dX6_most_35 : decode cX6_most 35 = .ok (.invokestatic 88, 3) := by decide +kernel
theorem dX6_most_38 : decode cX6_most 38 = .ok (.invokestatic 88, 3) := by decide +kernel
theorem dX6_most_41 : decode cX6_most 41 = .ok (.aload_n 0, 1) := by decide +kernel
theorem dX6_most_42 : decode cX6_most 42 = .ok (.iload_n 3, 1) := by decide +kernel
theorem dX6_most_43 : decode cX6_most 43 = .ok (.invokevirtual 77, 3) := by decide +kernel
theorem dX6_most_46 : decode cX6_most 46 = .ok (.invokestatic 81, 3) := by decide +kernel
theorem dX6_most_49 : decode cX6_most 49 = .ok (.aload_n 0, 1) := by decide +kernel
theorem dX6_most_50 : decode cX6_most 50 = .ok (.iload_n 3, 1) := by decide +kernel
theorem dX6_most_51 : decode cX6_most 51 = .ok (.invokevirtual 85, 3) := by decide +kernel
theorem dX6_most_54 : decode cX6_most 54 = .ok (.invokestatic 81, 3) := by decide +kernel
theorem dX6_most_57 : decode cX6_most 57 = .ok (.invokestatic 88, 3) := by decide +kernel
theorem dX6_most_60 : decode cX6_most 60 = .ok (.invokestatic 88, 3) := by decide +kernel
theorem dX6_most_63 : decode cX6_most 63 = .ok (.freturn, 1) := by decide +kernel
theorem dX6_decidesTurn_0 : decode cX6_decidesTurn 0 = .ok (.aload_n 0, 1) := by decide +kernel
theorem dX6_decidesTurn_1 : decode cX6_decidesTurn 1 = .ok (.iload_n 2, 1) := by decide +kernel
theorem dX6_decidesTurn_2 : decode cX6_decidesTurn 2 = .ok (.invokevirtual 77, 3) := by decide +kernel
theorem dX6_decidesTurn_5 : decode cX6_decidesTurn 5 = .ok (.aload_n 0, 1) := by decide +kernel
theorem dX6_decidesTurn_6 : decode cX6_decidesTurn 6 = .ok (.iload_n 1, 1) := by decide +kernel
theorem dX6_decidesTurn_7 : decode cX6_decidesTurn 7 = .ok (.invokevirtual 77, 3) := by decide +kernel
theorem dX6_decidesTurn_10 : decode cX6_decidesTurn 10 = .ok (.fsub, 1) := by decide +kernel
theorem dX6_decidesTurn_11 : decode cX6_decidesTurn 11 = .ok (.aload_n 0, 1) := by decide +kernel
theorem dX6_decidesTurn_12 : decode cX6_decidesTurn 12 = .ok (.iload_n 3, 1) := by decide +kernel
theorem dX6_decidesTurn_13 : decode cX6_decidesTurn 13 = .ok (.invokevirtual 85, 3) := by decide +kernel
theorem dX6_decidesTurn_16 : decode cX6_decidesTurn 16 = .ok (.aload_n 0, 1) := by decide +kernel
theorem dX6_decidesTurn_17 : decode cX6_decidesTurn 17 = .ok (.iload_n 1, 1) := by decide +kernel
theorem dX6_decidesTurn_18 : decode cX6_decidesTurn 18 = .ok (.invokevirtual 85, 3) := by decide +kernel
theorem dX6_decidesTurn_21 : decode cX6_decidesTurn 21 = .ok (.fsub, 1) := by decide +kernel
theorem dX6_decidesTurn_22 : decode cX6_decidesTurn 22 = .ok (.fmul, 1) := by decide +kernel
theorem dX6_decidesTurn_23 : decode cX6_decidesTurn 23 = .ok (.fstore 4, 2) := by decide +kernel
theorem dX6_decidesTurn_25 : decode cX6_decidesTurn 25 = .ok (.aload_n 0, 1) := by decide +kernel
theorem dX6_decidesTurn_26 : decode cX6_decidesTurn 26 = .ok (.iload_n 2, 1) := by decide +kernel
theorem dX6_decidesTurn_27 : decode cX6_decidesTurn 27 = .ok (.invokevirtual 85, 3) := by decide +kernel
theorem dX6_decidesTurn_30 : decode cX6_decidesTurn 30 = .ok (.aload_n 0, 1) := by decide +kernel
theorem dX6_decidesTurn_31 : decode cX6_decidesTurn 31 = .ok (.iload_n 1, 1) := by decide +kernel
theorem dX6_decidesTurn_32 : decode cX6_decidesTurn 32 = .ok (.invokevirtual 85, 3) := by decide +kernel
theorem dX6_decidesTurn_35 : decode cX6_decidesTurn 35 = .ok (.fsub, 1) := by decide +kernel
theorem dX6_decidesTurn_36 : decode cX6_decidesTurn 36 = .ok (.aload_n 0, 1) := by decide +kernel
theorem dX6_decidesTurn_37 : decode cX6_decidesTurn 37 = .ok (.iload_n 3, 1) := by decide +kernel
theorem dX6_decidesTurn_38 : decode cX6_decidesTurn 38 = .ok (.invokevirtual 77, 3) := by decide +kernel
theorem dX6_decidesTurn_41 : decode cX6_decidesTurn 41 = .ok (.aload_n 0, 1) := by decide +kernel
theorem dX6_decidesTurn_42 : decode cX6_decidesTurn 42 = .ok (.iload_n 1, 1) := by decide +kernel
theorem dX6_decidesTurn_43 : decode cX6_decidesTurn 43 = .ok (.invokevirtual 77, 3) := by decide +kernel
theorem dX6_decidesTurn_46 : decode cX6_decidesTurn 46 = .ok (.fsub, 1) := by decide +kernel
theorem dX6_decidesTurn_47 : decode cX6_decidesTurn 47 = .ok (.fmul, 1) := by decide +kernel
theorem dX6_decidesTurn_48 : decode cX6_decidesTurn 48 = .ok (.fstore 5, 2) := by decide +kernel
theorem dX6_decidesTurn_50 : decode cX6_decidesTurn 50 = .ok (.fload 4, 2) := by decide +kernel
theorem dX6_decidesTurn_52 : decode cX6_decidesTurn 52 = .ok (.fload 5, 2) := by decide +kernel
theorem dX6_decidesTurn_54 : decode cX6_decidesTurn 54 = .ok (.fsub, 1) := by decide +kernel
theorem dX6_decidesTurn_55 : decode cX6_decidesTurn 55 = .ok (.fstore 6, 2) := by decide +kernel
theorem dX6_decidesTurn_57 : decode cX6_decidesTurn 57 = .ok (.aload_n 0, 1) := by decide +kernel
theorem dX6_decidesTurn_58 : decode cX6_decidesTurn 58 = .ok (.iload_n 1, 1) := by decide +kernel
theorem dX6_decidesTurn_59 : decode cX6_decidesTurn 59 = .ok (.iload_n 2, 1) := by decide +kernel
theorem dX6_decidesTurn_60 : decode cX6_decidesTurn 60 = .ok (.iload_n 3, 1) := by decide +kernel
theorem dX6_decidesTurn_61 : decode cX6_decidesTurn 61 = .ok (.invokevirtual 92, 3) := by decide +kernel
theorem dX6_decidesTurn_64 : decode cX6_decidesTurn 64 = .ok (.fstore 7, 2) := by decide +kernel
theorem dX6_decidesTurn_66 : decode cX6_decidesTurn 66 = .ok (.fload 7, 2) := by decide +kernel
theorem dX6_decidesTurn_68 : decode cX6_decidesTurn 68 = .ok (.fload 7, 2) := by decide +kernel
theorem dX6_decidesTurn_70 : decode cX6_decidesTurn 70 = .ok (.fmul, 1) := by decide +kernel
theorem dX6_decidesTurn_71 : decode cX6_decidesTurn 71 = .ok (.ldc 96, 2) := by decide +kernel
theorem dX6_decidesTurn_73 : decode cX6_decidesTurn 73 = .ok (.fmul, 1) := by decide +kernel
theorem dX6_decidesTurn_74 : decode cX6_decidesTurn 74 = .ok (.fstore 8, 2) := by decide +kernel
theorem dX6_decidesTurn_76 : decode cX6_decidesTurn 76 = .ok (.fload 6, 2) := by decide +kernel
theorem dX6_decidesTurn_78 : decode cX6_decidesTurn 78 = .ok (.invokestatic 81, 3) := by decide +kernel
theorem dX6_decidesTurn_81 : decode cX6_decidesTurn 81 = .ok (.fload 8, 2) := by decide +kernel
theorem dX6_decidesTurn_83 : decode cX6_decidesTurn 83 = .ok (.fcmp .l, 1) := by decide +kernel
theorem dX6_decidesTurn_84 : decode cX6_decidesTurn 84 = .ok (.ifCond .le 7, 3) := by decide +kernel
theorem dX6_decidesTurn_87 : decode cX6_decidesTurn 87 = .ok (.iconst 1, 1) := by decide +kernel
theorem dX6_decidesTurn_88 : decode cX6_decidesTurn 88 = .ok (.goto 4, 3) := by decide +kernel
theorem dX6_decidesTurn_91 : decode cX6_decidesTurn 91 = .ok (.iconst 0, 1) := by decide +kernel
theorem dX6_decidesTurn_92 : decode cX6_decidesTurn 92 = .ok (.ireturn, 1) := by decide +kernel
theorem dX6_decidesRing_0 : decode cX6_decidesRing 0 = .ok (.aload_n 0, 1) := by decide +kernel
theorem dX6_decidesRing_1 : decode cX6_decidesRing 1 = .ok (.iload_n 1, 1) := by decide +kernel
theorem dX6_decidesRing_2 : decode cX6_decidesRing 2 = .ok (.invokevirtual 77, 3) := by decide +kernel
theorem dX6_decidesRing_5 : decode cX6_decidesRing 5 = .ok (.aload_n 0, 1) := by decide +kernel
theorem dX6_decidesRing_6 : decode cX6_decidesRing 6 = .ok (.iload 4, 2) := by decide +kernel
theorem dX6_decidesRing_8 : decode cX6_decidesRing 8 = .ok (.invokevirtual 77, 3) := by decide +kernel
theorem dX6_decidesRing_11 : decode cX6_decidesRing 11 = .ok (.fsub, 1) := by decide +kernel
theorem dX6_decidesRing_12 : decode cX6_decidesRing 12 = .ok (.fstore 5, 2) := by decide +kernel
theorem dX6_decidesRing_14 : decode cX6_decidesRing 14 = .ok (.aload_n 0, 1) := by decide +kernel
theorem dX6_decidesRing_15 : decode cX6_decidesRing 15 = .ok (.iload_n 1, 1) := by decide +kernel
theorem dX6_decidesRing_16 : decode cX6_decidesRing 16 = .ok (.invokevirtual 85, 3) := by decide +kernel
theorem dX6_decidesRing_19 : decode cX6_decidesRing 19 = .ok (.aload_n 0, 1) := by decide +kernel
theorem dX6_decidesRing_20 : decode cX6_decidesRing 20 = .ok (.iload 4, 2) := by decide +kernel
theorem dX6_decidesRing_22 : decode cX6_decidesRing 22 = .ok (.invokevirtual 85, 3) := by decide +kernel
theorem dX6_decidesRing_25 : decode cX6_decidesRing 25 = .ok (.fsub, 1) := by decide +kernel
theorem dX6_decidesRing_26 : decode cX6_decidesRing 26 = .ok (.fstore 6, 2) := by decide +kernel
theorem dX6_decidesRing_28 : decode cX6_decidesRing 28 = .ok (.aload_n 0, 1) := by decide +kernel
theorem dX6_decidesRing_29 : decode cX6_decidesRing 29 = .ok (.iload_n 2, 1) := by decide +kernel
theorem dX6_decidesRing_30 : decode cX6_decidesRing 30 = .ok (.invokevirtual 77, 3) := by decide +kernel
theorem dX6_decidesRing_33 : decode cX6_decidesRing 33 = .ok (.aload_n 0, 1) := by decide +kernel
theorem dX6_decidesRing_34 : decode cX6_decidesRing 34 = .ok (.iload 4, 2) := by decide +kernel
theorem dX6_decidesRing_36 : decode cX6_decidesRing 36 = .ok (.invokevirtual 77, 3) := by decide +kernel
theorem dX6_decidesRing_39 : decode cX6_decidesRing 39 = .ok (.fsub, 1) := by decide +kernel
theorem dX6_decidesRing_40 : decode cX6_decidesRing 40 = .ok (.fstore 7, 2) := by decide +kernel
theorem dX6_decidesRing_42 : decode cX6_decidesRing 42 = .ok (.aload_n 0, 1) := by decide +kernel
theorem dX6_decidesRing_43 : decode cX6_decidesRing 43 = .ok (.iload_n 2, 1) := by decide +kernel
theorem dX6_decidesRing_44 : decode cX6_decidesRing 44 = .ok (.invokevirtual 85, 3) := by decide +kernel
theorem dX6_decidesRing_47 : decode cX6_decidesRing 47 = .ok (.aload_n 0, 1) := by decide +kernel
theorem dX6_decidesRing_48 : decode cX6_decidesRing 48 = .ok (.iload 4, 2) := by decide +kernel
theorem dX6_decidesRing_50 : decode cX6_decidesRing 50 = .ok (.invokevirtual 85, 3) := by decide +kernel
theorem dX6_decidesRing_53 : decode cX6_decidesRing 53 = .ok (.fsub, 1) := by decide +kernel
theorem dX6_decidesRing_54 : decode cX6_decidesRing 54 = .ok (.fstore 8, 2) := by decide +kernel
theorem dX6_decidesRing_56 : decode cX6_decidesRing 56 = .ok (.aload_n 0, 1) := by decide +kernel
theorem dX6_decidesRing_57 : decode cX6_decidesRing 57 = .ok (.iload_n 3, 1) := by decide +kernel
theorem dX6_decidesRing_58 : decode cX6_decidesRing 58 = .ok (.invokevirtual 77, 3) := by decide +kernel
theorem dX6_decidesRing_61 : decode cX6_decidesRing 61 = .ok (.aload_n 0, 1) := by decide +kernel
theorem dX6_decidesRing_62 : decode cX6_decidesRing 62 = .ok (.iload 4, 2) := by decide +kernel
theorem dX6_decidesRing_64 : decode cX6_decidesRing 64 = .ok (.invokevirtual 77, 3) := by decide +kernel
theorem dX6_decidesRing_67 : decode cX6_decidesRing 67 = .ok (.fsub, 1) := by decide +kernel
theorem dX6_decidesRing_68 : decode cX6_decidesRing 68 = .ok (.fstore 9, 2) := by decide +kernel
theorem dX6_decidesRing_70 : decode cX6_decidesRing 70 = .ok (.aload_n 0, 1) := by decide +kernel
theorem dX6_decidesRing_71 : decode cX6_decidesRing 71 = .ok (.iload_n 3, 1) := by decide +kernel
theorem dX6_decidesRing_72 : decode cX6_decidesRing 72 = .ok (.invokevirtual 85, 3) := by decide +kernel
theorem dX6_decidesRing_75 : decode cX6_decidesRing 75 = .ok (.aload_n 0, 1) := by decide +kernel
theorem dX6_decidesRing_76 : decode cX6_decidesRing 76 = .ok (.iload 4, 2) := by decide +kernel
theorem dX6_decidesRing_78 : decode cX6_decidesRing 78 = .ok (.invokevirtual 85, 3) := by decide +kernel
theorem dX6_decidesRing_81 : decode cX6_decidesRing 81 = .ok (.fsub, 1) := by decide +kernel
theorem dX6_decidesRing_82 : decode cX6_decidesRing 82 = .ok (.fstore 10, 2) := by decide +kernel
theorem dX6_decidesRing_84 : decode cX6_decidesRing 84 = .ok (.fload 5, 2) := by decide +kernel
theorem dX6_decidesRing_86 : decode cX6_decidesRing 86 = .ok (.fload 5, 2) := by decide +kernel
theorem dX6_decidesRing_88 : decode cX6_decidesRing 88 = .ok (.fmul, 1) := by decide +kernel
theorem dX6_decidesRing_89 : decode cX6_decidesRing 89 = .ok (.fload 6, 2) := by decide +kernel
theorem dX6_decidesRing_91 : decode cX6_decidesRing 91 = .ok (.fload 6, 2) := by decide +kernel
theorem dX6_decidesRing_93 : decode cX6_decidesRing 93 = .ok (.fmul, 1) := by decide +kernel
theorem dX6_decidesRing_94 : decode cX6_decidesRing 94 = .ok (.fadd, 1) := by decide +kernel
theorem dX6_decidesRing_95 : decode cX6_decidesRing 95 = .ok (.fstore 11, 2) := by decide +kernel
theorem dX6_decidesRing_97 : decode cX6_decidesRing 97 = .ok (.fload 7, 2) := by decide +kernel
theorem dX6_decidesRing_99 : decode cX6_decidesRing 99 = .ok (.fload 7, 2) := by decide +kernel
theorem dX6_decidesRing_101 : decode cX6_decidesRing 101 = .ok (.fmul, 1) := by decide +kernel
theorem dX6_decidesRing_102 : decode cX6_decidesRing 102 = .ok (.fload 8, 2) := by decide +kernel
theorem dX6_decidesRing_104 : decode cX6_decidesRing 104 = .ok (.fload 8, 2) := by decide +kernel
theorem dX6_decidesRing_106 : decode cX6_decidesRing 106 = .ok (.fmul, 1) := by decide +kernel
theorem dX6_decidesRing_107 : decode cX6_decidesRing 107 = .ok (.fadd, 1) := by decide +kernel
theorem dX6_decidesRing_108 : decode cX6_decidesRing 108 = .ok (.fstore 12, 2) := by decide +kernel
theorem dX6_decidesRing_110 : decode cX6_decidesRing 110 = .ok (.fload 9, 2) := by decide +kernel
theorem dX6_decidesRing_112 : decode cX6_decidesRing 112 = .ok (.fload 9, 2) := by decide +kernel
theorem dX6_decidesRing_114 : decode cX6_decidesRing 114 = .ok (.fmul, 1) := by decide +kernel
theorem dX6_decidesRing_115 : decode cX6_decidesRing 115 = .ok (.fload 10, 2) := by decide +kernel
theorem dX6_decidesRing_117 : decode cX6_decidesRing 117 = .ok (.fload 10, 2) := by decide +kernel
theorem dX6_decidesRing_119 : decode cX6_decidesRing 119 = .ok (.fmul, 1) := by decide +kernel
theorem dX6_decidesRing_120 : decode cX6_decidesRing 120 = .ok (.fadd, 1) := by decide +kernel
theorem dX6_decidesRing_121 : decode cX6_decidesRing 121 = .ok (.fstore 13, 2) := by decide +kernel
theorem dX6_decidesRing_123 : decode cX6_decidesRing 123 = .ok (.fload 11, 2) := by decide +kernel
theorem dX6_decidesRing_125 : decode cX6_decidesRing 125 = .ok (.fload 7, 2) := by decide +kernel
theorem dX6_decidesRing_127 : decode cX6_decidesRing 127 = .ok (.fload 10, 2) := by decide +kernel
theorem dX6_decidesRing_129 : decode cX6_decidesRing 129 = .ok (.fmul, 1) := by decide +kernel
theorem dX6_decidesRing_130 : decode cX6_decidesRing 130 = .ok (.fload 8, 2) := by decide +kernel
theorem dX6_decidesRing_132 : decode cX6_decidesRing 132 = .ok (.fload 9, 2) := by decide +kernel
theorem dX6_decidesRing_134 : decode cX6_decidesRing 134 = .ok (.fmul, 1) := by decide +kernel
theorem dX6_decidesRing_135 : decode cX6_decidesRing 135 = .ok (.fsub, 1) := by decide +kernel
theorem dX6_decidesRing_136 : decode cX6_decidesRing 136 = .ok (.fmul, 1) := by decide +kernel
theorem dX6_decidesRing_137 : decode cX6_decidesRing 137 = .ok (.fload 12, 2) := by decide +kernel
theorem dX6_decidesRing_139 : decode cX6_decidesRing 139 = .ok (.fload 9, 2) := by decide +kernel
theorem dX6_decidesRing_141 : decode cX6_decidesRing 141 = .ok (.fload 6, 2) := by decide +kernel
theorem dX6_decidesRing_143 : decode cX6_decidesRing 143 = .ok (.fmul, 1) := by decide +kernel
theorem dX6_decidesRing_144 : decode cX6_decidesRing 144 = .ok (.fload 10, 2) := by decide +kernel
theorem dX6_decidesRing_146 : decode cX6_decidesRing 146 = .ok (.fload 5, 2) := by decide +kernel
theorem dX6_decidesRing_148 : decode cX6_decidesRing 148 = .ok (.fmul, 1) := by decide +kernel
theorem dX6_decidesRing_149 : decode cX6_decidesRing 149 = .ok (.fsub, 1) := by decide +kernel
theorem dX6_decidesRing_150 : decode cX6_decidesRing 150 = .ok (.fmul, 1) := by decide +kernel
theorem dX6_decidesRing_151 : decode cX6_decidesRing 151 = .ok (.fadd, 1) := by decide +kernel
theorem dX6_decidesRing_152 : decode cX6_decidesRing 152 = .ok (.fload 13, 2) := by decide +kernel
theorem dX6_decidesRing_154 : decode cX6_decidesRing 154 = .ok (.fload 5, 2) := by decide +kernel
theorem dX6_decidesRing_156 : decode cX6_decidesRing 156 = .ok (.fload 8, 2) := by decide +kernel
theorem dX6_decidesRing_158 : decode cX6_decidesRing 158 = .ok (.fmul, 1) := by decide +kernel
theorem dX6_decidesRing_159 : decode cX6_decidesRing 159 = .ok (.fload 6, 2) := by decide +kernel
theorem dX6_decidesRing_161 : decode cX6_decidesRing 161 = .ok (.fload 7, 2) := by decide +kernel
theorem dX6_decidesRing_163 : decode cX6_decidesRing 163 = .ok (.fmul, 1) := by decide +kernel
theorem dX6_decidesRing_164 : decode cX6_decidesRing 164 = .ok (.fsub, 1) := by decide +kernel
theorem dX6_decidesRing_165 : decode cX6_decidesRing 165 = .ok (.fmul, 1) := by decide +kernel
theorem dX6_decidesRing_166 : decode cX6_decidesRing 166 = .ok (.fadd, 1) := by decide +kernel
theorem dX6_decidesRing_167 : decode cX6_decidesRing 167 = .ok (.fstore 14, 2) := by decide +kernel
theorem dX6_decidesRing_169 : decode cX6_decidesRing 169 = .ok (.aload_n 0, 1) := by decide +kernel
theorem dX6_decidesRing_170 : decode cX6_decidesRing 170 = .ok (.iload_n 1, 1) := by decide +kernel
theorem dX6_decidesRing_171 : decode cX6_decidesRing 171 = .ok (.iload_n 2, 1) := by decide +kernel
theorem dX6_decidesRing_172 : decode cX6_decidesRing 172 = .ok (.iload_n 3, 1) := by decide +kernel
theorem dX6_decidesRing_173 : decode cX6_decidesRing 173 = .ok (.invokevirtual 92, 3) := by decide +kernel
theorem dX6_decidesRing_176 : decode cX6_decidesRing 176 = .ok (.aload_n 0, 1) := by decide +kernel
theorem dX6_decidesRing_177 : decode cX6_decidesRing 177 = .ok (.iload 4, 2) := by decide +kernel
theorem dX6_decidesRing_179 : decode cX6_decidesRing 179 = .ok (.invokevirtual 77, 3) := by decide +kernel
theorem dX6_decidesRing_182 : decode cX6_decidesRing 182 = .ok (.invokestatic 81, 3) := by decide +kernel
theorem dX6_decidesRing_185 : decode cX6_decidesRing 185 = .ok (.aload_n 0, 1) := by decide +kernel
theorem dX6_decidesRing_186 : decode cX6_decidesRing 186 = .ok (.iload 4, 2) := by decide +kernel
theorem dX6_decidesRing_188 : decode cX6_decidesRing 188 = .ok (.invokevirtual 85, 3) := by decide +kernel
theorem dX6_decidesRing_191 : decode cX6_decidesRing 191 = .ok (.invokestatic 81, 3) := by decide +kernel
theorem dX6_decidesRing_194 : decode cX6_decidesRing 194 = .ok (.invokestatic 88, 3) := by decide +kernel
theorem dX6_decidesRing_197 : decode cX6_decidesRing 197 = .ok (.invokestatic 88, 3) := by decide +kernel
theorem dX6_decidesRing_200 : decode cX6_decidesRing 200 = .ok (.fstore 15, 2) := by decide +kernel
theorem dX6_decidesRing_202 : decode cX6_decidesRing 202 = .ok (.fload 15, 2) := by decide +kernel
theorem dX6_decidesRing_204 : decode cX6_decidesRing 204 = .ok (.fload 15, 2) := by decide +kernel
theorem dX6_decidesRing_206 : decode cX6_decidesRing 206 = .ok (.fmul, 1) := by decide +kernel
theorem dX6_decidesRing_207 : decode cX6_decidesRing 207 = .ok (.fload 15, 2) := by decide +kernel
theorem dX6_decidesRing_209 : decode cX6_decidesRing 209 = .ok (.fload 15, 2) := by decide +kernel
theorem dX6_decidesRing_211 : decode cX6_decidesRing 211 = .ok (.fmul, 1) := by decide +kernel
theorem dX6_decidesRing_212 : decode cX6_decidesRing 212 = .ok (.fmul, 1) := by decide +kernel
theorem dX6_decidesRing_213 : decode cX6_decidesRing 213 = .ok (.ldc 97, 2) := by decide +kernel
theorem dX6_decidesRing_215 : decode cX6_decidesRing 215 = .ok (.fmul, 1) := by decide +kernel
theorem dX6_decidesRing_216 : decode cX6_decidesRing 216 = .ok (.fstore 16, 2) := by decide +kernel
theorem dX6_decidesRing_218 : decode cX6_decidesRing 218 = .ok (.fload 14, 2) := by decide +kernel
theorem dX6_decidesRing_220 : decode cX6_decidesRing 220 = .ok (.invokestatic 81, 3) := by decide +kernel
theorem dX6_decidesRing_223 : decode cX6_decidesRing 223 = .ok (.fload 16, 2) := by decide +kernel
theorem dX6_decidesRing_225 : decode cX6_decidesRing 225 = .ok (.fcmp .l, 1) := by decide +kernel
theorem dX6_decidesRing_226 : decode cX6_decidesRing 226 = .ok (.ifCond .le 7, 3) := by decide +kernel
theorem dX6_decidesRing_229 : decode cX6_decidesRing 229 = .ok (.iconst 1, 1) := by decide +kernel
theorem dX6_decidesRing_230 : decode cX6_decidesRing 230 = .ok (.goto 4, 3) := by decide +kernel
theorem dX6_decidesRing_233 : decode cX6_decidesRing 233 = .ok (.iconst 0, 1) := by decide +kernel
theorem dX6_decidesRing_234 : decode cX6_decidesRing 234 = .ok (.ireturn, 1) := by decide +kernel
theorem dX6_counted_0 : decode cX6_counted 0 = .ok (.aload_n 0, 1) := by decide +kernel
theorem dX6_counted_1 : decode cX6_counted 1 = .ok (.dup, 1) := by decide +kernel
theorem dX6_counted_2 : decode cX6_counted 2 = .ok (.getfield 98, 3) := by decide +kernel
theorem dX6_counted_5 : decode cX6_counted 5 = .ok (.aload_n 0, 1) := by decide +kernel
theorem dX6_counted_6 : decode cX6_counted 6 = .ok (.getfield 23, 3) := by decide +kernel
theorem dX6_counted_9 : decode cX6_counted 9 = .ok (.ifCond .eq 11, 3) := by decide +kernel
theorem dX6_counted_12 : decode cX6_counted 12 = .ok (.iload_n 1, 1) := by decide +kernel
theorem dX6_counted_13 : decode cX6_counted 13 = .ok (.ifCond .eq 7, 3) := by decide +kernel
theorem dX6_counted_16 : decode cX6_counted 16 = .ok (.iconst 1, 1) := by decide +kernel
theorem dX6_counted_17 : decode cX6_counted 17 = .ok (.goto 4, 3) := by decide +kernel
theorem dX6_counted_20 : decode cX6_counted 20 = .ok (.iconst 0, 1) := by decide +kernel
theorem dX6_counted_21 : decode cX6_counted 21 = .ok (.iadd, 1) := by decide +kernel
theorem dX6_counted_22 : decode cX6_counted 22 = .ok (.putfield 98, 3) := by decide +kernel
theorem dX6_counted_25 : decode cX6_counted 25 = .ok (.aload_n 0, 1) := by decide +kernel
theorem dX6_counted_26 : decode cX6_counted 26 = .ok (.dup, 1) := by decide +kernel
theorem dX6_counted_27 : decode cX6_counted 27 = .ok (.getfield 101, 3) := by decide +kernel
theorem dX6_counted_30 : decode cX6_counted 30 = .ok (.aload_n 0, 1) := by decide +kernel
theorem dX6_counted_31 : decode cX6_counted 31 = .ok (.getfield 23, 3) := by decide +kernel
theorem dX6_counted_34 : decode cX6_counted 34 = .ok (.ifCond .eq 11, 3) := by decide +kernel
theorem dX6_counted_37 : decode cX6_counted 37 = .ok (.iload_n 1, 1) := by decide +kernel
theorem dX6_counted_38 : decode cX6_counted 38 = .ok (.ifCond .eq 7, 3) := by decide +kernel
theorem dX6_counted_41 : decode cX6_counted 41 = .ok (.iconst 0, 1) := by decide +kernel
theorem dX6_counted_42 : decode cX6_counted 42 = .ok (.goto 4, 3) := by decide +kernel
theorem dX6_counted_45 : decode cX6_counted 45 = .ok (.iconst 1, 1) := by decide +kernel
theorem dX6_counted_46 : decode cX6_counted 46 = .ok (.iadd, 1) := by decide +kernel
theorem dX6_counted_47 : decode cX6_counted 47 = .ok (.putfield 101, 3) := by decide +kernel
theorem dX6_counted_50 : decode cX6_counted 50 = .ok (.aload_n 0, 1) := by decide +kernel
theorem dX6_counted_51 : decode cX6_counted 51 = .ok (.dup, 1) := by decide +kernel
theorem dX6_counted_52 : decode cX6_counted 52 = .ok (.getfield 104, 3) := by decide +kernel
theorem dX6_counted_55 : decode cX6_counted 55 = .ok (.iload_n 2, 1) := by decide +kernel
theorem dX6_counted_56 : decode cX6_counted 56 = .ok (.ifCond .ne 7, 3) := by decide +kernel
theorem dX6_counted_59 : decode cX6_counted 59 = .ok (.iconst 1, 1) := by decide +kernel
theorem dX6_counted_60 : decode cX6_counted 60 = .ok (.goto 4, 3) := by decide +kernel
theorem dX6_counted_63 : decode cX6_counted 63 = .ok (.iconst 0, 1) := by decide +kernel
theorem dX6_counted_64 : decode cX6_counted 64 = .ok (.iadd, 1) := by decide +kernel
theorem dX6_counted_65 : decode cX6_counted 65 = .ok (.putfield 104, 3) := by decide +kernel
theorem dX6_counted_68 : decode cX6_counted 68 = .ok (.iload_n 2, 1) := by decide +kernel
theorem dX6_counted_69 : decode cX6_counted 69 = .ok (.ireturn, 1) := by decide +kernel
theorem dX6_side_0 : decode cX6_side 0 = .ok (.aload_n 0, 1) := by decide +kernel
theorem dX6_side_1 : decode cX6_side 1 = .ok (.iconst 0, 1) := by decide +kernel
theorem dX6_side_2 : decode cX6_side 2 = .ok (.putfield 1, 3) := by decide +kernel
theorem dX6_side_5 : decode cX6_side 5 = .ok (.aload_n 0, 1) := by decide +kernel
theorem dX6_side_6 : decode cX6_side 6 = .ok (.iload_n 1, 1) := by decide +kernel
theorem dX6_side_7 : decode cX6_side 7 = .ok (.invokevirtual 69, 3) := by decide +kernel
theorem dX6_side_10 : decode cX6_side 10 = .ok (.ifCond .eq 19, 3) := by decide +kernel
theorem dX6_side_13 : decode cX6_side 13 = .ok (.aload_n 0, 1) := by decide +kernel
theorem dX6_side_14 : decode cX6_side 14 = .ok (.iload_n 2, 1) := by decide +kernel
theorem dX6_side_15 : decode cX6_side 15 = .ok (.invokevirtual 69, 3) := by decide +kernel
theorem dX6_side_18 : decode cX6_side 18 = .ok (.ifCond .eq 11, 3) := by decide +kernel
theorem dX6_side_21 : decode cX6_side 21 = .ok (.aload_n 0, 1) := by decide +kernel
theorem dX6_side_22 : decode cX6_side 22 = .ok (.iload_n 3, 1) := by decide +kernel
theorem dX6_side_23 : decode cX6_side 23 = .ok (.invokevirtual 69, 3) := by decide +kernel
theorem dX6_side_26 : decode cX6_side 26 = .ok (.ifCond .ne 6, 3) := by decide +kernel
theorem dX6_side_29 : decode cX6_side 29 = .ok (.bipush (-2), 2) := by decide +kernel
theorem dX6_side_31 : decode cX6_side 31 = .ok (.ireturn, 1) := by decide +kernel
theorem dX6_side_32 : decode cX6_side 32 = .ok (.aload_n 0, 1) := by decide +kernel
theorem dX6_side_33 : decode cX6_side 33 = .ok (.iload_n 1, 1) := by decide +kernel
theorem dX6_side_34 : decode cX6_side 34 = .ok (.iload_n 2, 1) := by decide +kernel
theorem dX6_side_35 : decode cX6_side 35 = .ok (.invokevirtual 107, 3) := by decide +kernel
theorem dX6_side_38 : decode cX6_side 38 = .ok (.ifCond .eq 8, 3) := by decide +kernel
theorem dX6_side_41 : decode cX6_side 41 = .ok (.bipush (-4), 2) := by decide +kernel
theorem dX6_side_43 : decode cX6_side 43 = .ok (.goto 21, 3) := by decide +kernel
theorem dX6_side_46 : decode cX6_side 46 = .ok (.aload_n 0, 1) := by decide +kernel
theorem dX6_side_47 : decode cX6_side 47 = .ok (.aload_n 0, 1) := by decide +kernel
theorem dX6_side_48 : decode cX6_side 48 = .ok (.iload_n 1, 1) := by decide +kernel
theorem dX6_side_49 : decode cX6_side 49 = .ok (.iload_n 2, 1) := by decide +kernel
theorem dX6_side_50 : decode cX6_side 50 = .ok (.iload_n 3, 1) := by decide +kernel
theorem dX6_side_51 : decode cX6_side 51 = .ok (.invokevirtual 111, 3) := by decide +kernel
theorem dX6_side_54 : decode cX6_side 54 = .ok (.aload_n 0, 1) := by decide +kernel
theorem dX6_side_55 : decode cX6_side 55 = .ok (.iload_n 1, 1) := by decide +kernel
theorem dX6_side_56 : decode cX6_side 56 = .ok (.iload_n 2, 1) := by decide +kernel
theorem dX6_side_57 : decode cX6_side 57 = .ok (.iload_n 3, 1) := by decide +kernel
theorem dX6_side_58 : decode cX6_side 58 = .ok (.invokevirtual 58, 3) := by decide +kernel
theorem dX6_side_61 : decode cX6_side 61 = .ok (.invokevirtual 115, 3) := by decide +kernel
theorem dX6_side_64 : decode cX6_side 64 = .ok (.ireturn, 1) := by decide +kernel
theorem dX6_circle_0 : decode cX6_circle 0 = .ok (.aload_n 0, 1) := by decide +kernel
theorem dX6_circle_1 : decode cX6_circle 1 = .ok (.iconst 0, 1) := by decide +kernel
theorem dX6_circle_2 : decode cX6_circle 2 = .ok (.putfield 1, 3) := by decide +kernel
theorem dX6_circle_5 : decode cX6_circle 5 = .ok (.aload_n 0, 1) := by decide +kernel
theorem dX6_circle_6 : decode cX6_circle 6 = .ok (.iload_n 1, 1) := by decide +kernel
theorem dX6_circle_7 : decode cX6_circle 7 = .ok (.invokevirtual 69, 3) := by decide +kernel
theorem dX6_circle_10 : decode cX6_circle 10 = .ok (.ifCond .eq 28, 3) := by decide +kernel
theorem dX6_circle_13 : decode cX6_circle 13 = .ok (.aload_n 0, 1) := by decide +kernel
theorem dX6_circle_14 : decode cX6_circle 14 = .ok (.iload_n 2, 1) := by decide +kernel
theorem dX6_circle_15 : decode cX6_circle 15 = .ok (.invokevirtual 69, 3) := by decide +kernel
theorem dX6_circle_18 : decode cX6_circle 18 = .ok (.ifCond .eq 20, 3) := by decide +kernel
theorem dX6_circle_21 : decode cX6_circle 21 = .ok (.aload_n 0, 1) := by decide +kernel
theorem dX6_circle_22 : decode cX6_circle 22 = .ok (.iload_n 3, 1) := by decide +kernel
theorem dX6_circle_23 : decode cX6_circle 23 = .ok (.invokevirtual 69, 3) := by decide +kernel
theorem dX6_circle_26 : decode cX6_circle 26 = .ok (.ifCond .eq 12, 3) := by decide +kernel
theorem dX6_circle_29 : decode cX6_circle 29 = .ok (.aload_n 0, 1) := by decide +kernel
theorem dX6_circle_30 : decode cX6_circle 30 = .ok (.iload 4, 2) := by decide +kernel
theorem dX6_circle_32 : decode cX6_circle 32 = .ok (.invokevirtual 69, 3) := by decide +kernel
theorem dX6_circle_35 : decode cX6_circle 35 = .ok (.ifCond .ne 6, 3) := by decide +kernel
theorem dX6_circle_38 : decode cX6_circle 38 = .ok (.bipush (-2), 2) := by decide +kernel
theorem dX6_circle_40 : decode cX6_circle 40 = .ok (.ireturn, 1) := by decide +kernel
theorem dX6_circle_41 : decode cX6_circle 41 = .ok (.aload_n 0, 1) := by decide +kernel
theorem dX6_circle_42 : decode cX6_circle 42 = .ok (.iload_n 1, 1) := by decide +kernel
theorem dX6_circle_43 : decode cX6_circle 43 = .ok (.iload_n 2, 1) := by decide +kernel
theorem dX6_circle_44 : decode cX6_circle 44 = .ok (.iload_n 3, 1) := by decide +kernel
theorem dX6_circle_45 : decode cX6_circle 45 = .ok (.invokevirtual 58, 3) := by decide +kernel
theorem dX6_circle_48 : decode cX6_circle 48 = .ok (.ifCond .ne 8, 3) := by decide +kernel
theorem dX6_circle_51 : decode cX6_circle 51 = .ok (.bipush (-4), 2) := by decide +kernel
theorem dX6_circle_53 : decode cX6_circle 53 = .ok (.goto 25, 3) := by decide +kernel
theorem dX6_circle_56 : decode cX6_circle 56 = .ok (.aload_n 0, 1) := by decide +kernel
theorem dX6_circle_57 : decode cX6_circle 57 = .ok (.aload_n 0, 1) := by decide +kernel
theorem dX6_circle_58 : decode cX6_circle 58 = .ok (.iload_n 1, 1) := by decide +kernel
theorem dX6_circle_59 : decode cX6_circle 59 = .ok (.iload_n 2, 1) := by decide +kernel
theorem dX6_circle_60 : decode cX6_circle 60 = .ok (.iload_n 3, 1) := by decide +kernel
theorem dX6_circle_61 : decode cX6_circle 61 = .ok (.iload 4, 2) := by decide +kernel
theorem dX6_circle_63 : decode cX6_circle 63 = .ok (.invokevirtual 119, 3) := by decide +kernel
theorem dX6_circle_66 : decode cX6_circle 66 = .ok (.aload_n 0, 1) := by decide +kernel
theorem dX6_circle_67 : decode cX6_circle 67 = .ok (.iload_n 1, 1) := by decide +kernel
theorem dX6_circle_68 : decode cX6_circle 68 = .ok (.iload_n 2, 1) := by decide +kernel
theorem dX6_circle_69 : decode cX6_circle 69 = .ok (.iload_n 3, 1) := by decide +kernel
theorem dX6_circle_70 : decode cX6_circle 70 = .ok (.iload 4, 2) := by decide +kernel
theorem dX6_circle_72 : decode cX6_circle 72 = .ok (.invokevirtual 123, 3) := by decide +kernel
theorem dX6_circle_75 : decode cX6_circle 75 = .ok (.invokevirtual 115, 3) := by decide +kernel
theorem dX6_circle_78 : decode cX6_circle 78 = .ok (.ireturn, 1) := by decide +kernel
theorem dX6_filter_0 : decode cX6_filter 0 = .ok (.aload_n 0, 1) := by decide +kernel
theorem dX6_filter_1 : decode cX6_filter 1 = .ok (.iconst 0, 1) := by decide +kernel
theorem dX6_filter_2 : decode cX6_filter 2 = .ok (.putfield 1, 3) := by decide +kernel
theorem dX6_filter_5 : decode cX6_filter 5 = .ok (.aload_n 0, 1) := by decide +kernel
theorem dX6_filter_6 : decode cX6_filter 6 = .ok (.getfield 23, 3) := by decide +kernel
theorem dX6_filter_9 : decode cX6_filter 9 = .ok (.ifCond .eq 7, 3) := by decide +kernel
theorem dX6_filter_12 : decode cX6_filter 12 = .ok (.iconst 1, 1) := by decide +kernel
theorem dX6_filter_13 : decode cX6_filter 13 = .ok (.goto 4, 3) := by decide +kernel
theorem dX6_filter_16 : decode cX6_filter 16 = .ok (.iconst 0, 1) := by decide +kernel
theorem dX6_filter_17 : decode cX6_filter 17 = .ok (.istore_n 2, 1) := by decide +kernel
theorem dX6_filter_18 : decode cX6_filter 18 = .ok (.aload_n 0, 1) := by decide +kernel
theorem dX6_filter_19 : decode cX6_filter 19 = .ok (.iload_n 1, 1) := by decide +kernel
theorem dX6_filter_20 : decode cX6_filter 20 = .ok (.putfield 23, 3) := by decide +kernel
theorem dX6_filter_23 : decode cX6_filter 23 = .ok (.iload_n 2, 1) := by decide +kernel
theorem dX6_filter_24 : decode cX6_filter 24 = .ok (.ireturn, 1) := by decide +kernel
theorem dX6_decided_0 : decode cX6_decided 0 = .ok (.aload_n 0, 1) := by decide +kernel
theorem dX6_decided_1 : decode cX6_decided 1 = .ok (.iconst 0, 1) := by decide +kernel
theorem dX6_decided_2 : decode cX6_decided 2 = .ok (.putfield 1, 3) := by decide +kernel
theorem dX6_decided_5 : decode cX6_decided 5 = .ok (.iload_n 1, 1) := by decide +kernel
theorem dX6_decided_6 : decode cX6_decided 6 = .ok (.ifCond .ne 10, 3) := by decide +kernel
theorem dX6_decided_9 : decode cX6_decided 9 = .ok (.aload_n 0, 1) := by decide +kernel
theorem dX6_decided_10 : decode cX6_decided 10 = .ok (.getfield 98, 3) := by decide +kernel
theorem dX6_decided_13 : decode cX6_decided 13 = .ok (.goto 29, 3) := by decide +kernel
theorem dX6_decided_16 : decode cX6_decided 16 = .ok (.iload_n 1, 1) := by decide +kernel
theorem dX6_decided_17 : decode cX6_decided 17 = .ok (.iconst 1, 1) := by decide +kernel
theorem dX6_decided_18 : decode cX6_decided 18 = .ok (.if_icmp .ne 10, 3) := by decide +kernel
theorem dX6_decided_21 : decode cX6_decided 21 = .ok (.aload_n 0, 1) := by decide +kernel
theorem dX6_decided_22 : decode cX6_decided 22 = .ok (.getfield 101, 3) := by decide +kernel
theorem dX6_decided_25 : decode cX6_decided 25 = .ok (.goto 17, 3) := by decide +kernel
theorem dX6_decided_28 : decode cX6_decided 28 = .ok (.iload_n 1, 1) := by decide +kernel
theorem dX6_decided_29 : decode cX6_decided 29 = .ok (.iconst 2, 1) := by decide +kernel
theorem dX6_decided_30 : decode cX6_decided 30 = .ok (.if_icmp .ne 10, 3) := by decide +kernel
theorem dX6_decided_33 : decode cX6_decided 33 = .ok (.aload_n 0, 1) := by decide +kernel
theorem dX6_decided_34 : decode cX6_decided 34 = .ok (.getfield 104, 3) := by decide +kernel
theorem dX6_decided_37 : decode cX6_decided 37 = .ok (.goto 5, 3) := by decide +kernel
theorem dX6_decided_40 : decode cX6_decided 40 = .ok (.bipush (-2), 2) := by decide +kernel
theorem dX6_decided_42 : decode cX6_decided 42 = .ok (.ireturn, 1) := by decide +kernel
theorem dX6_isOn_0 : decode cX6_isOn 0 = .ok (.aload_n 0, 1) := by decide +kernel
theorem dX6_isOn_1 : decode cX6_isOn 1 = .ok (.iload_n 1, 1) := by decide +kernel
theorem dX6_isOn_2 : decode cX6_isOn 2 = .ok (.iload_n 2, 1) := by decide +kernel
theorem dX6_isOn_3 : decode cX6_isOn 3 = .ok (.iload_n 3, 1) := by decide +kernel
theorem dX6_isOn_4 : decode cX6_isOn 4 = .ok (.invokevirtual 58, 3) := by decide +kernel
theorem dX6_isOn_7 : decode cX6_isOn 7 = .ok (.ifCond .ne 40, 3) := by decide +kernel
theorem dX6_isOn_10 : decode cX6_isOn 10 = .ok (.aload_n 0, 1) := by decide +kernel
theorem dX6_isOn_11 : decode cX6_isOn 11 = .ok (.iload_n 1, 1) := by decide +kernel
theorem dX6_isOn_12 : decode cX6_isOn 12 = .ok (.iload_n 2, 1) := by decide +kernel
theorem dX6_isOn_13 : decode cX6_isOn 13 = .ok (.invokevirtual 107, 3) := by decide +kernel
theorem dX6_isOn_16 : decode cX6_isOn 16 = .ok (.ifCond .eq 15, 3) := by decide +kernel
theorem dX6_isOn_19 : decode cX6_isOn 19 = .ok (.aload_n 0, 1) := by decide +kernel
theorem dX6_isOn_20 : decode cX6_isOn 20 = .ok (.iload_n 1, 1) := by decide +kernel
theorem dX6_isOn_21 : decode cX6_isOn 21 = .ok (.iload_n 3, 1) := by decide +kernel
theorem dX6_isOn_22 : decode cX6_isOn 22 = .ok (.invokevirtual 107, 3) := by decide +kernel
theorem dX6_isOn_25 : decode cX6_isOn 25 = .ok (.ifCond .eq 22, 3) := by decide +kernel
theorem dX6_isOn_28 : decode cX6_isOn 28 = .ok (.goto 15, 3) := by decide +kernel
theorem dX6_isOn_31 : decode cX6_isOn 31 = .ok (.aload_n 0, 1) := by decide +kernel
theorem dX6_isOn_32 : decode cX6_isOn 32 = .ok (.iload_n 3, 1) := by decide +kernel
theorem dX6_isOn_33 : decode cX6_isOn 33 = .ok (.iload_n 1, 1) := by decide +kernel
theorem dX6_isOn_34 : decode cX6_isOn 34 = .ok (.iload_n 2, 1) := by decide +kernel
theorem dX6_isOn_35 : decode cX6_isOn 35 = .ok (.invokevirtual 127, 3) := by decide +kernel
theorem dX6_isOn_38 : decode cX6_isOn 38 = .ok (.lconst 0, 1) := by decide +kernel
theorem dX6_isOn_39 : decode cX6_isOn 39 = .ok (.lcmp, 1) := by decide +kernel
theorem dX6_isOn_40 : decode cX6_isOn 40 = .ok (.ifCond .gt 7, 3) := by decide +kernel
theorem dX6_isOn_43 : decode cX6_isOn 43 = .ok (.iconst 1, 1) := by decide +kernel
theorem dX6_isOn_44 : decode cX6_isOn 44 = .ok (.goto 4, 3) := by decide +kernel
theorem dX6_isOn_47 : decode cX6_isOn 47 = .ok (.iconst 0, 1) := by decide +kernel
theorem dX6_isOn_48 : decode cX6_isOn 48 = .ok (.ireturn, 1) := by decide +kernel
theorem dX6_between_0 : decode cX6_between 0 = .ok (.aload_n 0, 1) := by decide +kernel
theorem dX6_between_1 : decode cX6_between 1 = .ok (.iconst 0, 1) := by decide +kernel
theorem dX6_between_2 : decode cX6_between 2 = .ok (.putfield 1, 3) := by decide +kernel
theorem dX6_between_5 : decode cX6_between 5 = .ok (.aload_n 0, 1) := by decide +kernel
theorem dX6_between_6 : decode cX6_between 6 = .ok (.iload_n 1, 1) := by decide +kernel
theorem dX6_between_7 : decode cX6_between 7 = .ok (.invokevirtual 69, 3) := by decide +kernel
theorem dX6_between_10 : decode cX6_between 10 = .ok (.ifCond .eq 19, 3) := by decide +kernel
theorem dX6_between_13 : decode cX6_between 13 = .ok (.aload_n 0, 1) := by decide +kernel
theorem dX6_between_14 : decode cX6_between 14 = .ok (.iload_n 2, 1) := by decide +kernel
theorem dX6_between_15 : decode cX6_between 15 = .ok (.invokevirtual 69, 3) := by decide +kernel
theorem dX6_between_18 : decode cX6_between 18 = .ok (.ifCond .eq 11, 3) := by decide +kernel
theorem dX6_between_21 : decode cX6_between 21 = .ok (.aload_n 0, 1) := by decide +kernel
theorem dX6_between_22 : decode cX6_between 22 = .ok (.iload_n 3, 1) := by decide +kernel
theorem dX6_between_23 : decode cX6_between 23 = .ok (.invokevirtual 69, 3) := by decide +kernel
theorem dX6_between_26 : decode cX6_between 26 = .ok (.ifCond .ne 6, 3) := by decide +kernel
theorem dX6_between_29 : decode cX6_between 29 = .ok (.bipush (-2), 2) := by decide +kernel
theorem dX6_between_31 : decode cX6_between 31 = .ok (.ireturn, 1) := by decide +kernel
theorem dX6_between_32 : decode cX6_between 32 = .ok (.aload_n 0, 1) := by decide +kernel
theorem dX6_between_33 : decode cX6_between 33 = .ok (.iload_n 1, 1) := by decide +kernel
theorem dX6_between_34 : decode cX6_between 34 = .ok (.iload_n 2, 1) := by decide +kernel
theorem dX6_between_35 : decode cX6_between 35 = .ok (.invokevirtual 107, 3) := by decide +kernel
theorem dX6_between_38 : decode cX6_between 38 = .ok (.ifCond .ne 12, 3) := by decide +kernel
theorem dX6_between_41 : decode cX6_between 41 = .ok (.aload_n 0, 1) := by decide +kernel
theorem dX6_between_42 : decode cX6_between 42 = .ok (.iload_n 2, 1) := by decide +kernel
theorem dX6_between_43 : decode cX6_between 43 = .ok (.iload_n 3, 1) := by decide +kernel
theorem dX6_between_44 : decode cX6_between 44 = .ok (.invokevirtual 107, 3) := by decide +kernel
theorem dX6_between_47 : decode cX6_between 47 = .ok (.ifCond .eq 7, 3) := by decide +kernel
theorem dX6_between_50 : decode cX6_between 50 = .ok (.iconst 2, 1) := by decide +kernel
theorem dX6_between_51 : decode cX6_between 51 = .ok (.goto 18, 3) := by decide +kernel
theorem dX6_between_54 : decode cX6_between 54 = .ok (.aload_n 0, 1) := by decide +kernel
theorem dX6_between_55 : decode cX6_between 55 = .ok (.iload_n 1, 1) := by decide +kernel
theorem dX6_between_56 : decode cX6_between 56 = .ok (.iload_n 3, 1) := by decide +kernel
theorem dX6_between_57 : decode cX6_between 57 = .ok (.iload_n 2, 1) := by decide +kernel
theorem dX6_between_58 : decode cX6_between 58 = .ok (.invokevirtual 131, 3) := by decide +kernel
theorem dX6_between_61 : decode cX6_between 61 = .ok (.ifCond .eq 7, 3) := by decide +kernel
theorem dX6_between_64 : decode cX6_between 64 = .ok (.iconst 1, 1) := by decide +kernel
theorem dX6_between_65 : decode cX6_between 65 = .ok (.goto 4, 3) := by decide +kernel
theorem dX6_between_68 : decode cX6_between 68 = .ok (.iconst 0, 1) := by decide +kernel
theorem dX6_between_69 : decode cX6_between 69 = .ok (.ireturn, 1) := by decide +kernel
theorem dX6_isOneWay_0 : decode cX6_isOneWay 0 = .ok (.aload_n 0, 1) := by decide +kernel
theorem dX6_isOneWay_1 : decode cX6_isOneWay 1 = .ok (.iload_n 1, 1) := by decide +kernel
theorem dX6_isOneWay_2 : decode cX6_isOneWay 2 = .ok (.iload_n 2, 1) := by decide +kernel
theorem dX6_isOneWay_3 : decode cX6_isOneWay 3 = .ok (.iload_n 3, 1) := by decide +kernel
theorem dX6_isOneWay_4 : decode cX6_isOneWay 4 = .ok (.invokevirtual 58, 3) := by decide +kernel
theorem dX6_isOneWay_7 : decode cX6_isOneWay 7 = .ok (.ifCond .ne 19, 3) := by decide +kernel
theorem dX6_isOneWay_10 : decode cX6_isOneWay 10 = .ok (.aload_n 0, 1) := by decide +kernel
theorem dX6_isOneWay_11 : decode cX6_isOneWay 11 = .ok (.iload_n 1, 1) := by decide +kernel
theorem dX6_isOneWay_12 : decode cX6_isOneWay 12 = .ok (.iload_n 2, 1) := by decide +kernel
theorem dX6_isOneWay_13 : decode cX6_isOneWay 13 = .ok (.iload_n 3, 1) := by decide +kernel
theorem dX6_isOneWay_14 : decode cX6_isOneWay 14 = .ok (.invokevirtual 127, 3) := by decide +kernel
theorem dX6_isOneWay_17 : decode cX6_isOneWay 17 = .ok (.lconst 0, 1) := by decide +kernel
theorem dX6_isOneWay_18 : decode cX6_isOneWay 18 = .ok (.lcmp, 1) := by decide +kernel
theorem dX6_isOneWay_19 : decode cX6_isOneWay 19 = .ok (.ifCond .le 7, 3) := by decide +kernel
theorem dX6_isOneWay_22 : decode cX6_isOneWay 22 = .ok (.iconst 1, 1) := by decide +kernel
theorem dX6_isOneWay_23 : decode cX6_isOneWay 23 = .ok (.goto 4, 3) := by decide +kernel
theorem dX6_isOneWay_26 : decode cX6_isOneWay 26 = .ok (.iconst 0, 1) := by decide +kernel
theorem dX6_isOneWay_27 : decode cX6_isOneWay 27 = .ok (.ireturn, 1) := by decide +kernel
theorem dX6_inside_0 : decode cX6_inside 0 = .ok (.aload_n 0, 1) := by decide +kernel
theorem dX6_inside_1 : decode cX6_inside 1 = .ok (.iconst 0, 1) := by decide +kernel
theorem dX6_inside_2 : decode cX6_inside 2 = .ok (.putfield 1, 3) := by decide +kernel
theorem dX6_inside_5 : decode cX6_inside 5 = .ok (.aload_n 0, 1) := by decide +kernel
theorem dX6_inside_6 : decode cX6_inside 6 = .ok (.iload_n 1, 1) := by decide +kernel
theorem dX6_inside_7 : decode cX6_inside 7 = .ok (.invokevirtual 69, 3) := by decide +kernel
theorem dX6_inside_10 : decode cX6_inside 10 = .ok (.ifCond .eq 28, 3) := by decide +kernel
theorem dX6_inside_13 : decode cX6_inside 13 = .ok (.aload_n 0, 1) := by decide +kernel
theorem dX6_inside_14 : decode cX6_inside 14 = .ok (.iload_n 2, 1) := by decide +kernel
theorem dX6_inside_15 : decode cX6_inside 15 = .ok (.invokevirtual 69, 3) := by decide +kernel
theorem dX6_inside_18 : decode cX6_inside 18 = .ok (.ifCond .eq 20, 3) := by decide +kernel
theorem dX6_inside_21 : decode cX6_inside 21 = .ok (.aload_n 0, 1) := by decide +kernel
theorem dX6_inside_22 : decode cX6_inside 22 = .ok (.iload_n 3, 1) := by decide +kernel
theorem dX6_inside_23 : decode cX6_inside 23 = .ok (.invokevirtual 69, 3) := by decide +kernel
theorem dX6_inside_26 : decode cX6_inside 26 = .ok (.ifCond .eq 12, 3) := by decide +kernel
theorem dX6_inside_29 : decode cX6_inside 29 = .ok (.aload_n 0, 1) := by decide +kernel
theorem dX6_inside_30 : decode cX6_inside 30 = .ok (.iload 4, 2) := by decide +kernel
theorem dX6_inside_32 : decode cX6_inside 32 = .ok (.invokevirtual 69, 3) := by decide +kernel
theorem dX6_inside_35 : decode cX6_inside 35 = .ok (.ifCond .ne 6, 3) := by decide +kernel
theorem dX6_inside_38 : decode cX6_inside 38 = .ok (.bipush (-2), 2) := by decide +kernel
theorem dX6_inside_40 : decode cX6_inside 40 = .ok (.ireturn, 1) := by decide +kernel
theorem dX6_inside_41 : decode cX6_inside 41 = .ok (.aload_n 0, 1) := by decide +kernel
theorem dX6_inside_42 : decode cX6_inside 42 = .ok (.iload_n 1, 1) := by decide +kernel
theorem dX6_inside_43 : decode cX6_inside 43 = .ok (.iload_n 2, 1) := by decide +kernel
theorem dX6_inside_44 : decode cX6_inside 44 = .ok (.invokevirtual 107, 3) := by decide +kernel
theorem dX6_inside_47 : decode cX6_inside 47 = .ok (.ifCond .ne 12, 3) := by decide +kernel
theorem dX6_inside_50 : decode cX6_inside 50 = .ok (.aload_n 0, 1) := by decide +kernel
theorem dX6_inside_51 : decode cX6_inside 51 = .ok (.iload_n 1, 1) := by decide +kernel
theorem dX6_inside_52 : decode cX6_inside 52 = .ok (.iload_n 3, 1) := by decide +kernel
theorem dX6_inside_53 : decode cX6_inside 53 = .ok (.invokevirtual 107, 3) := by decide +kernel
theorem dX6_inside_56 : decode cX6_inside 56 = .ok (.ifCond .eq 6, 3) := by decide +kernel
theorem dX6_inside_59 : decode cX6_inside 59 = .ok (.bipush (-4), 2) := by decide +kernel
theorem dX6_inside_61 : decode cX6_inside 61 = .ok (.ireturn, 1) := by decide +kernel
theorem dX6_inside_62 : decode cX6_inside 62 = .ok (.aload_n 0, 1) := by decide +kernel
theorem dX6_inside_63 : decode cX6_inside 63 = .ok (.iload_n 1, 1) := by decide +kernel
theorem dX6_inside_64 : decode cX6_inside 64 = .ok (.iload 4, 2) := by decide +kernel
theorem dX6_inside_66 : decode cX6_inside 66 = .ok (.invokevirtual 107, 3) := by decide +kernel
theorem dX6_inside_69 : decode cX6_inside 69 = .ok (.ifCond .ne 25, 3) := by decide +kernel
theorem dX6_inside_72 : decode cX6_inside 72 = .ok (.aload_n 0, 1) := by decide +kernel
theorem dX6_inside_73 : decode cX6_inside 73 = .ok (.iload_n 1, 1) := by decide +kernel
theorem dX6_inside_74 : decode cX6_inside 74 = .ok (.iload_n 2, 1) := by decide +kernel
theorem dX6_inside_75 : decode cX6_inside 75 = .ok (.iload 4, 2) := by decide +kernel
theorem dX6_inside_77 : decode cX6_inside 77 = .ok (.invokevirtual 133, 3) := by decide +kernel
theorem dX6_inside_80 : decode cX6_inside 80 = .ok (.ifCond .ne 14, 3) := by decide +kernel
theorem dX6_inside_83 : decode cX6_inside 83 = .ok (.aload_n 0, 1) := by decide +kernel
theorem dX6_inside_84 : decode cX6_inside 84 = .ok (.iload_n 1, 1) := by decide +kernel
theorem dX6_inside_85 : decode cX6_inside 85 = .ok (.iload_n 3, 1) := by decide +kernel
theorem dX6_inside_86 : decode cX6_inside 86 = .ok (.iload 4, 2) := by decide +kernel
theorem dX6_inside_88 : decode cX6_inside 88 = .ok (.invokevirtual 133, 3) := by decide +kernel
theorem dX6_inside_91 : decode cX6_inside 91 = .ok (.ifCond .eq 5, 3) := by decide +kernel
theorem dX6_inside_94 : decode cX6_inside 94 = .ok (.iconst 2, 1) := by decide +kernel
theorem dX6_inside_95 : decode cX6_inside 95 = .ok (.ireturn, 1) := by decide +kernel
theorem dX6_inside_96 : decode cX6_inside 96 = .ok (.aload_n 0, 1) := by decide +kernel
theorem dX6_inside_97 : decode cX6_inside 97 = .ok (.iload_n 1, 1) := by decide +kernel
theorem dX6_inside_98 : decode cX6_inside 98 = .ok (.iload_n 2, 1) := by decide +kernel
theorem dX6_inside_99 : decode cX6_inside 99 = .ok (.iload_n 3, 1) := by decide +kernel
theorem dX6_inside_100 : decode cX6_inside 100 = .ok (.invokevirtual 133, 3) := by decide +kernel
theorem dX6_inside_103 : decode cX6_inside 103 = .ok (.ifCond .eq 5, 3) := by decide +kernel
theorem dX6_inside_106 : decode cX6_inside 106 = .ok (.iconst 0, 1) := by decide +kernel
theorem dX6_inside_107 : decode cX6_inside 107 = .ok (.ireturn, 1) := by decide +kernel
theorem dX6_inside_108 : decode cX6_inside 108 = .ok (.aload_n 0, 1) := by decide +kernel
theorem dX6_inside_109 : decode cX6_inside 109 = .ok (.iload_n 1, 1) := by decide +kernel
theorem dX6_inside_110 : decode cX6_inside 110 = .ok (.iload_n 2, 1) := by decide +kernel
theorem dX6_inside_111 : decode cX6_inside 111 = .ok (.iload_n 3, 1) := by decide +kernel
theorem dX6_inside_112 : decode cX6_inside 112 = .ok (.invokevirtual 58, 3) := by decide +kernel
theorem dX6_inside_115 : decode cX6_inside 115 = .ok (.istore 5, 2) := by decide +kernel
theorem dX6_inside_117 : decode cX6_inside 117 = .ok (.iload 5, 2) := by decide +kernel
theorem dX6_inside_119 : decode cX6_inside 119 = .ok (.ifCond .ne 20, 3) := by decide +kernel
theorem dX6_inside_122 : decode cX6_inside 122 = .ok (.aload_n 0, 1) := by decide +kernel
theorem dX6_inside_123 : decode cX6_inside 123 = .ok (.iload_n 1, 1) := by decide +kernel
theorem dX6_inside_124 : decode cX6_inside 124 = .ok (.iload_n 2, 1) := by decide +kernel
theorem dX6_inside_125 : decode cX6_inside 125 = .ok (.iload 4, 2) := by decide +kernel
theorem dX6_inside_127 : decode cX6_inside 127 = .ok (.invokevirtual 58, 3) := by decide +kernel
theorem dX6_inside_130 : decode cX6_inside 130 = .ok (.ifCond .le 7, 3) := by decide +kernel
theorem dX6_inside_133 : decode cX6_inside 133 = .ok (.iconst 1, 1) := by decide +kernel
theorem dX6_inside_134 : decode cX6_inside 134 = .ok (.goto 4, 3) := by decide +kernel
theorem dX6_inside_137 : decode cX6_inside 137 = .ok (.iconst 0, 1) := by decide +kernel
theorem dX6_inside_138 : decode cX6_inside 138 = .ok (.ireturn, 1) := by decide +kernel
theorem dX6_inside_139 : decode cX6_inside 139 = .ok (.iload 5, 2) := by decide +kernel
theorem dX6_inside_141 : decode cX6_inside 141 = .ok (.ifCond .le 31, 3) := by decide +kernel
theorem dX6_inside_144 : decode cX6_inside 144 = .ok (.aload_n 0, 1) := by decide +kernel
theorem dX6_inside_145 : decode cX6_inside 145 = .ok (.iload_n 1, 1) := by decide +kernel
theorem dX6_inside_146 : decode cX6_inside 146 = .ok (.iload_n 2, 1) := by decide +kernel
theorem dX6_inside_147 : decode cX6_inside 147 = .ok (.iload 4, 2) := by decide +kernel
theorem dX6_inside_149 : decode cX6_inside 149 = .ok (.invokevirtual 58, 3) := by decide +kernel
theorem dX6_inside_152 : decode cX6_inside 152 = .ok (.ifCond .le 18, 3) := by decide +kernel
theorem dX6_inside_155 : decode cX6_inside 155 = .ok (.aload_n 0, 1) := by decide +kernel
theorem dX6_inside_156 : decode cX6_inside 156 = .ok (.iload_n 1, 1) := by decide +kernel
theorem dX6_inside_157 : decode cX6_inside 157 = .ok (.iload 4, 2) := by decide +kernel
theorem dX6_inside_159 : decode cX6_inside 159 = .ok (.iload_n 3, 1) := by decide +kernel
theorem dX6_inside_160 : decode cX6_inside 160 = .ok (.invokevirtual 58, 3) := by decide +kernel
theorem dX6_inside_163 : decode cX6_inside 163 = .ok (.ifCond .le 7, 3) := by decide +kernel
theorem dX6_inside_166 : decode cX6_inside 166 = .ok (.iconst 1, 1) := by decide +kernel
theorem dX6_inside_167 : decode cX6_inside 167 = .ok (.goto 4, 3) := by decide +kernel
theorem dX6_inside_170 : decode cX6_inside 170 = .ok (.iconst 0, 1) := by decide +kernel
theorem dX6_inside_171 : decode cX6_inside 171 = .ok (.ireturn, 1) := by decide +kernel
theorem dX6_inside_172 : decode cX6_inside 172 = .ok (.aload_n 0, 1) := by decide +kernel
theorem dX6_inside_173 : decode cX6_inside 173 = .ok (.iload_n 1, 1) := by decide +kernel
theorem dX6_inside_174 : decode cX6_inside 174 = .ok (.iload_n 3, 1) := by decide +kernel
theorem dX6_inside_175 : decode cX6_inside 175 = .ok (.iload 4, 2) := by decide +kernel
theorem dX6_inside_177 : decode cX6_inside 177 = .ok (.invokevirtual 58, 3) := by decide +kernel
theorem dX6_inside_180 : decode cX6_inside 180 = .ok (.ifCond .le 18, 3) := by decide +kernel
theorem dX6_inside_183 : decode cX6_inside 183 = .ok (.aload_n 0, 1) := by decide +kernel
theorem dX6_inside_184 : decode cX6_inside 184 = .ok (.iload_n 1, 1) := by decide +kernel
theorem dX6_inside_185 : decode cX6_inside 185 = .ok (.iload 4, 2) := by decide +kernel
theorem dX6_inside_187 : decode cX6_inside 187 = .ok (.iload_n 2, 1) := by decide +kernel
theorem dX6_inside_188 : decode cX6_inside 188 = .ok (.invokevirtual 58, 3) := by decide +kernel
theorem dX6_inside_191 : decode cX6_inside 191 = .ok (.ifCond .le 7, 3) := by decide +kernel
theorem dX6_inside_194 : decode cX6_inside 194 = .ok (.iconst 0, 1) := by decide +kernel
theorem dX6_inside_195 : decode cX6_inside 195 = .ok (.goto 4, 3) := by decide +kernel
theorem dX6_inside_198 : decode cX6_inside 198 = .ok (.iconst 1, 1) := by decide +kernel
theorem dX6_inside_199 : decode cX6_inside 199 = .ok (.ireturn, 1) := by decide +kernel
theorem dX6_common_0 : decode cX6_common 0 = .ok (.iconst 0, 1) := by decide +kernel
theorem dX6_common_1 : decode cX6_common 1 = .ok (.istore 5, 2) := by decide +kernel
theorem dX6_common_3 : decode cX6_common 3 = .ok (.aload_n 0, 1) := by decide +kernel
theorem dX6_common_4 : decode cX6_common 4 = .ok (.iload_n 1, 1) := by decide +kernel
theorem dX6_common_5 : decode cX6_common 5 = .ok (.iload_n 2, 1) := by decide +kernel
theorem dX6_common_6 : decode cX6_common 6 = .ok (.iload_n 3, 1) := by decide +kernel
theorem dX6_common_7 : decode cX6_common 7 = .ok (.invokevirtual 131, 3) := by decide +kernel
theorem dX6_common_10 : decode cX6_common 10 = .ok (.istore 6, 2) := by decide +kernel
theorem dX6_common_12 : decode cX6_common 12 = .ok (.aload_n 0, 1) := by decide +kernel
theorem dX6_common_13 : decode cX6_common 13 = .ok (.iload_n 1, 1) := by decide +kernel
theorem dX6_common_14 : decode cX6_common 14 = .ok (.iload_n 2, 1) := by decide +kernel
theorem dX6_common_15 : decode cX6_common 15 = .ok (.iload 4, 2) := by decide +kernel
theorem dX6_common_17 : decode cX6_common 17 = .ok (.invokevirtual 131, 3) := by decide +kernel
theorem dX6_common_20 : decode cX6_common 20 = .ok (.istore 7, 2) := by decide +kernel
theorem dX6_common_22 : decode cX6_common 22 = .ok (.aload_n 0, 1) := by decide +kernel
theorem dX6_common_23 : decode cX6_common 23 = .ok (.iload_n 3, 1) := by decide +kernel
theorem dX6_common_24 : decode cX6_common 24 = .ok (.iload 4, 2) := by decide +kernel
theorem dX6_common_26 : decode cX6_common 26 = .ok (.iload_n 1, 1) := by decide +kernel
theorem dX6_common_27 : decode cX6_common 27 = .ok (.invokevirtual 131, 3) := by decide +kernel
theorem dX6_common_30 : decode cX6_common 30 = .ok (.istore 8, 2) := by decide +kernel
theorem dX6_common_32 : decode cX6_common 32 = .ok (.aload_n 0, 1) := by decide +kernel
theorem dX6_common_33 : decode cX6_common 33 = .ok (.iload_n 3, 1) := by decide +kernel
theorem dX6_common_34 : decode cX6_common 34 = .ok (.iload 4, 2) := by decide +kernel
theorem dX6_common_36 : decode cX6_common 36 = .ok (.iload_n 2, 1) := by decide +kernel
theorem dX6_common_37 : decode cX6_common 37 = .ok (.invokevirtual 131, 3) := by decide +kernel
theorem dX6_common_40 : decode cX6_common 40 = .ok (.istore 9, 2) := by decide +kernel
theorem dX6_common_42 : decode cX6_common 42 = .ok (.iload 5, 2) := by decide +kernel
theorem dX6_common_44 : decode cX6_common 44 = .ok (.iload 6, 2) := by decide +kernel
theorem dX6_common_46 : decode cX6_common 46 = .ok (.ifCond .eq 7, 3) := by decide +kernel
theorem dX6_common_49 : decode cX6_common 49 = .ok (.iconst 1, 1) := by decide +kernel
theorem dX6_common_50 : decode cX6_common 50 = .ok (.goto 4, 3) := by decide +kernel
theorem dX6_common_53 : decode cX6_common 53 = .ok (.iconst 0, 1) := by decide +kernel
theorem dX6_common_54 : decode cX6_common 54 = .ok (.iadd, 1) := by decide +kernel
theorem dX6_common_55 : decode cX6_common 55 = .ok (.istore 5, 2) := by decide +kernel
theorem dX6_common_57 : decode cX6_common 57 = .ok (.iload 5, 2) := by decide +kernel
theorem dX6_common_59 : decode cX6_common 59 = .ok (.iload 7, 2) := by decide +kernel
theorem dX6_common_61 : decode cX6_common 61 = .ok (.ifCond .eq 17, 3) := by decide +kernel
theorem dX6_common_64 : decode cX6_common 64 = .ok (.aload_n 0, 1) := by decide +kernel
theorem dX6_common_65 : decode cX6_common 65 = .ok (.iload_n 3, 1) := by decide +kernel
theorem dX6_common_66 : decode cX6_common 66 = .ok (.iload 4, 2) := by decide +kernel
theorem dX6_common_68 : decode cX6_common 68 = .ok (.invokevirtual 107, 3) := by decide +kernel
theorem dX6_common_71 : decode cX6_common 71 = .ok (.ifCond .ne 7, 3) := by decide +kernel
theorem dX6_common_74 : decode cX6_common 74 = .ok (.iconst 1, 1) := by decide +kernel
theorem dX6_common_75 : decode cX6_common 75 = .ok (.goto 4, 3) := by decide +kernel
theorem dX6_common_78 : decode cX6_common 78 = .ok (.iconst 0, 1) := by decide +kernel
theorem dX6_common_79 : decode cX6_common 79 = .ok (.iadd, 1) := by decide +kernel
theorem dX6_common_80 : decode cX6_common 80 = .ok (.istore 5, 2) := by decide +kernel
theorem dX6_common_82 : decode cX6_common 82 = .ok (.iload 5, 2) := by decide +kernel
theorem dX6_common_84 : decode cX6_common 84 = .ok (.iload 8, 2) := by decide +kernel
theorem dX6_common_86 : decode cX6_common 86 = .ok (.ifCond .eq 26, 3) := by decide +kernel
theorem dX6_common_89 : decode cX6_common 89 = .ok (.aload_n 0, 1) := by decide +kernel
theorem dX6_common_90 : decode cX6_common 90 = .ok (.iload_n 1, 1) := by decide +kernel
theorem dX6_common_91 : decode cX6_common 91 = .ok (.iload_n 3, 1) := by decide +kernel
theorem dX6_common_92 : decode cX6_common 92 = .ok (.invokevirtual 107, 3) := by decide +kernel
theorem dX6_common_95 : decode cX6_common 95 = .ok (.ifCond .ne 17, 3) := by decide +kernel
theorem dX6_common_98 : decode cX6_common 98 = .ok (.aload_n 0, 1) := by decide +kernel
theorem dX6_common_99 : decode cX6_common 99 = .ok (.iload_n 1, 1) := by decide +kernel
theorem dX6_common_100 : decode cX6_common 100 = .ok (.iload 4, 2) := by decide +kernel
theorem dX6_common_102 : decode cX6_common 102 = .ok (.invokevirtual 107, 3) := by decide +kernel
theorem dX6_common_105 : decode cX6_common 105 = .ok (.ifCond .ne 7, 3) := by decide +kernel
theorem dX6_common_108 : decode cX6_common 108 = .ok (.iconst 1, 1) := by decide +kernel
theorem dX6_common_109 : decode cX6_common 109 = .ok (.goto 4, 3) := by decide +kernel
theorem dX6_common_112 : decode cX6_common 112 = .ok (.iconst 0, 1) := by decide +kernel
theorem dX6_common_113 : decode cX6_common 113 = .ok (.iadd, 1) := by decide +kernel
theorem dX6_common_114 : decode cX6_common 114 = .ok (.istore 5, 2) := by decide +kernel
theorem dX6_common_116 : decode cX6_common 116 = .ok (.iload 5, 2) := by decide +kernel
theorem dX6_common_118 : decode cX6_common 118 = .ok (.iload 9, 2) := by decide +kernel
theorem dX6_common_120 : decode cX6_common 120 = .ok (.ifCond .eq 35, 3) := by decide +kernel
theorem dX6_common_123 : decode cX6_common 123 = .ok (.aload_n 0, 1) := by decide +kernel
theorem dX6_common_124 : decode cX6_common 124 = .ok (.iload_n 2, 1) := by decide +kernel
theorem dX6_common_125 : decode cX6_common 125 = .ok (.iload_n 3, 1) := by decide +kernel
theorem dX6_common_126 : decode cX6_common 126 = .ok (.invokevirtual 107, 3) := by decide +kernel
theorem dX6_common_129 : decode cX6_common 129 = .ok (.ifCond .ne 26, 3) := by decide +kernel
theorem dX6_common_132 : decode cX6_common 132 = .ok (.aload_n 0, 1) := by decide +kernel
theorem dX6_common_133 : decode cX6_common 133 = .ok (.iload_n 2, 1) := by decide +kernel
theorem dX6_common_134 : decode cX6_common 134 = .ok (.iload 4, 2) := by decide +kernel
theorem dX6_common_136 : decode cX6_common 136 = .ok (.invokevirtual 107, 3) := by decide +kernel
theorem dX6_common_139 : decode cX6_common 139 = .ok (.ifCond .ne 16, 3) := by decide +kernel
theorem dX6_common_142 : decode cX6_common 142 = .ok (.aload_n 0, 1) := by decide +kernel
theorem dX6_common_143 : decode cX6_common 143 = .ok (.iload_n 1, 1) := by decide +kernel
theorem dX6_common_144 : decode cX6_common 144 = .ok (.iload_n 2, 1) := by decide +kernel
theorem dX6_common_145 : decode cX6_common 145 = .ok (.invokevirtual 107, 3) := by decide +kernel
theorem dX6_common_148 : decode cX6_common 148 = .ok (.ifCond .ne 7, 3) := by decide +kernel
theorem dX6_common_151 : decode cX6_common 151 = .ok (.iconst 1, 1) := by decide +kernel
theorem dX6_common_152 : decode cX6_common 152 = .ok (.goto 4, 3) := by decide +kernel
theorem dX6_common_155 : decode cX6_common 155 = .ok (.iconst 0, 1) := by decide +kernel
theorem dX6_common_156 : decode cX6_common 156 = .ok (.iadd, 1) := by decide +kernel
theorem dX6_common_157 : decode cX6_common 157 = .ok (.istore 5, 2) := by decide +kernel
theorem dX6_common_159 : decode cX6_common 159 = .ok (.iload 5, 2) := by decide +kernel
theorem dX6_common_161 : decode cX6_common 161 = .ok (.iconst 1, 1) := by decide +kernel
theorem dX6_common_162 : decode cX6_common 162 = .ok (.if_icmp .le 7, 3) := by decide +kernel
theorem dX6_common_165 : decode cX6_common 165 = .ok (.iconst 2, 1) := by decide +kernel
theorem dX6_common_166 : decode cX6_common 166 = .ok (.goto 5, 3) := by decide +kernel
theorem dX6_common_169 : decode cX6_common 169 = .ok (.iload 5, 2) := by decide +kernel
theorem dX6_common_171 : decode cX6_common 171 = .ok (.ireturn, 1) := by decide +kernel
theorem dX6_cross_0 : decode cX6_cross 0 = .ok (.aload_n 0, 1) := by decide +kernel
theorem dX6_cross_1 : decode cX6_cross 1 = .ok (.iconst 0, 1) := by decide +kernel
theorem dX6_cross_2 : decode cX6_cross 2 = .ok (.putfield 1, 3) := by decide +kernel
theorem dX6_cross_5 : decode cX6_cross 5 = .ok (.aload_n 0, 1) := by decide +kernel
theorem dX6_cross_6 : decode cX6_cross 6 = .ok (.iload_n 1, 1) := by decide +kernel
theorem dX6_cross_7 : decode cX6_cross 7 = .ok (.invokevirtual 69, 3) := by decide +kernel
theorem dX6_cross_10 : decode cX6_cross 10 = .ok (.ifCond .eq 28, 3) := by decide +kernel
theorem dX6_cross_13 : decode cX6_cross 13 = .ok (.aload_n 0, 1) := by decide +kernel
theorem dX6_cross_14 : decode cX6_cross 14 = .ok (.iload_n 2, 1) := by decide +kernel
theorem dX6_cross_15 : decode cX6_cross 15 = .ok (.invokevirtual 69, 3) := by decide +kernel
theorem dX6_cross_18 : decode cX6_cross 18 = .ok (.ifCond .eq 20, 3) := by decide +kernel
theorem dX6_cross_21 : decode cX6_cross 21 = .ok (.aload_n 0, 1) := by decide +kernel
theorem dX6_cross_22 : decode cX6_cross 22 = .ok (.iload_n 3, 1) := by decide +kernel
theorem dX6_cross_23 : decode cX6_cross 23 = .ok (.invokevirtual 69, 3) := by decide +kernel
theorem dX6_cross_26 : decode cX6_cross 26 = .ok (.ifCond .eq 12, 3) := by decide +kernel
theorem dX6_cross_29 : decode cX6_cross 29 = .ok (.aload_n 0, 1) := by decide +kernel
theorem dX6_cross_30 : decode cX6_cross 30 = .ok (.iload 4, 2) := by decide +kernel
theorem dX6_cross_32 : decode cX6_cross 32 = .ok (.invokevirtual 69, 3) := by decide +kernel
theorem dX6_cross_35 : decode cX6_cross 35 = .ok (.ifCond .ne 6, 3) := by decide +kernel
theorem dX6_cross_38 : decode cX6_cross 38 = .ok (.bipush (-2), 2) := by decide +kernel
theorem dX6_cross_40 : decode cX6_cross 40 = .ok (.ireturn, 1) := by decide +kernel
theorem dX6_cross_41 : decode cX6_cross 41 = .ok (.aload_n 0, 1) := by decide +kernel
theorem dX6_cross_42 : decode cX6_cross 42 = .ok (.iload_n 1, 1) := by decide +kernel
theorem dX6_cross_43 : decode cX6_cross 43 = .ok (.iload_n 2, 1) := by decide +kernel
theorem dX6_cross_44 : decode cX6_cross 44 = .ok (.iload_n 3, 1) := by decide +kernel
theorem dX6_cross_45 : decode cX6_cross 45 = .ok (.invokevirtual 58, 3) := by decide +kernel
theorem dX6_cross_48 : decode cX6_cross 48 = .ok (.istore 5, 2) := by decide +kernel
theorem dX6_cross_50 : decode cX6_cross 50 = .ok (.aload_n 0, 1) := by decide +kernel
theorem dX6_cross_51 : decode cX6_cross 51 = .ok (.iload_n 1, 1) := by decide +kernel
theorem dX6_cross_52 : decode cX6_cross 52 = .ok (.iload_n 2, 1) := by decide +kernel
theorem dX6_cross_53 : decode cX6_cross 53 = .ok (.iload 4, 2) := by decide +kernel
theorem dX6_cross_55 : decode cX6_cross 55 = .ok (.invokevirtual 58, 3) := by decide +kernel
theorem dX6_cross_58 : decode cX6_cross 58 = .ok (.istore 6, 2) := by decide +kernel
theorem dX6_cross_60 : decode cX6_cross 60 = .ok (.aload_n 0, 1) := by decide +kernel
theorem dX6_cross_61 : decode cX6_cross 61 = .ok (.iload_n 3, 1) := by decide +kernel
theorem dX6_cross_62 : decode cX6_cross 62 = .ok (.iload 4, 2) := by decide +kernel
theorem dX6_cross_64 : decode cX6_cross 64 = .ok (.iload_n 1, 1) := by decide +kernel
theorem dX6_cross_65 : decode cX6_cross 65 = .ok (.invokevirtual 58, 3) := by decide +kernel
theorem dX6_cross_68 : decode cX6_cross 68 = .ok (.istore 7, 2) := by decide +kernel
theorem dX6_cross_70 : decode cX6_cross 70 = .ok (.aload_n 0, 1) := by decide +kernel
theorem dX6_cross_71 : decode cX6_cross 71 = .ok (.iload_n 3, 1) := by decide +kernel
theorem dX6_cross_72 : decode cX6_cross 72 = .ok (.iload 4, 2) := by decide +kernel
theorem dX6_cross_74 : decode cX6_cross 74 = .ok (.iload_n 2, 1) := by decide +kernel
theorem dX6_cross_75 : decode cX6_cross 75 = .ok (.invokevirtual 58, 3) := by decide +kernel
theorem dX6_cross_78 : decode cX6_cross 78 = .ok (.istore 8, 2) := by decide +kernel
theorem dX6_cross_80 : decode cX6_cross 80 = .ok (.iload 5, 2) := by decide +kernel
theorem dX6_cross_82 : decode cX6_cross 82 = .ok (.ifCond .ne 22, 3) := by decide +kernel
theorem dX6_cross_85 : decode cX6_cross 85 = .ok (.iload 6, 2) := by decide +kernel
theorem dX6_cross_87 : decode cX6_cross 87 = .ok (.ifCond .ne 17, 3) := by decide +kernel
theorem dX6_cross_90 : decode cX6_cross 90 = .ok (.iload 7, 2) := by decide +kernel
theorem dX6_cross_92 : decode cX6_cross 92 = .ok (.ifCond .ne 12, 3) := by decide +kernel
theorem dX6_cross_95 : decode cX6_cross 95 = .ok (.iload 8, 2) := by decide +kernel
theorem dX6_cross_97 : decode cX6_cross 97 = .ok (.ifCond .ne 7, 3) := by decide +kernel
theorem dX6_cross_100 : decode cX6_cross 100 = .ok (.iconst 1, 1) := by decide +kernel
theorem dX6_cross_101 : decode cX6_cross 101 = .ok (.goto 4, 3) := by decide +kernel
theorem dX6_cross_104 : decode cX6_cross 104 = .ok (.iconst 0, 1) := by decide +kernel
theorem dX6_cross_105 : decode cX6_cross 105 = .ok (.istore 9, 2) := by decide +kernel
theorem dX6_cross_107 : decode cX6_cross 107 = .ok (.iload 9, 2) := by decide +kernel
theorem dX6_cross_109 : decode cX6_cross 109 = .ok (.ifCond .eq 36, 3) := by decide +kernel
theorem dX6_cross_112 : decode cX6_cross 112 = .ok (.aload_n 0, 1) := by decide +kernel
theorem dX6_cross_113 : decode cX6_cross 113 = .ok (.iload_n 1, 1) := by decide +kernel
theorem dX6_cross_114 : decode cX6_cross 114 = .ok (.iload_n 2, 1) := by decide +kernel
theorem dX6_cross_115 : decode cX6_cross 115 = .ok (.iload_n 3, 1) := by decide +kernel
theorem dX6_cross_116 : decode cX6_cross 116 = .ok (.iload 4, 2) := by decide +kernel
theorem dX6_cross_118 : decode cX6_cross 118 = .ok (.invokevirtual 136, 3) := by decide +kernel
theorem dX6_cross_121 : decode cX6_cross 121 = .ok (.istore 10, 2) := by decide +kernel
theorem dX6_cross_123 : decode cX6_cross 123 = .ok (.iload 10, 2) := by decide +kernel
theorem dX6_cross_125 : decode cX6_cross 125 = .ok (.iconst 2, 1) := by decide +kernel
theorem dX6_cross_126 : decode cX6_cross 126 = .ok (.if_icmp .ne 7, 3) := by decide +kernel
theorem dX6_cross_129 : decode cX6_cross 129 = .ok (.iconst 3, 1) := by decide +kernel
theorem dX6_cross_130 : decode cX6_cross 130 = .ok (.goto 14, 3) := by decide +kernel
theorem dX6_cross_133 : decode cX6_cross 133 = .ok (.iload 10, 2) := by decide +kernel
theorem dX6_cross_135 : decode cX6_cross 135 = .ok (.iconst 1, 1) := by decide +kernel
theorem dX6_cross_136 : decode cX6_cross 136 = .ok (.if_icmp .ne 7, 3) := by decide +kernel
theorem dX6_cross_139 : decode cX6_cross 139 = .ok (.iconst 2, 1) := by decide +kernel
theorem dX6_cross_140 : decode cX6_cross 140 = .ok (.goto 4, 3) := by decide +kernel
theorem dX6_cross_143 : decode cX6_cross 143 = .ok (.iconst 0, 1) := by decide +kernel
theorem dX6_cross_144 : decode cX6_cross 144 = .ok (.ireturn, 1) := by decide +kernel
theorem dX6_cross_145 : decode cX6_cross 145 = .ok (.iload 5, 2) := by decide +kernel
theorem dX6_cross_147 : decode cX6_cross 147 = .ok (.iload 6, 2) := by decide +kernel
theorem dX6_cross_149 : decode cX6_cross 149 = .ok (.imul, 1) := by decide +kernel
theorem dX6_cross_150 : decode cX6_cross 150 = .ok (.ifCond .ge 13, 3) := by decide +kernel
theorem dX6_cross_153 : decode cX6_cross 153 = .ok (.iload 7, 2) := by decide +kernel
theorem dX6_cross_155 : decode cX6_cross 155 = .ok (.iload 8, 2) := by decide +kernel
theorem dX6_cross_157 : decode cX6_cross 157 = .ok (.imul, 1) := by decide +kernel
theorem dX6_cross_158 : decode cX6_cross 158 = .ok (.ifCond .ge 5, 3) := by decide +kernel
theorem dX6_cross_161 : decode cX6_cross 161 = .ok (.iconst 1, 1) := by decide +kernel
theorem dX6_cross_162 : decode cX6_cross 162 = .ok (.ireturn, 1) := by decide +kernel
theorem dX6_cross_163 : decode cX6_cross 163 = .ok (.aload_n 0, 1) := by decide +kernel
theorem dX6_cross_164 : decode cX6_cross 164 = .ok (.iload_n 1, 1) := by decide +kernel
theorem dX6_cross_165 : decode cX6_cross 165 = .ok (.iload_n 2, 1) := by decide +kernel
theorem dX6_cross_166 : decode cX6_cross 166 = .ok (.iload_n 3, 1) := by decide +kernel
theorem dX6_cross_167 : decode cX6_cross 167 = .ok (.invokevirtual 131, 3) := by decide +kernel
theorem dX6_cross_170 : decode cX6_cross 170 = .ok (.ifCond .ne 36, 3) := by decide +kernel
theorem dX6_cross_173 : decode cX6_cross 173 = .ok (.aload_n 0, 1) := by decide +kernel
theorem dX6_cross_174 : decode cX6_cross 174 = .ok (.iload_n 1, 1) := by decide +kernel
theorem dX6_cross_175 : decode cX6_cross 175 = .ok (.iload_n 2, 1) := by decide +kernel
theorem dX6_cross_176 : decode cX6_cross 176 = .ok (.iload 4, 2) := by decide +kernel
theorem dX6_cross_178 : decode cX6_cross 178 = .ok (.invokevirtual 131, 3) := by decide +kernel
theorem dX6_cross_181 : decode cX6_cross 181 = .ok (.ifCond .ne 25, 3) := by decide +kernel
theorem dX6_cross_184 : decode cX6_cross 184 = .ok (.aload_n 0, 1) := by decide +kernel
theorem dX6_cross_185 : decode cX6_cross 185 = .ok (.iload_n 3, 1) := by decide +kernel
theorem dX6_cross_186 : decode cX6_cross 186 = .ok (.iload 4, 2) := by decide +kernel
theorem dX6_cross_188 : decode cX6_cross 188 = .ok (.iload_n 1, 1) := by decide +kernel
theorem dX6_cross_189 : decode cX6_cross 189 = .ok (.invokevirtual 131, 3) := by decide +kernel
theorem dX6_cross_192 : decode cX6_cross 192 = .ok (.ifCond .ne 14, 3) := by decide +kernel
theorem dX6_cross_195 : decode cX6_cross 195 = .ok (.aload_n 0, 1) := by decide +kernel
theorem dX6_cross_196 : decode cX6_cross 196 = .ok (.iload_n 3, 1) := by decide +kernel
theorem dX6_cross_197 : decode cX6_cross 197 = .ok (.iload 4, 2) := by decide +kernel
theorem dX6_cross_199 : decode cX6_cross 199 = .ok (.iload_n 2, 1) := by decide +kernel
theorem dX6_cross_200 : decode cX6_cross 200 = .ok (.invokevirtual 131, 3) := by decide +kernel
theorem dX6_cross_203 : decode cX6_cross 203 = .ok (.ifCond .eq 7, 3) := by decide +kernel
theorem dX6_cross_206 : decode cX6_cross 206 = .ok (.iconst 2, 1) := by decide +kernel
theorem dX6_cross_207 : decode cX6_cross 207 = .ok (.goto 4, 3) := by decide +kernel
theorem dX6_cross_210 : decode cX6_cross 210 = .ok (.iconst 0, 1) := by decide +kernel
theorem dX6_cross_211 : decode cX6_cross 211 = .ok (.ireturn, 1) := by decide +kernel
theorem dX6_separated_0 : decode cX6_separated 0 = .ok (.aload_n 0, 1) := by decide +kernel
theorem dX6_separated_1 : decode cX6_separated 1 = .ok (.iconst 0, 1) := by decide +kernel
theorem dX6_separated_2 : decode cX6_separated 2 = .ok (.putfield 1, 3) := by decide +kernel
theorem dX6_separated_5 : decode cX6_separated 5 = .ok (.aload_n 0, 1) := by decide +kernel
theorem dX6_separated_6 : decode cX6_separated 6 = .ok (.iload_n 1, 1) := by decide +kernel
theorem dX6_separated_7 : decode cX6_separated 7 = .ok (.invokevirtual 69, 3) := by decide +kernel
theorem dX6_separated_10 : decode cX6_separated 10 = .ok (.ifCond .eq 28, 3) := by decide +kernel
theorem dX6_separated_13 : decode cX6_separated 13 = .ok (.aload_n 0, 1) := by decide +kernel
theorem dX6_separated_14 : decode cX6_separated 14 = .ok (.iload_n 2, 1) := by decide +kernel
theorem dX6_separated_15 : decode cX6_separated 15 = .ok (.invokevirtual 69, 3) := by decide +kernel
theorem dX6_separated_18 : decode cX6_separated 18 = .ok (.ifCond .eq 20, 3) := by decide +kernel
theorem dX6_separated_21 : decode cX6_separated 21 = .ok (.aload_n 0, 1) := by decide +kernel
theorem dX6_separated_22 : decode cX6_separated 22 = .ok (.iload_n 3, 1) := by decide +kernel
theorem dX6_separated_23 : decode cX6_separated 23 = .ok (.invokevirtual 69, 3) := by decide +kernel
theorem dX6_separated_26 : decode cX6_separated 26 = .ok (.ifCond .eq 12, 3) := by decide +kernel
theorem dX6_separated_29 : decode cX6_separated 29 = .ok (.aload_n 0, 1) := by decide +kernel
theorem dX6_separated_30 : decode cX6_separated 30 = .ok (.iload 4, 2) := by decide +kernel
theorem dX6_separated_32 : decode cX6_separated 32 = .ok (.invokevirtual 69, 3) := by decide +kernel
theorem dX6_separated_35 : decode cX6_separated 35 = .ok (.ifCond .ne 6, 3) := by decide +kernel
theorem dX6_separated_38 : decode cX6_separated 38 = .ok (.bipush (-2), 2) := by decide +kernel
theorem dX6_separated_40 : decode cX6_separated 40 = .ok (.ireturn, 1) := by decide +kernel
theorem dX6_separated_41 : decode cX6_separated 41 = .ok (.aload_n 0, 1) := by decide +kernel
theorem dX6_separated_42 : decode cX6_separated 42 = .ok (.iload_n 1, 1) := by decide +kernel
theorem dX6_separated_43 : decode cX6_separated 43 = .ok (.iload_n 2, 1) := by decide +kernel
theorem dX6_separated_44 : decode cX6_separated 44 = .ok (.invokevirtual 107, 3) := by decide +kernel
theorem dX6_separated_47 : decode cX6_separated 47 = .ok (.ifCond .ne 51, 3) := by decide +kernel
theorem dX6_separated_50 : decode cX6_separated 50 = .ok (.aload_n 0, 1) := by decide +kernel
theorem dX6_separated_51 : decode cX6_separated 51 = .ok (.iload_n 1, 1) := by decide +kernel
theorem dX6_separated_52 : decode cX6_separated 52 = .ok (.iload_n 3, 1) := by decide +kernel
theorem dX6_separated_53 : decode cX6_separated 53 = .ok (.invokevirtual 107, 3) := by decide +kernel
theorem dX6_separated_56 : decode cX6_separated 56 = .ok (.ifCond .ne 42, 3) := by decide +kernel
theorem dX6_separated_59 : decode cX6_separated 59 = .ok (.aload_n 0, 1) := by decide +kernel
theorem dX6_separated_60 : decode cX6_separated 60 = .ok (.iload_n 1, 1) := by decide +kernel
theorem dX6_separated_61 : decode cX6_separated 61 = .ok (.iload 4, 2) := by decide +kernel
theorem dX6_separated_63 : decode cX6_separated 63 = .ok (.invokevirtual 107, 3) := by decide +kernel
theorem dX6_separated_66 : decode cX6_separated 66 = .ok (.ifCond .ne 32, 3) := by decide +kernel
theorem dX6_separated_69 : decode cX6_separated 69 = .ok (.aload_n 0, 1) := by decide +kernel
theorem dX6_separated_70 : decode cX6_separated 70 = .ok (.iload_n 2, 1) := by decide +kernel
theorem dX6_separated_71 : decode cX6_separated 71 = .ok (.iload_n 3, 1) := by decide +kernel
theorem dX6_separated_72 : decode cX6_separated 72 = .ok (.invokevirtual 107, 3) := by decide +kernel
theorem dX6_separated_75 : decode cX6_separated 75 = .ok (.ifCond .ne 23, 3) := by decide +kernel
theorem dX6_separated_78 : decode cX6_separated 78 = .ok (.aload_n 0, 1) := by decide +kernel
theorem dX6_separated_79 : decode cX6_separated 79 = .ok (.iload_n 2, 1) := by decide +kernel
theorem dX6_separated_80 : decode cX6_separated 80 = .ok (.iload 4, 2) := by decide +kernel
theorem dX6_separated_82 : decode cX6_separated 82 = .ok (.invokevirtual 107, 3) := by decide +kernel
theorem dX6_separated_85 : decode cX6_separated 85 = .ok (.ifCond .ne 13, 3) := by decide +kernel
theorem dX6_separated_88 : decode cX6_separated 88 = .ok (.aload_n 0, 1) := by decide +kernel
theorem dX6_separated_89 : decode cX6_separated 89 = .ok (.iload_n 3, 1) := by decide +kernel
theorem dX6_separated_90 : decode cX6_separated 90 = .ok (.iload 4, 2) := by decide +kernel
theorem dX6_separated_92 : decode cX6_separated 92 = .ok (.invokevirtual 107, 3) := by decide +kernel
theorem dX6_separated_95 : decode cX6_separated 95 = .ok (.ifCond .eq 6, 3) := by decide +kernel
theorem dX6_separated_98 : decode cX6_separated 98 = .ok (.bipush (-4), 2) := by decide +kernel
theorem dX6_separated_100 : decode cX6_separated 100 = .ok (.ireturn, 1) := by decide +kernel
theorem dX6_separated_101 : decode cX6_separated 101 = .ok (.aload_n 0, 1) := by decide +kernel
theorem dX6_separated_102 : decode cX6_separated 102 = .ok (.iload_n 1, 1) := by decide +kernel
theorem dX6_separated_103 : decode cX6_separated 103 = .ok (.iload_n 2, 1) := by decide +kernel
theorem dX6_separated_104 : decode cX6_separated 104 = .ok (.iload_n 3, 1) := by decide +kernel
theorem dX6_separated_105 : decode cX6_separated 105 = .ok (.invokevirtual 58, 3) := by decide +kernel
theorem dX6_separated_108 : decode cX6_separated 108 = .ok (.istore 5, 2) := by decide +kernel
theorem dX6_separated_110 : decode cX6_separated 110 = .ok (.aload_n 0, 1) := by decide +kernel
theorem dX6_separated_111 : decode cX6_separated 111 = .ok (.iload_n 1, 1) := by decide +kernel
theorem dX6_separated_112 : decode cX6_separated 112 = .ok (.iload_n 2, 1) := by decide +kernel
theorem dX6_separated_113 : decode cX6_separated 113 = .ok (.iload 4, 2) := by decide +kernel
theorem dX6_separated_115 : decode cX6_separated 115 = .ok (.invokevirtual 58, 3) := by decide +kernel
theorem dX6_separated_118 : decode cX6_separated 118 = .ok (.istore 6, 2) := by decide +kernel
theorem dX6_separated_120 : decode cX6_separated 120 = .ok (.iload 5, 2) := by decide +kernel
theorem dX6_separated_122 : decode cX6_separated 122 = .ok (.ifCond .ne 32, 3) := by decide +kernel
theorem dX6_separated_125 : decode cX6_separated 125 = .ok (.iload 6, 2) := by decide +kernel
theorem dX6_separated_127 : decode cX6_separated 127 = .ok (.ifCond .ne 27, 3) := by decide +kernel
theorem dX6_separated_130 : decode cX6_separated 130 = .ok (.aload_n 0, 1) := by decide +kernel
theorem dX6_separated_131 : decode cX6_separated 131 = .ok (.iload_n 1, 1) := by decide +kernel
theorem dX6_separated_132 : decode cX6_separated 132 = .ok (.iload_n 2, 1) := by decide +kernel
theorem dX6_separated_133 : decode cX6_separated 133 = .ok (.iload_n 3, 1) := by decide +kernel
theorem dX6_separated_134 : decode cX6_separated 134 = .ok (.invokevirtual 131, 3) := by decide +kernel
theorem dX6_separated_137 : decode cX6_separated 137 = .ok (.aload_n 0, 1) := by decide +kernel
theorem dX6_separated_138 : decode cX6_separated 138 = .ok (.iload_n 1, 1) := by decide +kernel
theorem dX6_separated_139 : decode cX6_separated 139 = .ok (.iload_n 2, 1) := by decide +kernel
theorem dX6_separated_140 : decode cX6_separated 140 = .ok (.iload 4, 2) := by decide +kernel
theorem dX6_separated_142 : decode cX6_separated 142 = .ok (.invokevirtual 131, 3) := by decide +kernel
theorem dX6_separated_145 : decode cX6_separated 145 = .ok (.if_icmp .eq 7, 3) := by decide +kernel
theorem dX6_separated_148 : decode cX6_separated 148 = .ok (.iconst 1, 1) := by decide +kernel
theorem dX6_separated_149 : decode cX6_separated 149 = .ok (.goto 4, 3) := by decide +kernel
theorem dX6_separated_152 : decode cX6_separated 152 = .ok (.iconst 0, 1) := by decide +kernel
theorem dX6_separated_153 : decode cX6_separated 153 = .ok (.ireturn, 1) := by decide +kernel
theorem dX6_separated_154 : decode cX6_separated 154 = .ok (.iload 5, 2) := by decide +kernel
theorem dX6_separated_156 : decode cX6_separated 156 = .ok (.ifCond .eq 15, 3) := by decide +kernel
theorem dX6_separated_159 : decode cX6_separated 159 = .ok (.aload_n 0, 1) := by decide +kernel
theorem dX6_separated_160 : decode cX6_separated 160 = .ok (.iload_n 1, 1) := by decide +kernel
theorem dX6_separated_161 : decode cX6_separated 161 = .ok (.iload_n 2, 1) := by decide +kernel
theorem dX6_separated_162 : decode cX6_separated 162 = .ok (.iload_n 3, 1) := by decide +kernel
theorem dX6_separated_163 : decode cX6_separated 163 = .ok (.iload 4, 2) := by decide +kernel
theorem dX6_separated_165 : decode cX6_separated 165 = .ok (.invokevirtual 123, 3) := by decide +kernel
theorem dX6_separated_168 : decode cX6_separated 168 = .ok (.ifCond .eq 6, 3) := by decide +kernel
theorem dX6_separated_171 : decode cX6_separated 171 = .ok (.bipush (-4), 2) := by decide +kernel
theorem dX6_separated_173 : decode cX6_separated 173 = .ok (.ireturn, 1) := by decide +kernel
theorem dX6_separated_174 : decode cX6_separated 174 = .ok (.iload 5, 2) := by decide +kernel
theorem dX6_separated_176 : decode cX6_separated 176 = .ok (.iload 6, 2) := by decide +kernel
theorem dX6_separated_178 : decode cX6_separated 178 = .ok (.imul, 1) := by decide +kernel
theorem dX6_separated_179 : decode cX6_separated 179 = .ok (.ifCond .ge 7, 3) := by decide +kernel
theorem dX6_separated_182 : decode cX6_separated 182 = .ok (.iconst 1, 1) := by decide +kernel
theorem dX6_separated_183 : decode cX6_separated 183 = .ok (.goto 4, 3) := by decide +kernel
theorem dX6_separated_186 : decode cX6_separated 186 = .ok (.iconst 0, 1) := by decide +kernel
theorem dX6_separated_187 : decode cX6_separated 187 = .ok (.ireturn, 1) := by decide +kernel
theorem dX6_isMany_0 : decode cX6_isMany 0 = .ok (.iload_n 1, 1) := by decide +kernel
theorem dX6_isMany_1 : decode cX6_isMany 1 = .ok (.iload_n 2, 1) := by decide +kernel
theorem dX6_isMany_2 : decode cX6_isMany 2 = .ok (.if_icmp .lt 15, 3) := by decide +kernel
theorem dX6_isMany_5 : decode cX6_isMany 5 = .ok (.iload_n 1, 1) := by decide +kernel
theorem dX6_isMany_6 : decode cX6_isMany 6 = .ok (.aload_n 0, 1) := by decide +kernel
theorem dX6_isMany_7 : decode cX6_isMany 7 = .ok (.getfield 66, 3) := by decide +kernel
theorem dX6_isMany_10 : decode cX6_isMany 10 = .ok (.if_icmp .gt 7, 3) := by decide +kernel
theorem dX6_isMany_13 : decode cX6_isMany 13 = .ok (.iconst 1, 1) := by decide +kernel
theorem dX6_isMany_14 : decode cX6_isMany 14 = .ok (.goto 4, 3) := by decide +kernel
theorem dX6_isMany_17 : decode cX6_isMany 17 = .ok (.iconst 0, 1) := by decide +kernel
theorem dX6_isMany_18 : decode cX6_isMany 18 = .ok (.ireturn, 1) := by decide +kernel
theorem dX6_isWhole_0 : decode cX6_isWhole 0 = .ok (.iconst 1, 1) := by decide +kernel
theorem dX6_isWhole_1 : decode cX6_isWhole 1 = .ok (.istore_n 2, 1) := by decide +kernel
theorem dX6_isWhole_2 : decode cX6_isWhole 2 = .ok (.iconst 0, 1) := by decide +kernel
theorem dX6_isWhole_3 : decode cX6_isWhole 3 = .ok (.istore_n 3, 1) := by decide +kernel
theorem dX6_isWhole_4 : decode cX6_isWhole 4 = .ok (.iload_n 3, 1) := by decide +kernel
theorem dX6_isWhole_5 : decode cX6_isWhole 5 = .ok (.iload_n 1, 1) := by decide +kernel
theorem dX6_isWhole_6 : decode cX6_isWhole 6 = .ok (.if_icmp .ge 29, 3) := by decide +kernel
theorem dX6_isWhole_9 : decode cX6_isWhole 9 = .ok (.iload_n 2, 1) := by decide +kernel
theorem dX6_isWhole_10 : decode cX6_isWhole 10 = .ok (.ifCond .eq 17, 3) := by decide +kernel
theorem dX6_isWhole_13 : decode cX6_isWhole 13 = .ok (.aload_n 0, 1) := by decide +kernel
theorem dX6_isWhole_14 : decode cX6_isWhole 14 = .ok (.getfield 20, 3) := by decide +kernel
theorem dX6_isWhole_17 : decode cX6_isWhole 17 = .ok (.iload_n 3, 1) := by decide +kernel
theorem dX6_isWhole_18 : decode cX6_isWhole 18 = .ok (.iaload, 1) := by decide +kernel
theorem dX6_isWhole_19 : decode cX6_isWhole 19 = .ok (.iconst (-1), 1) := by decide +kernel
theorem dX6_isWhole_20 : decode cX6_isWhole 20 = .ok (.if_icmp .eq 7, 3) := by decide +kernel
theorem dX6_isWhole_23 : decode cX6_isWhole 23 = .ok (.iconst 1, 1) := by decide +kernel
theorem dX6_isWhole_24 : decode cX6_isWhole 24 = .ok (.goto 4, 3) := by decide +kernel
theorem dX6_isWhole_27 : decode cX6_isWhole 27 = .ok (.iconst 0, 1) := by decide +kernel
theorem dX6_isWhole_28 : decode cX6_isWhole 28 = .ok (.istore_n 2, 1) := by decide +kernel
theorem dX6_isWhole_29 : decode cX6_isWhole 29 = .ok (.iinc 3 1, 3) := by decide +kernel
theorem dX6_isWhole_32 : decode cX6_isWhole 32 = .ok (.goto (-28), 3) := by decide +kernel
theorem dX6_isWhole_35 : decode cX6_isWhole 35 = .ok (.iload_n 2, 1) := by decide +kernel
theorem dX6_isWhole_36 : decode cX6_isWhole 36 = .ok (.ireturn, 1) := by decide +kernel

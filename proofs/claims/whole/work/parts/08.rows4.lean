theorem dX6_next_0 : decode cX6_next 0 = .ok (.aload_n 0, 1) := by decide +kernel
theorem dX6_next_1 : decode cX6_next 1 = .ok (.getfield 20, 3) := by decide +kernel
theorem dX6_next_4 : decode cX6_next 4 = .ok (.iload_n 1, 1) := by decide +kernel
theorem dX6_next_5 : decode cX6_next 5 = .ok (.iconst 1, 1) := by decide +kernel
theorem dX6_next_6 : decode cX6_next 6 = .ok (.iadd, 1) := by decide +kernel
theorem dX6_next_7 : decode cX6_next 7 = .ok (.iload_n 2, 1) := by decide +kernel
theorem dX6_next_8 : decode cX6_next 8 = .ok (.if_icmp .ne 7, 3) := by decide +kernel
theorem dX6_next_11 : decode cX6_next 11 = .ok (.iconst 0, 1) := by decide +kernel
theorem dX6_next_12 : decode cX6_next 12 = .ok (.goto 6, 3) := by decide +kernel
theorem dX6_next_15 : decode cX6_next 15 = .ok (.iload_n 1, 1) := by decide +kernel
theorem dX6_next_16 : decode cX6_next 16 = .ok (.iconst 1, 1) := by decide +kernel
theorem dX6_next_17 : decode cX6_next 17 = .ok (.iadd, 1) := by decide +kernel
theorem dX6_next_18 : decode cX6_next 18 = .ok (.iaload, 1) := by decide +kernel
theorem dX6_next_19 : decode cX6_next 19 = .ok (.ireturn, 1) := by decide +kernel
theorem dX6_convex_0 : decode cX6_convex 0 = .ok (.aload_n 0, 1) := by decide +kernel
theorem dX6_convex_1 : decode cX6_convex 1 = .ok (.iconst 0, 1) := by decide +kernel
theorem dX6_convex_2 : decode cX6_convex 2 = .ok (.putfield 1, 3) := by decide +kernel
theorem dX6_convex_5 : decode cX6_convex 5 = .ok (.aload_n 0, 1) := by decide +kernel
theorem dX6_convex_6 : decode cX6_convex 6 = .ok (.iload_n 1, 1) := by decide +kernel
theorem dX6_convex_7 : decode cX6_convex 7 = .ok (.iconst 3, 1) := by decide +kernel
theorem dX6_convex_8 : decode cX6_convex 8 = .ok (.invokevirtual 139, 3) := by decide +kernel
theorem dX6_convex_11 : decode cX6_convex 11 = .ok (.ifCond .ne 6, 3) := by decide +kernel
theorem dX6_convex_14 : decode cX6_convex 14 = .ok (.bipush (-2), 2) := by decide +kernel
theorem dX6_convex_16 : decode cX6_convex 16 = .ok (.ireturn, 1) := by decide +kernel
theorem dX6_convex_17 : decode cX6_convex 17 = .ok (.aload_n 0, 1) := by decide +kernel
theorem dX6_convex_18 : decode cX6_convex 18 = .ok (.iload_n 1, 1) := by decide +kernel
theorem dX6_convex_19 : decode cX6_convex 19 = .ok (.invokevirtual 142, 3) := by decide +kernel
theorem dX6_convex_22 : decode cX6_convex 22 = .ok (.ifCond .ne 6, 3) := by decide +kernel
theorem dX6_convex_25 : decode cX6_convex 25 = .ok (.bipush (-4), 2) := by decide +kernel
theorem dX6_convex_27 : decode cX6_convex 27 = .ok (.ireturn, 1) := by decide +kernel
theorem dX6_convex_28 : decode cX6_convex 28 = .ok (.iconst 1, 1) := by decide +kernel
theorem dX6_convex_29 : decode cX6_convex 29 = .ok (.istore_n 2, 1) := by decide +kernel
theorem dX6_convex_30 : decode cX6_convex 30 = .ok (.iconst 1, 1) := by decide +kernel
theorem dX6_convex_31 : decode cX6_convex 31 = .ok (.istore_n 3, 1) := by decide +kernel
theorem dX6_convex_32 : decode cX6_convex 32 = .ok (.iconst 0, 1) := by decide +kernel
theorem dX6_convex_33 : decode cX6_convex 33 = .ok (.istore 4, 2) := by decide +kernel
theorem dX6_convex_35 : decode cX6_convex 35 = .ok (.iload 4, 2) := by decide +kernel
theorem dX6_convex_37 : decode cX6_convex 37 = .ok (.iload_n 1, 1) := by decide +kernel
theorem dX6_convex_38 : decode cX6_convex 38 = .ok (.if_icmp .ge 127, 3) := by decide +kernel
theorem dX6_convex_41 : decode cX6_convex 41 = .ok (.iconst 0, 1) := by decide +kernel
theorem dX6_convex_42 : decode cX6_convex 42 = .ok (.istore 5, 2) := by decide +kernel
theorem dX6_convex_44 : decode cX6_convex 44 = .ok (.iload 5, 2) := by decide +kernel
theorem dX6_convex_46 : decode cX6_convex 46 = .ok (.iload_n 1, 1) := by decide +kernel
theorem dX6_convex_47 : decode cX6_convex 47 = .ok (.if_icmp .ge 112, 3) := by decide +kernel
theorem dX6_convex_50 : decode cX6_convex 50 = .ok (.iload 5, 2) := by decide +kernel
theorem dX6_convex_52 : decode cX6_convex 52 = .ok (.iload 4, 2) := by decide +kernel
theorem dX6_convex_54 : decode cX6_convex 54 = .ok (.if_icmp .eq 14, 3) := by decide +kernel
theorem dX6_convex_57 : decode cX6_convex 57 = .ok (.iload 5, 2) := by decide +kernel
theorem dX6_convex_59 : decode cX6_convex 59 = .ok (.iload 4, 2) := by decide +kernel
theorem dX6_convex_61 : decode cX6_convex 61 = .ok (.iconst 1, 1) := by decide +kernel
theorem dX6_convex_62 : decode cX6_convex 62 = .ok (.iadd, 1) := by decide +kernel
theorem dX6_convex_63 : decode cX6_convex 63 = .ok (.iload_n 1, 1) := by decide +kernel
theorem dX6_convex_64 : decode cX6_convex 64 = .ok (.irem, 1) := by decide +kernel
theorem dX6_convex_65 : decode cX6_convex 65 = .ok (.if_icmp .ne 7, 3) := by decide +kernel
theorem dX6_convex_68 : decode cX6_convex 68 = .ok (.iconst 1, 1) := by decide +kernel
theorem dX6_convex_69 : decode cX6_convex 69 = .ok (.goto 4, 3) := by decide +kernel
theorem dX6_convex_72 : decode cX6_convex 72 = .ok (.iconst 0, 1) := by decide +kernel
theorem dX6_convex_73 : decode cX6_convex 73 = .ok (.istore 6, 2) := by decide +kernel
theorem dX6_convex_75 : decode cX6_convex 75 = .ok (.iload 6, 2) := by decide +kernel
theorem dX6_convex_77 : decode cX6_convex 77 = .ok (.ifCond .eq 7, 3) := by decide +kernel
theorem dX6_convex_80 : decode cX6_convex 80 = .ok (.iconst 0, 1) := by decide +kernel
theorem dX6_convex_81 : decode cX6_convex 81 = .ok (.goto 28, 3) := by decide +kernel
theorem dX6_convex_84 : decode cX6_convex 84 = .ok (.aload_n 0, 1) := by decide +kernel
theorem dX6_convex_85 : decode cX6_convex 85 = .ok (.aload_n 0, 1) := by decide +kernel
theorem dX6_convex_86 : decode cX6_convex 86 = .ok (.getfield 20, 3) := by decide +kernel
theorem dX6_convex_89 : decode cX6_convex 89 = .ok (.iload 4, 2) := by decide +kernel
theorem dX6_convex_91 : decode cX6_convex 91 = .ok (.iaload, 1) := by decide +kernel
theorem dX6_convex_92 : decode cX6_convex 92 = .ok (.aload_n 0, 1) := by decide +kernel
theorem dX6_convex_93 : decode cX6_convex 93 = .ok (.iload 4, 2) := by decide +kernel
theorem dX6_convex_95 : decode cX6_convex 95 = .ok (.iload_n 1, 1) := by decide +kernel
theorem dX6_convex_96 : decode cX6_convex 96 = .ok (.invokevirtual 145, 3) := by decide +kernel
theorem dX6_convex_99 : decode cX6_convex 99 = .ok (.aload_n 0, 1) := by decide +kernel
theorem dX6_convex_100 : decode cX6_convex 100 = .ok (.getfield 20, 3) := by decide +kernel
theorem dX6_convex_103 : decode cX6_convex 103 = .ok (.iload 5, 2) := by decide +kernel
theorem dX6_convex_105 : decode cX6_convex 105 = .ok (.iaload, 1) := by decide +kernel
theorem dX6_convex_106 : decode cX6_convex 106 = .ok (.invokevirtual 58, 3) := by decide +kernel
theorem dX6_convex_109 : decode cX6_convex 109 = .ok (.istore 7, 2) := by decide +kernel
theorem dX6_convex_111 : decode cX6_convex 111 = .ok (.iload_n 2, 1) := by decide +kernel
theorem dX6_convex_112 : decode cX6_convex 112 = .ok (.ifCond .eq 18, 3) := by decide +kernel
theorem dX6_convex_115 : decode cX6_convex 115 = .ok (.iload 6, 2) := by decide +kernel
theorem dX6_convex_117 : decode cX6_convex 117 = .ok (.ifCond .ne 9, 3) := by decide +kernel
theorem dX6_convex_120 : decode cX6_convex 120 = .ok (.iload 7, 2) := by decide +kernel
theorem dX6_convex_122 : decode cX6_convex 122 = .ok (.iconst 1, 1) := by decide +kernel
theorem dX6_convex_123 : decode cX6_convex 123 = .ok (.if_icmp .ne 7, 3) := by decide +kernel
theorem dX6_convex_126 : decode cX6_convex 126 = .ok (.iconst 1, 1) := by decide +kernel
theorem dX6_convex_127 : decode cX6_convex 127 = .ok (.goto 4, 3) := by decide +kernel
theorem dX6_convex_130 : decode cX6_convex 130 = .ok (.iconst 0, 1) := by decide +kernel
theorem dX6_convex_131 : decode cX6_convex 131 = .ok (.istore_n 2, 1) := by decide +kernel
theorem dX6_convex_132 : decode cX6_convex 132 = .ok (.iload_n 3, 1) := by decide +kernel
theorem dX6_convex_133 : decode cX6_convex 133 = .ok (.ifCond .eq 18, 3) := by decide +kernel
theorem dX6_convex_136 : decode cX6_convex 136 = .ok (.iload 6, 2) := by decide +kernel
theorem dX6_convex_138 : decode cX6_convex 138 = .ok (.ifCond .ne 9, 3) := by decide +kernel
theorem dX6_convex_141 : decode cX6_convex 141 = .ok (.iload 7, 2) := by decide +kernel
theorem dX6_convex_143 : decode cX6_convex 143 = .ok (.iconst (-1), 1) := by decide +kernel
theorem dX6_convex_144 : decode cX6_convex 144 = .ok (.if_icmp .ne 7, 3) := by decide +kernel
theorem dX6_convex_147 : decode cX6_convex 147 = .ok (.iconst 1, 1) := by decide +kernel
theorem dX6_convex_148 : decode cX6_convex 148 = .ok (.goto 4, 3) := by decide +kernel
theorem dX6_convex_151 : decode cX6_convex 151 = .ok (.iconst 0, 1) := by decide +kernel
theorem dX6_convex_152 : decode cX6_convex 152 = .ok (.istore_n 3, 1) := by decide +kernel
theorem dX6_convex_153 : decode cX6_convex 153 = .ok (.iinc 5 1, 3) := by decide +kernel
theorem dX6_convex_156 : decode cX6_convex 156 = .ok (.goto (-112), 3) := by decide +kernel
theorem dX6_convex_159 : decode cX6_convex 159 = .ok (.iinc 4 1, 3) := by decide +kernel
theorem dX6_convex_162 : decode cX6_convex 162 = .ok (.goto (-127), 3) := by decide +kernel
theorem dX6_convex_165 : decode cX6_convex 165 = .ok (.iload_n 2, 1) := by decide +kernel
theorem dX6_convex_166 : decode cX6_convex 166 = .ok (.ifCond .eq 7, 3) := by decide +kernel
theorem dX6_convex_169 : decode cX6_convex 169 = .ok (.iconst 1, 1) := by decide +kernel
theorem dX6_convex_170 : decode cX6_convex 170 = .ok (.goto 12, 3) := by decide +kernel
theorem dX6_convex_173 : decode cX6_convex 173 = .ok (.iload_n 3, 1) := by decide +kernel
theorem dX6_convex_174 : decode cX6_convex 174 = .ok (.ifCond .eq 7, 3) := by decide +kernel
theorem dX6_convex_177 : decode cX6_convex 177 = .ok (.iconst (-1), 1) := by decide +kernel
theorem dX6_convex_178 : decode cX6_convex 178 = .ok (.goto 4, 3) := by decide +kernel
theorem dX6_convex_181 : decode cX6_convex 181 = .ok (.iconst 0, 1) := by decide +kernel
theorem dX6_convex_182 : decode cX6_convex 182 = .ok (.ireturn, 1) := by decide +kernel
theorem dX6_isOnEdge_0 : decode cX6_isOnEdge 0 = .ok (.iconst 0, 1) := by decide +kernel
theorem dX6_isOnEdge_1 : decode cX6_isOnEdge 1 = .ok (.istore_n 3, 1) := by decide +kernel
theorem dX6_isOnEdge_2 : decode cX6_isOnEdge 2 = .ok (.iconst 0, 1) := by decide +kernel
theorem dX6_isOnEdge_3 : decode cX6_isOnEdge 3 = .ok (.istore 4, 2) := by decide +kernel
theorem dX6_isOnEdge_5 : decode cX6_isOnEdge 5 = .ok (.iload 4, 2) := by decide +kernel
theorem dX6_isOnEdge_7 : decode cX6_isOnEdge 7 = .ok (.iload_n 1, 1) := by decide +kernel
theorem dX6_isOnEdge_8 : decode cX6_isOnEdge 8 = .ok (.if_icmp .ge 41, 3) := by decide +kernel
theorem dX6_isOnEdge_11 : decode cX6_isOnEdge 11 = .ok (.iload_n 3, 1) := by decide +kernel
theorem dX6_isOnEdge_12 : decode cX6_isOnEdge 12 = .ok (.ifCond .ne 25, 3) := by decide +kernel
theorem dX6_isOnEdge_15 : decode cX6_isOnEdge 15 = .ok (.aload_n 0, 1) := by decide +kernel
theorem dX6_isOnEdge_16 : decode cX6_isOnEdge 16 = .ok (.aload_n 0, 1) := by decide +kernel
theorem dX6_isOnEdge_17 : decode cX6_isOnEdge 17 = .ok (.getfield 20, 3) := by decide +kernel
theorem dX6_isOnEdge_20 : decode cX6_isOnEdge 20 = .ok (.iload 4, 2) := by decide +kernel
theorem dX6_isOnEdge_22 : decode cX6_isOnEdge 22 = .ok (.iaload, 1) := by decide +kernel
theorem dX6_isOnEdge_23 : decode cX6_isOnEdge 23 = .ok (.aload_n 0, 1) := by decide +kernel
theorem dX6_isOnEdge_24 : decode cX6_isOnEdge 24 = .ok (.iload 4, 2) := by decide +kernel
theorem dX6_isOnEdge_26 : decode cX6_isOnEdge 26 = .ok (.iload_n 1, 1) := by decide +kernel
theorem dX6_isOnEdge_27 : decode cX6_isOnEdge 27 = .ok (.invokevirtual 145, 3) := by decide +kernel
theorem dX6_isOnEdge_30 : decode cX6_isOnEdge 30 = .ok (.iload_n 2, 1) := by decide +kernel
theorem dX6_isOnEdge_31 : decode cX6_isOnEdge 31 = .ok (.invokevirtual 131, 3) := by decide +kernel
theorem dX6_isOnEdge_34 : decode cX6_isOnEdge 34 = .ok (.ifCond .eq 7, 3) := by decide +kernel
theorem dX6_isOnEdge_37 : decode cX6_isOnEdge 37 = .ok (.iconst 1, 1) := by decide +kernel
theorem dX6_isOnEdge_38 : decode cX6_isOnEdge 38 = .ok (.goto 4, 3) := by decide +kernel
theorem dX6_isOnEdge_41 : decode cX6_isOnEdge 41 = .ok (.iconst 0, 1) := by decide +kernel
theorem dX6_isOnEdge_42 : decode cX6_isOnEdge 42 = .ok (.istore_n 3, 1) := by decide +kernel
theorem dX6_isOnEdge_43 : decode cX6_isOnEdge 43 = .ok (.iinc 4 1, 3) := by decide +kernel
theorem dX6_isOnEdge_46 : decode cX6_isOnEdge 46 = .ok (.goto (-41), 3) := by decide +kernel
theorem dX6_isOnEdge_49 : decode cX6_isOnEdge 49 = .ok (.iload_n 3, 1) := by decide +kernel
theorem dX6_isOnEdge_50 : decode cX6_isOnEdge 50 = .ok (.ireturn, 1) := by decide +kernel
theorem dX6_rises_0 : decode cX6_rises 0 = .ok (.aload_n 0, 1) := by decide +kernel
theorem dX6_rises_1 : decode cX6_rises 1 = .ok (.getfield 20, 3) := by decide +kernel
theorem dX6_rises_4 : decode cX6_rises 4 = .ok (.iload_n 1, 1) := by decide +kernel
theorem dX6_rises_5 : decode cX6_rises 5 = .ok (.iaload, 1) := by decide +kernel
theorem dX6_rises_6 : decode cX6_rises 6 = .ok (.istore 4, 2) := by decide +kernel
theorem dX6_rises_8 : decode cX6_rises 8 = .ok (.aload_n 0, 1) := by decide +kernel
theorem dX6_rises_9 : decode cX6_rises 9 = .ok (.iload_n 1, 1) := by decide +kernel
theorem dX6_rises_10 : decode cX6_rises 10 = .ok (.iload_n 2, 1) := by decide +kernel
theorem dX6_rises_11 : decode cX6_rises 11 = .ok (.invokevirtual 145, 3) := by decide +kernel
theorem dX6_rises_14 : decode cX6_rises 14 = .ok (.istore 5, 2) := by decide +kernel
theorem dX6_rises_16 : decode cX6_rises 16 = .ok (.aload_n 0, 1) := by decide +kernel
theorem dX6_rises_17 : decode cX6_rises 17 = .ok (.getfield 17, 3) := by decide +kernel
theorem dX6_rises_20 : decode cX6_rises 20 = .ok (.iload 4, 2) := by decide +kernel
theorem dX6_rises_22 : decode cX6_rises 22 = .ok (.iaload, 1) := by decide +kernel
theorem dX6_rises_23 : decode cX6_rises 23 = .ok (.aload_n 0, 1) := by decide +kernel
theorem dX6_rises_24 : decode cX6_rises 24 = .ok (.getfield 17, 3) := by decide +kernel
theorem dX6_rises_27 : decode cX6_rises 27 = .ok (.iload_n 3, 1) := by decide +kernel
theorem dX6_rises_28 : decode cX6_rises 28 = .ok (.iaload, 1) := by decide +kernel
theorem dX6_rises_29 : decode cX6_rises 29 = .ok (.if_icmp .gt 23, 3) := by decide +kernel
theorem dX6_rises_32 : decode cX6_rises 32 = .ok (.aload_n 0, 1) := by decide +kernel
theorem dX6_rises_33 : decode cX6_rises 33 = .ok (.getfield 17, 3) := by decide +kernel
theorem dX6_rises_36 : decode cX6_rises 36 = .ok (.iload 5, 2) := by decide +kernel
theorem dX6_rises_38 : decode cX6_rises 38 = .ok (.iaload, 1) := by decide +kernel
theorem dX6_rises_39 : decode cX6_rises 39 = .ok (.aload_n 0, 1) := by decide +kernel
theorem dX6_rises_40 : decode cX6_rises 40 = .ok (.getfield 17, 3) := by decide +kernel
theorem dX6_rises_43 : decode cX6_rises 43 = .ok (.iload_n 3, 1) := by decide +kernel
theorem dX6_rises_44 : decode cX6_rises 44 = .ok (.iaload, 1) := by decide +kernel
theorem dX6_rises_45 : decode cX6_rises 45 = .ok (.if_icmp .le 7, 3) := by decide +kernel
theorem dX6_rises_48 : decode cX6_rises 48 = .ok (.iconst 1, 1) := by decide +kernel
theorem dX6_rises_49 : decode cX6_rises 49 = .ok (.goto 4, 3) := by decide +kernel
theorem dX6_rises_52 : decode cX6_rises 52 = .ok (.iconst 0, 1) := by decide +kernel
theorem dX6_rises_53 : decode cX6_rises 53 = .ok (.istore 6, 2) := by decide +kernel
theorem dX6_rises_55 : decode cX6_rises 55 = .ok (.aload_n 0, 1) := by decide +kernel
theorem dX6_rises_56 : decode cX6_rises 56 = .ok (.getfield 17, 3) := by decide +kernel
theorem dX6_rises_59 : decode cX6_rises 59 = .ok (.iload 5, 2) := by decide +kernel
theorem dX6_rises_61 : decode cX6_rises 61 = .ok (.iaload, 1) := by decide +kernel
theorem dX6_rises_62 : decode cX6_rises 62 = .ok (.aload_n 0, 1) := by decide +kernel
theorem dX6_rises_63 : decode cX6_rises 63 = .ok (.getfield 17, 3) := by decide +kernel
theorem dX6_rises_66 : decode cX6_rises 66 = .ok (.iload_n 3, 1) := by decide +kernel
theorem dX6_rises_67 : decode cX6_rises 67 = .ok (.iaload, 1) := by decide +kernel
theorem dX6_rises_68 : decode cX6_rises 68 = .ok (.if_icmp .gt 23, 3) := by decide +kernel
theorem dX6_rises_71 : decode cX6_rises 71 = .ok (.aload_n 0, 1) := by decide +kernel
theorem dX6_rises_72 : decode cX6_rises 72 = .ok (.getfield 17, 3) := by decide +kernel
theorem dX6_rises_75 : decode cX6_rises 75 = .ok (.iload 4, 2) := by decide +kernel
theorem dX6_rises_77 : decode cX6_rises 77 = .ok (.iaload, 1) := by decide +kernel
theorem dX6_rises_78 : decode cX6_rises 78 = .ok (.aload_n 0, 1) := by decide +kernel
theorem dX6_rises_79 : decode cX6_rises 79 = .ok (.getfield 17, 3) := by decide +kernel
theorem dX6_rises_82 : decode cX6_rises 82 = .ok (.iload_n 3, 1) := by decide +kernel
theorem dX6_rises_83 : decode cX6_rises 83 = .ok (.iaload, 1) := by decide +kernel
theorem dX6_rises_84 : decode cX6_rises 84 = .ok (.if_icmp .le 7, 3) := by decide +kernel
theorem dX6_rises_87 : decode cX6_rises 87 = .ok (.iconst 1, 1) := by decide +kernel
theorem dX6_rises_88 : decode cX6_rises 88 = .ok (.goto 4, 3) := by decide +kernel
theorem dX6_rises_91 : decode cX6_rises 91 = .ok (.iconst 0, 1) := by decide +kernel
theorem dX6_rises_92 : decode cX6_rises 92 = .ok (.istore 7, 2) := by decide +kernel
theorem dX6_rises_94 : decode cX6_rises 94 = .ok (.iload 6, 2) := by decide +kernel
theorem dX6_rises_96 : decode cX6_rises 96 = .ok (.ifCond .eq 20, 3) := by decide +kernel
theorem dX6_rises_99 : decode cX6_rises 99 = .ok (.aload_n 0, 1) := by decide +kernel
theorem dX6_rises_100 : decode cX6_rises 100 = .ok (.iload 4, 2) := by decide +kernel
theorem dX6_rises_102 : decode cX6_rises 102 = .ok (.iload 5, 2) := by decide +kernel
theorem dX6_rises_104 : decode cX6_rises 104 = .ok (.iload_n 3, 1) := by decide +kernel
theorem dX6_rises_105 : decode cX6_rises 105 = .ok (.invokevirtual 58, 3) := by decide +kernel
theorem dX6_rises_108 : decode cX6_rises 108 = .ok (.iconst 1, 1) := by decide +kernel
theorem dX6_rises_109 : decode cX6_rises 109 = .ok (.if_icmp .ne 7, 3) := by decide +kernel
theorem dX6_rises_112 : decode cX6_rises 112 = .ok (.iconst 1, 1) := by decide +kernel
theorem dX6_rises_113 : decode cX6_rises 113 = .ok (.goto 26, 3) := by decide +kernel
theorem dX6_rises_116 : decode cX6_rises 116 = .ok (.iload 7, 2) := by decide +kernel
theorem dX6_rises_118 : decode cX6_rises 118 = .ok (.ifCond .eq 20, 3) := by decide +kernel
theorem dX6_rises_121 : decode cX6_rises 121 = .ok (.aload_n 0, 1) := by decide +kernel
theorem dX6_rises_122 : decode cX6_rises 122 = .ok (.iload 4, 2) := by decide +kernel
theorem dX6_rises_124 : decode cX6_rises 124 = .ok (.iload 5, 2) := by decide +kernel
theorem dX6_rises_126 : decode cX6_rises 126 = .ok (.iload_n 3, 1) := by decide +kernel
theorem dX6_rises_127 : decode cX6_rises 127 = .ok (.invokevirtual 58, 3) := by decide +kernel
theorem dX6_rises_130 : decode cX6_rises 130 = .ok (.iconst (-1), 1) := by decide +kernel
theorem dX6_rises_131 : decode cX6_rises 131 = .ok (.if_icmp .ne 7, 3) := by decide +kernel
theorem dX6_rises_134 : decode cX6_rises 134 = .ok (.iconst (-1), 1) := by decide +kernel
theorem dX6_rises_135 : decode cX6_rises 135 = .ok (.goto 4, 3) := by decide +kernel
theorem dX6_rises_138 : decode cX6_rises 138 = .ok (.iconst 0, 1) := by decide +kernel
theorem dX6_rises_139 : decode cX6_rises 139 = .ok (.ireturn, 1) := by decide +kernel
theorem dX6_polygon_0 : decode cX6_polygon 0 = .ok (.aload_n 0, 1) := by decide +kernel
theorem dX6_polygon_1 : decode cX6_polygon 1 = .ok (.iconst 0, 1) := by decide +kernel
theorem dX6_polygon_2 : decode cX6_polygon 2 = .ok (.putfield 1, 3) := by decide +kernel
theorem dX6_polygon_5 : decode cX6_polygon 5 = .ok (.aload_n 0, 1) := by decide +kernel
theorem dX6_polygon_6 : decode cX6_polygon 6 = .ok (.iload_n 1, 1) := by decide +kernel
theorem dX6_polygon_7 : decode cX6_polygon 7 = .ok (.iconst 1, 1) := by decide +kernel
theorem dX6_polygon_8 : decode cX6_polygon 8 = .ok (.invokevirtual 139, 3) := by decide +kernel
theorem dX6_polygon_11 : decode cX6_polygon 11 = .ok (.ifCond .eq 11, 3) := by decide +kernel
theorem dX6_polygon_14 : decode cX6_polygon 14 = .ok (.aload_n 0, 1) := by decide +kernel
theorem dX6_polygon_15 : decode cX6_polygon 15 = .ok (.iload_n 2, 1) := by decide +kernel
theorem dX6_polygon_16 : decode cX6_polygon 16 = .ok (.invokevirtual 69, 3) := by decide +kernel
theorem dX6_polygon_19 : decode cX6_polygon 19 = .ok (.ifCond .ne 6, 3) := by decide +kernel
theorem dX6_polygon_22 : decode cX6_polygon 22 = .ok (.bipush (-2), 2) := by decide +kernel
theorem dX6_polygon_24 : decode cX6_polygon 24 = .ok (.ireturn, 1) := by decide +kernel
theorem dX6_polygon_25 : decode cX6_polygon 25 = .ok (.aload_n 0, 1) := by decide +kernel
theorem dX6_polygon_26 : decode cX6_polygon 26 = .ok (.iload_n 1, 1) := by decide +kernel
theorem dX6_polygon_27 : decode cX6_polygon 27 = .ok (.invokevirtual 142, 3) := by decide +kernel
theorem dX6_polygon_30 : decode cX6_polygon 30 = .ok (.ifCond .ne 6, 3) := by decide +kernel
theorem dX6_polygon_33 : decode cX6_polygon 33 = .ok (.bipush (-4), 2) := by decide +kernel
theorem dX6_polygon_35 : decode cX6_polygon 35 = .ok (.ireturn, 1) := by decide +kernel
theorem dX6_polygon_36 : decode cX6_polygon 36 = .ok (.aload_n 0, 1) := by decide +kernel
theorem dX6_polygon_37 : decode cX6_polygon 37 = .ok (.iload_n 1, 1) := by decide +kernel
theorem dX6_polygon_38 : decode cX6_polygon 38 = .ok (.iload_n 2, 1) := by decide +kernel
theorem dX6_polygon_39 : decode cX6_polygon 39 = .ok (.invokevirtual 149, 3) := by decide +kernel
theorem dX6_polygon_42 : decode cX6_polygon 42 = .ok (.ifCond .eq 5, 3) := by decide +kernel
theorem dX6_polygon_45 : decode cX6_polygon 45 = .ok (.iconst 2, 1) := by decide +kernel
theorem dX6_polygon_46 : decode cX6_polygon 46 = .ok (.ireturn, 1) := by decide +kernel
theorem dX6_polygon_47 : decode cX6_polygon 47 = .ok (.iconst 0, 1) := by decide +kernel
theorem dX6_polygon_48 : decode cX6_polygon 48 = .ok (.istore_n 3, 1) := by decide +kernel
theorem dX6_polygon_49 : decode cX6_polygon 49 = .ok (.iconst 0, 1) := by decide +kernel
theorem dX6_polygon_50 : decode cX6_polygon 50 = .ok (.istore 4, 2) := by decide +kernel
theorem dX6_polygon_52 : decode cX6_polygon 52 = .ok (.iload 4, 2) := by decide +kernel
theorem dX6_polygon_54 : decode cX6_polygon 54 = .ok (.iload_n 1, 1) := by decide +kernel
theorem dX6_polygon_55 : decode cX6_polygon 55 = .ok (.if_icmp .ge 28, 3) := by decide +kernel
theorem dX6_polygon_58 : decode cX6_polygon 58 = .ok (.iload_n 3, 1) := by decide +kernel
theorem dX6_polygon_59 : decode cX6_polygon 59 = .ok (.aload_n 0, 1) := by decide +kernel
theorem dX6_polygon_60 : decode cX6_polygon 60 = .ok (.iload 4, 2) := by decide +kernel
theorem dX6_polygon_62 : decode cX6_polygon 62 = .ok (.iload_n 1, 1) := by decide +kernel
theorem dX6_polygon_63 : decode cX6_polygon 63 = .ok (.iload_n 2, 1) := by decide +kernel
theorem dX6_polygon_64 : decode cX6_polygon 64 = .ok (.invokevirtual 152, 3) := by decide +kernel
theorem dX6_polygon_67 : decode cX6_polygon 67 = .ok (.ifCond .ne 7, 3) := by decide +kernel
theorem dX6_polygon_70 : decode cX6_polygon 70 = .ok (.iconst 0, 1) := by decide +kernel
theorem dX6_polygon_71 : decode cX6_polygon 71 = .ok (.goto 4, 3) := by decide +kernel
theorem dX6_polygon_74 : decode cX6_polygon 74 = .ok (.iconst 1, 1) := by decide +kernel
theorem dX6_polygon_75 : decode cX6_polygon 75 = .ok (.iadd, 1) := by decide +kernel
theorem dX6_polygon_76 : decode cX6_polygon 76 = .ok (.istore_n 3, 1) := by decide +kernel
theorem dX6_polygon_77 : decode cX6_polygon 77 = .ok (.iinc 4 1, 3) := by decide +kernel
theorem dX6_polygon_80 : decode cX6_polygon 80 = .ok (.goto (-28), 3) := by decide +kernel
theorem dX6_polygon_83 : decode cX6_polygon 83 = .ok (.iload_n 3, 1) := by decide +kernel
theorem dX6_polygon_84 : decode cX6_polygon 84 = .ok (.iconst 2, 1) := by decide +kernel
theorem dX6_polygon_85 : decode cX6_polygon 85 = .ok (.irem, 1) := by decide +kernel
theorem dX6_polygon_86 : decode cX6_polygon 86 = .ok (.ireturn, 1) := by decide +kernel
theorem dX6_winding_0 : decode cX6_winding 0 = .ok (.aload_n 0, 1) := by decide +kernel
theorem dX6_winding_1 : decode cX6_winding 1 = .ok (.iconst 0, 1) := by decide +kernel
theorem dX6_winding_2 : decode cX6_winding 2 = .ok (.putfield 1, 3) := by decide +kernel
theorem dX6_winding_5 : decode cX6_winding 5 = .ok (.aload_n 0, 1) := by decide +kernel
theorem dX6_winding_6 : decode cX6_winding 6 = .ok (.iload_n 1, 1) := by decide +kernel
theorem dX6_winding_7 : decode cX6_winding 7 = .ok (.iconst 1, 1) := by decide +kernel
theorem dX6_winding_8 : decode cX6_winding 8 = .ok (.invokevirtual 139, 3) := by decide +kernel
theorem dX6_winding_11 : decode cX6_winding 11 = .ok (.ifCond .eq 19, 3) := by decide +kernel
theorem dX6_winding_14 : decode cX6_winding 14 = .ok (.aload_n 0, 1) := by decide +kernel
theorem dX6_winding_15 : decode cX6_winding 15 = .ok (.iload_n 2, 1) := by decide +kernel
theorem dX6_winding_16 : decode cX6_winding 16 = .ok (.invokevirtual 69, 3) := by decide +kernel
theorem dX6_winding_19 : decode cX6_winding 19 = .ok (.ifCond .eq 11, 3) := by decide +kernel
theorem dX6_winding_22 : decode cX6_winding 22 = .ok (.aload_n 0, 1) := by decide +kernel
theorem dX6_winding_23 : decode cX6_winding 23 = .ok (.iload_n 1, 1) := by decide +kernel
theorem dX6_winding_24 : decode cX6_winding 24 = .ok (.invokevirtual 142, 3) := by decide +kernel
theorem dX6_winding_27 : decode cX6_winding 27 = .ok (.ifCond .ne 6, 3) := by decide +kernel
theorem dX6_winding_30 : decode cX6_winding 30 = .ok (.bipush (-100), 2) := by decide +kernel
theorem dX6_winding_32 : decode cX6_winding 32 = .ok (.ireturn, 1) := by decide +kernel
theorem dX6_winding_33 : decode cX6_winding 33 = .ok (.aload_n 0, 1) := by decide +kernel
theorem dX6_winding_34 : decode cX6_winding 34 = .ok (.iload_n 1, 1) := by decide +kernel
theorem dX6_winding_35 : decode cX6_winding 35 = .ok (.iload_n 2, 1) := by decide +kernel
theorem dX6_winding_36 : decode cX6_winding 36 = .ok (.invokevirtual 149, 3) := by decide +kernel
theorem dX6_winding_39 : decode cX6_winding 39 = .ok (.ifCond .eq 6, 3) := by decide +kernel
theorem dX6_winding_42 : decode cX6_winding 42 = .ok (.bipush 100, 2) := by decide +kernel
theorem dX6_winding_44 : decode cX6_winding 44 = .ok (.ireturn, 1) := by decide +kernel
theorem dX6_winding_45 : decode cX6_winding 45 = .ok (.iconst 0, 1) := by decide +kernel
theorem dX6_winding_46 : decode cX6_winding 46 = .ok (.istore_n 3, 1) := by decide +kernel
theorem dX6_winding_47 : decode cX6_winding 47 = .ok (.iconst 0, 1) := by decide +kernel
theorem dX6_winding_48 : decode cX6_winding 48 = .ok (.istore 4, 2) := by decide +kernel
theorem dX6_winding_50 : decode cX6_winding 50 = .ok (.iload 4, 2) := by decide +kernel
theorem dX6_winding_52 : decode cX6_winding 52 = .ok (.iload_n 1, 1) := by decide +kernel
theorem dX6_winding_53 : decode cX6_winding 53 = .ok (.if_icmp .ge 20, 3) := by decide +kernel
theorem dX6_winding_56 : decode cX6_winding 56 = .ok (.iload_n 3, 1) := by decide +kernel
theorem dX6_winding_57 : decode cX6_winding 57 = .ok (.aload_n 0, 1) := by decide +kernel
theorem dX6_winding_58 : decode cX6_winding 58 = .ok (.iload 4, 2) := by decide +kernel
theorem dX6_winding_60 : decode cX6_winding 60 = .ok (.iload_n 1, 1) := by decide +kernel
theorem dX6_winding_61 : decode cX6_winding 61 = .ok (.iload_n 2, 1) := by decide +kernel
theorem dX6_winding_62 : decode cX6_winding 62 = .ok (.invokevirtual 152, 3) := by decide +kernel
theorem dX6_winding_65 : decode cX6_winding 65 = .ok (.iadd, 1) := by decide +kernel
theorem dX6_winding_66 : decode cX6_winding 66 = .ok (.istore_n 3, 1) := by decide +kernel
theorem dX6_winding_67 : decode cX6_winding 67 = .ok (.iinc 4 1, 3) := by decide +kernel
theorem dX6_winding_70 : decode cX6_winding 70 = .ok (.goto (-20), 3) := by decide +kernel
theorem dX6_winding_73 : decode cX6_winding 73 = .ok (.iload_n 3, 1) := by decide +kernel
theorem dX6_winding_74 : decode cX6_winding 74 = .ok (.ireturn, 1) := by decide +kernel
theorem dX6_far_0 : decode cX6_far 0 = .ok (.aload_n 0, 1) := by decide +kernel
theorem dX6_far_1 : decode cX6_far 1 = .ok (.iload_n 1, 1) := by decide +kernel
theorem dX6_far_2 : decode cX6_far 2 = .ok (.iload_n 2, 1) := by decide +kernel
theorem dX6_far_3 : decode cX6_far 3 = .ok (.iload_n 2, 1) := by decide +kernel
theorem dX6_far_4 : decode cX6_far 4 = .ok (.invokevirtual 127, 3) := by decide +kernel
theorem dX6_far_7 : decode cX6_far 7 = .ok (.lreturn, 1) := by decide +kernel
theorem dX6_nearest_0 : decode cX6_nearest 0 = .ok (.aload_n 0, 1) := by decide +kernel
theorem dX6_nearest_1 : decode cX6_nearest 1 = .ok (.iconst 0, 1) := by decide +kernel
theorem dX6_nearest_2 : decode cX6_nearest 2 = .ok (.putfield 1, 3) := by decide +kernel
theorem dX6_nearest_5 : decode cX6_nearest 5 = .ok (.aload_n 0, 1) := by decide +kernel
theorem dX6_nearest_6 : decode cX6_nearest 6 = .ok (.iload_n 1, 1) := by decide +kernel
theorem dX6_nearest_7 : decode cX6_nearest 7 = .ok (.invokevirtual 69, 3) := by decide +kernel
theorem dX6_nearest_10 : decode cX6_nearest 10 = .ok (.ifCond .eq 12, 3) := by decide +kernel
theorem dX6_nearest_13 : decode cX6_nearest 13 = .ok (.aload_n 0, 1) := by decide +kernel
theorem dX6_nearest_14 : decode cX6_nearest 14 = .ok (.iload_n 2, 1) := by decide +kernel
theorem dX6_nearest_15 : decode cX6_nearest 15 = .ok (.iconst 1, 1) := by decide +kernel
theorem dX6_nearest_16 : decode cX6_nearest 16 = .ok (.invokevirtual 139, 3) := by decide +kernel
theorem dX6_nearest_19 : decode cX6_nearest 19 = .ok (.ifCond .ne 6, 3) := by decide +kernel
theorem dX6_nearest_22 : decode cX6_nearest 22 = .ok (.bipush (-2), 2) := by decide +kernel
theorem dX6_nearest_24 : decode cX6_nearest 24 = .ok (.ireturn, 1) := by decide +kernel
theorem dX6_nearest_25 : decode cX6_nearest 25 = .ok (.aload_n 0, 1) := by decide +kernel
theorem dX6_nearest_26 : decode cX6_nearest 26 = .ok (.iload_n 2, 1) := by decide +kernel
theorem dX6_nearest_27 : decode cX6_nearest 27 = .ok (.invokevirtual 142, 3) := by decide +kernel
theorem dX6_nearest_30 : decode cX6_nearest 30 = .ok (.ifCond .ne 6, 3) := by decide +kernel
theorem dX6_nearest_33 : decode cX6_nearest 33 = .ok (.bipush (-4), 2) := by decide +kernel
theorem dX6_nearest_35 : decode cX6_nearest 35 = .ok (.ireturn, 1) := by decide +kernel
theorem dX6_nearest_36 : decode cX6_nearest 36 = .ok (.iconst 0, 1) := by decide +kernel
theorem dX6_nearest_37 : decode cX6_nearest 37 = .ok (.istore_n 3, 1) := by decide +kernel
theorem dX6_nearest_38 : decode cX6_nearest 38 = .ok (.aload_n 0, 1) := by decide +kernel
theorem dX6_nearest_39 : decode cX6_nearest 39 = .ok (.iload_n 1, 1) := by decide +kernel
theorem dX6_nearest_40 : decode cX6_nearest 40 = .ok (.aload_n 0, 1) := by decide +kernel
theorem dX6_nearest_41 : decode cX6_nearest 41 = .ok (.getfield 20, 3) := by decide +kernel
theorem dX6_nearest_44 : decode cX6_nearest 44 = .ok (.iconst 0, 1) := by decide +kernel
theorem dX6_nearest_45 : decode cX6_nearest 45 = .ok (.iaload, 1) := by decide +kernel
theorem dX6_nearest_46 : decode cX6_nearest 46 = .ok (.invokevirtual 155, 3) := by decide +kernel
theorem dX6_nearest_49 : decode cX6_nearest 49 = .ok (.lstore 4, 2) := by decide +kernel
theorem dX6_nearest_51 : decode cX6_nearest 51 = .ok (.iconst 0, 1) := by decide +kernel
theorem dX6_nearest_52 : decode cX6_nearest 52 = .ok (.istore 6, 2) := by decide +kernel
theorem dX6_nearest_54 : decode cX6_nearest 54 = .ok (.iload 6, 2) := by decide +kernel
theorem dX6_nearest_56 : decode cX6_nearest 56 = .ok (.iload_n 2, 1) := by decide +kernel
theorem dX6_nearest_57 : decode cX6_nearest 57 = .ok (.if_icmp .ge 74, 3) := by decide +kernel
theorem dX6_nearest_60 : decode cX6_nearest 60 = .ok (.aload_n 0, 1) := by decide +kernel
theorem dX6_nearest_61 : decode cX6_nearest 61 = .ok (.iload_n 1, 1) := by decide +kernel
theorem dX6_nearest_62 : decode cX6_nearest 62 = .ok (.aload_n 0, 1) := by decide +kernel
theorem dX6_nearest_63 : decode cX6_nearest 63 = .ok (.getfield 20, 3) := by decide +kernel
theorem dX6_nearest_66 : decode cX6_nearest 66 = .ok (.iload 6, 2) := by decide +kernel
theorem dX6_nearest_68 : decode cX6_nearest 68 = .ok (.iaload, 1) := by decide +kernel
theorem dX6_nearest_69 : decode cX6_nearest 69 = .ok (.invokevirtual 155, 3) := by decide +kernel
theorem dX6_nearest_72 : decode cX6_nearest 72 = .ok (.lstore 7, 2) := by decide +kernel
theorem dX6_nearest_74 : decode cX6_nearest 74 = .ok (.lload 7, 2) := by decide +kernel
theorem dX6_nearest_76 : decode cX6_nearest 76 = .ok (.lload 4, 2) := by decide +kernel
theorem dX6_nearest_78 : decode cX6_nearest 78 = .ok (.lcmp, 1) := by decide +kernel
theorem dX6_nearest_79 : decode cX6_nearest 79 = .ok (.ifCond .ge 10, 3) := by decide +kernel
theorem dX6_nearest_82 : decode cX6_nearest 82 = .ok (.iconst 1, 1) := by decide +kernel
theorem dX6_nearest_83 : decode cX6_nearest 83 = .ok (.iload 6, 2) := by decide +kernel
theorem dX6_nearest_85 : decode cX6_nearest 85 = .ok (.ishl, 1) := by decide +kernel
theorem dX6_nearest_86 : decode cX6_nearest 86 = .ok (.goto 21, 3) := by decide +kernel
theorem dX6_nearest_89 : decode cX6_nearest 89 = .ok (.lload 7, 2) := by decide +kernel
theorem dX6_nearest_91 : decode cX6_nearest 91 = .ok (.lload 4, 2) := by decide +kernel
theorem dX6_nearest_93 : decode cX6_nearest 93 = .ok (.lcmp, 1) := by decide +kernel
theorem dX6_nearest_94 : decode cX6_nearest 94 = .ok (.ifCond .ne 12, 3) := by decide +kernel
theorem dX6_nearest_97 : decode cX6_nearest 97 = .ok (.iload_n 3, 1) := by decide +kernel
theorem dX6_nearest_98 : decode cX6_nearest 98 = .ok (.iconst 1, 1) := by decide +kernel
theorem dX6_nearest_99 : decode cX6_nearest 99 = .ok (.iload 6, 2) := by decide +kernel
theorem dX6_nearest_101 : decode cX6_nearest 101 = .ok (.ishl, 1) := by decide +kernel
theorem dX6_nearest_102 : decode cX6_nearest 102 = .ok (.ior, 1) := by decide +kernel
theorem dX6_nearest_103 : decode cX6_nearest 103 = .ok (.goto 4, 3) := by decide +kernel
theorem dX6_nearest_106 : decode cX6_nearest 106 = .ok (.iload_n 3, 1) := by decide +kernel
theorem dX6_nearest_107 : decode cX6_nearest 107 = .ok (.istore_n 3, 1) := by decide +kernel
theorem dX6_nearest_108 : decode cX6_nearest 108 = .ok (.lload 7, 2) := by decide +kernel
theorem dX6_nearest_110 : decode cX6_nearest 110 = .ok (.lload 4, 2) := by decide +kernel
theorem dX6_nearest_112 : decode cX6_nearest 112 = .ok (.lcmp, 1) := by decide +kernel
theorem dX6_nearest_113 : decode cX6_nearest 113 = .ok (.ifCond .ge 8, 3) := by decide +kernel
theorem dX6_nearest_116 : decode cX6_nearest 116 = .ok (.lload 7, 2) := by decide +kernel
theorem dX6_nearest_118 : decode cX6_nearest 118 = .ok (.goto 5, 3) := by decide +kernel
theorem dX6_nearest_121 : decode cX6_nearest 121 = .ok (.lload 4, 2) := by decide +kernel
theorem dX6_nearest_123 : decode cX6_nearest 123 = .ok (.lstore 4, 2) := by decide +kernel
theorem dX6_nearest_125 : decode cX6_nearest 125 = .ok (.iinc 6 1, 3) := by decide +kernel
theorem dX6_nearest_128 : decode cX6_nearest 128 = .ok (.goto (-74), 3) := by decide +kernel
theorem dX6_nearest_131 : decode cX6_nearest 131 = .ok (.iload_n 3, 1) := by decide +kernel
theorem dX6_nearest_132 : decode cX6_nearest 132 = .ok (.ireturn, 1) := by decide +kernel
theorem dX6_half_0 : decode cX6_half 0 = .ok (.aload_n 0, 1) := by decide +kernel
theorem dX6_half_1 : decode cX6_half 1 = .ok (.getfield 17, 3) := by decide +kernel
theorem dX6_half_4 : decode cX6_half 4 = .ok (.iload_n 2, 1) := by decide +kernel
theorem dX6_half_5 : decode cX6_half 5 = .ok (.iaload, 1) := by decide +kernel
theorem dX6_half_6 : decode cX6_half 6 = .ok (.aload_n 0, 1) := by decide +kernel
theorem dX6_half_7 : decode cX6_half 7 = .ok (.getfield 17, 3) := by decide +kernel
theorem dX6_half_10 : decode cX6_half 10 = .ok (.iload_n 1, 1) := by decide +kernel
theorem dX6_half_11 : decode cX6_half 11 = .ok (.iaload, 1) := by decide +kernel
theorem dX6_half_12 : decode cX6_half 12 = .ok (.if_icmp .gt 33, 3) := by decide +kernel
theorem dX6_half_15 : decode cX6_half 15 = .ok (.aload_n 0, 1) := by decide +kernel
theorem dX6_half_16 : decode cX6_half 16 = .ok (.getfield 17, 3) := by decide +kernel
theorem dX6_half_19 : decode cX6_half 19 = .ok (.iload_n 2, 1) := by decide +kernel
theorem dX6_half_20 : decode cX6_half 20 = .ok (.iaload, 1) := by decide +kernel
theorem dX6_half_21 : decode cX6_half 21 = .ok (.aload_n 0, 1) := by decide +kernel
theorem dX6_half_22 : decode cX6_half 22 = .ok (.getfield 17, 3) := by decide +kernel
theorem dX6_half_25 : decode cX6_half 25 = .ok (.iload_n 1, 1) := by decide +kernel
theorem dX6_half_26 : decode cX6_half 26 = .ok (.iaload, 1) := by decide +kernel
theorem dX6_half_27 : decode cX6_half 27 = .ok (.if_icmp .ne 22, 3) := by decide +kernel
theorem dX6_half_30 : decode cX6_half 30 = .ok (.aload_n 0, 1) := by decide +kernel
theorem dX6_half_31 : decode cX6_half 31 = .ok (.getfield 13, 3) := by decide +kernel
theorem dX6_half_34 : decode cX6_half 34 = .ok (.iload_n 2, 1) := by decide +kernel
theorem dX6_half_35 : decode cX6_half 35 = .ok (.iaload, 1) := by decide +kernel
theorem dX6_half_36 : decode cX6_half 36 = .ok (.aload_n 0, 1) := by decide +kernel
theorem dX6_half_37 : decode cX6_half 37 = .ok (.getfield 13, 3) := by decide +kernel
theorem dX6_half_40 : decode cX6_half 40 = .ok (.iload_n 1, 1) := by decide +kernel
theorem dX6_half_41 : decode cX6_half 41 = .ok (.iaload, 1) := by decide +kernel
theorem dX6_half_42 : decode cX6_half 42 = .ok (.if_icmp .le 7, 3) := by decide +kernel
theorem dX6_half_45 : decode cX6_half 45 = .ok (.iconst 0, 1) := by decide +kernel
theorem dX6_half_46 : decode cX6_half 46 = .ok (.goto 4, 3) := by decide +kernel
theorem dX6_half_49 : decode cX6_half 49 = .ok (.iconst 1, 1) := by decide +kernel
theorem dX6_half_50 : decode cX6_half 50 = .ok (.ireturn, 1) := by decide +kernel
theorem dX6_isAhead_0 : decode cX6_isAhead 0 = .ok (.aload_n 0, 1) := by decide +kernel
theorem dX6_isAhead_1 : decode cX6_isAhead 1 = .ok (.getfield 20, 3) := by decide +kernel
theorem dX6_isAhead_4 : decode cX6_isAhead 4 = .ok (.iload_n 2, 1) := by decide +kernel
theorem dX6_isAhead_5 : decode cX6_isAhead 5 = .ok (.iaload, 1) := by decide +kernel
theorem dX6_isAhead_6 : decode cX6_isAhead 6 = .ok (.istore 4, 2) := by decide +kernel
theorem dX6_isAhead_8 : decode cX6_isAhead 8 = .ok (.aload_n 0, 1) := by decide +kernel
theorem dX6_isAhead_9 : decode cX6_isAhead 9 = .ok (.getfield 20, 3) := by decide +kernel
theorem dX6_isAhead_12 : decode cX6_isAhead 12 = .ok (.iload_n 3, 1) := by decide +kernel
theorem dX6_isAhead_13 : decode cX6_isAhead 13 = .ok (.iaload, 1) := by decide +kernel
theorem dX6_isAhead_14 : decode cX6_isAhead 14 = .ok (.istore 5, 2) := by decide +kernel
theorem dX6_isAhead_16 : decode cX6_isAhead 16 = .ok (.aload_n 0, 1) := by decide +kernel
theorem dX6_isAhead_17 : decode cX6_isAhead 17 = .ok (.iload_n 1, 1) := by decide +kernel
theorem dX6_isAhead_18 : decode cX6_isAhead 18 = .ok (.iload 4, 2) := by decide +kernel
theorem dX6_isAhead_20 : decode cX6_isAhead 20 = .ok (.invokevirtual 107, 3) := by decide +kernel
theorem dX6_isAhead_23 : decode cX6_isAhead 23 = .ok (.istore 6, 2) := by decide +kernel
theorem dX6_isAhead_25 : decode cX6_isAhead 25 = .ok (.aload_n 0, 1) := by decide +kernel
theorem dX6_isAhead_26 : decode cX6_isAhead 26 = .ok (.iload_n 1, 1) := by decide +kernel
theorem dX6_isAhead_27 : decode cX6_isAhead 27 = .ok (.iload 5, 2) := by decide +kernel
theorem dX6_isAhead_29 : decode cX6_isAhead 29 = .ok (.invokevirtual 107, 3) := by decide +kernel
theorem dX6_isAhead_32 : decode cX6_isAhead 32 = .ok (.istore 7, 2) := by decide +kernel
theorem dX6_isAhead_34 : decode cX6_isAhead 34 = .ok (.iload 6, 2) := by decide +kernel
theorem dX6_isAhead_36 : decode cX6_isAhead 36 = .ok (.ifCond .ne 8, 3) := by decide +kernel
theorem dX6_isAhead_39 : decode cX6_isAhead 39 = .ok (.iload 7, 2) := by decide +kernel
theorem dX6_isAhead_41 : decode cX6_isAhead 41 = .ok (.ifCond .eq 24, 3) := by decide +kernel
theorem dX6_isAhead_44 : decode cX6_isAhead 44 = .ok (.iload 6, 2) := by decide +kernel
theorem dX6_isAhead_46 : decode cX6_isAhead 46 = .ok (.ifCond .eq 17, 3) := by decide +kernel
theorem dX6_isAhead_49 : decode cX6_isAhead 49 = .ok (.iload 7, 2) := by decide +kernel
theorem dX6_isAhead_51 : decode cX6_isAhead 51 = .ok (.ifCond .eq 8, 3) := by decide +kernel
theorem dX6_isAhead_54 : decode cX6_isAhead 54 = .ok (.iload_n 2, 1) := by decide +kernel
theorem dX6_isAhead_55 : decode cX6_isAhead 55 = .ok (.iload_n 3, 1) := by decide +kernel
theorem dX6_isAhead_56 : decode cX6_isAhead 56 = .ok (.if_icmp .ge 7, 3) := by decide +kernel
theorem dX6_isAhead_59 : decode cX6_isAhead 59 = .ok (.iconst 1, 1) := by decide +kernel
theorem dX6_isAhead_60 : decode cX6_isAhead 60 = .ok (.goto 4, 3) := by decide +kernel
theorem dX6_isAhead_63 : decode cX6_isAhead 63 = .ok (.iconst 0, 1) := by decide +kernel
theorem dX6_isAhead_64 : decode cX6_isAhead 64 = .ok (.ireturn, 1) := by decide +kernel
theorem dX6_isAhead_65 : decode cX6_isAhead 65 = .ok (.aload_n 0, 1) := by decide +kernel
theorem dX6_isAhead_66 : decode cX6_isAhead 66 = .ok (.iload_n 1, 1) := by decide +kernel
theorem dX6_isAhead_67 : decode cX6_isAhead 67 = .ok (.iload 4, 2) := by decide +kernel
theorem dX6_isAhead_69 : decode cX6_isAhead 69 = .ok (.invokevirtual 159, 3) := by decide +kernel
theorem dX6_isAhead_72 : decode cX6_isAhead 72 = .ok (.aload_n 0, 1) := by decide +kernel
theorem dX6_isAhead_73 : decode cX6_isAhead 73 = .ok (.iload_n 1, 1) := by decide +kernel
theorem dX6_isAhead_74 : decode cX6_isAhead 74 = .ok (.iload 5, 2) := by decide +kernel
theorem dX6_isAhead_76 : decode cX6_isAhead 76 = .ok (.invokevirtual 159, 3) := by decide +kernel
theorem dX6_isAhead_79 : decode cX6_isAhead 79 = .ok (.if_icmp .eq 26, 3) := by decide +kernel
theorem dX6_isAhead_82 : decode cX6_isAhead 82 = .ok (.aload_n 0, 1) := by decide +kernel
theorem dX6_isAhead_83 : decode cX6_isAhead 83 = .ok (.iload_n 1, 1) := by decide +kernel
theorem dX6_isAhead_84 : decode cX6_isAhead 84 = .ok (.iload 4, 2) := by decide +kernel
theorem dX6_isAhead_86 : decode cX6_isAhead 86 = .ok (.invokevirtual 159, 3) := by decide +kernel
theorem dX6_isAhead_89 : decode cX6_isAhead 89 = .ok (.aload_n 0, 1) := by decide +kernel
theorem dX6_isAhead_90 : decode cX6_isAhead 90 = .ok (.iload_n 1, 1) := by decide +kernel
theorem dX6_isAhead_91 : decode cX6_isAhead 91 = .ok (.iload 5, 2) := by decide +kernel
theorem dX6_isAhead_93 : decode cX6_isAhead 93 = .ok (.invokevirtual 159, 3) := by decide +kernel
theorem dX6_isAhead_96 : decode cX6_isAhead 96 = .ok (.if_icmp .ge 7, 3) := by decide +kernel
theorem dX6_isAhead_99 : decode cX6_isAhead 99 = .ok (.iconst 1, 1) := by decide +kernel
theorem dX6_isAhead_100 : decode cX6_isAhead 100 = .ok (.goto 4, 3) := by decide +kernel
theorem dX6_isAhead_103 : decode cX6_isAhead 103 = .ok (.iconst 0, 1) := by decide +kernel
theorem dX6_isAhead_104 : decode cX6_isAhead 104 = .ok (.ireturn, 1) := by decide +kernel
theorem dX6_isAhead_105 : decode cX6_isAhead 105 = .ok (.aload_n 0, 1) := by decide +kernel
theorem dX6_isAhead_106 : decode cX6_isAhead 106 = .ok (.iload_n 1, 1) := by decide +kernel
theorem dX6_isAhead_107 : decode cX6_isAhead 107 = .ok (.iload 4, 2) := by decide +kernel
theorem dX6_isAhead_109 : decode cX6_isAhead 109 = .ok (.iload 5, 2) := by decide +kernel
theorem dX6_isAhead_111 : decode cX6_isAhead 111 = .ok (.invokevirtual 58, 3) := by decide +kernel
theorem dX6_isAhead_114 : decode cX6_isAhead 114 = .ok (.istore 8, 2) := by decide +kernel
theorem dX6_isAhead_116 : decode cX6_isAhead 116 = .ok (.iload 8, 2) := by decide +kernel
theorem dX6_isAhead_118 : decode cX6_isAhead 118 = .ok (.ifCond .eq 14, 3) := by decide +kernel
theorem dX6_isAhead_121 : decode cX6_isAhead 121 = .ok (.iload 8, 2) := by decide +kernel
theorem dX6_isAhead_123 : decode cX6_isAhead 123 = .ok (.ifCond .le 7, 3) := by decide +kernel
theorem dX6_isAhead_126 : decode cX6_isAhead 126 = .ok (.iconst 1, 1) := by decide +kernel
theorem dX6_isAhead_127 : decode cX6_isAhead 127 = .ok (.goto 4, 3) := by decide +kernel
theorem dX6_isAhead_130 : decode cX6_isAhead 130 = .ok (.iconst 0, 1) := by decide +kernel
theorem dX6_isAhead_131 : decode cX6_isAhead 131 = .ok (.ireturn, 1) := by decide +kernel
theorem dX6_isAhead_132 : decode cX6_isAhead 132 = .ok (.aload_n 0, 1) := by decide +kernel
theorem dX6_isAhead_133 : decode cX6_isAhead 133 = .ok (.iload_n 1, 1) := by decide +kernel
theorem dX6_isAhead_134 : decode cX6_isAhead 134 = .ok (.iload 4, 2) := by decide +kernel
theorem dX6_isAhead_136 : decode cX6_isAhead 136 = .ok (.invokevirtual 155, 3) := by decide +kernel
theorem dX6_isAhead_139 : decode cX6_isAhead 139 = .ok (.aload_n 0, 1) := by decide +kernel
theorem dX6_isAhead_140 : decode cX6_isAhead 140 = .ok (.iload_n 1, 1) := by decide +kernel
theorem dX6_isAhead_141 : decode cX6_isAhead 141 = .ok (.iload 5, 2) := by decide +kernel
theorem dX6_isAhead_143 : decode cX6_isAhead 143 = .ok (.invokevirtual 155, 3) := by decide +kernel
theorem dX6_isAhead_146 : decode cX6_isAhead 146 = .ok (.lcmp, 1) := by decide +kernel
theorem dX6_isAhead_147 : decode cX6_isAhead 147 = .ok (.ifCond .eq 29, 3) := by decide +kernel
theorem dX6_isAhead_150 : decode cX6_isAhead 150 = .ok (.aload_n 0, 1) := by decide +kernel
theorem dX6_isAhead_151 : decode cX6_isAhead 151 = .ok (.iload_n 1, 1) := by decide +kernel
theorem dX6_isAhead_152 : decode cX6_isAhead 152 = .ok (.iload 4, 2) := by decide +kernel
theorem dX6_isAhead_154 : decode cX6_isAhead 154 = .ok (.invokevirtual 155, 3) := by decide +kernel
theorem dX6_isAhead_157 : decode cX6_isAhead 157 = .ok (.aload_n 0, 1) := by decide +kernel
theorem dX6_isAhead_158 : decode cX6_isAhead 158 = .ok (.iload_n 1, 1) := by decide +kernel
theorem dX6_isAhead_159 : decode cX6_isAhead 159 = .ok (.iload 5, 2) := by decide +kernel
theorem dX6_isAhead_161 : decode cX6_isAhead 161 = .ok (.invokevirtual 155, 3) := by decide +kernel
theorem dX6_isAhead_164 : decode cX6_isAhead 164 = .ok (.lcmp, 1) := by decide +kernel
theorem dX6_isAhead_165 : decode cX6_isAhead 165 = .ok (.ifCond .ge 7, 3) := by decide +kernel
theorem dX6_isAhead_168 : decode cX6_isAhead 168 = .ok (.iconst 1, 1) := by decide +kernel
theorem dX6_isAhead_169 : decode cX6_isAhead 169 = .ok (.goto 17, 3) := by decide +kernel
theorem dX6_isAhead_172 : decode cX6_isAhead 172 = .ok (.iconst 0, 1) := by decide +kernel
theorem dX6_isAhead_173 : decode cX6_isAhead 173 = .ok (.goto 13, 3) := by decide +kernel
theorem dX6_isAhead_176 : decode cX6_isAhead 176 = .ok (.iload_n 2, 1) := by decide +kernel
theorem dX6_isAhead_177 : decode cX6_isAhead 177 = .ok (.iload_n 3, 1) := by decide +kernel
theorem dX6_isAhead_178 : decode cX6_isAhead 178 = .ok (.if_icmp .ge 7, 3) := by decide +kernel
theorem dX6_isAhead_181 : decode cX6_isAhead 181 = .ok (.iconst 1, 1) := by decide +kernel
theorem dX6_isAhead_182 : decode cX6_isAhead 182 = .ok (.goto 4, 3) := by decide +kernel
theorem dX6_isAhead_185 : decode cX6_isAhead 185 = .ok (.iconst 0, 1) := by decide +kernel
theorem dX6_isAhead_186 : decode cX6_isAhead 186 = .ok (.ireturn, 1) := by decide +kernel
theorem dX6_around_0 : decode cX6_around 0 = .ok (.aload_n 0, 1) := by decide +kernel
theorem dX6_around_1 : decode cX6_around 1 = .ok (.iconst 0, 1) := by decide +kernel
theorem dX6_around_2 : decode cX6_around 2 = .ok (.putfield 1, 3) := by decide +kernel
theorem dX6_around_5 : decode cX6_around 5 = .ok (.aload_n 0, 1) := by decide +kernel
theorem dX6_around_6 : decode cX6_around 6 = .ok (.iload_n 1, 1) := by decide +kernel
theorem dX6_around_7 : decode cX6_around 7 = .ok (.invokevirtual 69, 3) := by decide +kernel
theorem dX6_around_10 : decode cX6_around 10 = .ok (.ifCond .eq 21, 3) := by decide +kernel
theorem dX6_around_13 : decode cX6_around 13 = .ok (.aload_n 0, 1) := by decide +kernel
theorem dX6_around_14 : decode cX6_around 14 = .ok (.iload_n 2, 1) := by decide +kernel
theorem dX6_around_15 : decode cX6_around 15 = .ok (.iconst 1, 1) := by decide +kernel
theorem dX6_around_16 : decode cX6_around 16 = .ok (.invokevirtual 139, 3) := by decide +kernel
theorem dX6_around_19 : decode cX6_around 19 = .ok (.ifCond .eq 12, 3) := by decide +kernel
theorem dX6_around_22 : decode cX6_around 22 = .ok (.iload_n 3, 1) := by decide +kernel
theorem dX6_around_23 : decode cX6_around 23 = .ok (.ifCond .lt 8, 3) := by decide +kernel
theorem dX6_around_26 : decode cX6_around 26 = .ok (.iload_n 3, 1) := by decide +kernel
theorem dX6_around_27 : decode cX6_around 27 = .ok (.iload_n 2, 1) := by decide +kernel
theorem dX6_around_28 : decode cX6_around 28 = .ok (.if_icmp .lt 6, 3) := by decide +kernel
theorem dX6_around_31 : decode cX6_around 31 = .ok (.bipush (-2), 2) := by decide +kernel
theorem dX6_around_33 : decode cX6_around 33 = .ok (.ireturn, 1) := by decide +kernel
theorem dX6_around_34 : decode cX6_around 34 = .ok (.aload_n 0, 1) := by decide +kernel
theorem dX6_around_35 : decode cX6_around 35 = .ok (.iload_n 2, 1) := by decide +kernel
theorem dX6_around_36 : decode cX6_around 36 = .ok (.invokevirtual 142, 3) := by decide +kernel
theorem dX6_around_39 : decode cX6_around 39 = .ok (.ifCond .ne 6, 3) := by decide +kernel
theorem dX6_around_42 : decode cX6_around 42 = .ok (.bipush (-4), 2) := by decide +kernel
theorem dX6_around_44 : decode cX6_around 44 = .ok (.ireturn, 1) := by decide +kernel
theorem dX6_around_45 : decode cX6_around 45 = .ok (.iconst (-1), 1) := by decide +kernel
theorem dX6_around_46 : decode cX6_around 46 = .ok (.istore 4, 2) := by decide +kernel
theorem dX6_around_48 : decode cX6_around 48 = .ok (.iconst 0, 1) := by decide +kernel
theorem dX6_around_49 : decode cX6_around 49 = .ok (.istore 5, 2) := by decide +kernel
theorem dX6_around_51 : decode cX6_around 51 = .ok (.iload 5, 2) := by decide +kernel
theorem dX6_around_53 : decode cX6_around 53 = .ok (.iload_n 2, 1) := by decide +kernel
theorem dX6_around_54 : decode cX6_around 54 = .ok (.if_icmp .ge 71, 3) := by decide +kernel
theorem dX6_around_57 : decode cX6_around 57 = .ok (.iconst 0, 1) := by decide +kernel
theorem dX6_around_58 : decode cX6_around 58 = .ok (.istore 6, 2) := by decide +kernel
theorem dX6_around_60 : decode cX6_around 60 = .ok (.iconst 0, 1) := by decide +kernel
theorem dX6_around_61 : decode cX6_around 61 = .ok (.istore 7, 2) := by decide +kernel
theorem dX6_around_63 : decode cX6_around 63 = .ok (.iload 7, 2) := by decide +kernel
theorem dX6_around_65 : decode cX6_around 65 = .ok (.iload_n 2, 1) := by decide +kernel
theorem dX6_around_66 : decode cX6_around 66 = .ok (.if_icmp .ge 38, 3) := by decide +kernel
theorem dX6_around_69 : decode cX6_around 69 = .ok (.iload 6, 2) := by decide +kernel
theorem dX6_around_71 : decode cX6_around 71 = .ok (.iload 7, 2) := by decide +kernel
theorem dX6_around_73 : decode cX6_around 73 = .ok (.iload 5, 2) := by decide +kernel
theorem dX6_around_75 : decode cX6_around 75 = .ok (.if_icmp .eq 19, 3) := by decide +kernel
theorem dX6_around_78 : decode cX6_around 78 = .ok (.aload_n 0, 1) := by decide +kernel
theorem dX6_around_79 : decode cX6_around 79 = .ok (.iload_n 1, 1) := by decide +kernel
theorem dX6_around_80 : decode cX6_around 80 = .ok (.iload 7, 2) := by decide +kernel
theorem dX6_around_82 : decode cX6_around 82 = .ok (.iload 5, 2) := by decide +kernel
theorem dX6_around_84 : decode cX6_around 84 = .ok (.invokevirtual 162, 3) := by decide +kernel
theorem dX6_around_87 : decode cX6_around 87 = .ok (.ifCond .eq 7, 3) := by decide +kernel
theorem dX6_around_90 : decode cX6_around 90 = .ok (.iconst 1, 1) := by decide +kernel
theorem dX6_around_91 : decode cX6_around 91 = .ok (.goto 4, 3) := by decide +kernel
theorem dX6_around_94 : decode cX6_around 94 = .ok (.iconst 0, 1) := by decide +kernel
theorem dX6_around_95 : decode cX6_around 95 = .ok (.iadd, 1) := by decide +kernel
theorem dX6_around_96 : decode cX6_around 96 = .ok (.istore 6, 2) := by decide +kernel
theorem dX6_around_98 : decode cX6_around 98 = .ok (.iinc 7 1, 3) := by decide +kernel
theorem dX6_around_101 : decode cX6_around 101 = .ok (.goto (-38), 3) := by decide +kernel
theorem dX6_around_104 : decode cX6_around 104 = .ok (.iload 6, 2) := by decide +kernel
theorem dX6_around_106 : decode cX6_around 106 = .ok (.iload_n 3, 1) := by decide +kernel
theorem dX6_around_107 : decode cX6_around 107 = .ok (.if_icmp .ne 8, 3) := by decide +kernel
theorem dX6_around_110 : decode cX6_around 110 = .ok (.iload 5, 2) := by decide +kernel
theorem dX6_around_112 : decode cX6_around 112 = .ok (.goto 5, 3) := by decide +kernel
theorem dX6_around_115 : decode cX6_around 115 = .ok (.iload 4, 2) := by decide +kernel
theorem dX6_around_117 : decode cX6_around 117 = .ok (.istore 4, 2) := by decide +kernel
theorem dX6_around_119 : decode cX6_around 119 = .ok (.iinc 5 1, 3) := by decide +kernel
theorem dX6_around_122 : decode cX6_around 122 = .ok (.goto (-71), 3) := by decide +kernel
theorem dX6_around_125 : decode cX6_around 125 = .ok (.iload 4, 2) := by decide +kernel
theorem dX6_around_127 : decode cX6_around 127 = .ok (.ireturn, 1) := by decide +kernel
theorem dX6_isLess_0 : decode cX6_isLess 0 = .ok (.aload_n 0, 1) := by decide +kernel
theorem dX6_isLess_1 : decode cX6_isLess 1 = .ok (.getfield 20, 3) := by decide +kernel
theorem dX6_isLess_4 : decode cX6_isLess 4 = .ok (.iload_n 1, 1) := by decide +kernel
theorem dX6_isLess_5 : decode cX6_isLess 5 = .ok (.iaload, 1) := by decide +kernel
theorem dX6_isLess_6 : decode cX6_isLess 6 = .ok (.istore_n 3, 1) := by decide +kernel
theorem dX6_isLess_7 : decode cX6_isLess 7 = .ok (.aload_n 0, 1) := by decide +kernel
theorem dX6_isLess_8 : decode cX6_isLess 8 = .ok (.getfield 20, 3) := by decide +kernel
theorem dX6_isLess_11 : decode cX6_isLess 11 = .ok (.iload_n 2, 1) := by decide +kernel
theorem dX6_isLess_12 : decode cX6_isLess 12 = .ok (.iaload, 1) := by decide +kernel
theorem dX6_isLess_13 : decode cX6_isLess 13 = .ok (.istore 4, 2) := by decide +kernel
theorem dX6_isLess_15 : decode cX6_isLess 15 = .ok (.aload_n 0, 1) := by decide +kernel
theorem dX6_isLess_16 : decode cX6_isLess 16 = .ok (.getfield 13, 3) := by decide +kernel
theorem dX6_isLess_19 : decode cX6_isLess 19 = .ok (.iload_n 3, 1) := by decide +kernel
theorem dX6_isLess_20 : decode cX6_isLess 20 = .ok (.iaload, 1) := by decide +kernel
theorem dX6_isLess_21 : decode cX6_isLess 21 = .ok (.aload_n 0, 1) := by decide +kernel
theorem dX6_isLess_22 : decode cX6_isLess 22 = .ok (.getfield 13, 3) := by decide +kernel
theorem dX6_isLess_25 : decode cX6_isLess 25 = .ok (.iload 4, 2) := by decide +kernel
theorem dX6_isLess_27 : decode cX6_isLess 27 = .ok (.iaload, 1) := by decide +kernel
theorem dX6_isLess_28 : decode cX6_isLess 28 = .ok (.if_icmp .eq 27, 3) := by decide +kernel
theorem dX6_isLess_31 : decode cX6_isLess 31 = .ok (.aload_n 0, 1) := by decide +kernel
theorem dX6_isLess_32 : decode cX6_isLess 32 = .ok (.getfield 13, 3) := by decide +kernel
theorem dX6_isLess_35 : decode cX6_isLess 35 = .ok (.iload_n 3, 1) := by decide +kernel
theorem dX6_isLess_36 : decode cX6_isLess 36 = .ok (.iaload, 1) := by decide +kernel
theorem dX6_isLess_37 : decode cX6_isLess 37 = .ok (.aload_n 0, 1) := by decide +kernel
theorem dX6_isLess_38 : decode cX6_isLess 38 = .ok (.getfield 13, 3) := by decide +kernel
theorem dX6_isLess_41 : decode cX6_isLess 41 = .ok (.iload 4, 2) := by decide +kernel
theorem dX6_isLess_43 : decode cX6_isLess 43 = .ok (.iaload, 1) := by decide +kernel
theorem dX6_isLess_44 : decode cX6_isLess 44 = .ok (.if_icmp .ge 7, 3) := by decide +kernel
theorem dX6_isLess_47 : decode cX6_isLess 47 = .ok (.iconst 1, 1) := by decide +kernel
theorem dX6_isLess_48 : decode cX6_isLess 48 = .ok (.goto 57, 3) := by decide +kernel
theorem dX6_isLess_51 : decode cX6_isLess 51 = .ok (.iconst 0, 1) := by decide +kernel
theorem dX6_isLess_52 : decode cX6_isLess 52 = .ok (.goto 53, 3) := by decide +kernel
theorem dX6_isLess_55 : decode cX6_isLess 55 = .ok (.aload_n 0, 1) := by decide +kernel
theorem dX6_isLess_56 : decode cX6_isLess 56 = .ok (.getfield 17, 3) := by decide +kernel
theorem dX6_isLess_59 : decode cX6_isLess 59 = .ok (.iload_n 3, 1) := by decide +kernel
theorem dX6_isLess_60 : decode cX6_isLess 60 = .ok (.iaload, 1) := by decide +kernel
theorem dX6_isLess_61 : decode cX6_isLess 61 = .ok (.aload_n 0, 1) := by decide +kernel
theorem dX6_isLess_62 : decode cX6_isLess 62 = .ok (.getfield 17, 3) := by decide +kernel
theorem dX6_isLess_65 : decode cX6_isLess 65 = .ok (.iload 4, 2) := by decide +kernel
theorem dX6_isLess_67 : decode cX6_isLess 67 = .ok (.iaload, 1) := by decide +kernel
theorem dX6_isLess_68 : decode cX6_isLess 68 = .ok (.if_icmp .eq 27, 3) := by decide +kernel
theorem dX6_isLess_71 : decode cX6_isLess 71 = .ok (.aload_n 0, 1) := by decide +kernel
theorem dX6_isLess_72 : decode cX6_isLess 72 = .ok (.getfield 17, 3) := by decide +kernel
theorem dX6_isLess_75 : decode cX6_isLess 75 = .ok (.iload_n 3, 1) := by decide +kernel
theorem dX6_isLess_76 : decode cX6_isLess 76 = .ok (.iaload, 1) := by decide +kernel
theorem dX6_isLess_77 : decode cX6_isLess 77 = .ok (.aload_n 0, 1) := by decide +kernel
theorem dX6_isLess_78 : decode cX6_isLess 78 = .ok (.getfield 17, 3) := by decide +kernel
theorem dX6_isLess_81 : decode cX6_isLess 81 = .ok (.iload 4, 2) := by decide +kernel
theorem dX6_isLess_83 : decode cX6_isLess 83 = .ok (.iaload, 1) := by decide +kernel
theorem dX6_isLess_84 : decode cX6_isLess 84 = .ok (.if_icmp .ge 7, 3) := by decide +kernel
theorem dX6_isLess_87 : decode cX6_isLess 87 = .ok (.iconst 1, 1) := by decide +kernel
theorem dX6_isLess_88 : decode cX6_isLess 88 = .ok (.goto 17, 3) := by decide +kernel
theorem dX6_isLess_91 : decode cX6_isLess 91 = .ok (.iconst 0, 1) := by decide +kernel
theorem dX6_isLess_92 : decode cX6_isLess 92 = .ok (.goto 13, 3) := by decide +kernel
theorem dX6_isLess_95 : decode cX6_isLess 95 = .ok (.iload_n 1, 1) := by decide +kernel
theorem dX6_isLess_96 : decode cX6_isLess 96 = .ok (.iload_n 2, 1) := by decide +kernel
theorem dX6_isLess_97 : decode cX6_isLess 97 = .ok (.if_icmp .ge 7, 3) := by decide +kernel
theorem dX6_isLess_100 : decode cX6_isLess 100 = .ok (.iconst 1, 1) := by decide +kernel
theorem dX6_isLess_101 : decode cX6_isLess 101 = .ok (.goto 4, 3) := by decide +kernel
theorem dX6_isLess_104 : decode cX6_isLess 104 = .ok (.iconst 0, 1) := by decide +kernel
theorem dX6_isLess_105 : decode cX6_isLess 105 = .ok (.ireturn, 1) := by decide +kernel
theorem dX6_order_0 : decode cX6_order 0 = .ok (.aload_n 0, 1) := by decide +kernel
theorem dX6_order_1 : decode cX6_order 1 = .ok (.iconst 0, 1) := by decide +kernel
theorem dX6_order_2 : decode cX6_order 2 = .ok (.putfield 1, 3) := by decide +kernel
theorem dX6_order_5 : decode cX6_order 5 = .ok (.aload_n 0, 1) := by decide +kernel
theorem dX6_order_6 : decode cX6_order 6 = .ok (.iload_n 1, 1) := by decide +kernel
theorem dX6_order_7 : decode cX6_order 7 = .ok (.iconst 1, 1) := by decide +kernel
theorem dX6_order_8 : decode cX6_order 8 = .ok (.invokevirtual 139, 3) := by decide +kernel
theorem dX6_order_11 : decode cX6_order 11 = .ok (.ifCond .eq 12, 3) := by decide +kernel
theorem dX6_order_14 : decode cX6_order 14 = .ok (.iload_n 2, 1) := by decide +kernel
theorem dX6_order_15 : decode cX6_order 15 = .ok (.ifCond .lt 8, 3) := by decide +kernel
theorem dX6_order_18 : decode cX6_order 18 = .ok (.iload_n 2, 1) := by decide +kernel
theorem dX6_order_19 : decode cX6_order 19 = .ok (.iload_n 1, 1) := by decide +kernel
theorem dX6_order_20 : decode cX6_order 20 = .ok (.if_icmp .lt 6, 3) := by decide +kernel
theorem dX6_order_23 : decode cX6_order 23 = .ok (.bipush (-2), 2) := by decide +kernel
theorem dX6_order_25 : decode cX6_order 25 = .ok (.ireturn, 1) := by decide +kernel
theorem dX6_order_26 : decode cX6_order 26 = .ok (.aload_n 0, 1) := by decide +kernel
theorem dX6_order_27 : decode cX6_order 27 = .ok (.iload_n 1, 1) := by decide +kernel
theorem dX6_order_28 : decode cX6_order 28 = .ok (.invokevirtual 142, 3) := by decide +kernel
theorem dX6_order_31 : decode cX6_order 31 = .ok (.ifCond .ne 6, 3) := by decide +kernel
theorem dX6_order_34 : decode cX6_order 34 = .ok (.bipush (-4), 2) := by decide +kernel
theorem dX6_order_36 : decode cX6_order 36 = .ok (.ireturn, 1) := by decide +kernel
theorem dX6_order_37 : decode cX6_order 37 = .ok (.iconst (-1), 1) := by decide +kernel
theorem dX6_order_38 : decode cX6_order 38 = .ok (.istore_n 3, 1) := by decide +kernel
theorem dX6_order_39 : decode cX6_order 39 = .ok (.iconst 0, 1) := by decide +kernel
theorem dX6_order_40 : decode cX6_order 40 = .ok (.istore 4, 2) := by decide +kernel
theorem dX6_order_42 : decode cX6_order 42 = .ok (.iload 4, 2) := by decide +kernel
theorem dX6_order_44 : decode cX6_order 44 = .ok (.iload_n 1, 1) := by decide +kernel
theorem dX6_order_45 : decode cX6_order 45 = .ok (.if_icmp .ge 68, 3) := by decide +kernel
theorem dX6_order_48 : decode cX6_order 48 = .ok (.iconst 0, 1) := by decide +kernel
theorem dX6_order_49 : decode cX6_order 49 = .ok (.istore 5, 2) := by decide +kernel
theorem dX6_order_51 : decode cX6_order 51 = .ok (.iconst 0, 1) := by decide +kernel
theorem dX6_order_52 : decode cX6_order 52 = .ok (.istore 6, 2) := by decide +kernel
theorem dX6_order_54 : decode cX6_order 54 = .ok (.iload 6, 2) := by decide +kernel
theorem dX6_order_56 : decode cX6_order 56 = .ok (.iload_n 1, 1) := by decide +kernel
theorem dX6_order_57 : decode cX6_order 57 = .ok (.if_icmp .ge 37, 3) := by decide +kernel
theorem dX6_order_60 : decode cX6_order 60 = .ok (.iload 5, 2) := by decide +kernel
theorem dX6_order_62 : decode cX6_order 62 = .ok (.iload 6, 2) := by decide +kernel
theorem dX6_order_64 : decode cX6_order 64 = .ok (.iload 4, 2) := by decide +kernel
theorem dX6_order_66 : decode cX6_order 66 = .ok (.if_icmp .eq 18, 3) := by decide +kernel
theorem dX6_order_69 : decode cX6_order 69 = .ok (.aload_n 0, 1) := by decide +kernel
theorem dX6_order_70 : decode cX6_order 70 = .ok (.iload 6, 2) := by decide +kernel
theorem dX6_order_72 : decode cX6_order 72 = .ok (.iload 4, 2) := by decide +kernel
theorem dX6_order_74 : decode cX6_order 74 = .ok (.invokevirtual 165, 3) := by decide +kernel
theorem dX6_order_77 : decode cX6_order 77 = .ok (.ifCond .eq 7, 3) := by decide +kernel
theorem dX6_order_80 : decode cX6_order 80 = .ok (.iconst 1, 1) := by decide +kernel
theorem dX6_order_81 : decode cX6_order 81 = .ok (.goto 4, 3) := by decide +kernel
theorem dX6_order_84 : decode cX6_order 84 = .ok (.iconst 0, 1) := by decide +kernel
theorem dX6_order_85 : decode cX6_order 85 = .ok (.iadd, 1) := by decide +kernel
theorem dX6_order_86 : decode cX6_order 86 = .ok (.istore 5, 2) := by decide +kernel
theorem dX6_order_88 : decode cX6_order 88 = .ok (.iinc 6 1, 3) := by decide +kernel
theorem dX6_order_91 : decode cX6_order 91 = .ok (.goto (-37), 3) := by decide +kernel
theorem dX6_order_94 : decode cX6_order 94 = .ok (.iload 5, 2) := by decide +kernel
theorem dX6_order_96 : decode cX6_order 96 = .ok (.iload_n 2, 1) := by decide +kernel
theorem dX6_order_97 : decode cX6_order 97 = .ok (.if_icmp .ne 8, 3) := by decide +kernel
theorem dX6_order_100 : decode cX6_order 100 = .ok (.iload 4, 2) := by decide +kernel
theorem dX6_order_102 : decode cX6_order 102 = .ok (.goto 4, 3) := by decide +kernel
theorem dX6_order_105 : decode cX6_order 105 = .ok (.iload_n 3, 1) := by decide +kernel
theorem dX6_order_106 : decode cX6_order 106 = .ok (.istore_n 3, 1) := by decide +kernel
theorem dX6_order_107 : decode cX6_order 107 = .ok (.iinc 4 1, 3) := by decide +kernel
theorem dX6_order_110 : decode cX6_order 110 = .ok (.goto (-68), 3) := by decide +kernel
theorem dX6_order_113 : decode cX6_order 113 = .ok (.iload_n 3, 1) := by decide +kernel
theorem dX6_order_114 : decode cX6_order 114 = .ok (.ireturn, 1) := by decide +kernel
theorem dX6_area_0 : decode cX6_area 0 = .ok (.aload_n 0, 1) := by decide +kernel
theorem dX6_area_1 : decode cX6_area 1 = .ok (.iconst 0, 1) := by decide +kernel
theorem dX6_area_2 : decode cX6_area 2 = .ok (.putfield 1, 3) := by decide +kernel
theorem dX6_area_5 : decode cX6_area 5 = .ok (.aload_n 0, 1) := by decide +kernel
theorem dX6_area_6 : decode cX6_area 6 = .ok (.iload_n 1, 1) := by decide +kernel
theorem dX6_area_7 : decode cX6_area 7 = .ok (.iconst 1, 1) := by decide +kernel
theorem dX6_area_8 : decode cX6_area 8 = .ok (.invokevirtual 139, 3) := by decide +kernel
theorem dX6_area_11 : decode cX6_area 11 = .ok (.ifCond .eq 11, 3) := by decide +kernel
theorem dX6_area_14 : decode cX6_area 14 = .ok (.aload_n 0, 1) := by decide +kernel
theorem dX6_area_15 : decode cX6_area 15 = .ok (.iload_n 1, 1) := by decide +kernel
theorem dX6_area_16 : decode cX6_area 16 = .ok (.invokevirtual 142, 3) := by decide +kernel
theorem dX6_area_19 : decode cX6_area 19 = .ok (.ifCond .ne 5, 3) := by decide +kernel
theorem dX6_area_22 : decode cX6_area 22 = .ok (.lconst 0, 1) := by decide +kernel
theorem dX6_area_23 : decode cX6_area 23 = .ok (.lreturn, 1) := by decide +kernel
theorem dX6_area_24 : decode cX6_area 24 = .ok (.lload_n 2, 1) := by decide +kernel
theorem dX6_area_25 : decode cX6_area 25 = .ok (.lconst 0, 1) := by decide +kernel
theorem dX6_area_26 : decode cX6_area 26 = .ok (.lcmp, 1) := by decide +kernel
theorem dX6_area_27 : decode cX6_area 27 = .ok (.ifCond .ne 10, 3) := by decide +kernel
theorem dX6_area_30 : decode cX6_area 30 = .ok (.aload_n 0, 1) := by decide +kernel
theorem dX6_area_31 : decode cX6_area 31 = .ok (.iconst 1, 1) := by decide +kernel
theorem dX6_area_32 : decode cX6_area 32 = .ok (.invokevirtual 62, 3) := by decide +kernel
theorem dX6_area_35 : decode cX6_area 35 = .ok (.i2l, 1) := by decide +kernel
theorem dX6_area_36 : decode cX6_area 36 = .ok (.lreturn, 1) := by decide +kernel
theorem dX6_area_37 : decode cX6_area 37 = .ok (.lconst 0, 1) := by decide +kernel
theorem dX6_area_38 : decode cX6_area 38 = .ok (.lstore 4, 2) := by decide +kernel
theorem dX6_area_40 : decode cX6_area 40 = .ok (.iconst 0, 1) := by decide +kernel
theorem dX6_area_41 : decode cX6_area 41 = .ok (.istore 6, 2) := by decide +kernel
theorem dX6_area_43 : decode cX6_area 43 = .ok (.iload 6, 2) := by decide +kernel
theorem dX6_area_45 : decode cX6_area 45 = .ok (.iload_n 1, 1) := by decide +kernel
theorem dX6_area_46 : decode cX6_area 46 = .ok (.if_icmp .ge 67, 3) := by decide +kernel
theorem dX6_area_49 : decode cX6_area 49 = .ok (.aload_n 0, 1) := by decide +kernel
theorem dX6_area_50 : decode cX6_area 50 = .ok (.getfield 20, 3) := by decide +kernel
theorem dX6_area_53 : decode cX6_area 53 = .ok (.iload 6, 2) := by decide +kernel
theorem dX6_area_55 : decode cX6_area 55 = .ok (.iaload, 1) := by decide +kernel
theorem dX6_area_56 : decode cX6_area 56 = .ok (.istore 7, 2) := by decide +kernel
theorem dX6_area_58 : decode cX6_area 58 = .ok (.aload_n 0, 1) := by decide +kernel
theorem dX6_area_59 : decode cX6_area 59 = .ok (.iload 6, 2) := by decide +kernel
theorem dX6_area_61 : decode cX6_area 61 = .ok (.iload_n 1, 1) := by decide +kernel
theorem dX6_area_62 : decode cX6_area 62 = .ok (.invokevirtual 145, 3) := by decide +kernel
theorem dX6_area_65 : decode cX6_area 65 = .ok (.istore 8, 2) := by decide +kernel
theorem dX6_area_67 : decode cX6_area 67 = .ok (.lload 4, 2) := by decide +kernel
theorem dX6_area_69 : decode cX6_area 69 = .ok (.aload_n 0, 1) := by decide +kernel
theorem dX6_area_70 : decode cX6_area 70 = .ok (.getfield 13, 3) := by decide +kernel
theorem dX6_area_73 : decode cX6_area 73 = .ok (.iload 7, 2) := by decide +kernel
theorem dX6_area_75 : decode cX6_area 75 = .ok (.iaload, 1) := by decide +kernel
theorem dX6_area_76 : decode cX6_area 76 = .ok (.i2l, 1) := by decide +kernel
theorem dX6_area_77 : decode cX6_area 77 = .ok (.aload_n 0, 1) := by decide +kernel
theorem dX6_area_78 : decode cX6_area 78 = .ok (.getfield 17, 3) := by decide +kernel
theorem dX6_area_81 : decode cX6_area 81 = .ok (.iload 8, 2) := by decide +kernel
theorem dX6_area_83 : decode cX6_area 83 = .ok (.iaload, 1) := by decide +kernel
theorem dX6_area_84 : decode cX6_area 84 = .ok (.i2l, 1) := by decide +kernel
theorem dX6_area_85 : decode cX6_area 85 = .ok (.lmul, 1) := by decide +kernel
theorem dX6_area_86 : decode cX6_area 86 = .ok (.aload_n 0, 1) := by decide +kernel
theorem dX6_area_87 : decode cX6_area 87 = .ok (.getfield 13, 3) := by decide +kernel
theorem dX6_area_90 : decode cX6_area 90 = .ok (.iload 8, 2) := by decide +kernel
theorem dX6_area_92 : decode cX6_area 92 = .ok (.iaload, 1) := by decide +kernel
theorem dX6_area_93 : decode cX6_area 93 = .ok (.i2l, 1) := by decide +kernel
theorem dX6_area_94 : decode cX6_area 94 = .ok (.aload_n 0, 1) := by decide +kernel
theorem dX6_area_95 : decode cX6_area 95 = .ok (.getfield 17, 3) := by decide +kernel
theorem dX6_area_98 : decode cX6_area 98 = .ok (.iload 7, 2) := by decide +kernel
theorem dX6_area_100 : decode cX6_area 100 = .ok (.iaload, 1) := by decide +kernel
theorem dX6_area_101 : decode cX6_area 101 = .ok (.i2l, 1) := by decide +kernel
theorem dX6_area_102 : decode cX6_area 102 = .ok (.lmul, 1) := by decide +kernel
theorem dX6_area_103 : decode cX6_area 103 = .ok (.lsub, 1) := by decide +kernel
theorem dX6_area_104 : decode cX6_area 104 = .ok (.ladd, 1) := by decide +kernel
theorem dX6_area_105 : decode cX6_area 105 = .ok (.lstore 4, 2) := by decide +kernel
theorem dX6_area_107 : decode cX6_area 107 = .ok (.iinc 6 1, 3) := by decide +kernel
theorem dX6_area_110 : decode cX6_area 110 = .ok (.goto (-67), 3) := by decide +kernel
theorem dX6_area_113 : decode cX6_area 113 = .ok (.lload 4, 2) := by decide +kernel
theorem dX6_area_115 : decode cX6_area 115 = .ok (.lload_n 2, 1) := by decide +kernel
theorem dX6_area_116 : decode cX6_area 116 = .ok (.ldiv, 1) := by decide +kernel
theorem dX6_area_117 : decode cX6_area 117 = .ok (.lreturn, 1) := by decide +kernel
theorem dX6_line_0 : decode cX6_line 0 = .ok (.aload_n 0, 1) := by decide +kernel
theorem dX6_line_1 : decode cX6_line 1 = .ok (.iconst 0, 1) := by decide +kernel
theorem dX6_line_2 : decode cX6_line 2 = .ok (.putfield 1, 3) := by decide +kernel
theorem dX6_line_5 : decode cX6_line 5 = .ok (.aload_n 0, 1) := by decide +kernel
theorem dX6_line_6 : decode cX6_line 6 = .ok (.iload_n 1, 1) := by decide +kernel
theorem dX6_line_7 : decode cX6_line 7 = .ok (.invokevirtual 69, 3) := by decide +kernel
theorem dX6_line_10 : decode cX6_line 10 = .ok (.ifCond .eq 11, 3) := by decide +kernel
theorem dX6_line_13 : decode cX6_line 13 = .ok (.aload_n 0, 1) := by decide +kernel
theorem dX6_line_14 : decode cX6_line 14 = .ok (.iload_n 2, 1) := by decide +kernel
theorem dX6_line_15 : decode cX6_line 15 = .ok (.invokevirtual 69, 3) := by decide +kernel
theorem dX6_line_18 : decode cX6_line 18 = .ok (.ifCond .ne 6, 3) := by decide +kernel
theorem dX6_line_21 : decode cX6_line 21 = .ok (.bipush (-2), 2) := by decide +kernel
theorem dX6_line_23 : decode cX6_line 23 = .ok (.ireturn, 1) := by decide +kernel
theorem dX6_line_24 : decode cX6_line 24 = .ok (.aload_n 0, 1) := by decide +kernel
theorem dX6_line_25 : decode cX6_line 25 = .ok (.iload_n 1, 1) := by decide +kernel
theorem dX6_line_26 : decode cX6_line 26 = .ok (.iload_n 2, 1) := by decide +kernel
theorem dX6_line_27 : decode cX6_line 27 = .ok (.invokevirtual 107, 3) := by decide +kernel
theorem dX6_line_30 : decode cX6_line 30 = .ok (.ifCond .eq 6, 3) := by decide +kernel
theorem dX6_line_33 : decode cX6_line 33 = .ok (.bipush (-4), 2) := by decide +kernel
theorem dX6_line_35 : decode cX6_line 35 = .ok (.ireturn, 1) := by decide +kernel
theorem dX6_line_36 : decode cX6_line 36 = .ok (.aload_n 0, 1) := by decide +kernel
theorem dX6_line_37 : decode cX6_line 37 = .ok (.getfield 168, 3) := by decide +kernel
theorem dX6_line_40 : decode cX6_line 40 = .ok (.bipush 12, 2) := by decide +kernel
theorem dX6_line_42 : decode cX6_line 42 = .ok (.if_icmp .ne 6, 3) := by decide +kernel
theorem dX6_line_45 : decode cX6_line 45 = .ok (.bipush (-3), 2) := by decide +kernel
theorem dX6_line_47 : decode cX6_line 47 = .ok (.ireturn, 1) := by decide +kernel
theorem dX6_line_48 : decode cX6_line 48 = .ok (.aload_n 0, 1) := by decide +kernel
theorem dX6_line_49 : decode cX6_line 49 = .ok (.getfield 27, 3) := by decide +kernel
theorem dX6_line_52 : decode cX6_line 52 = .ok (.aload_n 0, 1) := by decide +kernel
theorem dX6_line_53 : decode cX6_line 53 = .ok (.getfield 168, 3) := by decide +kernel
theorem dX6_line_56 : decode cX6_line 56 = .ok (.aload_n 0, 1) := by decide +kernel
theorem dX6_line_57 : decode cX6_line 57 = .ok (.getfield 17, 3) := by decide +kernel
theorem dX6_line_60 : decode cX6_line 60 = .ok (.iload_n 2, 1) := by decide +kernel
theorem dX6_line_61 : decode cX6_line 61 = .ok (.iaload, 1) := by decide +kernel
theorem dX6_line_62 : decode cX6_line 62 = .ok (.aload_n 0, 1) := by decide +kernel
theorem dX6_line_63 : decode cX6_line 63 = .ok (.getfield 17, 3) := by decide +kernel
theorem dX6_line_66 : decode cX6_line 66 = .ok (.iload_n 1, 1) := by decide +kernel
theorem dX6_line_67 : decode cX6_line 67 = .ok (.iaload, 1) := by decide +kernel
theorem dX6_line_68 : decode cX6_line 68 = .ok (.isub, 1) := by decide +kernel
theorem dX6_line_69 : decode cX6_line 69 = .ok (.i2l, 1) := by decide +kernel
theorem dX6_line_70 : decode cX6_line 70 = .ok (.lastore, 1) := by decide +kernel
theorem dX6_line_71 : decode cX6_line 71 = .ok (.aload_n 0, 1) := by decide +kernel
theorem dX6_line_72 : decode cX6_line 72 = .ok (.getfield 31, 3) := by decide +kernel
theorem dX6_line_75 : decode cX6_line 75 = .ok (.aload_n 0, 1) := by decide +kernel
theorem dX6_line_76 : decode cX6_line 76 = .ok (.getfield 168, 3) := by decide +kernel
theorem dX6_line_79 : decode cX6_line 79 = .ok (.aload_n 0, 1) := by decide +kernel
theorem dX6_line_80 : decode cX6_line 80 = .ok (.getfield 13, 3) := by decide +kernel
theorem dX6_line_83 : decode cX6_line 83 = .ok (.iload_n 1, 1) := by decide +kernel
theorem dX6_line_84 : decode cX6_line 84 = .ok (.iaload, 1) := by decide +kernel
theorem dX6_line_85 : decode cX6_line 85 = .ok (.aload_n 0, 1) := by decide +kernel
theorem dX6_line_86 : decode cX6_line 86 = .ok (.getfield 13, 3) := by decide +kernel
theorem dX6_line_89 : decode cX6_line 89 = .ok (.iload_n 2, 1) := by decide +kernel
theorem dX6_line_90 : decode cX6_line 90 = .ok (.iaload, 1) := by decide +kernel
theorem dX6_line_91 : decode cX6_line 91 = .ok (.isub, 1) := by decide +kernel
theorem dX6_line_92 : decode cX6_line 92 = .ok (.i2l, 1) := by decide +kernel
theorem dX6_line_93 : decode cX6_line 93 = .ok (.lastore, 1) := by decide +kernel
theorem dX6_line_94 : decode cX6_line 94 = .ok (.aload_n 0, 1) := by decide +kernel
theorem dX6_line_95 : decode cX6_line 95 = .ok (.getfield 34, 3) := by decide +kernel
theorem dX6_line_98 : decode cX6_line 98 = .ok (.aload_n 0, 1) := by decide +kernel
theorem dX6_line_99 : decode cX6_line 99 = .ok (.getfield 168, 3) := by decide +kernel
theorem dX6_line_102 : decode cX6_line 102 = .ok (.aload_n 0, 1) := by decide +kernel
theorem dX6_line_103 : decode cX6_line 103 = .ok (.getfield 27, 3) := by decide +kernel
theorem dX6_line_106 : decode cX6_line 106 = .ok (.aload_n 0, 1) := by decide +kernel
theorem dX6_line_107 : decode cX6_line 107 = .ok (.getfield 168, 3) := by decide +kernel
theorem dX6_line_110 : decode cX6_line 110 = .ok (.laload, 1) := by decide +kernel
theorem dX6_line_111 : decode cX6_line 111 = .ok (.aload_n 0, 1) := by decide +kernel
theorem dX6_line_112 : decode cX6_line 112 = .ok (.getfield 13, 3) := by decide +kernel
theorem dX6_line_115 : decode cX6_line 115 = .ok (.iload_n 1, 1) := by decide +kernel
theorem dX6_line_116 : decode cX6_line 116 = .ok (.iaload, 1) := by decide +kernel
theorem dX6_line_117 : decode cX6_line 117 = .ok (.i2l, 1) := by decide +kernel
theorem dX6_line_118 : decode cX6_line 118 = .ok (.lmul, 1) := by decide +kernel
theorem dX6_line_119 : decode cX6_line 119 = .ok (.aload_n 0, 1) := by decide +kernel
theorem dX6_line_120 : decode cX6_line 120 = .ok (.getfield 31, 3) := by decide +kernel
theorem dX6_line_123 : decode cX6_line 123 = .ok (.aload_n 0, 1) := by decide +kernel
theorem dX6_line_124 : decode cX6_line 124 = .ok (.getfield 168, 3) := by decide +kernel
theorem dX6_line_127 : decode cX6_line 127 = .ok (.laload, 1) := by decide +kernel
theorem dX6_line_128 : decode cX6_line 128 = .ok (.aload_n 0, 1) := by decide +kernel
theorem dX6_line_129 : decode cX6_line 129 = .ok (.getfield 17, 3) := by decide +kernel
theorem dX6_line_132 : decode cX6_line 132 = .ok (.iload_n 1, 1) := by decide +kernel
theorem dX6_line_133 : decode cX6_line 133 = .ok (.iaload, 1) := by decide +kernel
theorem dX6_line_134 : decode cX6_line 134 = .ok (.i2l, 1) := by decide +kernel
theorem dX6_line_135 : decode cX6_line 135 = .ok (.lmul, 1) := by decide +kernel
theorem dX6_line_136 : decode cX6_line 136 = .ok (.ladd, 1) := by decide +kernel
theorem dX6_line_137 : decode cX6_line 137 = .ok (.lastore, 1) := by decide +kernel
theorem dX6_line_138 : decode cX6_line 138 = .ok (.aload_n 0, 1) := by decide +kernel
theorem dX6_line_139 : decode cX6_line 139 = .ok (.dup, 1) := by decide +kernel
theorem dX6_line_140 : decode cX6_line 140 = .ok (.getfield 168, 3) := by decide +kernel
theorem dX6_line_143 : decode cX6_line 143 = .ok (.iconst 1, 1) := by decide +kernel
theorem dX6_line_144 : decode cX6_line 144 = .ok (.iadd, 1) := by decide +kernel
theorem dX6_line_145 : decode cX6_line 145 = .ok (.putfield 168, 3) := by decide +kernel
theorem dX6_line_148 : decode cX6_line 148 = .ok (.aload_n 0, 1) := by decide +kernel
theorem dX6_line_149 : decode cX6_line 149 = .ok (.getfield 168, 3) := by decide +kernel
theorem dX6_line_152 : decode cX6_line 152 = .ok (.iconst 1, 1) := by decide +kernel
theorem dX6_line_153 : decode cX6_line 153 = .ok (.isub, 1) := by decide +kernel
theorem dX6_line_154 : decode cX6_line 154 = .ok (.ireturn, 1) := by decide +kernel
theorem dX6_both_0 : decode cX6_both 0 = .ok (.aload_n 0, 1) := by decide +kernel
theorem dX6_both_1 : decode cX6_both 1 = .ok (.getfield 27, 3) := by decide +kernel
theorem dX6_both_4 : decode cX6_both 4 = .ok (.iload_n 1, 1) := by decide +kernel
theorem dX6_both_5 : decode cX6_both 5 = .ok (.laload, 1) := by decide +kernel
theorem dX6_both_6 : decode cX6_both 6 = .ok (.aload_n 0, 1) := by decide +kernel
theorem dX6_both_7 : decode cX6_both 7 = .ok (.getfield 31, 3) := by decide +kernel
theorem dX6_both_10 : decode cX6_both 10 = .ok (.iload_n 2, 1) := by decide +kernel
theorem dX6_both_11 : decode cX6_both 11 = .ok (.laload, 1) := by decide +kernel
theorem dX6_both_12 : decode cX6_both 12 = .ok (.lmul, 1) := by decide +kernel
theorem dX6_both_13 : decode cX6_both 13 = .ok (.aload_n 0, 1) := by decide +kernel
theorem dX6_both_14 : decode cX6_both 14 = .ok (.getfield 27, 3) := by decide +kernel
theorem dX6_both_17 : decode cX6_both 17 = .ok (.iload_n 2, 1) := by decide +kernel
theorem dX6_both_18 : decode cX6_both 18 = .ok (.laload, 1) := by decide +kernel
theorem dX6_both_19 : decode cX6_both 19 = .ok (.aload_n 0, 1) := by decide +kernel
theorem dX6_both_20 : decode cX6_both 20 = .ok (.getfield 31, 3) := by decide +kernel
theorem dX6_both_23 : decode cX6_both 23 = .ok (.iload_n 1, 1) := by decide +kernel
theorem dX6_both_24 : decode cX6_both 24 = .ok (.laload, 1) := by decide +kernel
theorem dX6_both_25 : decode cX6_both 25 = .ok (.lmul, 1) := by decide +kernel
theorem dX6_both_26 : decode cX6_both 26 = .ok (.lsub, 1) := by decide +kernel
theorem dX6_both_27 : decode cX6_both 27 = .ok (.lreturn, 1) := by decide +kernel
theorem dX6_isOne_0 : decode cX6_isOne 0 = .ok (.aload_n 0, 1) := by decide +kernel
theorem dX6_isOne_1 : decode cX6_isOne 1 = .ok (.iload_n 1, 1) := by decide +kernel
theorem dX6_isOne_2 : decode cX6_isOne 2 = .ok (.iload_n 2, 1) := by decide +kernel
theorem dX6_isOne_3 : decode cX6_isOne 3 = .ok (.invokevirtual 171, 3) := by decide +kernel
theorem dX6_isOne_6 : decode cX6_isOne 6 = .ok (.lconst 0, 1) := by decide +kernel
theorem dX6_isOne_7 : decode cX6_isOne 7 = .ok (.lcmp, 1) := by decide +kernel
theorem dX6_isOne_8 : decode cX6_isOne 8 = .ok (.ifCond .ne 67, 3) := by decide +kernel
theorem dX6_isOne_11 : decode cX6_isOne 11 = .ok (.aload_n 0, 1) := by decide +kernel
theorem dX6_isOne_12 : decode cX6_isOne 12 = .ok (.getfield 27, 3) := by decide +kernel
theorem dX6_isOne_15 : decode cX6_isOne 15 = .ok (.iload_n 1, 1) := by decide +kernel
theorem dX6_isOne_16 : decode cX6_isOne 16 = .ok (.laload, 1) := by decide +kernel
theorem dX6_isOne_17 : decode cX6_isOne 17 = .ok (.aload_n 0, 1) := by decide +kernel
theorem dX6_isOne_18 : decode cX6_isOne 18 = .ok (.getfield 34, 3) := by decide +kernel
theorem dX6_isOne_21 : decode cX6_isOne 21 = .ok (.iload_n 2, 1) := by decide +kernel
theorem dX6_isOne_22 : decode cX6_isOne 22 = .ok (.laload, 1) := by decide +kernel
theorem dX6_isOne_23 : decode cX6_isOne 23 = .ok (.lmul, 1) := by decide +kernel
theorem dX6_isOne_24 : decode cX6_isOne 24 = .ok (.aload_n 0, 1) := by decide +kernel
theorem dX6_isOne_25 : decode cX6_isOne 25 = .ok (.getfield 27, 3) := by decide +kernel
theorem dX6_isOne_28 : decode cX6_isOne 28 = .ok (.iload_n 2, 1) := by decide +kernel
theorem dX6_isOne_29 : decode cX6_isOne 29 = .ok (.laload, 1) := by decide +kernel
theorem dX6_isOne_30 : decode cX6_isOne 30 = .ok (.aload_n 0, 1) := by decide +kernel
theorem dX6_isOne_31 : decode cX6_isOne 31 = .ok (.getfield 34, 3) := by decide +kernel
theorem dX6_isOne_34 : decode cX6_isOne 34 = .ok (.iload_n 1, 1) := by decide +kernel
theorem dX6_isOne_35 : decode cX6_isOne 35 = .ok (.laload, 1) := by decide +kernel
theorem dX6_isOne_36 : decode cX6_isOne 36 = .ok (.lmul, 1) := by decide +kernel
theorem dX6_isOne_37 : decode cX6_isOne 37 = .ok (.lcmp, 1) := by decide +kernel
theorem dX6_isOne_38 : decode cX6_isOne 38 = .ok (.ifCond .ne 37, 3) := by decide +kernel
theorem dX6_isOne_41 : decode cX6_isOne 41 = .ok (.aload_n 0, 1) := by decide +kernel
theorem dX6_isOne_42 : decode cX6_isOne 42 = .ok (.getfield 31, 3) := by decide +kernel
theorem dX6_isOne_45 : decode cX6_isOne 45 = .ok (.iload_n 1, 1) := by decide +kernel
theorem dX6_isOne_46 : decode cX6_isOne 46 = .ok (.laload, 1) := by decide +kernel
theorem dX6_isOne_47 : decode cX6_isOne 47 = .ok (.aload_n 0, 1) := by decide +kernel
theorem dX6_isOne_48 : decode cX6_isOne 48 = .ok (.getfield 34, 3) := by decide +kernel
theorem dX6_isOne_51 : decode cX6_isOne 51 = .ok (.iload_n 2, 1) := by decide +kernel
theorem dX6_isOne_52 : decode cX6_isOne 52 = .ok (.laload, 1) := by decide +kernel
theorem dX6_isOne_53 : decode cX6_isOne 53 = .ok (.lmul, 1) := by decide +kernel
theorem dX6_isOne_54 : decode cX6_isOne 54 = .ok (.aload_n 0, 1) := by decide +kernel
theorem dX6_isOne_55 : decode cX6_isOne 55 = .ok (.getfield 31, 3) := by decide +kernel
theorem dX6_isOne_58 : decode cX6_isOne 58 = .ok (.iload_n 2, 1) := by decide +kernel
theorem dX6_isOne_59 : decode cX6_isOne 59 = .ok (.laload, 1) := by decide +kernel
theorem dX6_isOne_60 : decode cX6_isOne 60 = .ok (.aload_n 0, 1) := by decide +kernel
theorem dX6_isOne_61 : decode cX6_isOne 61 = .ok (.getfield 34, 3) := by decide +kernel
theorem dX6_isOne_64 : decode cX6_isOne 64 = .ok (.iload_n 1, 1) := by decide +kernel
theorem dX6_isOne_65 : decode cX6_isOne 65 = .ok (.laload, 1) := by decide +kernel
theorem dX6_isOne_66 : decode cX6_isOne 66 = .ok (.lmul, 1) := by decide +kernel
theorem dX6_isOne_67 : decode cX6_isOne 67 = .ok (.lcmp, 1) := by decide +kernel
theorem dX6_isOne_68 : decode cX6_isOne 68 = .ok (.ifCond .ne 7, 3) := by decide +kernel
theorem dX6_isOne_71 : decode cX6_isOne 71 = .ok (.iconst 1, 1) := by decide +kernel
theorem dX6_isOne_72 : decode cX6_isOne 72 = .ok (.goto 4, 3) := by decide +kernel
theorem dX6_isOne_75 : decode cX6_isOne 75 = .ok (.iconst 0, 1) := by decide +kernel
theorem dX6_isOne_76 : decode cX6_isOne 76 = .ok (.ireturn, 1) := by decide +kernel
theorem dX6_isNew_0 : decode cX6_isNew 0 = .ok (.iconst 1, 1) := by decide +kernel
theorem dX6_isNew_1 : decode cX6_isNew 1 = .ok (.istore_n 2, 1) := by decide +kernel
theorem dX6_isNew_2 : decode cX6_isNew 2 = .ok (.iconst 0, 1) := by decide +kernel
theorem dX6_isNew_3 : decode cX6_isNew 3 = .ok (.istore_n 3, 1) := by decide +kernel
theorem dX6_isNew_4 : decode cX6_isNew 4 = .ok (.iload_n 3, 1) := by decide +kernel
theorem dX6_isNew_5 : decode cX6_isNew 5 = .ok (.iload_n 1, 1) := by decide +kernel
theorem dX6_isNew_6 : decode cX6_isNew 6 = .ok (.if_icmp .ge 28, 3) := by decide +kernel
theorem dX6_isNew_9 : decode cX6_isNew 9 = .ok (.iload_n 2, 1) := by decide +kernel
theorem dX6_isNew_10 : decode cX6_isNew 10 = .ok (.ifCond .eq 16, 3) := by decide +kernel
theorem dX6_isNew_13 : decode cX6_isNew 13 = .ok (.aload_n 0, 1) := by decide +kernel
theorem dX6_isNew_14 : decode cX6_isNew 14 = .ok (.iload_n 1, 1) := by decide +kernel
theorem dX6_isNew_15 : decode cX6_isNew 15 = .ok (.iload_n 3, 1) := by decide +kernel
theorem dX6_isNew_16 : decode cX6_isNew 16 = .ok (.invokevirtual 174, 3) := by decide +kernel
theorem dX6_isNew_19 : decode cX6_isNew 19 = .ok (.ifCond .ne 7, 3) := by decide +kernel
theorem dX6_isNew_22 : decode cX6_isNew 22 = .ok (.iconst 1, 1) := by decide +kernel
theorem dX6_isNew_23 : decode cX6_isNew 23 = .ok (.goto 4, 3) := by decide +kernel
theorem dX6_isNew_26 : decode cX6_isNew 26 = .ok (.iconst 0, 1) := by decide +kernel
theorem dX6_isNew_27 : decode cX6_isNew 27 = .ok (.istore_n 2, 1) := by decide +kernel
theorem dX6_isNew_28 : decode cX6_isNew 28 = .ok (.iinc 3 1, 3) := by decide +kernel
theorem dX6_isNew_31 : decode cX6_isNew 31 = .ok (.goto (-27), 3) := by decide +kernel
theorem dX6_isNew_34 : decode cX6_isNew 34 = .ok (.iload_n 2, 1) := by decide +kernel
theorem dX6_isNew_35 : decode cX6_isNew 35 = .ok (.ireturn, 1) := by decide +kernel
theorem dX6_isThrough_0 : decode cX6_isThrough 0 = .ok (.aload_n 0, 1) := by decide +kernel
theorem dX6_isThrough_1 : decode cX6_isThrough 1 = .ok (.getfield 34, 3) := by decide +kernel
theorem dX6_isThrough_4 : decode cX6_isThrough 4 = .ok (.iload_n 1, 1) := by decide +kernel
theorem dX6_isThrough_5 : decode cX6_isThrough 5 = .ok (.laload, 1) := by decide +kernel
theorem dX6_isThrough_6 : decode cX6_isThrough 6 = .ok (.aload_n 0, 1) := by decide +kernel
theorem dX6_isThrough_7 : decode cX6_isThrough 7 = .ok (.getfield 31, 3) := by decide +kernel
theorem dX6_isThrough_10 : decode cX6_isThrough 10 = .ok (.iload_n 2, 1) := by decide +kernel
theorem dX6_isThrough_11 : decode cX6_isThrough 11 = .ok (.laload, 1) := by decide +kernel
theorem dX6_isThrough_12 : decode cX6_isThrough 12 = .ok (.lmul, 1) := by decide +kernel
theorem dX6_isThrough_13 : decode cX6_isThrough 13 = .ok (.aload_n 0, 1) := by decide +kernel
theorem dX6_isThrough_14 : decode cX6_isThrough 14 = .ok (.getfield 34, 3) := by decide +kernel
theorem dX6_isThrough_17 : decode cX6_isThrough 17 = .ok (.iload_n 2, 1) := by decide +kernel
theorem dX6_isThrough_18 : decode cX6_isThrough 18 = .ok (.laload, 1) := by decide +kernel
theorem dX6_isThrough_19 : decode cX6_isThrough 19 = .ok (.aload_n 0, 1) := by decide +kernel
theorem dX6_isThrough_20 : decode cX6_isThrough 20 = .ok (.getfield 31, 3) := by decide +kernel
theorem dX6_isThrough_23 : decode cX6_isThrough 23 = .ok (.iload_n 1, 1) := by decide +kernel
theorem dX6_isThrough_24 : decode cX6_isThrough 24 = .ok (.laload, 1) := by decide +kernel
theorem dX6_isThrough_25 : decode cX6_isThrough 25 = .ok (.lmul, 1) := by decide +kernel
theorem dX6_isThrough_26 : decode cX6_isThrough 26 = .ok (.lsub, 1) := by decide +kernel
theorem dX6_isThrough_27 : decode cX6_isThrough 27 = .ok (.lstore 4, 2) := by decide +kernel
theorem dX6_isThrough_29 : decode cX6_isThrough 29 = .ok (.aload_n 0, 1) := by decide +kernel
theorem dX6_isThrough_30 : decode cX6_isThrough 30 = .ok (.getfield 27, 3) := by decide +kernel
theorem dX6_isThrough_33 : decode cX6_isThrough 33 = .ok (.iload_n 1, 1) := by decide +kernel
theorem dX6_isThrough_34 : decode cX6_isThrough 34 = .ok (.laload, 1) := by decide +kernel
theorem dX6_isThrough_35 : decode cX6_isThrough 35 = .ok (.aload_n 0, 1) := by decide +kernel
theorem dX6_isThrough_36 : decode cX6_isThrough 36 = .ok (.getfield 34, 3) := by decide +kernel
theorem dX6_isThrough_39 : decode cX6_isThrough 39 = .ok (.iload_n 2, 1) := by decide +kernel
theorem dX6_isThrough_40 : decode cX6_isThrough 40 = .ok (.laload, 1) := by decide +kernel
theorem dX6_isThrough_41 : decode cX6_isThrough 41 = .ok (.lmul, 1) := by decide +kernel
theorem dX6_isThrough_42 : decode cX6_isThrough 42 = .ok (.aload_n 0, 1) := by decide +kernel
theorem dX6_isThrough_43 : decode cX6_isThrough 43 = .ok (.getfield 27, 3) := by decide +kernel
theorem dX6_isThrough_46 : decode cX6_isThrough 46 = .ok (.iload_n 2, 1) := by decide +kernel
theorem dX6_isThrough_47 : decode cX6_isThrough 47 = .ok (.laload, 1) := by decide +kernel
theorem dX6_isThrough_48 : decode cX6_isThrough 48 = .ok (.aload_n 0, 1) := by decide +kernel
theorem dX6_isThrough_49 : decode cX6_isThrough 49 = .ok (.getfield 34, 3) := by decide +kernel
theorem dX6_isThrough_52 : decode cX6_isThrough 52 = .ok (.iload_n 1, 1) := by decide +kernel
theorem dX6_isThrough_53 : decode cX6_isThrough 53 = .ok (.laload, 1) := by decide +kernel
theorem dX6_isThrough_54 : decode cX6_isThrough 54 = .ok (.lmul, 1) := by decide +kernel
theorem dX6_isThrough_55 : decode cX6_isThrough 55 = .ok (.lsub, 1) := by decide +kernel
theorem dX6_isThrough_56 : decode cX6_isThrough 56 = .ok (.lstore 6, 2) := by decide +kernel
theorem dX6_isThrough_58 : decode cX6_isThrough 58 = .ok (.aload_n 0, 1) := by decide +kernel
theorem dX6_isThrough_59 : decode cX6_isThrough 59 = .ok (.getfield 27, 3) := by decide +kernel
theorem dX6_isThrough_62 : decode cX6_isThrough 62 = .ok (.iload_n 3, 1) := by decide +kernel
theorem dX6_isThrough_63 : decode cX6_isThrough 63 = .ok (.laload, 1) := by decide +kernel
theorem dX6_isThrough_64 : decode cX6_isThrough 64 = .ok (.lload 4, 2) := by decide +kernel
theorem dX6_isThrough_66 : decode cX6_isThrough 66 = .ok (.lmul, 1) := by decide +kernel
theorem dX6_isThrough_67 : decode cX6_isThrough 67 = .ok (.aload_n 0, 1) := by decide +kernel
theorem dX6_isThrough_68 : decode cX6_isThrough 68 = .ok (.getfield 31, 3) := by decide +kernel
theorem dX6_isThrough_71 : decode cX6_isThrough 71 = .ok (.iload_n 3, 1) := by decide +kernel
theorem dX6_isThrough_72 : decode cX6_isThrough 72 = .ok (.laload, 1) := by decide +kernel
theorem dX6_isThrough_73 : decode cX6_isThrough 73 = .ok (.lload 6, 2) := by decide +kernel
theorem dX6_isThrough_75 : decode cX6_isThrough 75 = .ok (.lmul, 1) := by decide +kernel
theorem dX6_isThrough_76 : decode cX6_isThrough 76 = .ok (.ladd, 1) := by decide +kernel
theorem dX6_isThrough_77 : decode cX6_isThrough 77 = .ok (.aload_n 0, 1) := by decide +kernel
theorem dX6_isThrough_78 : decode cX6_isThrough 78 = .ok (.getfield 34, 3) := by decide +kernel
theorem dX6_isThrough_81 : decode cX6_isThrough 81 = .ok (.iload_n 3, 1) := by decide +kernel
theorem dX6_isThrough_82 : decode cX6_isThrough 82 = .ok (.laload, 1) := by decide +kernel
theorem dX6_isThrough_83 : decode cX6_isThrough 83 = .ok (.aload_n 0, 1) := by decide +kernel
theorem dX6_isThrough_84 : decode cX6_isThrough 84 = .ok (.iload_n 1, 1) := by decide +kernel
theorem dX6_isThrough_85 : decode cX6_isThrough 85 = .ok (.iload_n 2, 1) := by decide +kernel
theorem dX6_isThrough_86 : decode cX6_isThrough 86 = .ok (.invokevirtual 171, 3) := by decide +kernel
theorem dX6_isThrough_89 : decode cX6_isThrough 89 = .ok (.lmul, 1) := by decide +kernel
theorem dX6_isThrough_90 : decode cX6_isThrough 90 = .ok (.lcmp, 1) := by decide +kernel
theorem dX6_isThrough_91 : decode cX6_isThrough 91 = .ok (.ifCond .ne 7, 3) := by decide +kernel
theorem dX6_isThrough_94 : decode cX6_isThrough 94 = .ok (.iconst 1, 1) := by decide +kernel
theorem dX6_isThrough_95 : decode cX6_isThrough 95 = .ok (.goto 4, 3) := by decide +kernel
theorem dX6_isThrough_98 : decode cX6_isThrough 98 = .ok (.iconst 0, 1) := by decide +kernel
theorem dX6_isThrough_99 : decode cX6_isThrough 99 = .ok (.ireturn, 1) := by decide +kernel
theorem dX6_lines_0 : decode cX6_lines 0 = .ok (.aload_n 0, 1) := by decide +kernel
theorem dX6_lines_1 : decode cX6_lines 1 = .ok (.iconst 0, 1) := by decide +kernel
theorem dX6_lines_2 : decode cX6_lines 2 = .ok (.putfield 1, 3) := by decide +kernel
theorem dX6_lines_5 : decode cX6_lines 5 = .ok (.iload_n 1, 1) := by decide +kernel
theorem dX6_lines_6 : decode cX6_lines 6 = .ok (.ifCond .lt 20, 3) := by decide +kernel
theorem dX6_lines_9 : decode cX6_lines 9 = .ok (.iload_n 1, 1) := by decide +kernel
theorem dX6_lines_10 : decode cX6_lines 10 = .ok (.aload_n 0, 1) := by decide +kernel
theorem dX6_lines_11 : decode cX6_lines 11 = .ok (.getfield 168, 3) := by decide +kernel
theorem dX6_lines_14 : decode cX6_lines 14 = .ok (.if_icmp .gt 12, 3) := by decide +kernel
theorem dX6_lines_17 : decode cX6_lines 17 = .ok (.iload_n 2, 1) := by decide +kernel
theorem dX6_lines_18 : decode cX6_lines 18 = .ok (.ifCond .lt 8, 3) := by decide +kernel
theorem dX6_lines_21 : decode cX6_lines 21 = .ok (.iload_n 2, 1) := by decide +kernel
theorem dX6_lines_22 : decode cX6_lines 22 = .ok (.iconst 5, 1) := by decide +kernel
theorem dX6_lines_23 : decode cX6_lines 23 = .ok (.if_icmp .le 6, 3) := by decide +kernel
theorem dX6_lines_26 : decode cX6_lines 26 = .ok (.bipush (-2), 2) := by decide +kernel
theorem dX6_lines_28 : decode cX6_lines 28 = .ok (.ireturn, 1) := by decide +kernel
theorem dX6_lines_29 : decode cX6_lines 29 = .ok (.iconst 0, 1) := by decide +kernel
theorem dX6_lines_30 : decode cX6_lines 30 = .ok (.istore_n 3, 1) := by decide +kernel
theorem dX6_lines_31 : decode cX6_lines 31 = .ok (.iconst 0, 1) := by decide +kernel
theorem dX6_lines_32 : decode cX6_lines 32 = .ok (.istore 4, 2) := by decide +kernel
theorem dX6_lines_34 : decode cX6_lines 34 = .ok (.iconst 0, 1) := by decide +kernel
theorem dX6_lines_35 : decode cX6_lines 35 = .ok (.istore 5, 2) := by decide +kernel
theorem dX6_lines_37 : decode cX6_lines 37 = .ok (.iconst 0, 1) := by decide +kernel
theorem dX6_lines_38 : decode cX6_lines 38 = .ok (.istore 6, 2) := by decide +kernel
theorem dX6_lines_40 : decode cX6_lines 40 = .ok (.iconst 0, 1) := by decide +kernel
theorem dX6_lines_41 : decode cX6_lines 41 = .ok (.istore 7, 2) := by decide +kernel
theorem dX6_lines_43 : decode cX6_lines 43 = .ok (.iconst 0, 1) := by decide +kernel
theorem dX6_lines_44 : decode cX6_lines 44 = .ok (.istore 8, 2) := by decide +kernel
theorem dX6_lines_46 : decode cX6_lines 46 = .ok (.iload 8, 2) := by decide +kernel
theorem dX6_lines_48 : decode cX6_lines 48 = .ok (.iload_n 1, 1) := by decide +kernel
theorem dX6_lines_49 : decode cX6_lines 49 = .ok (.if_icmp .ge 212, 3) := by decide +kernel
theorem dX6_lines_52 : decode cX6_lines 52 = .ok (.iload_n 3, 1) := by decide +kernel
theorem dX6_lines_53 : decode cX6_lines 53 = .ok (.aload_n 0, 1) := by decide +kernel
theorem dX6_lines_54 : decode cX6_lines 54 = .ok (.iload 8, 2) := by decide +kernel
theorem dX6_lines_56 : decode cX6_lines 56 = .ok (.invokevirtual 177, 3) := by decide +kernel
theorem dX6_lines_59 : decode cX6_lines 59 = .ok (.ifCond .eq 7, 3) := by decide +kernel
theorem dX6_lines_62 : decode cX6_lines 62 = .ok (.iconst 1, 1) := by decide +kernel
theorem dX6_lines_63 : decode cX6_lines 63 = .ok (.goto 4, 3) := by decide +kernel
theorem dX6_lines_66 : decode cX6_lines 66 = .ok (.iconst 0, 1) := by decide +kernel
theorem dX6_lines_67 : decode cX6_lines 67 = .ok (.iadd, 1) := by decide +kernel
theorem dX6_lines_68 : decode cX6_lines 68 = .ok (.istore_n 3, 1) := by decide +kernel
theorem dX6_lines_69 : decode cX6_lines 69 = .ok (.iload 8, 2) := by decide +kernel
theorem dX6_lines_71 : decode cX6_lines 71 = .ok (.iconst 1, 1) := by decide +kernel
theorem dX6_lines_72 : decode cX6_lines 72 = .ok (.iadd, 1) := by decide +kernel
theorem dX6_lines_73 : decode cX6_lines 73 = .ok (.istore 9, 2) := by decide +kernel
theorem dX6_lines_75 : decode cX6_lines 75 = .ok (.iload 9, 2) := by decide +kernel
theorem dX6_lines_77 : decode cX6_lines 77 = .ok (.iload_n 1, 1) := by decide +kernel
theorem dX6_lines_78 : decode cX6_lines 78 = .ok (.if_icmp .ge 177, 3) := by decide +kernel
theorem dX6_lines_81 : decode cX6_lines 81 = .ok (.aload_n 0, 1) := by decide +kernel
theorem dX6_lines_82 : decode cX6_lines 82 = .ok (.iload 8, 2) := by decide +kernel
theorem dX6_lines_84 : decode cX6_lines 84 = .ok (.invokevirtual 177, 3) := by decide +kernel
theorem dX6_lines_87 : decode cX6_lines 87 = .ok (.ifCond .eq 162, 3) := by decide +kernel
theorem dX6_lines_90 : decode cX6_lines 90 = .ok (.aload_n 0, 1) := by decide +kernel
theorem dX6_lines_91 : decode cX6_lines 91 = .ok (.iload 9, 2) := by decide +kernel
theorem dX6_lines_93 : decode cX6_lines 93 = .ok (.invokevirtual 177, 3) := by decide +kernel
theorem dX6_lines_96 : decode cX6_lines 96 = .ok (.ifCond .eq 153, 3) := by decide +kernel
theorem dX6_lines_99 : decode cX6_lines 99 = .ok (.aload_n 0, 1) := by decide +kernel
theorem dX6_lines_100 : decode cX6_lines 100 = .ok (.iload 8, 2) := by decide +kernel
theorem dX6_lines_102 : decode cX6_lines 102 = .ok (.iload 9, 2) := by decide +kernel
theorem dX6_lines_104 : decode cX6_lines 104 = .ok (.invokevirtual 171, 3) := by decide +kernel
theorem dX6_lines_107 : decode cX6_lines 107 = .ok (.lconst 0, 1) := by decide +kernel
theorem dX6_lines_108 : decode cX6_lines 108 = .ok (.lcmp, 1) := by decide +kernel
theorem dX6_lines_109 : decode cX6_lines 109 = .ok (.ifCond .ne 6, 3) := by decide +kernel
theorem dX6_lines_112 : decode cX6_lines 112 = .ok (.goto 137, 3) := by decide +kernel
theorem dX6_lines_115 : decode cX6_lines 115 = .ok (.iconst 0, 1) := by decide +kernel
theorem dX6_lines_116 : decode cX6_lines 116 = .ok (.istore 10, 2) := by decide +kernel
theorem dX6_lines_118 : decode cX6_lines 118 = .ok (.iconst 0, 1) := by decide +kernel
theorem dX6_lines_119 : decode cX6_lines 119 = .ok (.istore 11, 2) := by decide +kernel
theorem dX6_lines_121 : decode cX6_lines 121 = .ok (.iconst 0, 1) := by decide +kernel
theorem dX6_lines_122 : decode cX6_lines 122 = .ok (.istore 12, 2) := by decide +kernel
theorem dX6_lines_124 : decode cX6_lines 124 = .ok (.iload 12, 2) := by decide +kernel
theorem dX6_lines_126 : decode cX6_lines 126 = .ok (.iload_n 1, 1) := by decide +kernel
theorem dX6_lines_127 : decode cX6_lines 127 = .ok (.if_icmp .ge 82, 3) := by decide +kernel
theorem dX6_lines_130 : decode cX6_lines 130 = .ok (.aload_n 0, 1) := by decide +kernel
theorem dX6_lines_131 : decode cX6_lines 131 = .ok (.iload 12, 2) := by decide +kernel
theorem dX6_lines_133 : decode cX6_lines 133 = .ok (.invokevirtual 177, 3) := by decide +kernel
theorem dX6_lines_136 : decode cX6_lines 136 = .ok (.ifCond .eq 20, 3) := by decide +kernel
theorem dX6_lines_139 : decode cX6_lines 139 = .ok (.aload_n 0, 1) := by decide +kernel
theorem dX6_lines_140 : decode cX6_lines 140 = .ok (.iload 8, 2) := by decide +kernel
theorem dX6_lines_142 : decode cX6_lines 142 = .ok (.iload 9, 2) := by decide +kernel
theorem dX6_lines_144 : decode cX6_lines 144 = .ok (.iload 12, 2) := by decide +kernel
theorem dX6_lines_146 : decode cX6_lines 146 = .ok (.invokevirtual 180, 3) := by decide +kernel
theorem dX6_lines_149 : decode cX6_lines 149 = .ok (.ifCond .eq 7, 3) := by decide +kernel
theorem dX6_lines_152 : decode cX6_lines 152 = .ok (.iconst 1, 1) := by decide +kernel
theorem dX6_lines_153 : decode cX6_lines 153 = .ok (.goto 4, 3) := by decide +kernel
theorem dX6_lines_156 : decode cX6_lines 156 = .ok (.iconst 0, 1) := by decide +kernel
theorem dX6_lines_157 : decode cX6_lines 157 = .ok (.istore 13, 2) := by decide +kernel
theorem dX6_lines_159 : decode cX6_lines 159 = .ok (.iload 10, 2) := by decide +kernel
theorem dX6_lines_161 : decode cX6_lines 161 = .ok (.iload 13, 2) := by decide +kernel
theorem dX6_lines_163 : decode cX6_lines 163 = .ok (.ifCond .eq 21, 3) := by decide +kernel
theorem dX6_lines_166 : decode cX6_lines 166 = .ok (.iload 12, 2) := by decide +kernel
theorem dX6_lines_168 : decode cX6_lines 168 = .ok (.iload 9, 2) := by decide +kernel
theorem dX6_lines_170 : decode cX6_lines 170 = .ok (.if_icmp .ge 14, 3) := by decide +kernel
theorem dX6_lines_173 : decode cX6_lines 173 = .ok (.iload 12, 2) := by decide +kernel
theorem dX6_lines_175 : decode cX6_lines 175 = .ok (.iload 8, 2) := by decide +kernel
theorem dX6_lines_177 : decode cX6_lines 177 = .ok (.if_icmp .eq 7, 3) := by decide +kernel
theorem dX6_lines_180 : decode cX6_lines 180 = .ok (.iconst 1, 1) := by decide +kernel
theorem dX6_lines_181 : decode cX6_lines 181 = .ok (.goto 4, 3) := by decide +kernel
theorem dX6_lines_184 : decode cX6_lines 184 = .ok (.iconst 0, 1) := by decide +kernel
theorem dX6_lines_185 : decode cX6_lines 185 = .ok (.iadd, 1) := by decide +kernel
theorem dX6_lines_186 : decode cX6_lines 186 = .ok (.istore 10, 2) := by decide +kernel
theorem dX6_lines_188 : decode cX6_lines 188 = .ok (.iload 11, 2) := by decide +kernel
theorem dX6_lines_190 : decode cX6_lines 190 = .ok (.iload 13, 2) := by decide +kernel
theorem dX6_lines_192 : decode cX6_lines 192 = .ok (.ifCond .eq 7, 3) := by decide +kernel
theorem dX6_lines_195 : decode cX6_lines 195 = .ok (.iconst 1, 1) := by decide +kernel
theorem dX6_lines_196 : decode cX6_lines 196 = .ok (.goto 4, 3) := by decide +kernel
theorem dX6_lines_199 : decode cX6_lines 199 = .ok (.iconst 0, 1) := by decide +kernel
theorem dX6_lines_200 : decode cX6_lines 200 = .ok (.iadd, 1) := by decide +kernel
theorem dX6_lines_201 : decode cX6_lines 201 = .ok (.istore 11, 2) := by decide +kernel
theorem dX6_lines_203 : decode cX6_lines 203 = .ok (.iinc 12 1, 3) := by decide +kernel
theorem dX6_lines_206 : decode cX6_lines 206 = .ok (.goto (-82), 3) := by decide +kernel
theorem dX6_lines_209 : decode cX6_lines 209 = .ok (.iload 10, 2) := by decide +kernel
theorem dX6_lines_211 : decode cX6_lines 211 = .ok (.ifCond .ne 38, 3) := by decide +kernel
theorem dX6_lines_214 : decode cX6_lines 214 = .ok (.iinc 4 1, 3) := by decide +kernel
theorem dX6_lines_217 : decode cX6_lines 217 = .ok (.iload 5, 2) := by decide +kernel
theorem dX6_lines_219 : decode cX6_lines 219 = .ok (.iload 11, 2) := by decide +kernel
theorem dX6_lines_221 : decode cX6_lines 221 = .ok (.iconst 1, 1) := by decide +kernel
theorem dX6_lines_222 : decode cX6_lines 222 = .ok (.isub, 1) := by decide +kernel
theorem dX6_lines_223 : decode cX6_lines 223 = .ok (.iadd, 1) := by decide +kernel
theorem dX6_lines_224 : decode cX6_lines 224 = .ok (.istore 5, 2) := by decide +kernel
theorem dX6_lines_226 : decode cX6_lines 226 = .ok (.iload 7, 2) := by decide +kernel
theorem dX6_lines_228 : decode cX6_lines 228 = .ok (.iload 11, 2) := by decide +kernel
theorem dX6_lines_230 : decode cX6_lines 230 = .ok (.iadd, 1) := by decide +kernel
theorem dX6_lines_231 : decode cX6_lines 231 = .ok (.istore 7, 2) := by decide +kernel
theorem dX6_lines_233 : decode cX6_lines 233 = .ok (.iload 11, 2) := by decide +kernel
theorem dX6_lines_235 : decode cX6_lines 235 = .ok (.iload 6, 2) := by decide +kernel
theorem dX6_lines_237 : decode cX6_lines 237 = .ok (.if_icmp .le 8, 3) := by decide +kernel
theorem dX6_lines_240 : decode cX6_lines 240 = .ok (.iload 11, 2) := by decide +kernel
theorem dX6_lines_242 : decode cX6_lines 242 = .ok (.goto 5, 3) := by decide +kernel
theorem dX6_lines_245 : decode cX6_lines 245 = .ok (.iload 6, 2) := by decide +kernel
theorem dX6_lines_247 : decode cX6_lines 247 = .ok (.istore 6, 2) := by decide +kernel
theorem dX6_lines_249 : decode cX6_lines 249 = .ok (.iinc 9 1, 3) := by decide +kernel
theorem dX6_lines_252 : decode cX6_lines 252 = .ok (.goto (-177), 3) := by decide +kernel
theorem dX6_lines_255 : decode cX6_lines 255 = .ok (.iinc 8 1, 3) := by decide +kernel
theorem dX6_lines_258 : decode cX6_lines 258 = .ok (.goto (-212), 3) := by decide +kernel
theorem dX6_lines_261 : decode cX6_lines 261 = .ok (.iconst 1, 1) := by decide +kernel
theorem dX6_lines_262 : decode cX6_lines 262 = .ok (.iload_n 3, 1) := by decide +kernel
theorem dX6_lines_263 : decode cX6_lines 263 = .ok (.iadd, 1) := by decide +kernel
theorem dX6_lines_264 : decode cX6_lines 264 = .ok (.iload 5, 2) := by decide +kernel
theorem dX6_lines_266 : decode cX6_lines 266 = .ok (.iadd, 1) := by decide +kernel
theorem dX6_lines_267 : decode cX6_lines 267 = .ok (.istore 8, 2) := by decide +kernel
theorem dX6_lines_269 : decode cX6_lines 269 = .ok (.iload_n 2, 1) := by decide +kernel
theorem dX6_lines_270 : decode cX6_lines 270 = .ok (.tableswitch 63 0 4 #[34, 36, 39, 42, 47], 34) := by decide +kernel
theorem dX6_lines_304 : decode cX6_lines 304 = .ok (.iload_n 3, 1) := by decide +kernel
theorem dX6_lines_305 : decode cX6_lines 305 = .ok (.ireturn, 1) := by decide +kernel
theorem dX6_lines_306 : decode cX6_lines 306 = .ok (.iload 4, 2) := by decide +kernel
theorem dX6_lines_308 : decode cX6_lines 308 = .ok (.ireturn, 1) := by decide +kernel
theorem dX6_lines_309 : decode cX6_lines 309 = .ok (.iload 8, 2) := by decide +kernel
theorem dX6_lines_311 : decode cX6_lines 311 = .ok (.ireturn, 1) := by decide +kernel
theorem dX6_lines_312 : decode cX6_lines 312 = .ok (.iload_n 3, 1) := by decide +kernel
theorem dX6_lines_313 : decode cX6_lines 313 = .ok (.iload 7, 2) := by decide +kernel
theorem dX6_lines_315 : decode cX6_lines 315 = .ok (.iadd, 1) := by decide +kernel
theorem dX6_lines_316 : decode cX6_lines 316 = .ok (.ireturn, 1) := by decide +kernel
theorem dX6_lines_317 : decode cX6_lines 317 = .ok (.iload 4, 2) := by decide +kernel
theorem dX6_lines_319 : decode cX6_lines 319 = .ok (.ifCond .ne 7, 3) := by decide +kernel
theorem dX6_lines_322 : decode cX6_lines 322 = .ok (.iconst 0, 1) := by decide +kernel
theorem dX6_lines_323 : decode cX6_lines 323 = .ok (.goto 9, 3) := by decide +kernel
theorem dX6_lines_326 : decode cX6_lines 326 = .ok (.iload 8, 2) := by decide +kernel
theorem dX6_lines_328 : decode cX6_lines 328 = .ok (.iconst 2, 1) := by decide +kernel
theorem dX6_lines_329 : decode cX6_lines 329 = .ok (.iload_n 3, 1) := by decide +kernel
theorem dX6_lines_330 : decode cX6_lines 330 = .ok (.imul, 1) := by decide +kernel
theorem dX6_lines_331 : decode cX6_lines 331 = .ok (.isub, 1) := by decide +kernel
theorem dX6_lines_332 : decode cX6_lines 332 = .ok (.ireturn, 1) := by decide +kernel
theorem dX6_lines_333 : decode cX6_lines 333 = .ok (.iload 6, 2) := by decide +kernel
theorem dX6_lines_335 : decode cX6_lines 335 = .ok (.ireturn, 1) := by decide +kernel
theorem dX6_count_0 : decode cX6_count 0 = .ok (.aload_n 0, 1) := by decide +kernel
theorem dX6_count_1 : decode cX6_count 1 = .ok (.iconst 0, 1) := by decide +kernel
theorem dX6_count_2 : decode cX6_count 2 = .ok (.putfield 1, 3) := by decide +kernel
theorem dX6_count_5 : decode cX6_count 5 = .ok (.iload_n 1, 1) := by decide +kernel
theorem dX6_count_6 : decode cX6_count 6 = .ok (.ifCond .ne 10, 3) := by decide +kernel
theorem dX6_count_9 : decode cX6_count 9 = .ok (.aload_n 0, 1) := by decide +kernel
theorem dX6_count_10 : decode cX6_count 10 = .ok (.getfield 51, 3) := by decide +kernel
theorem dX6_count_13 : decode cX6_count 13 = .ok (.goto 49, 3) := by decide +kernel
theorem dX6_count_16 : decode cX6_count 16 = .ok (.iload_n 1, 1) := by decide +kernel
theorem dX6_count_17 : decode cX6_count 17 = .ok (.iconst 1, 1) := by decide +kernel
theorem dX6_count_18 : decode cX6_count 18 = .ok (.if_icmp .ne 10, 3) := by decide +kernel
theorem dX6_count_21 : decode cX6_count 21 = .ok (.aload_n 0, 1) := by decide +kernel
theorem dX6_count_22 : decode cX6_count 22 = .ok (.getfield 66, 3) := by decide +kernel
theorem dX6_count_25 : decode cX6_count 25 = .ok (.goto 37, 3) := by decide +kernel
theorem dX6_count_28 : decode cX6_count 28 = .ok (.iload_n 1, 1) := by decide +kernel
theorem dX6_count_29 : decode cX6_count 29 = .ok (.iconst 2, 1) := by decide +kernel
theorem dX6_count_30 : decode cX6_count 30 = .ok (.if_icmp .ne 10, 3) := by decide +kernel
theorem dX6_count_33 : decode cX6_count 33 = .ok (.aload_n 0, 1) := by decide +kernel
theorem dX6_count_34 : decode cX6_count 34 = .ok (.getfield 168, 3) := by decide +kernel
theorem dX6_count_37 : decode cX6_count 37 = .ok (.goto 25, 3) := by decide +kernel
theorem dX6_count_40 : decode cX6_count 40 = .ok (.iload_n 1, 1) := by decide +kernel
theorem dX6_count_41 : decode cX6_count 41 = .ok (.iconst 3, 1) := by decide +kernel
theorem dX6_count_42 : decode cX6_count 42 = .ok (.if_icmp .ne 18, 3) := by decide +kernel
theorem dX6_count_45 : decode cX6_count 45 = .ok (.aload_n 0, 1) := by decide +kernel
theorem dX6_count_46 : decode cX6_count 46 = .ok (.getfield 23, 3) := by decide +kernel
theorem dX6_count_49 : decode cX6_count 49 = .ok (.ifCond .eq 7, 3) := by decide +kernel
theorem dX6_count_52 : decode cX6_count 52 = .ok (.iconst 1, 1) := by decide +kernel
theorem dX6_count_53 : decode cX6_count 53 = .ok (.goto 9, 3) := by decide +kernel
theorem dX6_count_56 : decode cX6_count 56 = .ok (.iconst 0, 1) := by decide +kernel
theorem dX6_count_57 : decode cX6_count 57 = .ok (.goto 5, 3) := by decide +kernel
theorem dX6_count_60 : decode cX6_count 60 = .ok (.bipush (-2), 2) := by decide +kernel
theorem dX6_count_62 : decode cX6_count 62 = .ok (.ireturn, 1) := by decide +kernel
theorem dJx00060_init_a7421_0 : decode cJx00060_init_a7421 0 = .ok (.aload_n 0, 1) := by decide +kernel
theorem dJx00060_init_a7421_1 : decode cJx00060_init_a7421 1 = .ok (.aload_n 1, 1) := by decide +kernel
theorem dJx00060_init_a7421_2 : decode cJx00060_init_a7421 2 = .ok (.invokespecial 7, 3) := by decide +kernel
theorem dJx00060_init_a7421_5 : decode cJx00060_init_a7421 5 = .ok (.return_, 1) := by decide +kernel
theorem dJ6_compare_7cf53_0 : decode cJ6_compare_7cf53 0 = .ok (.iload_n 0, 1) := by decide +kernel
theorem dJ6_compare_7cf53_1 : decode cJ6_compare_7cf53 1 = .ok (.iload_n 1, 1) := by decide +kernel
theorem dJ6_compare_7cf53_2 : decode cJ6_compare_7cf53 2 = .ok (.if_icmp .ge 7, 3) := by decide +kernel
theorem dJ6_compare_7cf53_5 : decode cJ6_compare_7cf53 5 = .ok (.iconst (-1), 1) := by decide +kernel
theorem dJ6_compare_7cf53_6 : decode cJ6_compare_7cf53 6 = .ok (.goto 13, 3) := by decide +kernel
theorem dJ6_compare_7cf53_9 : decode cJ6_compare_7cf53 9 = .ok (.iload_n 0, 1) := by decide +kernel
theorem dJ6_compare_7cf53_10 : decode cJ6_compare_7cf53 10 = .ok (.iload_n 1, 1) := by decide +kernel
theorem dJ6_compare_7cf53_11 : decode cJ6_compare_7cf53 11 = .ok (.if_icmp .ne 7, 3) := by decide +kernel
theorem dJ6_compare_7cf53_14 : decode cJ6_compare_7cf53 14 = .ok (.iconst 0, 1) := by decide +kernel
theorem dJ6_compare_7cf53_15 : decode cJ6_compare_7cf53 15 = .ok (.goto 4, 3) := by decide +kernel
theorem dJ6_compare_7cf53_18 : decode cJ6_compare_7cf53 18 = .ok (.iconst 1, 1) := by decide +kernel
theorem dJ6_compare_7cf53_19 : decode cJ6_compare_7cf53 19 = .ok (.ireturn, 1) := by decide +kernel
theorem dJ13_compare_74951_0 : decode cJ13_compare_74951 0 = .ok (.lload_n 0, 1) := by decide +kernel
theorem dJ13_compare_74951_1 : decode cJ13_compare_74951 1 = .ok (.lload_n 2, 1) := by decide +kernel
theorem dJ13_compare_74951_2 : decode cJ13_compare_74951 2 = .ok (.lcmp, 1) := by decide +kernel
theorem dJ13_compare_74951_3 : decode cJ13_compare_74951 3 = .ok (.ifCond .ge 7, 3) := by decide +kernel
theorem dJ13_compare_74951_6 : decode cJ13_compare_74951 6 = .ok (.iconst (-1), 1) := by decide +kernel
theorem dJ13_compare_74951_7 : decode cJ13_compare_74951 7 = .ok (.goto 14, 3) := by decide +kernel
theorem dJ13_compare_74951_10 : decode cJ13_compare_74951 10 = .ok (.lload_n 0, 1) := by decide +kernel
theorem dJ13_compare_74951_11 : decode cJ13_compare_74951 11 = .ok (.lload_n 2, 1) := by decide +kernel
theorem dJ13_compare_74951_12 : decode cJ13_compare_74951 12 = .ok (.lcmp, 1) := by decide +kernel
theorem dJ13_compare_74951_13 : decode cJ13_compare_74951 13 = .ok (.ifCond .ne 7, 3) := by decide +kernel
theorem dJ13_compare_74951_16 : decode cJ13_compare_74951 16 = .ok (.iconst 0, 1) := by decide +kernel
theorem dJ13_compare_74951_17 : decode cJ13_compare_74951 17 = .ok (.goto 4, 3) := by decide +kernel
theorem dJ13_compare_74951_20 : decode cJ13_compare_74951 20 = .ok (.iconst 1, 1) := by decide +kernel
theorem dJ13_compare_74951_21 : decode cJ13_compare_74951 21 = .ok (.ireturn, 1) := by decide +kernel
theorem dJ9_max_7cf53_0 : decode cJ9_max_7cf53 0 = .ok (.iload_n 0, 1) := by decide +kernel
theorem dJ9_max_7cf53_1 : decode cJ9_max_7cf53 1 = .ok (.iload_n 1, 1) := by decide +kernel
theorem dJ9_max_7cf53_2 : decode cJ9_max_7cf53 2 = .ok (.if_icmp .lt 7, 3) := by decide +kernel
theorem dJ9_max_7cf53_5 : decode cJ9_max_7cf53 5 = .ok (.iload_n 0, 1) := by decide +kernel
theorem dJ9_max_7cf53_6 : decode cJ9_max_7cf53 6 = .ok (.goto 4, 3) := by decide +kernel
theorem dJ9_max_7cf53_9 : decode cJ9_max_7cf53 9 = .ok (.iload_n 1, 1) := by decide +kernel
theorem dJ9_max_7cf53_10 : decode cJ9_max_7cf53 10 = .ok (.ireturn, 1) := by decide +kernel
theorem dJ9_min_7cf53_0 : decode cJ9_min_7cf53 0 = .ok (.iload_n 0, 1) := by decide +kernel
theorem dJ9_min_7cf53_1 : decode cJ9_min_7cf53 1 = .ok (.iload_n 1, 1) := by decide +kernel
theorem dJ9_min_7cf53_2 : decode cJ9_min_7cf53 2 = .ok (.if_icmp .gt 7, 3) := by decide +kernel
theorem dJ9_min_7cf53_5 : decode cJ9_min_7cf53 5 = .ok (.iload_n 0, 1) := by decide +kernel
theorem dJ9_min_7cf53_6 : decode cJ9_min_7cf53 6 = .ok (.goto 4, 3) := by decide +kernel
theorem dJ9_min_7cf53_9 : decode cJ9_min_7cf53 9 = .ok (.iload_n 1, 1) := by decide +kernel
theorem dJ9_min_7cf53_10 : decode cJ9_min_7cf53 10 = .ok (.ireturn, 1) := by decide +kernel
theorem dJxde1cd_init_a7421_0 : decode cJxde1cd_init_a7421 0 = .ok (.aload_n 0, 1) := by decide +kernel
theorem dJxde1cd_init_a7421_1 : decode cJxde1cd_init_a7421 1 = .ok (.aload_n 1, 1) := by decide +kernel
theorem dJxde1cd_init_a7421_2 : decode cJxde1cd_init_a7421 2 = .ok (.invokespecial 7, 3) := by decide +kernel
theorem dJxde1cd_init_a7421_5 : decode cJxde1cd_init_a7421 5 = .ok (.return_, 1) := by decide +kernel
theorem dJx5d777_init_da8c8_0 : decode cJx5d777_init_da8c8 0 = .ok (.aload_n 0, 1) := by decide +kernel
theorem dJx5d777_init_da8c8_1 : decode cJx5d777_init_da8c8 1 = .ok (.invokespecial 1, 3) := by decide +kernel
theorem dJx5d777_init_da8c8_4 : decode cJx5d777_init_da8c8 4 = .ok (.return_, 1) := by decide +kernel
theorem dJx5d777_init_a7421_0 : decode cJx5d777_init_a7421 0 = .ok (.aload_n 0, 1) := by decide +kernel
theorem dJx5d777_init_a7421_1 : decode cJx5d777_init_a7421 1 = .ok (.aload_n 1, 1) := by decide +kernel
theorem dJx5d777_init_a7421_2 : decode cJx5d777_init_a7421 2 = .ok (.invokespecial 7, 3) := by decide +kernel
theorem dJx5d777_init_a7421_5 : decode cJx5d777_init_a7421 5 = .ok (.return_, 1) := by decide +kernel
theorem dJx5d777_fillInStackTrace_cddbd_0 : decode cJx5d777_fillInStackTrace_cddbd 0 = .ok (.aload_n 0, 1) := by decide +kernel
theorem dJx5d777_fillInStackTrace_cddbd_1 : decode cJx5d777_fillInStackTrace_cddbd 1 = .ok (.getfield 10, 3) := by decide +kernel
theorem dJx5d777_fillInStackTrace_cddbd_4 : decode cJx5d777_fillInStackTrace_cddbd 4 = .ok (.ifCond .ne 11, 3) := by decide +kernel
theorem dJx5d777_fillInStackTrace_cddbd_7 : decode cJx5d777_fillInStackTrace_cddbd 7 = .ok (.aload_n 0, 1) := by decide +kernel
theorem dJx5d777_fillInStackTrace_cddbd_8 : decode cJx5d777_fillInStackTrace_cddbd 8 = .ok (.iconst 1, 1) := by decide +kernel
theorem dJx5d777_fillInStackTrace_cddbd_9 : decode cJx5d777_fillInStackTrace_cddbd 9 = .ok (.putfield 10, 3) := by decide +kernel
theorem dJx5d777_fillInStackTrace_cddbd_12 : decode cJx5d777_fillInStackTrace_cddbd 12 = .ok (.goto 24, 3) := by decide +kernel
theorem dJx5d777_fillInStackTrace_cddbd_15 : decode cJx5d777_fillInStackTrace_cddbd 15 = .ok (.aload_n 0, 1) := by decide +kernel
theorem dJx5d777_fillInStackTrace_cddbd_16 : decode cJx5d777_fillInStackTrace_cddbd 16 = .ok (.getfield 10, 3) := by decide +kernel
theorem dJx5d777_fillInStackTrace_cddbd_19 : decode cJx5d777_fillInStackTrace_cddbd 19 = .ok (.iconst 1, 1) := by decide +kernel
theorem dJx5d777_fillInStackTrace_cddbd_20 : decode cJx5d777_fillInStackTrace_cddbd 20 = .ok (.if_icmp .ne 16, 3) := by decide +kernel
theorem dJx5d777_fillInStackTrace_cddbd_23 : decode cJx5d777_fillInStackTrace_cddbd 23 = .ok (.aload_n 0, 1) := by decide +kernel
theorem dJx5d777_fillInStackTrace_cddbd_24 : decode cJx5d777_fillInStackTrace_cddbd 24 = .ok (.aload_n 0, 1) := by decide +kernel
theorem dJx5d777_fillInStackTrace_cddbd_25 : decode cJx5d777_fillInStackTrace_cddbd 25 = .ok (.invokevirtual 16, 3) := by decide +kernel
theorem dJx5d777_fillInStackTrace_cddbd_28 : decode cJx5d777_fillInStackTrace_cddbd 28 = .ok (.putfield 20, 3) := by decide +kernel
theorem dJx5d777_fillInStackTrace_cddbd_31 : decode cJx5d777_fillInStackTrace_cddbd 31 = .ok (.aload_n 0, 1) := by decide +kernel
theorem dJx5d777_fillInStackTrace_cddbd_32 : decode cJx5d777_fillInStackTrace_cddbd 32 = .ok (.iconst 2, 1) := by decide +kernel
theorem dJx5d777_fillInStackTrace_cddbd_33 : decode cJx5d777_fillInStackTrace_cddbd 33 = .ok (.putfield 10, 3) := by decide +kernel
theorem dJx5d777_fillInStackTrace_cddbd_36 : decode cJx5d777_fillInStackTrace_cddbd 36 = .ok (.aload_n 0, 1) := by decide +kernel
theorem dJx5d777_fillInStackTrace_cddbd_37 : decode cJx5d777_fillInStackTrace_cddbd 37 = .ok (.invokespecial 24, 3) := by decide +kernel
theorem dJx5d777_fillInStackTrace_cddbd_40 : decode cJx5d777_fillInStackTrace_cddbd 40 = .ok (.areturn, 1) := by decide +kernel
theorem dL_size_0 : decode cL_size 0 = .ok (.aload_n 2, 1) := by decide +kernel
theorem dL_size_1 : decode cL_size 1 = .ok (.iconst 0, 1) := by decide +kernel
theorem dL_size_2 : decode cL_size 2 = .ok (.aload_n 0, 1) := by decide +kernel
theorem dL_size_3 : decode cL_size 3 = .ok (.iload_n 1, 1) := by decide +kernel
theorem dL_size_4 : decode cL_size 4 = .ok (.invokevirtual 7, 3) := by decide +kernel
theorem dL_size_7 : decode cL_size 7 = .ok (.i2l, 1) := by decide +kernel
theorem dL_size_8 : decode cL_size 8 = .ok (.lastore, 1) := by decide +kernel
theorem dL_size_9 : decode cL_size 9 = .ok (.goto 6, 3) := by decide +kernel
theorem dL_size_12 : decode cL_size 12 = .ok (.astore_n 3, 1) := by decide +kernel
theorem dL_size_13 : decode cL_size 13 = .ok (.iconst 1, 1) := by decide +kernel
theorem dL_size_14 : decode cL_size 14 = .ok (.ireturn, 1) := by decide +kernel
theorem dL_size_15 : decode cL_size 15 = .ok (.iconst 0, 1) := by decide +kernel
theorem dL_size_16 : decode cL_size 16 = .ok (.ireturn, 1) := by decide +kernel
theorem dL_of_0 : decode cL_of 0 = .ok (.aload_n 3, 1) := by decide +kernel
theorem dL_of_1 : decode cL_of 1 = .ok (.iconst 0, 1) := by decide +kernel
theorem dL_of_2 : decode cL_of 2 = .ok (.aload_n 0, 1) := by decide +kernel
theorem dL_of_3 : decode cL_of 3 = .ok (.iload_n 1, 1) := by decide +kernel
theorem dL_of_4 : decode cL_of 4 = .ok (.iload_n 2, 1) := by decide +kernel
theorem dL_of_5 : decode cL_of 5 = .ok (.invokevirtual 15, 3) := by decide +kernel
theorem dL_of_8 : decode cL_of 8 = .ok (.i2l, 1) := by decide +kernel
theorem dL_of_9 : decode cL_of 9 = .ok (.lastore, 1) := by decide +kernel
theorem dL_of_10 : decode cL_of 10 = .ok (.goto 7, 3) := by decide +kernel
theorem dL_of_13 : decode cL_of 13 = .ok (.astore 4, 2) := by decide +kernel
theorem dL_of_15 : decode cL_of 15 = .ok (.iconst 1, 1) := by decide +kernel
theorem dL_of_16 : decode cL_of 16 = .ok (.ireturn, 1) := by decide +kernel
theorem dL_of_17 : decode cL_of 17 = .ok (.iconst 0, 1) := by decide +kernel
theorem dL_of_18 : decode cL_of 18 = .ok (.ireturn, 1) := by decide +kernel
theorem dL_at_0 : decode cL_at 0 = .ok (.aload_n 3, 1) := by decide +kernel
theorem dL_at_1 : decode cL_at 1 = .ok (.iconst 0, 1) := by decide +kernel
theorem dL_at_2 : decode cL_at 2 = .ok (.aload_n 0, 1) := by decide +kernel
theorem dL_at_3 : decode cL_at 3 = .ok (.iload_n 1, 1) := by decide +kernel
theorem dL_at_4 : decode cL_at 4 = .ok (.iload_n 2, 1) := by decide +kernel
theorem dL_at_5 : decode cL_at 5 = .ok (.invokevirtual 21, 3) := by decide +kernel
theorem dL_at_8 : decode cL_at 8 = .ok (.i2l, 1) := by decide +kernel
theorem dL_at_9 : decode cL_at 9 = .ok (.lastore, 1) := by decide +kernel
theorem dL_at_10 : decode cL_at 10 = .ok (.goto 11, 3) := by decide +kernel
theorem dL_at_13 : decode cL_at 13 = .ok (.astore 4, 2) := by decide +kernel
theorem dL_at_15 : decode cL_at 15 = .ok (.iconst 1, 1) := by decide +kernel
theorem dL_at_16 : decode cL_at 16 = .ok (.ireturn, 1) := by decide +kernel
theorem dL_at_17 : decode cL_at 17 = .ok (.astore 4, 2) := by decide +kernel
theorem dL_at_19 : decode cL_at 19 = .ok (.iconst 2, 1) := by decide +kernel
theorem dL_at_20 : decode cL_at 20 = .ok (.ireturn, 1) := by decide +kernel
theorem dL_at_21 : decode cL_at 21 = .ok (.iconst 0, 1) := by decide +kernel
theorem dL_at_22 : decode cL_at 22 = .ok (.ireturn, 1) := by decide +kernel
theorem dL_area_0 : decode cL_area 0 = .ok (.aload 4, 2) := by decide +kernel
theorem dL_area_2 : decode cL_area 2 = .ok (.iconst 0, 1) := by decide +kernel
theorem dL_area_3 : decode cL_area 3 = .ok (.aload_n 0, 1) := by decide +kernel
theorem dL_area_4 : decode cL_area 4 = .ok (.iload_n 1, 1) := by decide +kernel
theorem dL_area_5 : decode cL_area 5 = .ok (.lload_n 2, 1) := by decide +kernel
theorem dL_area_6 : decode cL_area 6 = .ok (.invokevirtual 26, 3) := by decide +kernel
theorem dL_area_9 : decode cL_area 9 = .ok (.lastore, 1) := by decide +kernel
theorem dL_area_10 : decode cL_area 10 = .ok (.goto 7, 3) := by decide +kernel
theorem dL_area_13 : decode cL_area 13 = .ok (.astore 5, 2) := by decide +kernel
theorem dL_area_15 : decode cL_area 15 = .ok (.iconst 1, 1) := by decide +kernel
theorem dL_area_16 : decode cL_area 16 = .ok (.ireturn, 1) := by decide +kernel
theorem dL_area_17 : decode cL_area 17 = .ok (.iconst 0, 1) := by decide +kernel
theorem dL_area_18 : decode cL_area 18 = .ok (.ireturn, 1) := by decide +kernel
theorem dL_law_0 : decode cL_law 0 = .ok (.new 8, 3) := by decide +kernel
theorem dL_law_3 : decode cL_law 3 = .ok (.dup, 1) := by decide +kernel
theorem dL_law_4 : decode cL_law 4 = .ok (.invokespecial 32, 3) := by decide +kernel
theorem dL_law_7 : decode cL_law 7 = .ok (.astore_n 1, 1) := by decide +kernel
theorem dL_law_8 : decode cL_law 8 = .ok (.new 33, 3) := by decide +kernel
theorem dL_law_11 : decode cL_law 11 = .ok (.dup, 1) := by decide +kernel
theorem dL_law_12 : decode cL_law 12 = .ok (.invokespecial 35, 3) := by decide +kernel
theorem dL_law_15 : decode cL_law 15 = .ok (.astore_n 2, 1) := by decide +kernel
theorem dL_law_16 : decode cL_law 16 = .ok (.iconst 1, 1) := by decide +kernel
theorem dL_law_17 : decode cL_law 17 = .ok (.newarray .long, 2) := by decide +kernel
theorem dL_law_19 : decode cL_law 19 = .ok (.astore_n 3, 1) := by decide +kernel
theorem dL_law_20 : decode cL_law 20 = .ok (.iconst 0, 1) := by decide +kernel
theorem dL_law_21 : decode cL_law 21 = .ok (.istore 4, 2) := by decide +kernel
theorem dL_law_23 : decode cL_law 23 = .ok (.iload 4, 2) := by decide +kernel
theorem dL_law_25 : decode cL_law 25 = .ok (.aload_n 0, 1) := by decide +kernel
theorem dL_law_26 : decode cL_law 26 = .ok (.arraylength, 1) := by decide +kernel
theorem dL_law_27 : decode cL_law 27 = .ok (.bipush 7, 2) := by decide +kernel
theorem dL_law_29 : decode cL_law 29 = .ok (.isub, 1) := by decide +kernel
theorem dL_law_30 : decode cL_law 30 = .ok (.if_icmp .gt 1287, 3) := by decide +kernel
theorem dL_law_33 : decode cL_law 33 = .ok (.aload_n 0, 1) := by decide +kernel
theorem dL_law_34 : decode cL_law 34 = .ok (.iload 4, 2) := by decide +kernel
theorem dL_law_36 : decode cL_law 36 = .ok (.iaload, 1) := by decide +kernel

theorem dX0_init_0 : decode cX0_init 0 = .ok (.aload_n 0, 1) := by decide +kernel
theorem dX0_init_1 : decode cX0_init 1 = .ok (.invokespecial 3, 3) := by decide +kernel
theorem dX0_init_4 : decode cX0_init 4 = .ok (.aload_n 0, 1) := by decide +kernel
theorem dX0_init_5 : decode cX0_init 5 = .ok (.aload_n 1, 1) := by decide +kernel
theorem dX0_init_6 : decode cX0_init 6 = .ok (.putfield 9, 3) := by decide +kernel
theorem dX0_init_9 : decode cX0_init 9 = .ok (.return_, 1) := by decide +kernel
theorem dX0_betweenness_0 : decode cX0_betweenness 0 = .ok (.aload_n 0, 1) := by decide +kernel
theorem dX0_betweenness_1 : decode cX0_betweenness 1 = .ok (.getfield 9, 3) := by decide +kernel
theorem dX0_betweenness_4 : decode cX0_betweenness 4 = .ok (.iload_n 2, 1) := by decide +kernel
theorem dX0_betweenness_5 : decode cX0_betweenness 5 = .ok (.iload_n 1, 1) := by decide +kernel
theorem dX0_betweenness_6 : decode cX0_betweenness 6 = .ok (.invokevirtual 15, 3) := by decide +kernel
theorem dX0_betweenness_9 : decode cX0_betweenness 9 = .ok (.ifCond .ne 15, 3) := by decide +kernel
theorem dX0_betweenness_12 : decode cX0_betweenness 12 = .ok (.aload_n 0, 1) := by decide +kernel
theorem dX0_betweenness_13 : decode cX0_betweenness 13 = .ok (.getfield 9, 3) := by decide +kernel
theorem dX0_betweenness_16 : decode cX0_betweenness 16 = .ok (.iload_n 2, 1) := by decide +kernel
theorem dX0_betweenness_17 : decode cX0_betweenness 17 = .ok (.iload_n 3, 1) := by decide +kernel
theorem dX0_betweenness_18 : decode cX0_betweenness 18 = .ok (.invokevirtual 15, 3) := by decide +kernel
theorem dX0_betweenness_21 : decode cX0_betweenness 21 = .ok (.ifCond .eq 5, 3) := by decide +kernel
theorem dX0_betweenness_24 : decode cX0_betweenness 24 = .ok (.iconst 2, 1) := by decide +kernel
theorem dX0_betweenness_25 : decode cX0_betweenness 25 = .ok (.ireturn, 1) := by decide +kernel
theorem dX0_betweenness_26 : decode cX0_betweenness 26 = .ok (.aload_n 0, 1) := by decide +kernel
theorem dX0_betweenness_27 : decode cX0_betweenness 27 = .ok (.getfield 9, 3) := by decide +kernel
theorem dX0_betweenness_30 : decode cX0_betweenness 30 = .ok (.iload_n 1, 1) := by decide +kernel
theorem dX0_betweenness_31 : decode cX0_betweenness 31 = .ok (.iload_n 3, 1) := by decide +kernel
theorem dX0_betweenness_32 : decode cX0_betweenness 32 = .ok (.iload_n 2, 1) := by decide +kernel
theorem dX0_betweenness_33 : decode cX0_betweenness 33 = .ok (.invokevirtual 21, 3) := by decide +kernel
theorem dX0_betweenness_36 : decode cX0_betweenness 36 = .ok (.ifCond .eq 7, 3) := by decide +kernel
theorem dX0_betweenness_39 : decode cX0_betweenness 39 = .ok (.iconst 1, 1) := by decide +kernel
theorem dX0_betweenness_40 : decode cX0_betweenness 40 = .ok (.goto 4, 3) := by decide +kernel
theorem dX0_betweenness_43 : decode cX0_betweenness 43 = .ok (.iconst 0, 1) := by decide +kernel
theorem dX0_betweenness_44 : decode cX0_betweenness 44 = .ok (.ireturn, 1) := by decide +kernel
theorem dX0_withinAngle_0 : decode cX0_withinAngle 0 = .ok (.aload_n 0, 1) := by decide +kernel
theorem dX0_withinAngle_1 : decode cX0_withinAngle 1 = .ok (.getfield 9, 3) := by decide +kernel
theorem dX0_withinAngle_4 : decode cX0_withinAngle 4 = .ok (.iload_n 1, 1) := by decide +kernel
theorem dX0_withinAngle_5 : decode cX0_withinAngle 5 = .ok (.iload 4, 2) := by decide +kernel
theorem dX0_withinAngle_7 : decode cX0_withinAngle 7 = .ok (.invokevirtual 15, 3) := by decide +kernel
theorem dX0_withinAngle_10 : decode cX0_withinAngle 10 = .ok (.ifCond .ne 31, 3) := by decide +kernel
theorem dX0_withinAngle_13 : decode cX0_withinAngle 13 = .ok (.aload_n 0, 1) := by decide +kernel
theorem dX0_withinAngle_14 : decode cX0_withinAngle 14 = .ok (.getfield 9, 3) := by decide +kernel
theorem dX0_withinAngle_17 : decode cX0_withinAngle 17 = .ok (.iload_n 1, 1) := by decide +kernel
theorem dX0_withinAngle_18 : decode cX0_withinAngle 18 = .ok (.iload_n 2, 1) := by decide +kernel
theorem dX0_withinAngle_19 : decode cX0_withinAngle 19 = .ok (.iload 4, 2) := by decide +kernel
theorem dX0_withinAngle_21 : decode cX0_withinAngle 21 = .ok (.invokevirtual 25, 3) := by decide +kernel
theorem dX0_withinAngle_24 : decode cX0_withinAngle 24 = .ok (.ifCond .ne 17, 3) := by decide +kernel
theorem dX0_withinAngle_27 : decode cX0_withinAngle 27 = .ok (.aload_n 0, 1) := by decide +kernel
theorem dX0_withinAngle_28 : decode cX0_withinAngle 28 = .ok (.getfield 9, 3) := by decide +kernel
theorem dX0_withinAngle_31 : decode cX0_withinAngle 31 = .ok (.iload_n 1, 1) := by decide +kernel
theorem dX0_withinAngle_32 : decode cX0_withinAngle 32 = .ok (.iload_n 3, 1) := by decide +kernel
theorem dX0_withinAngle_33 : decode cX0_withinAngle 33 = .ok (.iload 4, 2) := by decide +kernel
theorem dX0_withinAngle_35 : decode cX0_withinAngle 35 = .ok (.invokevirtual 25, 3) := by decide +kernel
theorem dX0_withinAngle_38 : decode cX0_withinAngle 38 = .ok (.ifCond .eq 5, 3) := by decide +kernel
theorem dX0_withinAngle_41 : decode cX0_withinAngle 41 = .ok (.iconst 2, 1) := by decide +kernel
theorem dX0_withinAngle_42 : decode cX0_withinAngle 42 = .ok (.ireturn, 1) := by decide +kernel
theorem dX0_withinAngle_43 : decode cX0_withinAngle 43 = .ok (.aload_n 0, 1) := by decide +kernel
theorem dX0_withinAngle_44 : decode cX0_withinAngle 44 = .ok (.getfield 9, 3) := by decide +kernel
theorem dX0_withinAngle_47 : decode cX0_withinAngle 47 = .ok (.iload_n 1, 1) := by decide +kernel
theorem dX0_withinAngle_48 : decode cX0_withinAngle 48 = .ok (.iload_n 2, 1) := by decide +kernel
theorem dX0_withinAngle_49 : decode cX0_withinAngle 49 = .ok (.iload 4, 2) := by decide +kernel
theorem dX0_withinAngle_51 : decode cX0_withinAngle 51 = .ok (.invokevirtual 28, 3) := by decide +kernel
theorem dX0_withinAngle_54 : decode cX0_withinAngle 54 = .ok (.ifCond .le 7, 3) := by decide +kernel
theorem dX0_withinAngle_57 : decode cX0_withinAngle 57 = .ok (.iconst 1, 1) := by decide +kernel
theorem dX0_withinAngle_58 : decode cX0_withinAngle 58 = .ok (.goto 4, 3) := by decide +kernel
theorem dX0_withinAngle_61 : decode cX0_withinAngle 61 = .ok (.iconst 0, 1) := by decide +kernel
theorem dX0_withinAngle_62 : decode cX0_withinAngle 62 = .ok (.istore 5, 2) := by decide +kernel
theorem dX0_withinAngle_64 : decode cX0_withinAngle 64 = .ok (.aload_n 0, 1) := by decide +kernel
theorem dX0_withinAngle_65 : decode cX0_withinAngle 65 = .ok (.getfield 9, 3) := by decide +kernel
theorem dX0_withinAngle_68 : decode cX0_withinAngle 68 = .ok (.iload_n 1, 1) := by decide +kernel
theorem dX0_withinAngle_69 : decode cX0_withinAngle 69 = .ok (.iload_n 3, 1) := by decide +kernel
theorem dX0_withinAngle_70 : decode cX0_withinAngle 70 = .ok (.iload 4, 2) := by decide +kernel
theorem dX0_withinAngle_72 : decode cX0_withinAngle 72 = .ok (.invokevirtual 28, 3) := by decide +kernel
theorem dX0_withinAngle_75 : decode cX0_withinAngle 75 = .ok (.ifCond .ge 7, 3) := by decide +kernel
theorem dX0_withinAngle_78 : decode cX0_withinAngle 78 = .ok (.iconst 1, 1) := by decide +kernel
theorem dX0_withinAngle_79 : decode cX0_withinAngle 79 = .ok (.goto 4, 3) := by decide +kernel
theorem dX0_withinAngle_82 : decode cX0_withinAngle 82 = .ok (.iconst 0, 1) := by decide +kernel
theorem dX0_withinAngle_83 : decode cX0_withinAngle 83 = .ok (.istore 6, 2) := by decide +kernel
theorem dX0_withinAngle_85 : decode cX0_withinAngle 85 = .ok (.aload_n 0, 1) := by decide +kernel
theorem dX0_withinAngle_86 : decode cX0_withinAngle 86 = .ok (.getfield 9, 3) := by decide +kernel
theorem dX0_withinAngle_89 : decode cX0_withinAngle 89 = .ok (.iload_n 1, 1) := by decide +kernel
theorem dX0_withinAngle_90 : decode cX0_withinAngle 90 = .ok (.iload_n 2, 1) := by decide +kernel
theorem dX0_withinAngle_91 : decode cX0_withinAngle 91 = .ok (.iload_n 3, 1) := by decide +kernel
theorem dX0_withinAngle_92 : decode cX0_withinAngle 92 = .ok (.invokevirtual 28, 3) := by decide +kernel
theorem dX0_withinAngle_95 : decode cX0_withinAngle 95 = .ok (.ifCond .ge 7, 3) := by decide +kernel
theorem dX0_withinAngle_98 : decode cX0_withinAngle 98 = .ok (.iconst 1, 1) := by decide +kernel
theorem dX0_withinAngle_99 : decode cX0_withinAngle 99 = .ok (.goto 4, 3) := by decide +kernel
theorem dX0_withinAngle_102 : decode cX0_withinAngle 102 = .ok (.iconst 0, 1) := by decide +kernel
theorem dX0_withinAngle_103 : decode cX0_withinAngle 103 = .ok (.istore 7, 2) := by decide +kernel
theorem dX0_withinAngle_105 : decode cX0_withinAngle 105 = .ok (.iload 7, 2) := by decide +kernel
theorem dX0_withinAngle_107 : decode cX0_withinAngle 107 = .ok (.ifCond .eq 21, 3) := by decide +kernel
theorem dX0_withinAngle_110 : decode cX0_withinAngle 110 = .ok (.iload 5, 2) := by decide +kernel
theorem dX0_withinAngle_112 : decode cX0_withinAngle 112 = .ok (.ifCond .ne 8, 3) := by decide +kernel
theorem dX0_withinAngle_115 : decode cX0_withinAngle 115 = .ok (.iload 6, 2) := by decide +kernel
theorem dX0_withinAngle_117 : decode cX0_withinAngle 117 = .ok (.ifCond .eq 7, 3) := by decide +kernel
theorem dX0_withinAngle_120 : decode cX0_withinAngle 120 = .ok (.iconst 1, 1) := by decide +kernel
theorem dX0_withinAngle_121 : decode cX0_withinAngle 121 = .ok (.goto 22, 3) := by decide +kernel
theorem dX0_withinAngle_124 : decode cX0_withinAngle 124 = .ok (.iconst 0, 1) := by decide +kernel
theorem dX0_withinAngle_125 : decode cX0_withinAngle 125 = .ok (.goto 18, 3) := by decide +kernel
theorem dX0_withinAngle_128 : decode cX0_withinAngle 128 = .ok (.iload 5, 2) := by decide +kernel
theorem dX0_withinAngle_130 : decode cX0_withinAngle 130 = .ok (.ifCond .eq 12, 3) := by decide +kernel
theorem dX0_withinAngle_133 : decode cX0_withinAngle 133 = .ok (.iload 6, 2) := by decide +kernel
theorem dX0_withinAngle_135 : decode cX0_withinAngle 135 = .ok (.ifCond .eq 7, 3) := by decide +kernel
theorem dX0_withinAngle_138 : decode cX0_withinAngle 138 = .ok (.iconst 1, 1) := by decide +kernel
theorem dX0_withinAngle_139 : decode cX0_withinAngle 139 = .ok (.goto 4, 3) := by decide +kernel
theorem dX0_withinAngle_142 : decode cX0_withinAngle 142 = .ok (.iconst 0, 1) := by decide +kernel
theorem dX0_withinAngle_143 : decode cX0_withinAngle 143 = .ok (.istore 8, 2) := by decide +kernel
theorem dX0_withinAngle_145 : decode cX0_withinAngle 145 = .ok (.iload 8, 2) := by decide +kernel
theorem dX0_withinAngle_147 : decode cX0_withinAngle 147 = .ok (.ifCond .eq 7, 3) := by decide +kernel
theorem dX0_withinAngle_150 : decode cX0_withinAngle 150 = .ok (.iconst 1, 1) := by decide +kernel
theorem dX0_withinAngle_151 : decode cX0_withinAngle 151 = .ok (.goto 4, 3) := by decide +kernel
theorem dX0_withinAngle_154 : decode cX0_withinAngle 154 = .ok (.iconst 0, 1) := by decide +kernel
theorem dX0_withinAngle_155 : decode cX0_withinAngle 155 = .ok (.ireturn, 1) := by decide +kernel
theorem dX0_crossing_0 : decode cX0_crossing 0 = .ok (.aload_n 0, 1) := by decide +kernel
theorem dX0_crossing_1 : decode cX0_crossing 1 = .ok (.getfield 9, 3) := by decide +kernel
theorem dX0_crossing_4 : decode cX0_crossing 4 = .ok (.iload_n 1, 1) := by decide +kernel
theorem dX0_crossing_5 : decode cX0_crossing 5 = .ok (.iload_n 2, 1) := by decide +kernel
theorem dX0_crossing_6 : decode cX0_crossing 6 = .ok (.iload_n 3, 1) := by decide +kernel
theorem dX0_crossing_7 : decode cX0_crossing 7 = .ok (.invokevirtual 28, 3) := by decide +kernel
theorem dX0_crossing_10 : decode cX0_crossing 10 = .ok (.istore 5, 2) := by decide +kernel
theorem dX0_crossing_12 : decode cX0_crossing 12 = .ok (.aload_n 0, 1) := by decide +kernel
theorem dX0_crossing_13 : decode cX0_crossing 13 = .ok (.getfield 9, 3) := by decide +kernel
theorem dX0_crossing_16 : decode cX0_crossing 16 = .ok (.iload_n 1, 1) := by decide +kernel
theorem dX0_crossing_17 : decode cX0_crossing 17 = .ok (.iload_n 2, 1) := by decide +kernel
theorem dX0_crossing_18 : decode cX0_crossing 18 = .ok (.iload 4, 2) := by decide +kernel
theorem dX0_crossing_20 : decode cX0_crossing 20 = .ok (.invokevirtual 28, 3) := by decide +kernel
theorem dX0_crossing_23 : decode cX0_crossing 23 = .ok (.istore 6, 2) := by decide +kernel
theorem dX0_crossing_25 : decode cX0_crossing 25 = .ok (.aload_n 0, 1) := by decide +kernel
theorem dX0_crossing_26 : decode cX0_crossing 26 = .ok (.getfield 9, 3) := by decide +kernel
theorem dX0_crossing_29 : decode cX0_crossing 29 = .ok (.iload_n 3, 1) := by decide +kernel
theorem dX0_crossing_30 : decode cX0_crossing 30 = .ok (.iload 4, 2) := by decide +kernel
theorem dX0_crossing_32 : decode cX0_crossing 32 = .ok (.iload_n 1, 1) := by decide +kernel
theorem dX0_crossing_33 : decode cX0_crossing 33 = .ok (.invokevirtual 28, 3) := by decide +kernel
theorem dX0_crossing_36 : decode cX0_crossing 36 = .ok (.istore 7, 2) := by decide +kernel
theorem dX0_crossing_38 : decode cX0_crossing 38 = .ok (.aload_n 0, 1) := by decide +kernel
theorem dX0_crossing_39 : decode cX0_crossing 39 = .ok (.getfield 9, 3) := by decide +kernel
theorem dX0_crossing_42 : decode cX0_crossing 42 = .ok (.iload_n 3, 1) := by decide +kernel
theorem dX0_crossing_43 : decode cX0_crossing 43 = .ok (.iload 4, 2) := by decide +kernel
theorem dX0_crossing_45 : decode cX0_crossing 45 = .ok (.iload_n 2, 1) := by decide +kernel
theorem dX0_crossing_46 : decode cX0_crossing 46 = .ok (.invokevirtual 28, 3) := by decide +kernel
theorem dX0_crossing_49 : decode cX0_crossing 49 = .ok (.istore 8, 2) := by decide +kernel
theorem dX0_crossing_51 : decode cX0_crossing 51 = .ok (.iload 5, 2) := by decide +kernel
theorem dX0_crossing_53 : decode cX0_crossing 53 = .ok (.ifCond .ne 28, 3) := by decide +kernel
theorem dX0_crossing_56 : decode cX0_crossing 56 = .ok (.iload 6, 2) := by decide +kernel
theorem dX0_crossing_58 : decode cX0_crossing 58 = .ok (.ifCond .ne 23, 3) := by decide +kernel
theorem dX0_crossing_61 : decode cX0_crossing 61 = .ok (.iload 7, 2) := by decide +kernel
theorem dX0_crossing_63 : decode cX0_crossing 63 = .ok (.ifCond .ne 18, 3) := by decide +kernel
theorem dX0_crossing_66 : decode cX0_crossing 66 = .ok (.iload 8, 2) := by decide +kernel
theorem dX0_crossing_68 : decode cX0_crossing 68 = .ok (.ifCond .ne 13, 3) := by decide +kernel
theorem dX0_crossing_71 : decode cX0_crossing 71 = .ok (.aload_n 0, 1) := by decide +kernel
theorem dX0_crossing_72 : decode cX0_crossing 72 = .ok (.iload_n 1, 1) := by decide +kernel
theorem dX0_crossing_73 : decode cX0_crossing 73 = .ok (.iload_n 2, 1) := by decide +kernel
theorem dX0_crossing_74 : decode cX0_crossing 74 = .ok (.iload_n 3, 1) := by decide +kernel
theorem dX0_crossing_75 : decode cX0_crossing 75 = .ok (.iload 4, 2) := by decide +kernel
theorem dX0_crossing_77 : decode cX0_crossing 77 = .ok (.invokevirtual 32, 3) := by decide +kernel
theorem dX0_crossing_80 : decode cX0_crossing 80 = .ok (.ireturn, 1) := by decide +kernel
theorem dX0_crossing_81 : decode cX0_crossing 81 = .ok (.aload_n 0, 1) := by decide +kernel
theorem dX0_crossing_82 : decode cX0_crossing 82 = .ok (.getfield 9, 3) := by decide +kernel
theorem dX0_crossing_85 : decode cX0_crossing 85 = .ok (.iload_n 1, 1) := by decide +kernel
theorem dX0_crossing_86 : decode cX0_crossing 86 = .ok (.iload_n 2, 1) := by decide +kernel
theorem dX0_crossing_87 : decode cX0_crossing 87 = .ok (.iload_n 3, 1) := by decide +kernel
theorem dX0_crossing_88 : decode cX0_crossing 88 = .ok (.invokevirtual 21, 3) := by decide +kernel
theorem dX0_crossing_91 : decode cX0_crossing 91 = .ok (.ifCond .ne 45, 3) := by decide +kernel
theorem dX0_crossing_94 : decode cX0_crossing 94 = .ok (.aload_n 0, 1) := by decide +kernel
theorem dX0_crossing_95 : decode cX0_crossing 95 = .ok (.getfield 9, 3) := by decide +kernel
theorem dX0_crossing_98 : decode cX0_crossing 98 = .ok (.iload_n 1, 1) := by decide +kernel
theorem dX0_crossing_99 : decode cX0_crossing 99 = .ok (.iload_n 2, 1) := by decide +kernel
theorem dX0_crossing_100 : decode cX0_crossing 100 = .ok (.iload 4, 2) := by decide +kernel
theorem dX0_crossing_102 : decode cX0_crossing 102 = .ok (.invokevirtual 21, 3) := by decide +kernel
theorem dX0_crossing_105 : decode cX0_crossing 105 = .ok (.ifCond .ne 31, 3) := by decide +kernel
theorem dX0_crossing_108 : decode cX0_crossing 108 = .ok (.aload_n 0, 1) := by decide +kernel
theorem dX0_crossing_109 : decode cX0_crossing 109 = .ok (.getfield 9, 3) := by decide +kernel
theorem dX0_crossing_112 : decode cX0_crossing 112 = .ok (.iload_n 3, 1) := by decide +kernel
theorem dX0_crossing_113 : decode cX0_crossing 113 = .ok (.iload 4, 2) := by decide +kernel
theorem dX0_crossing_115 : decode cX0_crossing 115 = .ok (.iload_n 1, 1) := by decide +kernel
theorem dX0_crossing_116 : decode cX0_crossing 116 = .ok (.invokevirtual 21, 3) := by decide +kernel
theorem dX0_crossing_119 : decode cX0_crossing 119 = .ok (.ifCond .ne 17, 3) := by decide +kernel
theorem dX0_crossing_122 : decode cX0_crossing 122 = .ok (.aload_n 0, 1) := by decide +kernel
theorem dX0_crossing_123 : decode cX0_crossing 123 = .ok (.getfield 9, 3) := by decide +kernel
theorem dX0_crossing_126 : decode cX0_crossing 126 = .ok (.iload_n 3, 1) := by decide +kernel
theorem dX0_crossing_127 : decode cX0_crossing 127 = .ok (.iload 4, 2) := by decide +kernel
theorem dX0_crossing_129 : decode cX0_crossing 129 = .ok (.iload_n 2, 1) := by decide +kernel
theorem dX0_crossing_130 : decode cX0_crossing 130 = .ok (.invokevirtual 21, 3) := by decide +kernel
theorem dX0_crossing_133 : decode cX0_crossing 133 = .ok (.ifCond .eq 5, 3) := by decide +kernel
theorem dX0_crossing_136 : decode cX0_crossing 136 = .ok (.iconst 2, 1) := by decide +kernel
theorem dX0_crossing_137 : decode cX0_crossing 137 = .ok (.ireturn, 1) := by decide +kernel
theorem dX0_crossing_138 : decode cX0_crossing 138 = .ok (.iload 5, 2) := by decide +kernel
theorem dX0_crossing_140 : decode cX0_crossing 140 = .ok (.iload 6, 2) := by decide +kernel
theorem dX0_crossing_142 : decode cX0_crossing 142 = .ok (.imul, 1) := by decide +kernel
theorem dX0_crossing_143 : decode cX0_crossing 143 = .ok (.ifCond .ge 15, 3) := by decide +kernel
theorem dX0_crossing_146 : decode cX0_crossing 146 = .ok (.iload 7, 2) := by decide +kernel
theorem dX0_crossing_148 : decode cX0_crossing 148 = .ok (.iload 8, 2) := by decide +kernel
theorem dX0_crossing_150 : decode cX0_crossing 150 = .ok (.imul, 1) := by decide +kernel
theorem dX0_crossing_151 : decode cX0_crossing 151 = .ok (.ifCond .ge 7, 3) := by decide +kernel
theorem dX0_crossing_154 : decode cX0_crossing 154 = .ok (.iconst 1, 1) := by decide +kernel
theorem dX0_crossing_155 : decode cX0_crossing 155 = .ok (.goto 4, 3) := by decide +kernel
theorem dX0_crossing_158 : decode cX0_crossing 158 = .ok (.iconst 0, 1) := by decide +kernel
theorem dX0_crossing_159 : decode cX0_crossing 159 = .ok (.ireturn, 1) := by decide +kernel
theorem dX0_overlap_0 : decode cX0_overlap 0 = .ok (.aload_n 0, 1) := by decide +kernel
theorem dX0_overlap_1 : decode cX0_overlap 1 = .ok (.aload_n 0, 1) := by decide +kernel
theorem dX0_overlap_2 : decode cX0_overlap 2 = .ok (.iload_n 1, 1) := by decide +kernel
theorem dX0_overlap_3 : decode cX0_overlap 3 = .ok (.iload_n 2, 1) := by decide +kernel
theorem dX0_overlap_4 : decode cX0_overlap 4 = .ok (.invokevirtual 36, 3) := by decide +kernel
theorem dX0_overlap_7 : decode cX0_overlap 7 = .ok (.aload_n 0, 1) := by decide +kernel
theorem dX0_overlap_8 : decode cX0_overlap 8 = .ok (.iload_n 3, 1) := by decide +kernel
theorem dX0_overlap_9 : decode cX0_overlap 9 = .ok (.iload 4, 2) := by decide +kernel
theorem dX0_overlap_11 : decode cX0_overlap 11 = .ok (.invokevirtual 36, 3) := by decide +kernel
theorem dX0_overlap_14 : decode cX0_overlap 14 = .ok (.invokevirtual 40, 3) := by decide +kernel
theorem dX0_overlap_17 : decode cX0_overlap 17 = .ok (.istore 5, 2) := by decide +kernel
theorem dX0_overlap_19 : decode cX0_overlap 19 = .ok (.aload_n 0, 1) := by decide +kernel
theorem dX0_overlap_20 : decode cX0_overlap 20 = .ok (.aload_n 0, 1) := by decide +kernel
theorem dX0_overlap_21 : decode cX0_overlap 21 = .ok (.iload_n 1, 1) := by decide +kernel
theorem dX0_overlap_22 : decode cX0_overlap 22 = .ok (.iload_n 2, 1) := by decide +kernel
theorem dX0_overlap_23 : decode cX0_overlap 23 = .ok (.invokevirtual 40, 3) := by decide +kernel
theorem dX0_overlap_26 : decode cX0_overlap 26 = .ok (.aload_n 0, 1) := by decide +kernel
theorem dX0_overlap_27 : decode cX0_overlap 27 = .ok (.iload_n 3, 1) := by decide +kernel
theorem dX0_overlap_28 : decode cX0_overlap 28 = .ok (.iload 4, 2) := by decide +kernel
theorem dX0_overlap_30 : decode cX0_overlap 30 = .ok (.invokevirtual 40, 3) := by decide +kernel
theorem dX0_overlap_33 : decode cX0_overlap 33 = .ok (.invokevirtual 36, 3) := by decide +kernel
theorem dX0_overlap_36 : decode cX0_overlap 36 = .ok (.istore 6, 2) := by decide +kernel
theorem dX0_overlap_38 : decode cX0_overlap 38 = .ok (.aload_n 0, 1) := by decide +kernel
theorem dX0_overlap_39 : decode cX0_overlap 39 = .ok (.getfield 9, 3) := by decide +kernel
theorem dX0_overlap_42 : decode cX0_overlap 42 = .ok (.iload 5, 2) := by decide +kernel
theorem dX0_overlap_44 : decode cX0_overlap 44 = .ok (.iload 6, 2) := by decide +kernel
theorem dX0_overlap_46 : decode cX0_overlap 46 = .ok (.invokevirtual 43, 3) := by decide +kernel
theorem dX0_overlap_49 : decode cX0_overlap 49 = .ok (.istore 7, 2) := by decide +kernel
theorem dX0_overlap_51 : decode cX0_overlap 51 = .ok (.iload 7, 2) := by decide +kernel
theorem dX0_overlap_53 : decode cX0_overlap 53 = .ok (.ifCond .ne 5, 3) := by decide +kernel
theorem dX0_overlap_56 : decode cX0_overlap 56 = .ok (.iconst 2, 1) := by decide +kernel
theorem dX0_overlap_57 : decode cX0_overlap 57 = .ok (.ireturn, 1) := by decide +kernel
theorem dX0_overlap_58 : decode cX0_overlap 58 = .ok (.iload 7, 2) := by decide +kernel
theorem dX0_overlap_60 : decode cX0_overlap 60 = .ok (.ifCond .ge 7, 3) := by decide +kernel
theorem dX0_overlap_63 : decode cX0_overlap 63 = .ok (.iconst 3, 1) := by decide +kernel
theorem dX0_overlap_64 : decode cX0_overlap 64 = .ok (.goto 4, 3) := by decide +kernel
theorem dX0_overlap_67 : decode cX0_overlap 67 = .ok (.iconst 0, 1) := by decide +kernel
theorem dX0_overlap_68 : decode cX0_overlap 68 = .ok (.ireturn, 1) := by decide +kernel
theorem dX0_earlier_0 : decode cX0_earlier 0 = .ok (.aload_n 0, 1) := by decide +kernel
theorem dX0_earlier_1 : decode cX0_earlier 1 = .ok (.getfield 9, 3) := by decide +kernel
theorem dX0_earlier_4 : decode cX0_earlier 4 = .ok (.iload_n 1, 1) := by decide +kernel
theorem dX0_earlier_5 : decode cX0_earlier 5 = .ok (.iload_n 2, 1) := by decide +kernel
theorem dX0_earlier_6 : decode cX0_earlier 6 = .ok (.invokevirtual 43, 3) := by decide +kernel
theorem dX0_earlier_9 : decode cX0_earlier 9 = .ok (.ifCond .gt 7, 3) := by decide +kernel
theorem dX0_earlier_12 : decode cX0_earlier 12 = .ok (.iload_n 1, 1) := by decide +kernel
theorem dX0_earlier_13 : decode cX0_earlier 13 = .ok (.goto 4, 3) := by decide +kernel
theorem dX0_earlier_16 : decode cX0_earlier 16 = .ok (.iload_n 2, 1) := by decide +kernel
theorem dX0_earlier_17 : decode cX0_earlier 17 = .ok (.ireturn, 1) := by decide +kernel
theorem dX0_later_0 : decode cX0_later 0 = .ok (.aload_n 0, 1) := by decide +kernel
theorem dX0_later_1 : decode cX0_later 1 = .ok (.getfield 9, 3) := by decide +kernel
theorem dX0_later_4 : decode cX0_later 4 = .ok (.iload_n 1, 1) := by decide +kernel
theorem dX0_later_5 : decode cX0_later 5 = .ok (.iload_n 2, 1) := by decide +kernel
theorem dX0_later_6 : decode cX0_later 6 = .ok (.invokevirtual 43, 3) := by decide +kernel
theorem dX0_later_9 : decode cX0_later 9 = .ok (.ifCond .gt 7, 3) := by decide +kernel
theorem dX0_later_12 : decode cX0_later 12 = .ok (.iload_n 2, 1) := by decide +kernel
theorem dX0_later_13 : decode cX0_later 13 = .ok (.goto 4, 3) := by decide +kernel
theorem dX0_later_16 : decode cX0_later 16 = .ok (.iload_n 1, 1) := by decide +kernel
theorem dX0_later_17 : decode cX0_later 17 = .ok (.ireturn, 1) := by decide +kernel
theorem dX0_separation_0 : decode cX0_separation 0 = .ok (.aload_n 0, 1) := by decide +kernel
theorem dX0_separation_1 : decode cX0_separation 1 = .ok (.iload_n 1, 1) := by decide +kernel
theorem dX0_separation_2 : decode cX0_separation 2 = .ok (.iload_n 2, 1) := by decide +kernel
theorem dX0_separation_3 : decode cX0_separation 3 = .ok (.iload_n 3, 1) := by decide +kernel
theorem dX0_separation_4 : decode cX0_separation 4 = .ok (.iload 4, 2) := by decide +kernel
theorem dX0_separation_6 : decode cX0_separation 6 = .ok (.invokevirtual 46, 3) := by decide +kernel
theorem dX0_separation_9 : decode cX0_separation 9 = .ok (.ifCond .eq 6, 3) := by decide +kernel
theorem dX0_separation_12 : decode cX0_separation 12 = .ok (.bipush (-4), 2) := by decide +kernel
theorem dX0_separation_14 : decode cX0_separation 14 = .ok (.ireturn, 1) := by decide +kernel
theorem dX0_separation_15 : decode cX0_separation 15 = .ok (.aload_n 0, 1) := by decide +kernel
theorem dX0_separation_16 : decode cX0_separation 16 = .ok (.getfield 9, 3) := by decide +kernel
theorem dX0_separation_19 : decode cX0_separation 19 = .ok (.iload_n 1, 1) := by decide +kernel
theorem dX0_separation_20 : decode cX0_separation 20 = .ok (.iload_n 2, 1) := by decide +kernel
theorem dX0_separation_21 : decode cX0_separation 21 = .ok (.iload_n 3, 1) := by decide +kernel
theorem dX0_separation_22 : decode cX0_separation 22 = .ok (.invokevirtual 28, 3) := by decide +kernel
theorem dX0_separation_25 : decode cX0_separation 25 = .ok (.istore 5, 2) := by decide +kernel
theorem dX0_separation_27 : decode cX0_separation 27 = .ok (.aload_n 0, 1) := by decide +kernel
theorem dX0_separation_28 : decode cX0_separation 28 = .ok (.getfield 9, 3) := by decide +kernel
theorem dX0_separation_31 : decode cX0_separation 31 = .ok (.iload_n 1, 1) := by decide +kernel
theorem dX0_separation_32 : decode cX0_separation 32 = .ok (.iload_n 2, 1) := by decide +kernel
theorem dX0_separation_33 : decode cX0_separation 33 = .ok (.iload 4, 2) := by decide +kernel
theorem dX0_separation_35 : decode cX0_separation 35 = .ok (.invokevirtual 28, 3) := by decide +kernel
theorem dX0_separation_38 : decode cX0_separation 38 = .ok (.istore 6, 2) := by decide +kernel
theorem dX0_separation_40 : decode cX0_separation 40 = .ok (.iload 5, 2) := by decide +kernel
theorem dX0_separation_42 : decode cX0_separation 42 = .ok (.ifCond .ne 38, 3) := by decide +kernel
theorem dX0_separation_45 : decode cX0_separation 45 = .ok (.iload 6, 2) := by decide +kernel
theorem dX0_separation_47 : decode cX0_separation 47 = .ok (.ifCond .ne 33, 3) := by decide +kernel
theorem dX0_separation_50 : decode cX0_separation 50 = .ok (.aload_n 0, 1) := by decide +kernel
theorem dX0_separation_51 : decode cX0_separation 51 = .ok (.getfield 9, 3) := by decide +kernel
theorem dX0_separation_54 : decode cX0_separation 54 = .ok (.iload_n 1, 1) := by decide +kernel
theorem dX0_separation_55 : decode cX0_separation 55 = .ok (.iload_n 2, 1) := by decide +kernel
theorem dX0_separation_56 : decode cX0_separation 56 = .ok (.iload_n 3, 1) := by decide +kernel
theorem dX0_separation_57 : decode cX0_separation 57 = .ok (.invokevirtual 21, 3) := by decide +kernel
theorem dX0_separation_60 : decode cX0_separation 60 = .ok (.aload_n 0, 1) := by decide +kernel
theorem dX0_separation_61 : decode cX0_separation 61 = .ok (.getfield 9, 3) := by decide +kernel
theorem dX0_separation_64 : decode cX0_separation 64 = .ok (.iload_n 1, 1) := by decide +kernel
theorem dX0_separation_65 : decode cX0_separation 65 = .ok (.iload_n 2, 1) := by decide +kernel
theorem dX0_separation_66 : decode cX0_separation 66 = .ok (.iload 4, 2) := by decide +kernel
theorem dX0_separation_68 : decode cX0_separation 68 = .ok (.invokevirtual 21, 3) := by decide +kernel
theorem dX0_separation_71 : decode cX0_separation 71 = .ok (.if_icmp .eq 7, 3) := by decide +kernel
theorem dX0_separation_74 : decode cX0_separation 74 = .ok (.iconst 1, 1) := by decide +kernel
theorem dX0_separation_75 : decode cX0_separation 75 = .ok (.goto 4, 3) := by decide +kernel
theorem dX0_separation_78 : decode cX0_separation 78 = .ok (.iconst 0, 1) := by decide +kernel
theorem dX0_separation_79 : decode cX0_separation 79 = .ok (.ireturn, 1) := by decide +kernel
theorem dX0_separation_80 : decode cX0_separation 80 = .ok (.iload 5, 2) := by decide +kernel
theorem dX0_separation_82 : decode cX0_separation 82 = .ok (.ifCond .eq 18, 3) := by decide +kernel
theorem dX0_separation_85 : decode cX0_separation 85 = .ok (.aload_n 0, 1) := by decide +kernel
theorem dX0_separation_86 : decode cX0_separation 86 = .ok (.getfield 9, 3) := by decide +kernel
theorem dX0_separation_89 : decode cX0_separation 89 = .ok (.iload_n 1, 1) := by decide +kernel
theorem dX0_separation_90 : decode cX0_separation 90 = .ok (.iload_n 2, 1) := by decide +kernel
theorem dX0_separation_91 : decode cX0_separation 91 = .ok (.iload_n 3, 1) := by decide +kernel
theorem dX0_separation_92 : decode cX0_separation 92 = .ok (.iload 4, 2) := by decide +kernel
theorem dX0_separation_94 : decode cX0_separation 94 = .ok (.invokevirtual 50, 3) := by decide +kernel
theorem dX0_separation_97 : decode cX0_separation 97 = .ok (.ifCond .eq 6, 3) := by decide +kernel
theorem dX0_separation_100 : decode cX0_separation 100 = .ok (.bipush (-4), 2) := by decide +kernel
theorem dX0_separation_102 : decode cX0_separation 102 = .ok (.ireturn, 1) := by decide +kernel
theorem dX0_separation_103 : decode cX0_separation 103 = .ok (.iload 5, 2) := by decide +kernel
theorem dX0_separation_105 : decode cX0_separation 105 = .ok (.iload 6, 2) := by decide +kernel
theorem dX0_separation_107 : decode cX0_separation 107 = .ok (.if_icmp .eq 7, 3) := by decide +kernel
theorem dX0_separation_110 : decode cX0_separation 110 = .ok (.iconst 1, 1) := by decide +kernel
theorem dX0_separation_111 : decode cX0_separation 111 = .ok (.goto 4, 3) := by decide +kernel
theorem dX0_separation_114 : decode cX0_separation 114 = .ok (.iconst 0, 1) := by decide +kernel
theorem dX0_separation_115 : decode cX0_separation 115 = .ok (.ireturn, 1) := by decide +kernel
theorem dX0_anyEqual_0 : decode cX0_anyEqual 0 = .ok (.aload_n 0, 1) := by decide +kernel
theorem dX0_anyEqual_1 : decode cX0_anyEqual 1 = .ok (.getfield 9, 3) := by decide +kernel
theorem dX0_anyEqual_4 : decode cX0_anyEqual 4 = .ok (.iload_n 1, 1) := by decide +kernel
theorem dX0_anyEqual_5 : decode cX0_anyEqual 5 = .ok (.iload_n 2, 1) := by decide +kernel
theorem dX0_anyEqual_6 : decode cX0_anyEqual 6 = .ok (.invokevirtual 15, 3) := by decide +kernel
theorem dX0_anyEqual_9 : decode cX0_anyEqual 9 = .ok (.ifCond .ne 66, 3) := by decide +kernel
theorem dX0_anyEqual_12 : decode cX0_anyEqual 12 = .ok (.aload_n 0, 1) := by decide +kernel
theorem dX0_anyEqual_13 : decode cX0_anyEqual 13 = .ok (.getfield 9, 3) := by decide +kernel
theorem dX0_anyEqual_16 : decode cX0_anyEqual 16 = .ok (.iload_n 1, 1) := by decide +kernel
theorem dX0_anyEqual_17 : decode cX0_anyEqual 17 = .ok (.iload_n 3, 1) := by decide +kernel
theorem dX0_anyEqual_18 : decode cX0_anyEqual 18 = .ok (.invokevirtual 15, 3) := by decide +kernel
theorem dX0_anyEqual_21 : decode cX0_anyEqual 21 = .ok (.ifCond .ne 54, 3) := by decide +kernel
theorem dX0_anyEqual_24 : decode cX0_anyEqual 24 = .ok (.aload_n 0, 1) := by decide +kernel
theorem dX0_anyEqual_25 : decode cX0_anyEqual 25 = .ok (.getfield 9, 3) := by decide +kernel
theorem dX0_anyEqual_28 : decode cX0_anyEqual 28 = .ok (.iload_n 1, 1) := by decide +kernel
theorem dX0_anyEqual_29 : decode cX0_anyEqual 29 = .ok (.iload 4, 2) := by decide +kernel
theorem dX0_anyEqual_31 : decode cX0_anyEqual 31 = .ok (.invokevirtual 15, 3) := by decide +kernel
theorem dX0_anyEqual_34 : decode cX0_anyEqual 34 = .ok (.ifCond .ne 41, 3) := by decide +kernel
theorem dX0_anyEqual_37 : decode cX0_anyEqual 37 = .ok (.aload_n 0, 1) := by decide +kernel
theorem dX0_anyEqual_38 : decode cX0_anyEqual 38 = .ok (.getfield 9, 3) := by decide +kernel
theorem dX0_anyEqual_41 : decode cX0_anyEqual 41 = .ok (.iload_n 2, 1) := by decide +kernel
theorem dX0_anyEqual_42 : decode cX0_anyEqual 42 = .ok (.iload_n 3, 1) := by decide +kernel
theorem dX0_anyEqual_43 : decode cX0_anyEqual 43 = .ok (.invokevirtual 15, 3) := by decide +kernel
theorem dX0_anyEqual_46 : decode cX0_anyEqual 46 = .ok (.ifCond .ne 29, 3) := by decide +kernel
theorem dX0_anyEqual_49 : decode cX0_anyEqual 49 = .ok (.aload_n 0, 1) := by decide +kernel
theorem dX0_anyEqual_50 : decode cX0_anyEqual 50 = .ok (.getfield 9, 3) := by decide +kernel
theorem dX0_anyEqual_53 : decode cX0_anyEqual 53 = .ok (.iload_n 2, 1) := by decide +kernel
theorem dX0_anyEqual_54 : decode cX0_anyEqual 54 = .ok (.iload 4, 2) := by decide +kernel
theorem dX0_anyEqual_56 : decode cX0_anyEqual 56 = .ok (.invokevirtual 15, 3) := by decide +kernel
theorem dX0_anyEqual_59 : decode cX0_anyEqual 59 = .ok (.ifCond .ne 16, 3) := by decide +kernel
theorem dX0_anyEqual_62 : decode cX0_anyEqual 62 = .ok (.aload_n 0, 1) := by decide +kernel
theorem dX0_anyEqual_63 : decode cX0_anyEqual 63 = .ok (.getfield 9, 3) := by decide +kernel
theorem dX0_anyEqual_66 : decode cX0_anyEqual 66 = .ok (.iload_n 3, 1) := by decide +kernel
theorem dX0_anyEqual_67 : decode cX0_anyEqual 67 = .ok (.iload 4, 2) := by decide +kernel
theorem dX0_anyEqual_69 : decode cX0_anyEqual 69 = .ok (.invokevirtual 15, 3) := by decide +kernel
theorem dX0_anyEqual_72 : decode cX0_anyEqual 72 = .ok (.ifCond .eq 7, 3) := by decide +kernel
theorem dX0_anyEqual_75 : decode cX0_anyEqual 75 = .ok (.iconst 1, 1) := by decide +kernel
theorem dX0_anyEqual_76 : decode cX0_anyEqual 76 = .ok (.goto 4, 3) := by decide +kernel
theorem dX0_anyEqual_79 : decode cX0_anyEqual 79 = .ok (.iconst 0, 1) := by decide +kernel
theorem dX0_anyEqual_80 : decode cX0_anyEqual 80 = .ok (.ireturn, 1) := by decide +kernel
theorem dX1_init_0 : decode cX1_init 0 = .ok (.aload_n 0, 1) := by decide +kernel
theorem dX1_init_1 : decode cX1_init 1 = .ok (.invokespecial 3, 3) := by decide +kernel
theorem dX1_init_4 : decode cX1_init 4 = .ok (.aload_n 0, 1) := by decide +kernel
theorem dX1_init_5 : decode cX1_init 5 = .ok (.bipush 12, 2) := by decide +kernel
theorem dX1_init_7 : decode cX1_init 7 = .ok (.newarray .long, 2) := by decide +kernel
theorem dX1_init_9 : decode cX1_init 9 = .ok (.putfield 9, 3) := by decide +kernel
theorem dX1_init_12 : decode cX1_init 12 = .ok (.aload_n 0, 1) := by decide +kernel
theorem dX1_init_13 : decode cX1_init 13 = .ok (.bipush 12, 2) := by decide +kernel
theorem dX1_init_15 : decode cX1_init 15 = .ok (.newarray .long, 2) := by decide +kernel
theorem dX1_init_17 : decode cX1_init 17 = .ok (.putfield 15, 3) := by decide +kernel
theorem dX1_init_20 : decode cX1_init 20 = .ok (.aload_n 0, 1) := by decide +kernel
theorem dX1_init_21 : decode cX1_init 21 = .ok (.bipush 12, 2) := by decide +kernel
theorem dX1_init_23 : decode cX1_init 23 = .ok (.newarray .long, 2) := by decide +kernel
theorem dX1_init_25 : decode cX1_init 25 = .ok (.putfield 18, 3) := by decide +kernel
theorem dX1_init_28 : decode cX1_init 28 = .ok (.aload_n 0, 1) := by decide +kernel
theorem dX1_init_29 : decode cX1_init 29 = .ok (.iconst 0, 1) := by decide +kernel
theorem dX1_init_30 : decode cX1_init 30 = .ok (.putfield 21, 3) := by decide +kernel
theorem dX1_init_33 : decode cX1_init 33 = .ok (.aload_n 0, 1) := by decide +kernel
theorem dX1_init_34 : decode cX1_init 34 = .ok (.bipush 12, 2) := by decide +kernel
theorem dX1_init_36 : decode cX1_init 36 = .ok (.newarray .int, 2) := by decide +kernel
theorem dX1_init_38 : decode cX1_init 38 = .ok (.putfield 25, 3) := by decide +kernel
theorem dX1_init_41 : decode cX1_init 41 = .ok (.aload_n 0, 1) := by decide +kernel
theorem dX1_init_42 : decode cX1_init 42 = .ok (.iconst 0, 1) := by decide +kernel
theorem dX1_init_43 : decode cX1_init 43 = .ok (.putfield 29, 3) := by decide +kernel
theorem dX1_init_46 : decode cX1_init 46 = .ok (.aload_n 0, 1) := by decide +kernel
theorem dX1_init_47 : decode cX1_init 47 = .ok (.iconst 0, 1) := by decide +kernel
theorem dX1_init_48 : decode cX1_init 48 = .ok (.putfield 32, 3) := by decide +kernel
theorem dX1_init_51 : decode cX1_init 51 = .ok (.aload_n 0, 1) := by decide +kernel
theorem dX1_init_52 : decode cX1_init 52 = .ok (.iconst 0, 1) := by decide +kernel
theorem dX1_init_53 : decode cX1_init 53 = .ok (.putfield 35, 3) := by decide +kernel
theorem dX1_init_56 : decode cX1_init 56 = .ok (.aload_n 0, 1) := by decide +kernel
theorem dX1_init_57 : decode cX1_init 57 = .ok (.iconst 0, 1) := by decide +kernel
theorem dX1_init_58 : decode cX1_init 58 = .ok (.putfield 38, 3) := by decide +kernel
theorem dX1_init_61 : decode cX1_init 61 = .ok (.aload_n 0, 1) := by decide +kernel
theorem dX1_init_62 : decode cX1_init 62 = .ok (.aload_n 1, 1) := by decide +kernel
theorem dX1_init_63 : decode cX1_init 63 = .ok (.putfield 41, 3) := by decide +kernel
theorem dX1_init_66 : decode cX1_init 66 = .ok (.return_, 1) := by decide +kernel
theorem dX1_add_0 : decode cX1_add 0 = .ok (.aload_n 0, 1) := by decide +kernel
theorem dX1_add_1 : decode cX1_add 1 = .ok (.getfield 21, 3) := by decide +kernel
theorem dX1_add_4 : decode cX1_add 4 = .ok (.bipush 12, 2) := by decide +kernel
theorem dX1_add_6 : decode cX1_add 6 = .ok (.if_icmp .lt 6, 3) := by decide +kernel
theorem dX1_add_9 : decode cX1_add 9 = .ok (.bipush (-3), 2) := by decide +kernel
theorem dX1_add_11 : decode cX1_add 11 = .ok (.ireturn, 1) := by decide +kernel
theorem dX1_add_12 : decode cX1_add 12 = .ok (.aload_n 0, 1) := by decide +kernel
theorem dX1_add_13 : decode cX1_add 13 = .ok (.getfield 9, 3) := by decide +kernel
theorem dX1_add_16 : decode cX1_add 16 = .ok (.aload_n 0, 1) := by decide +kernel
theorem dX1_add_17 : decode cX1_add 17 = .ok (.getfield 21, 3) := by decide +kernel
theorem dX1_add_20 : decode cX1_add 20 = .ok (.aload_n 0, 1) := by decide +kernel
theorem dX1_add_21 : decode cX1_add 21 = .ok (.getfield 41, 3) := by decide +kernel
theorem dX1_add_24 : decode cX1_add 24 = .ok (.getfield 45, 3) := by decide +kernel
theorem dX1_add_27 : decode cX1_add 27 = .ok (.iload_n 2, 1) := by decide +kernel
theorem dX1_add_28 : decode cX1_add 28 = .ok (.iaload, 1) := by decide +kernel
theorem dX1_add_29 : decode cX1_add 29 = .ok (.aload_n 0, 1) := by decide +kernel
theorem dX1_add_30 : decode cX1_add 30 = .ok (.getfield 41, 3) := by decide +kernel
theorem dX1_add_33 : decode cX1_add 33 = .ok (.getfield 45, 3) := by decide +kernel
theorem dX1_add_36 : decode cX1_add 36 = .ok (.iload_n 1, 1) := by decide +kernel
theorem dX1_add_37 : decode cX1_add 37 = .ok (.iaload, 1) := by decide +kernel
theorem dX1_add_38 : decode cX1_add 38 = .ok (.isub, 1) := by decide +kernel
theorem dX1_add_39 : decode cX1_add 39 = .ok (.i2l, 1) := by decide +kernel
theorem dX1_add_40 : decode cX1_add 40 = .ok (.lastore, 1) := by decide +kernel
theorem dX1_add_41 : decode cX1_add 41 = .ok (.aload_n 0, 1) := by decide +kernel
theorem dX1_add_42 : decode cX1_add 42 = .ok (.getfield 15, 3) := by decide +kernel
theorem dX1_add_45 : decode cX1_add 45 = .ok (.aload_n 0, 1) := by decide +kernel
theorem dX1_add_46 : decode cX1_add 46 = .ok (.getfield 21, 3) := by decide +kernel
theorem dX1_add_49 : decode cX1_add 49 = .ok (.aload_n 0, 1) := by decide +kernel
theorem dX1_add_50 : decode cX1_add 50 = .ok (.getfield 41, 3) := by decide +kernel
theorem dX1_add_53 : decode cX1_add 53 = .ok (.getfield 50, 3) := by decide +kernel
theorem dX1_add_56 : decode cX1_add 56 = .ok (.iload_n 1, 1) := by decide +kernel
theorem dX1_add_57 : decode cX1_add 57 = .ok (.iaload, 1) := by decide +kernel
theorem dX1_add_58 : decode cX1_add 58 = .ok (.aload_n 0, 1) := by decide +kernel
theorem dX1_add_59 : decode cX1_add 59 = .ok (.getfield 41, 3) := by decide +kernel
theorem dX1_add_62 : decode cX1_add 62 = .ok (.getfield 50, 3) := by decide +kernel
theorem dX1_add_65 : decode cX1_add 65 = .ok (.iload_n 2, 1) := by decide +kernel
theorem dX1_add_66 : decode cX1_add 66 = .ok (.iaload, 1) := by decide +kernel
theorem dX1_add_67 : decode cX1_add 67 = .ok (.isub, 1) := by decide +kernel
theorem dX1_add_68 : decode cX1_add 68 = .ok (.i2l, 1) := by decide +kernel
theorem dX1_add_69 : decode cX1_add 69 = .ok (.lastore, 1) := by decide +kernel
theorem dX1_add_70 : decode cX1_add 70 = .ok (.aload_n 0, 1) := by decide +kernel
theorem dX1_add_71 : decode cX1_add 71 = .ok (.getfield 18, 3) := by decide +kernel
theorem dX1_add_74 : decode cX1_add 74 = .ok (.aload_n 0, 1) := by decide +kernel
theorem dX1_add_75 : decode cX1_add 75 = .ok (.getfield 21, 3) := by decide +kernel
theorem dX1_add_78 : decode cX1_add 78 = .ok (.aload_n 0, 1) := by decide +kernel
theorem dX1_add_79 : decode cX1_add 79 = .ok (.getfield 9, 3) := by decide +kernel
theorem dX1_add_82 : decode cX1_add 82 = .ok (.aload_n 0, 1) := by decide +kernel
theorem dX1_add_83 : decode cX1_add 83 = .ok (.getfield 21, 3) := by decide +kernel
theorem dX1_add_86 : decode cX1_add 86 = .ok (.laload, 1) := by decide +kernel
theorem dX1_add_87 : decode cX1_add 87 = .ok (.aload_n 0, 1) := by decide +kernel
theorem dX1_add_88 : decode cX1_add 88 = .ok (.getfield 41, 3) := by decide +kernel
theorem dX1_add_91 : decode cX1_add 91 = .ok (.getfield 50, 3) := by decide +kernel
theorem dX1_add_94 : decode cX1_add 94 = .ok (.iload_n 1, 1) := by decide +kernel
theorem dX1_add_95 : decode cX1_add 95 = .ok (.iaload, 1) := by decide +kernel
theorem dX1_add_96 : decode cX1_add 96 = .ok (.i2l, 1) := by decide +kernel
theorem dX1_add_97 : decode cX1_add 97 = .ok (.lmul, 1) := by decide +kernel
theorem dX1_add_98 : decode cX1_add 98 = .ok (.aload_n 0, 1) := by decide +kernel
theorem dX1_add_99 : decode cX1_add 99 = .ok (.getfield 15, 3) := by decide +kernel
theorem dX1_add_102 : decode cX1_add 102 = .ok (.aload_n 0, 1) := by decide +kernel
theorem dX1_add_103 : decode cX1_add 103 = .ok (.getfield 21, 3) := by decide +kernel
theorem dX1_add_106 : decode cX1_add 106 = .ok (.laload, 1) := by decide +kernel
theorem dX1_add_107 : decode cX1_add 107 = .ok (.aload_n 0, 1) := by decide +kernel
theorem dX1_add_108 : decode cX1_add 108 = .ok (.getfield 41, 3) := by decide +kernel
theorem dX1_add_111 : decode cX1_add 111 = .ok (.getfield 45, 3) := by decide +kernel
theorem dX1_add_114 : decode cX1_add 114 = .ok (.iload_n 1, 1) := by decide +kernel
theorem dX1_add_115 : decode cX1_add 115 = .ok (.iaload, 1) := by decide +kernel
theorem dX1_add_116 : decode cX1_add 116 = .ok (.i2l, 1) := by decide +kernel
theorem dX1_add_117 : decode cX1_add 117 = .ok (.lmul, 1) := by decide +kernel
theorem dX1_add_118 : decode cX1_add 118 = .ok (.ladd, 1) := by decide +kernel
theorem dX1_add_119 : decode cX1_add 119 = .ok (.lastore, 1) := by decide +kernel
theorem dX1_add_120 : decode cX1_add 120 = .ok (.aload_n 0, 1) := by decide +kernel
theorem dX1_add_121 : decode cX1_add 121 = .ok (.dup, 1) := by decide +kernel
theorem dX1_add_122 : decode cX1_add 122 = .ok (.getfield 21, 3) := by decide +kernel
theorem dX1_add_125 : decode cX1_add 125 = .ok (.iconst 1, 1) := by decide +kernel
theorem dX1_add_126 : decode cX1_add 126 = .ok (.iadd, 1) := by decide +kernel
theorem dX1_add_127 : decode cX1_add 127 = .ok (.putfield 21, 3) := by decide +kernel
theorem dX1_add_130 : decode cX1_add 130 = .ok (.aload_n 0, 1) := by decide +kernel
theorem dX1_add_131 : decode cX1_add 131 = .ok (.getfield 21, 3) := by decide +kernel
theorem dX1_add_134 : decode cX1_add 134 = .ok (.iconst 1, 1) := by decide +kernel
theorem dX1_add_135 : decode cX1_add 135 = .ok (.isub, 1) := by decide +kernel
theorem dX1_add_136 : decode cX1_add 136 = .ok (.ireturn, 1) := by decide +kernel
theorem dX1_survey_0 : decode cX1_survey 0 = .ok (.aload_n 0, 1) := by decide +kernel
theorem dX1_survey_1 : decode cX1_survey 1 = .ok (.iload_n 1, 1) := by decide +kernel
theorem dX1_survey_2 : decode cX1_survey 2 = .ok (.invokevirtual 53, 3) := by decide +kernel
theorem dX1_survey_5 : decode cX1_survey 5 = .ok (.aload_n 0, 1) := by decide +kernel
theorem dX1_survey_6 : decode cX1_survey 6 = .ok (.iconst 0, 1) := by decide +kernel
theorem dX1_survey_7 : decode cX1_survey 7 = .ok (.putfield 32, 3) := by decide +kernel
theorem dX1_survey_10 : decode cX1_survey 10 = .ok (.aload_n 0, 1) := by decide +kernel
theorem dX1_survey_11 : decode cX1_survey 11 = .ok (.iconst 0, 1) := by decide +kernel
theorem dX1_survey_12 : decode cX1_survey 12 = .ok (.putfield 35, 3) := by decide +kernel
theorem dX1_survey_15 : decode cX1_survey 15 = .ok (.aload_n 0, 1) := by decide +kernel
theorem dX1_survey_16 : decode cX1_survey 16 = .ok (.iconst 0, 1) := by decide +kernel
theorem dX1_survey_17 : decode cX1_survey 17 = .ok (.putfield 38, 3) := by decide +kernel
theorem dX1_survey_20 : decode cX1_survey 20 = .ok (.iconst 0, 1) := by decide +kernel
theorem dX1_survey_21 : decode cX1_survey 21 = .ok (.istore_n 2, 1) := by decide +kernel
theorem dX1_survey_22 : decode cX1_survey 22 = .ok (.iload_n 2, 1) := by decide +kernel
theorem dX1_survey_23 : decode cX1_survey 23 = .ok (.aload_n 0, 1) := by decide +kernel
theorem dX1_survey_24 : decode cX1_survey 24 = .ok (.getfield 29, 3) := by decide +kernel
theorem dX1_survey_27 : decode cX1_survey 27 = .ok (.if_icmp .ge 74, 3) := by decide +kernel
theorem dX1_survey_30 : decode cX1_survey 30 = .ok (.iload_n 2, 1) := by decide +kernel
theorem dX1_survey_31 : decode cX1_survey 31 = .ok (.iconst 1, 1) := by decide +kernel
theorem dX1_survey_32 : decode cX1_survey 32 = .ok (.iadd, 1) := by decide +kernel
theorem dX1_survey_33 : decode cX1_survey 33 = .ok (.istore_n 3, 1) := by decide +kernel
theorem dX1_survey_34 : decode cX1_survey 34 = .ok (.iload_n 3, 1) := by decide +kernel
theorem dX1_survey_35 : decode cX1_survey 35 = .ok (.aload_n 0, 1) := by decide +kernel
theorem dX1_survey_36 : decode cX1_survey 36 = .ok (.getfield 29, 3) := by decide +kernel
theorem dX1_survey_39 : decode cX1_survey 39 = .ok (.if_icmp .ge 56, 3) := by decide +kernel
theorem dX1_survey_42 : decode cX1_survey 42 = .ok (.aload_n 0, 1) := by decide +kernel
theorem dX1_survey_43 : decode cX1_survey 43 = .ok (.iload_n 2, 1) := by decide +kernel
theorem dX1_survey_44 : decode cX1_survey 44 = .ok (.iload_n 3, 1) := by decide +kernel
theorem dX1_survey_45 : decode cX1_survey 45 = .ok (.invokevirtual 57, 3) := by decide +kernel
theorem dX1_survey_48 : decode cX1_survey 48 = .ok (.istore 4, 2) := by decide +kernel
theorem dX1_survey_50 : decode cX1_survey 50 = .ok (.iload 4, 2) := by decide +kernel
theorem dX1_survey_52 : decode cX1_survey 52 = .ok (.ifCond .le 37, 3) := by decide +kernel
theorem dX1_survey_55 : decode cX1_survey 55 = .ok (.aload_n 0, 1) := by decide +kernel
theorem dX1_survey_56 : decode cX1_survey 56 = .ok (.dup, 1) := by decide +kernel
theorem dX1_survey_57 : decode cX1_survey 57 = .ok (.getfield 32, 3) := by decide +kernel
theorem dX1_survey_60 : decode cX1_survey 60 = .ok (.iconst 1, 1) := by decide +kernel
theorem dX1_survey_61 : decode cX1_survey 61 = .ok (.iadd, 1) := by decide +kernel
theorem dX1_survey_62 : decode cX1_survey 62 = .ok (.putfield 32, 3) := by decide +kernel
theorem dX1_survey_65 : decode cX1_survey 65 = .ok (.aload_n 0, 1) := by decide +kernel
theorem dX1_survey_66 : decode cX1_survey 66 = .ok (.dup, 1) := by decide +kernel
theorem dX1_survey_67 : decode cX1_survey 67 = .ok (.getfield 38, 3) := by decide +kernel
theorem dX1_survey_70 : decode cX1_survey 70 = .ok (.iload 4, 2) := by decide +kernel
theorem dX1_survey_72 : decode cX1_survey 72 = .ok (.iadd, 1) := by decide +kernel
theorem dX1_survey_73 : decode cX1_survey 73 = .ok (.putfield 38, 3) := by decide +kernel
theorem dX1_survey_76 : decode cX1_survey 76 = .ok (.aload_n 0, 1) := by decide +kernel
theorem dX1_survey_77 : decode cX1_survey 77 = .ok (.aload_n 0, 1) := by decide +kernel
theorem dX1_survey_78 : decode cX1_survey 78 = .ok (.getfield 35, 3) := by decide +kernel
theorem dX1_survey_81 : decode cX1_survey 81 = .ok (.iload 4, 2) := by decide +kernel
theorem dX1_survey_83 : decode cX1_survey 83 = .ok (.invokestatic 61, 3) := by decide +kernel
theorem dX1_survey_86 : decode cX1_survey 86 = .ok (.putfield 35, 3) := by decide +kernel
theorem dX1_survey_89 : decode cX1_survey 89 = .ok (.iinc 3 1, 3) := by decide +kernel
theorem dX1_survey_92 : decode cX1_survey 92 = .ok (.goto (-58), 3) := by decide +kernel
theorem dX1_survey_95 : decode cX1_survey 95 = .ok (.iinc 2 1, 3) := by decide +kernel
theorem dX1_survey_98 : decode cX1_survey 98 = .ok (.goto (-76), 3) := by decide +kernel
theorem dX1_survey_101 : decode cX1_survey 101 = .ok (.return_, 1) := by decide +kernel
theorem dX1_cells_0 : decode cX1_cells 0 = .ok (.iconst 1, 1) := by decide +kernel
theorem dX1_cells_1 : decode cX1_cells 1 = .ok (.aload_n 0, 1) := by decide +kernel
theorem dX1_cells_2 : decode cX1_cells 2 = .ok (.getfield 29, 3) := by decide +kernel
theorem dX1_cells_5 : decode cX1_cells 5 = .ok (.iadd, 1) := by decide +kernel
theorem dX1_cells_6 : decode cX1_cells 6 = .ok (.aload_n 0, 1) := by decide +kernel
theorem dX1_cells_7 : decode cX1_cells 7 = .ok (.getfield 38, 3) := by decide +kernel
theorem dX1_cells_10 : decode cX1_cells 10 = .ok (.iadd, 1) := by decide +kernel
theorem dX1_cells_11 : decode cX1_cells 11 = .ok (.aload_n 0, 1) := by decide +kernel
theorem dX1_cells_12 : decode cX1_cells 12 = .ok (.getfield 32, 3) := by decide +kernel
theorem dX1_cells_15 : decode cX1_cells 15 = .ok (.isub, 1) := by decide +kernel
theorem dX1_cells_16 : decode cX1_cells 16 = .ok (.ireturn, 1) := by decide +kernel
theorem dX1_pieces_0 : decode cX1_pieces 0 = .ok (.aload_n 0, 1) := by decide +kernel
theorem dX1_pieces_1 : decode cX1_pieces 1 = .ok (.getfield 29, 3) := by decide +kernel
theorem dX1_pieces_4 : decode cX1_pieces 4 = .ok (.aload_n 0, 1) := by decide +kernel
theorem dX1_pieces_5 : decode cX1_pieces 5 = .ok (.getfield 38, 3) := by decide +kernel
theorem dX1_pieces_8 : decode cX1_pieces 8 = .ok (.iadd, 1) := by decide +kernel
theorem dX1_pieces_9 : decode cX1_pieces 9 = .ok (.ireturn, 1) := by decide +kernel
theorem dX1_closedCells_0 : decode cX1_closedCells 0 = .ok (.aload_n 0, 1) := by decide +kernel
theorem dX1_closedCells_1 : decode cX1_closedCells 1 = .ok (.getfield 32, 3) := by decide +kernel
theorem dX1_closedCells_4 : decode cX1_closedCells 4 = .ok (.ifCond .ne 7, 3) := by decide +kernel
theorem dX1_closedCells_7 : decode cX1_closedCells 7 = .ok (.iconst 0, 1) := by decide +kernel
theorem dX1_closedCells_8 : decode cX1_closedCells 8 = .ok (.goto 14, 3) := by decide +kernel
theorem dX1_closedCells_11 : decode cX1_closedCells 11 = .ok (.aload_n 0, 1) := by decide +kernel
theorem dX1_closedCells_12 : decode cX1_closedCells 12 = .ok (.invokevirtual 66, 3) := by decide +kernel
theorem dX1_closedCells_15 : decode cX1_closedCells 15 = .ok (.iconst 2, 1) := by decide +kernel
theorem dX1_closedCells_16 : decode cX1_closedCells 16 = .ok (.aload_n 0, 1) := by decide +kernel
theorem dX1_closedCells_17 : decode cX1_closedCells 17 = .ok (.getfield 29, 3) := by decide +kernel
theorem dX1_closedCells_20 : decode cX1_closedCells 20 = .ok (.imul, 1) := by decide +kernel
theorem dX1_closedCells_21 : decode cX1_closedCells 21 = .ok (.isub, 1) := by decide +kernel
theorem dX1_closedCells_22 : decode cX1_closedCells 22 = .ok (.ireturn, 1) := by decide +kernel
theorem dX1_keepDifferent_0 : decode cX1_keepDifferent 0 = .ok (.aload_n 0, 1) := by decide +kernel
theorem dX1_keepDifferent_1 : decode cX1_keepDifferent 1 = .ok (.iconst 0, 1) := by decide +kernel
theorem dX1_keepDifferent_2 : decode cX1_keepDifferent 2 = .ok (.putfield 29, 3) := by decide +kernel
theorem dX1_keepDifferent_5 : decode cX1_keepDifferent 5 = .ok (.iconst 0, 1) := by decide +kernel
theorem dX1_keepDifferent_6 : decode cX1_keepDifferent 6 = .ok (.istore_n 2, 1) := by decide +kernel
theorem dX1_keepDifferent_7 : decode cX1_keepDifferent 7 = .ok (.iload_n 2, 1) := by decide +kernel
theorem dX1_keepDifferent_8 : decode cX1_keepDifferent 8 = .ok (.iload_n 1, 1) := by decide +kernel
theorem dX1_keepDifferent_9 : decode cX1_keepDifferent 9 = .ok (.if_icmp .ge 37, 3) := by decide +kernel
theorem dX1_keepDifferent_12 : decode cX1_keepDifferent 12 = .ok (.aload_n 0, 1) := by decide +kernel
theorem dX1_keepDifferent_13 : decode cX1_keepDifferent 13 = .ok (.iload_n 2, 1) := by decide +kernel
theorem dX1_keepDifferent_14 : decode cX1_keepDifferent 14 = .ok (.invokevirtual 70, 3) := by decide +kernel
theorem dX1_keepDifferent_17 : decode cX1_keepDifferent 17 = .ok (.ifCond .eq 23, 3) := by decide +kernel
theorem dX1_keepDifferent_20 : decode cX1_keepDifferent 20 = .ok (.aload_n 0, 1) := by decide +kernel
theorem dX1_keepDifferent_21 : decode cX1_keepDifferent 21 = .ok (.getfield 25, 3) := by decide +kernel
theorem dX1_keepDifferent_24 : decode cX1_keepDifferent 24 = .ok (.aload_n 0, 1) := by decide +kernel
theorem dX1_keepDifferent_25 : decode cX1_keepDifferent 25 = .ok (.getfield 29, 3) := by decide +kernel
theorem dX1_keepDifferent_28 : decode cX1_keepDifferent 28 = .ok (.iload_n 2, 1) := by decide +kernel
theorem dX1_keepDifferent_29 : decode cX1_keepDifferent 29 = .ok (.iastore, 1) := by decide +kernel
theorem dX1_keepDifferent_30 : decode cX1_keepDifferent 30 = .ok (.aload_n 0, 1) := by decide +kernel
theorem dX1_keepDifferent_31 : decode cX1_keepDifferent 31 = .ok (.dup, 1) := by decide +kernel
theorem dX1_keepDifferent_32 : decode cX1_keepDifferent 32 = .ok (.getfield 29, 3) := by decide +kernel
theorem dX1_keepDifferent_35 : decode cX1_keepDifferent 35 = .ok (.iconst 1, 1) := by decide +kernel
theorem dX1_keepDifferent_36 : decode cX1_keepDifferent 36 = .ok (.iadd, 1) := by decide +kernel
theorem dX1_keepDifferent_37 : decode cX1_keepDifferent 37 = .ok (.putfield 29, 3) := by decide +kernel
theorem dX1_keepDifferent_40 : decode cX1_keepDifferent 40 = .ok (.iinc 2 1, 3) := by decide +kernel
theorem dX1_keepDifferent_43 : decode cX1_keepDifferent 43 = .ok (.goto (-36), 3) := by decide +kernel
theorem dX1_keepDifferent_46 : decode cX1_keepDifferent 46 = .ok (.return_, 1) := by decide +kernel
theorem dX1_isNew_0 : decode cX1_isNew 0 = .ok (.iconst 0, 1) := by decide +kernel
theorem dX1_isNew_1 : decode cX1_isNew 1 = .ok (.istore_n 2, 1) := by decide +kernel
theorem dX1_isNew_2 : decode cX1_isNew 2 = .ok (.iload_n 2, 1) := by decide +kernel
theorem dX1_isNew_3 : decode cX1_isNew 3 = .ok (.aload_n 0, 1) := by decide +kernel
theorem dX1_isNew_4 : decode cX1_isNew 4 = .ok (.getfield 29, 3) := by decide +kernel
theorem dX1_isNew_7 : decode cX1_isNew 7 = .ok (.if_icmp .ge 25, 3) := by decide +kernel
theorem dX1_isNew_10 : decode cX1_isNew 10 = .ok (.aload_n 0, 1) := by decide +kernel
theorem dX1_isNew_11 : decode cX1_isNew 11 = .ok (.aload_n 0, 1) := by decide +kernel
theorem dX1_isNew_12 : decode cX1_isNew 12 = .ok (.getfield 25, 3) := by decide +kernel
theorem dX1_isNew_15 : decode cX1_isNew 15 = .ok (.iload_n 2, 1) := by decide +kernel
theorem dX1_isNew_16 : decode cX1_isNew 16 = .ok (.iaload, 1) := by decide +kernel
theorem dX1_isNew_17 : decode cX1_isNew 17 = .ok (.iload_n 1, 1) := by decide +kernel
theorem dX1_isNew_18 : decode cX1_isNew 18 = .ok (.invokevirtual 74, 3) := by decide +kernel
theorem dX1_isNew_21 : decode cX1_isNew 21 = .ok (.ifCond .eq 5, 3) := by decide +kernel
theorem dX1_isNew_24 : decode cX1_isNew 24 = .ok (.iconst 0, 1) := by decide +kernel
theorem dX1_isNew_25 : decode cX1_isNew 25 = .ok (.ireturn, 1) := by decide +kernel
theorem dX1_isNew_26 : decode cX1_isNew 26 = .ok (.iinc 2 1, 3) := by decide +kernel
theorem dX1_isNew_29 : decode cX1_isNew 29 = .ok (.goto (-27), 3) := by decide +kernel
theorem dX1_isNew_32 : decode cX1_isNew 32 = .ok (.iconst 1, 1) := by decide +kernel
theorem dX1_isNew_33 : decode cX1_isNew 33 = .ok (.ireturn, 1) := by decide +kernel
theorem dX1_same_0 : decode cX1_same 0 = .ok (.aload_n 0, 1) := by decide +kernel
theorem dX1_same_1 : decode cX1_same 1 = .ok (.iload_n 1, 1) := by decide +kernel
theorem dX1_same_2 : decode cX1_same 2 = .ok (.iload_n 2, 1) := by decide +kernel
theorem dX1_same_3 : decode cX1_same 3 = .ok (.invokevirtual 78, 3) := by decide +kernel
theorem dX1_same_6 : decode cX1_same 6 = .ok (.lconst 0, 1) := by decide +kernel
theorem dX1_same_7 : decode cX1_same 7 = .ok (.lcmp, 1) := by decide +kernel
theorem dX1_same_8 : decode cX1_same 8 = .ok (.ifCond .ne 67, 3) := by decide +kernel
theorem dX1_same_11 : decode cX1_same 11 = .ok (.aload_n 0, 1) := by decide +kernel
theorem dX1_same_12 : decode cX1_same 12 = .ok (.getfield 9, 3) := by decide +kernel
theorem dX1_same_15 : decode cX1_same 15 = .ok (.iload_n 1, 1) := by decide +kernel
theorem dX1_same_16 : decode cX1_same 16 = .ok (.laload, 1) := by decide +kernel
theorem dX1_same_17 : decode cX1_same 17 = .ok (.aload_n 0, 1) := by decide +kernel
theorem dX1_same_18 : decode cX1_same 18 = .ok (.getfield 18, 3) := by decide +kernel
theorem dX1_same_21 : decode cX1_same 21 = .ok (.iload_n 2, 1) := by decide +kernel
theorem dX1_same_22 : decode cX1_same 22 = .ok (.laload, 1) := by decide +kernel
theorem dX1_same_23 : decode cX1_same 23 = .ok (.lmul, 1) := by decide +kernel
theorem dX1_same_24 : decode cX1_same 24 = .ok (.aload_n 0, 1) := by decide +kernel
theorem dX1_same_25 : decode cX1_same 25 = .ok (.getfield 9, 3) := by decide +kernel
theorem dX1_same_28 : decode cX1_same 28 = .ok (.iload_n 2, 1) := by decide +kernel
theorem dX1_same_29 : decode cX1_same 29 = .ok (.laload, 1) := by decide +kernel
theorem dX1_same_30 : decode cX1_same 30 = .ok (.aload_n 0, 1) := by decide +kernel
theorem dX1_same_31 : decode cX1_same 31 = .ok (.getfield 18, 3) := by decide +kernel
theorem dX1_same_34 : decode cX1_same 34 = .ok (.iload_n 1, 1) := by decide +kernel
theorem dX1_same_35 : decode cX1_same 35 = .ok (.laload, 1) := by decide +kernel
theorem dX1_same_36 : decode cX1_same 36 = .ok (.lmul, 1) := by decide +kernel
theorem dX1_same_37 : decode cX1_same 37 = .ok (.lcmp, 1) := by decide +kernel
theorem dX1_same_38 : decode cX1_same 38 = .ok (.ifCond .ne 37, 3) := by decide +kernel
theorem dX1_same_41 : decode cX1_same 41 = .ok (.aload_n 0, 1) := by decide +kernel
theorem dX1_same_42 : decode cX1_same 42 = .ok (.getfield 15, 3) := by decide +kernel
theorem dX1_same_45 : decode cX1_same 45 = .ok (.iload_n 1, 1) := by decide +kernel
theorem dX1_same_46 : decode cX1_same 46 = .ok (.laload, 1) := by decide +kernel
theorem dX1_same_47 : decode cX1_same 47 = .ok (.aload_n 0, 1) := by decide +kernel
theorem dX1_same_48 : decode cX1_same 48 = .ok (.getfield 18, 3) := by decide +kernel
theorem dX1_same_51 : decode cX1_same 51 = .ok (.iload_n 2, 1) := by decide +kernel
theorem dX1_same_52 : decode cX1_same 52 = .ok (.laload, 1) := by decide +kernel
theorem dX1_same_53 : decode cX1_same 53 = .ok (.lmul, 1) := by decide +kernel
theorem dX1_same_54 : decode cX1_same 54 = .ok (.aload_n 0, 1) := by decide +kernel
theorem dX1_same_55 : decode cX1_same 55 = .ok (.getfield 15, 3) := by decide +kernel
theorem dX1_same_58 : decode cX1_same 58 = .ok (.iload_n 2, 1) := by decide +kernel
theorem dX1_same_59 : decode cX1_same 59 = .ok (.laload, 1) := by decide +kernel
theorem dX1_same_60 : decode cX1_same 60 = .ok (.aload_n 0, 1) := by decide +kernel
theorem dX1_same_61 : decode cX1_same 61 = .ok (.getfield 18, 3) := by decide +kernel
theorem dX1_same_64 : decode cX1_same 64 = .ok (.iload_n 1, 1) := by decide +kernel
theorem dX1_same_65 : decode cX1_same 65 = .ok (.laload, 1) := by decide +kernel
theorem dX1_same_66 : decode cX1_same 66 = .ok (.lmul, 1) := by decide +kernel
theorem dX1_same_67 : decode cX1_same 67 = .ok (.lcmp, 1) := by decide +kernel
theorem dX1_same_68 : decode cX1_same 68 = .ok (.ifCond .ne 7, 3) := by decide +kernel
theorem dX1_same_71 : decode cX1_same 71 = .ok (.iconst 1, 1) := by decide +kernel
theorem dX1_same_72 : decode cX1_same 72 = .ok (.goto 4, 3) := by decide +kernel
theorem dX1_same_75 : decode cX1_same 75 = .ok (.iconst 0, 1) := by decide +kernel
theorem dX1_same_76 : decode cX1_same 76 = .ok (.ireturn, 1) := by decide +kernel
theorem dX1_slant_0 : decode cX1_slant 0 = .ok (.aload_n 0, 1) := by decide +kernel
theorem dX1_slant_1 : decode cX1_slant 1 = .ok (.getfield 9, 3) := by decide +kernel
theorem dX1_slant_4 : decode cX1_slant 4 = .ok (.iload_n 1, 1) := by decide +kernel
theorem dX1_slant_5 : decode cX1_slant 5 = .ok (.laload, 1) := by decide +kernel
theorem dX1_slant_6 : decode cX1_slant 6 = .ok (.aload_n 0, 1) := by decide +kernel
theorem dX1_slant_7 : decode cX1_slant 7 = .ok (.getfield 15, 3) := by decide +kernel
theorem dX1_slant_10 : decode cX1_slant 10 = .ok (.iload_n 2, 1) := by decide +kernel
theorem dX1_slant_11 : decode cX1_slant 11 = .ok (.laload, 1) := by decide +kernel
theorem dX1_slant_12 : decode cX1_slant 12 = .ok (.lmul, 1) := by decide +kernel
theorem dX1_slant_13 : decode cX1_slant 13 = .ok (.aload_n 0, 1) := by decide +kernel
theorem dX1_slant_14 : decode cX1_slant 14 = .ok (.getfield 9, 3) := by decide +kernel
theorem dX1_slant_17 : decode cX1_slant 17 = .ok (.iload_n 2, 1) := by decide +kernel
theorem dX1_slant_18 : decode cX1_slant 18 = .ok (.laload, 1) := by decide +kernel
theorem dX1_slant_19 : decode cX1_slant 19 = .ok (.aload_n 0, 1) := by decide +kernel
theorem dX1_slant_20 : decode cX1_slant 20 = .ok (.getfield 15, 3) := by decide +kernel
theorem dX1_slant_23 : decode cX1_slant 23 = .ok (.iload_n 1, 1) := by decide +kernel
theorem dX1_slant_24 : decode cX1_slant 24 = .ok (.laload, 1) := by decide +kernel
theorem dX1_slant_25 : decode cX1_slant 25 = .ok (.lmul, 1) := by decide +kernel
theorem dX1_slant_26 : decode cX1_slant 26 = .ok (.lsub, 1) := by decide +kernel
theorem dX1_slant_27 : decode cX1_slant 27 = .ok (.lreturn, 1) := by decide +kernel
theorem dX1_throughMeet_0 : decode cX1_throughMeet 0 = .ok (.aload_n 0, 1) := by decide +kernel
theorem dX1_throughMeet_1 : decode cX1_throughMeet 1 = .ok (.aload_n 0, 1) := by decide +kernel
theorem dX1_throughMeet_2 : decode cX1_throughMeet 2 = .ok (.getfield 25, 3) := by decide +kernel
theorem dX1_throughMeet_5 : decode cX1_throughMeet 5 = .ok (.iload_n 1, 1) := by decide +kernel
theorem dX1_throughMeet_6 : decode cX1_throughMeet 6 = .ok (.iaload, 1) := by decide +kernel
theorem dX1_throughMeet_7 : decode cX1_throughMeet 7 = .ok (.aload_n 0, 1) := by decide +kernel
theorem dX1_throughMeet_8 : decode cX1_throughMeet 8 = .ok (.getfield 25, 3) := by decide +kernel
theorem dX1_throughMeet_11 : decode cX1_throughMeet 11 = .ok (.iload_n 2, 1) := by decide +kernel
theorem dX1_throughMeet_12 : decode cX1_throughMeet 12 = .ok (.iaload, 1) := by decide +kernel
theorem dX1_throughMeet_13 : decode cX1_throughMeet 13 = .ok (.invokevirtual 78, 3) := by decide +kernel
theorem dX1_throughMeet_16 : decode cX1_throughMeet 16 = .ok (.lconst 0, 1) := by decide +kernel
theorem dX1_throughMeet_17 : decode cX1_throughMeet 17 = .ok (.lcmp, 1) := by decide +kernel
theorem dX1_throughMeet_18 : decode cX1_throughMeet 18 = .ok (.ifCond .ne 5, 3) := by decide +kernel
theorem dX1_throughMeet_21 : decode cX1_throughMeet 21 = .ok (.iconst 0, 1) := by decide +kernel
theorem dX1_throughMeet_22 : decode cX1_throughMeet 22 = .ok (.ireturn, 1) := by decide +kernel
theorem dX1_throughMeet_23 : decode cX1_throughMeet 23 = .ok (.iconst 2, 1) := by decide +kernel
theorem dX1_throughMeet_24 : decode cX1_throughMeet 24 = .ok (.istore_n 3, 1) := by decide +kernel
theorem dX1_throughMeet_25 : decode cX1_throughMeet 25 = .ok (.iconst 0, 1) := by decide +kernel
theorem dX1_throughMeet_26 : decode cX1_throughMeet 26 = .ok (.istore 4, 2) := by decide +kernel
theorem dX1_throughMeet_28 : decode cX1_throughMeet 28 = .ok (.iload 4, 2) := by decide +kernel
theorem dX1_throughMeet_30 : decode cX1_throughMeet 30 = .ok (.aload_n 0, 1) := by decide +kernel
theorem dX1_throughMeet_31 : decode cX1_throughMeet 31 = .ok (.getfield 29, 3) := by decide +kernel
theorem dX1_throughMeet_34 : decode cX1_throughMeet 34 = .ok (.if_icmp .ge 58, 3) := by decide +kernel
theorem dX1_throughMeet_37 : decode cX1_throughMeet 37 = .ok (.iload 4, 2) := by decide +kernel
theorem dX1_throughMeet_39 : decode cX1_throughMeet 39 = .ok (.iload_n 1, 1) := by decide +kernel
theorem dX1_throughMeet_40 : decode cX1_throughMeet 40 = .ok (.if_icmp .eq 46, 3) := by decide +kernel
theorem dX1_throughMeet_43 : decode cX1_throughMeet 43 = .ok (.iload 4, 2) := by decide +kernel
theorem dX1_throughMeet_45 : decode cX1_throughMeet 45 = .ok (.iload_n 2, 1) := by decide +kernel
theorem dX1_throughMeet_46 : decode cX1_throughMeet 46 = .ok (.if_icmp .eq 40, 3) := by decide +kernel
theorem dX1_throughMeet_49 : decode cX1_throughMeet 49 = .ok (.aload_n 0, 1) := by decide +kernel
theorem dX1_throughMeet_50 : decode cX1_throughMeet 50 = .ok (.aload_n 0, 1) := by decide +kernel
theorem dX1_throughMeet_51 : decode cX1_throughMeet 51 = .ok (.getfield 25, 3) := by decide +kernel
theorem dX1_throughMeet_54 : decode cX1_throughMeet 54 = .ok (.iload_n 1, 1) := by decide +kernel
theorem dX1_throughMeet_55 : decode cX1_throughMeet 55 = .ok (.iaload, 1) := by decide +kernel
theorem dX1_throughMeet_56 : decode cX1_throughMeet 56 = .ok (.aload_n 0, 1) := by decide +kernel
theorem dX1_throughMeet_57 : decode cX1_throughMeet 57 = .ok (.getfield 25, 3) := by decide +kernel
theorem dX1_throughMeet_60 : decode cX1_throughMeet 60 = .ok (.iload_n 2, 1) := by decide +kernel
theorem dX1_throughMeet_61 : decode cX1_throughMeet 61 = .ok (.iaload, 1) := by decide +kernel
theorem dX1_throughMeet_62 : decode cX1_throughMeet 62 = .ok (.aload_n 0, 1) := by decide +kernel
theorem dX1_throughMeet_63 : decode cX1_throughMeet 63 = .ok (.getfield 25, 3) := by decide +kernel
theorem dX1_throughMeet_66 : decode cX1_throughMeet 66 = .ok (.iload 4, 2) := by decide +kernel
theorem dX1_throughMeet_68 : decode cX1_throughMeet 68 = .ok (.iaload, 1) := by decide +kernel
theorem dX1_throughMeet_69 : decode cX1_throughMeet 69 = .ok (.invokevirtual 82, 3) := by decide +kernel
theorem dX1_throughMeet_72 : decode cX1_throughMeet 72 = .ok (.ifCond .eq 14, 3) := by decide +kernel
theorem dX1_throughMeet_75 : decode cX1_throughMeet 75 = .ok (.iload 4, 2) := by decide +kernel
theorem dX1_throughMeet_77 : decode cX1_throughMeet 77 = .ok (.iload_n 2, 1) := by decide +kernel
theorem dX1_throughMeet_78 : decode cX1_throughMeet 78 = .ok (.if_icmp .ge 5, 3) := by decide +kernel
theorem dX1_throughMeet_81 : decode cX1_throughMeet 81 = .ok (.iconst 0, 1) := by decide +kernel
theorem dX1_throughMeet_82 : decode cX1_throughMeet 82 = .ok (.ireturn, 1) := by decide +kernel
theorem dX1_throughMeet_83 : decode cX1_throughMeet 83 = .ok (.iinc 3 1, 3) := by decide +kernel
theorem dX1_throughMeet_86 : decode cX1_throughMeet 86 = .ok (.iinc 4 1, 3) := by decide +kernel
theorem dX1_throughMeet_89 : decode cX1_throughMeet 89 = .ok (.goto (-61), 3) := by decide +kernel
theorem dX1_throughMeet_92 : decode cX1_throughMeet 92 = .ok (.iload_n 3, 1) := by decide +kernel
theorem dX1_throughMeet_93 : decode cX1_throughMeet 93 = .ok (.ireturn, 1) := by decide +kernel
theorem dX1_concurrent_0 : decode cX1_concurrent 0 = .ok (.aload_n 0, 1) := by decide +kernel
theorem dX1_concurrent_1 : decode cX1_concurrent 1 = .ok (.getfield 18, 3) := by decide +kernel
theorem dX1_concurrent_4 : decode cX1_concurrent 4 = .ok (.iload_n 1, 1) := by decide +kernel
theorem dX1_concurrent_5 : decode cX1_concurrent 5 = .ok (.laload, 1) := by decide +kernel
theorem dX1_concurrent_6 : decode cX1_concurrent 6 = .ok (.aload_n 0, 1) := by decide +kernel
theorem dX1_concurrent_7 : decode cX1_concurrent 7 = .ok (.getfield 15, 3) := by decide +kernel
theorem dX1_concurrent_10 : decode cX1_concurrent 10 = .ok (.iload_n 2, 1) := by decide +kernel
theorem dX1_concurrent_11 : decode cX1_concurrent 11 = .ok (.laload, 1) := by decide +kernel
theorem dX1_concurrent_12 : decode cX1_concurrent 12 = .ok (.lmul, 1) := by decide +kernel
theorem dX1_concurrent_13 : decode cX1_concurrent 13 = .ok (.aload_n 0, 1) := by decide +kernel
theorem dX1_concurrent_14 : decode cX1_concurrent 14 = .ok (.getfield 18, 3) := by decide +kernel
theorem dX1_concurrent_17 : decode cX1_concurrent 17 = .ok (.iload_n 2, 1) := by decide +kernel
theorem dX1_concurrent_18 : decode cX1_concurrent 18 = .ok (.laload, 1) := by decide +kernel
theorem dX1_concurrent_19 : decode cX1_concurrent 19 = .ok (.aload_n 0, 1) := by decide +kernel
theorem dX1_concurrent_20 : decode cX1_concurrent 20 = .ok (.getfield 15, 3) := by decide +kernel
theorem dX1_concurrent_23 : decode cX1_concurrent 23 = .ok (.iload_n 1, 1) := by decide +kernel
theorem dX1_concurrent_24 : decode cX1_concurrent 24 = .ok (.laload, 1) := by decide +kernel
theorem dX1_concurrent_25 : decode cX1_concurrent 25 = .ok (.lmul, 1) := by decide +kernel
theorem dX1_concurrent_26 : decode cX1_concurrent 26 = .ok (.lsub, 1) := by decide +kernel
theorem dX1_concurrent_27 : decode cX1_concurrent 27 = .ok (.lstore 4, 2) := by decide +kernel
theorem dX1_concurrent_29 : decode cX1_concurrent 29 = .ok (.aload_n 0, 1) := by decide +kernel
theorem dX1_concurrent_30 : decode cX1_concurrent 30 = .ok (.getfield 9, 3) := by decide +kernel
theorem dX1_concurrent_33 : decode cX1_concurrent 33 = .ok (.iload_n 1, 1) := by decide +kernel
theorem dX1_concurrent_34 : decode cX1_concurrent 34 = .ok (.laload, 1) := by decide +kernel
theorem dX1_concurrent_35 : decode cX1_concurrent 35 = .ok (.aload_n 0, 1) := by decide +kernel
theorem dX1_concurrent_36 : decode cX1_concurrent 36 = .ok (.getfield 18, 3) := by decide +kernel
theorem dX1_concurrent_39 : decode cX1_concurrent 39 = .ok (.iload_n 2, 1) := by decide +kernel
theorem dX1_concurrent_40 : decode cX1_concurrent 40 = .ok (.laload, 1) := by decide +kernel
theorem dX1_concurrent_41 : decode cX1_concurrent 41 = .ok (.lmul, 1) := by decide +kernel
theorem dX1_concurrent_42 : decode cX1_concurrent 42 = .ok (.aload_n 0, 1) := by decide +kernel
theorem dX1_concurrent_43 : decode cX1_concurrent 43 = .ok (.getfield 9, 3) := by decide +kernel
theorem dX1_concurrent_46 : decode cX1_concurrent 46 = .ok (.iload_n 2, 1) := by decide +kernel
theorem dX1_concurrent_47 : decode cX1_concurrent 47 = .ok (.laload, 1) := by decide +kernel
theorem dX1_concurrent_48 : decode cX1_concurrent 48 = .ok (.aload_n 0, 1) := by decide +kernel
theorem dX1_concurrent_49 : decode cX1_concurrent 49 = .ok (.getfield 18, 3) := by decide +kernel
theorem dX1_concurrent_52 : decode cX1_concurrent 52 = .ok (.iload_n 1, 1) := by decide +kernel
theorem dX1_concurrent_53 : decode cX1_concurrent 53 = .ok (.laload, 1) := by decide +kernel
theorem dX1_concurrent_54 : decode cX1_concurrent 54 = .ok (.lmul, 1) := by decide +kernel
theorem dX1_concurrent_55 : decode cX1_concurrent 55 = .ok (.lsub, 1) := by decide +kernel
theorem dX1_concurrent_56 : decode cX1_concurrent 56 = .ok (.lstore 6, 2) := by decide +kernel
theorem dX1_concurrent_58 : decode cX1_concurrent 58 = .ok (.aload_n 0, 1) := by decide +kernel
theorem dX1_concurrent_59 : decode cX1_concurrent 59 = .ok (.getfield 9, 3) := by decide +kernel
theorem dX1_concurrent_62 : decode cX1_concurrent 62 = .ok (.iload_n 3, 1) := by decide +kernel
theorem dX1_concurrent_63 : decode cX1_concurrent 63 = .ok (.laload, 1) := by decide +kernel
theorem dX1_concurrent_64 : decode cX1_concurrent 64 = .ok (.lload 4, 2) := by decide +kernel
theorem dX1_concurrent_66 : decode cX1_concurrent 66 = .ok (.lmul, 1) := by decide +kernel
theorem dX1_concurrent_67 : decode cX1_concurrent 67 = .ok (.aload_n 0, 1) := by decide +kernel
theorem dX1_concurrent_68 : decode cX1_concurrent 68 = .ok (.getfield 15, 3) := by decide +kernel
theorem dX1_concurrent_71 : decode cX1_concurrent 71 = .ok (.iload_n 3, 1) := by decide +kernel
theorem dX1_concurrent_72 : decode cX1_concurrent 72 = .ok (.laload, 1) := by decide +kernel
theorem dX1_concurrent_73 : decode cX1_concurrent 73 = .ok (.lload 6, 2) := by decide +kernel
theorem dX1_concurrent_75 : decode cX1_concurrent 75 = .ok (.lmul, 1) := by decide +kernel
theorem dX1_concurrent_76 : decode cX1_concurrent 76 = .ok (.ladd, 1) := by decide +kernel
theorem dX1_concurrent_77 : decode cX1_concurrent 77 = .ok (.aload_n 0, 1) := by decide +kernel
theorem dX1_concurrent_78 : decode cX1_concurrent 78 = .ok (.getfield 18, 3) := by decide +kernel
theorem dX1_concurrent_81 : decode cX1_concurrent 81 = .ok (.iload_n 3, 1) := by decide +kernel
theorem dX1_concurrent_82 : decode cX1_concurrent 82 = .ok (.laload, 1) := by decide +kernel
theorem dX1_concurrent_83 : decode cX1_concurrent 83 = .ok (.aload_n 0, 1) := by decide +kernel
theorem dX1_concurrent_84 : decode cX1_concurrent 84 = .ok (.iload_n 1, 1) := by decide +kernel
theorem dX1_concurrent_85 : decode cX1_concurrent 85 = .ok (.iload_n 2, 1) := by decide +kernel
theorem dX1_concurrent_86 : decode cX1_concurrent 86 = .ok (.invokevirtual 78, 3) := by decide +kernel
theorem dX1_concurrent_89 : decode cX1_concurrent 89 = .ok (.lmul, 1) := by decide +kernel
theorem dX1_concurrent_90 : decode cX1_concurrent 90 = .ok (.lcmp, 1) := by decide +kernel
theorem dX1_concurrent_91 : decode cX1_concurrent 91 = .ok (.ifCond .ne 7, 3) := by decide +kernel
theorem dX1_concurrent_94 : decode cX1_concurrent 94 = .ok (.iconst 1, 1) := by decide +kernel
theorem dX1_concurrent_95 : decode cX1_concurrent 95 = .ok (.goto 4, 3) := by decide +kernel
theorem dX1_concurrent_98 : decode cX1_concurrent 98 = .ok (.iconst 0, 1) := by decide +kernel
theorem dX1_concurrent_99 : decode cX1_concurrent 99 = .ok (.ireturn, 1) := by decide +kernel
theorem dX2_init_0 : decode cX2_init 0 = .ok (.aload_n 0, 1) := by decide +kernel
theorem dX2_init_1 : decode cX2_init 1 = .ok (.invokespecial 3, 3) := by decide +kernel
theorem dX2_init_4 : decode cX2_init 4 = .ok (.aload_n 0, 1) := by decide +kernel
theorem dX2_init_5 : decode cX2_init 5 = .ok (.bipush 60, 2) := by decide +kernel
theorem dX2_init_7 : decode cX2_init 7 = .ok (.newarray .int, 2) := by decide +kernel
theorem dX2_init_9 : decode cX2_init 9 = .ok (.putfield 9, 3) := by decide +kernel
theorem dX2_init_12 : decode cX2_init 12 = .ok (.aload_n 0, 1) := by decide +kernel
theorem dX2_init_13 : decode cX2_init 13 = .ok (.bipush 60, 2) := by decide +kernel
theorem dX2_init_15 : decode cX2_init 15 = .ok (.newarray .int, 2) := by decide +kernel
theorem dX2_init_17 : decode cX2_init 17 = .ok (.putfield 15, 3) := by decide +kernel
theorem dX2_init_20 : decode cX2_init 20 = .ok (.aload_n 0, 1) := by decide +kernel
theorem dX2_init_21 : decode cX2_init 21 = .ok (.iconst 0, 1) := by decide +kernel
theorem dX2_init_22 : decode cX2_init 22 = .ok (.putfield 18, 3) := by decide +kernel
theorem dX2_init_25 : decode cX2_init 25 = .ok (.return_, 1) := by decide +kernel
theorem dX2_add_0 : decode cX2_add 0 = .ok (.aload_n 0, 1) := by decide +kernel
theorem dX2_add_1 : decode cX2_add 1 = .ok (.getfield 18, 3) := by decide +kernel
theorem dX2_add_4 : decode cX2_add 4 = .ok (.bipush 60, 2) := by decide +kernel
theorem dX2_add_6 : decode cX2_add 6 = .ok (.if_icmp .lt 6, 3) := by decide +kernel
theorem dX2_add_9 : decode cX2_add 9 = .ok (.bipush (-3), 2) := by decide +kernel
theorem dX2_add_11 : decode cX2_add 11 = .ok (.ireturn, 1) := by decide +kernel
theorem dX2_add_12 : decode cX2_add 12 = .ok (.aload_n 0, 1) := by decide +kernel
theorem dX2_add_13 : decode cX2_add 13 = .ok (.getfield 9, 3) := by decide +kernel
theorem dX2_add_16 : decode cX2_add 16 = .ok (.aload_n 0, 1) := by decide +kernel
theorem dX2_add_17 : decode cX2_add 17 = .ok (.getfield 18, 3) := by decide +kernel
theorem dX2_add_20 : decode cX2_add 20 = .ok (.iload_n 1, 1) := by decide +kernel
theorem dX2_add_21 : decode cX2_add 21 = .ok (.iastore, 1) := by decide +kernel
theorem dX2_add_22 : decode cX2_add 22 = .ok (.aload_n 0, 1) := by decide +kernel
theorem dX2_add_23 : decode cX2_add 23 = .ok (.getfield 15, 3) := by decide +kernel
theorem dX2_add_26 : decode cX2_add 26 = .ok (.aload_n 0, 1) := by decide +kernel
theorem dX2_add_27 : decode cX2_add 27 = .ok (.getfield 18, 3) := by decide +kernel
theorem dX2_add_30 : decode cX2_add 30 = .ok (.iload_n 2, 1) := by decide +kernel
theorem dX2_add_31 : decode cX2_add 31 = .ok (.iastore, 1) := by decide +kernel
theorem dX2_add_32 : decode cX2_add 32 = .ok (.aload_n 0, 1) := by decide +kernel
theorem dX2_add_33 : decode cX2_add 33 = .ok (.dup, 1) := by decide +kernel
theorem dX2_add_34 : decode cX2_add 34 = .ok (.getfield 18, 3) := by decide +kernel
theorem dX2_add_37 : decode cX2_add 37 = .ok (.iconst 1, 1) := by decide +kernel
theorem dX2_add_38 : decode cX2_add 38 = .ok (.iadd, 1) := by decide +kernel
theorem dX2_add_39 : decode cX2_add 39 = .ok (.putfield 18, 3) := by decide +kernel
theorem dX2_add_42 : decode cX2_add 42 = .ok (.aload_n 0, 1) := by decide +kernel
theorem dX2_add_43 : decode cX2_add 43 = .ok (.getfield 18, 3) := by decide +kernel
theorem dX2_add_46 : decode cX2_add 46 = .ok (.iconst 1, 1) := by decide +kernel
theorem dX2_add_47 : decode cX2_add 47 = .ok (.isub, 1) := by decide +kernel
theorem dX2_add_48 : decode cX2_add 48 = .ok (.ireturn, 1) := by decide +kernel
theorem dX2_has_0 : decode cX2_has 0 = .ok (.iload_n 1, 1) := by decide +kernel
theorem dX2_has_1 : decode cX2_has 1 = .ok (.ifCond .lt 15, 3) := by decide +kernel
theorem dX2_has_4 : decode cX2_has 4 = .ok (.iload_n 1, 1) := by decide +kernel
theorem dX2_has_5 : decode cX2_has 5 = .ok (.aload_n 0, 1) := by decide +kernel
theorem dX2_has_6 : decode cX2_has 6 = .ok (.getfield 18, 3) := by decide +kernel
theorem dX2_has_9 : decode cX2_has 9 = .ok (.if_icmp .ge 7, 3) := by decide +kernel
theorem dX2_has_12 : decode cX2_has 12 = .ok (.iconst 1, 1) := by decide +kernel
theorem dX2_has_13 : decode cX2_has 13 = .ok (.goto 4, 3) := by decide +kernel
theorem dX2_has_16 : decode cX2_has 16 = .ok (.iconst 0, 1) := by decide +kernel
theorem dX2_has_17 : decode cX2_has 17 = .ok (.ireturn, 1) := by decide +kernel
theorem dX2_hasAll_0 : decode cX2_hasAll 0 = .ok (.aload_n 0, 1) := by decide +kernel
theorem dX2_hasAll_1 : decode cX2_hasAll 1 = .ok (.iload_n 1, 1) := by decide +kernel
theorem dX2_hasAll_2 : decode cX2_hasAll 2 = .ok (.invokevirtual 22, 3) := by decide +kernel
theorem dX2_hasAll_5 : decode cX2_hasAll 5 = .ok (.ifCond .eq 23, 3) := by decide +kernel
theorem dX2_hasAll_8 : decode cX2_hasAll 8 = .ok (.aload_n 0, 1) := by decide +kernel
theorem dX2_hasAll_9 : decode cX2_hasAll 9 = .ok (.iload_n 2, 1) := by decide +kernel
theorem dX2_hasAll_10 : decode cX2_hasAll 10 = .ok (.invokevirtual 22, 3) := by decide +kernel
theorem dX2_hasAll_13 : decode cX2_hasAll 13 = .ok (.ifCond .eq 15, 3) := by decide +kernel
theorem dX2_hasAll_16 : decode cX2_hasAll 16 = .ok (.aload_n 0, 1) := by decide +kernel
theorem dX2_hasAll_17 : decode cX2_hasAll 17 = .ok (.iload_n 3, 1) := by decide +kernel
theorem dX2_hasAll_18 : decode cX2_hasAll 18 = .ok (.invokevirtual 22, 3) := by decide +kernel
theorem dX2_hasAll_21 : decode cX2_hasAll 21 = .ok (.ifCond .eq 7, 3) := by decide +kernel
theorem dX2_hasAll_24 : decode cX2_hasAll 24 = .ok (.iconst 1, 1) := by decide +kernel
theorem dX2_hasAll_25 : decode cX2_hasAll 25 = .ok (.goto 4, 3) := by decide +kernel
theorem dX2_hasAll_28 : decode cX2_hasAll 28 = .ok (.iconst 0, 1) := by decide +kernel
theorem dX2_hasAll_29 : decode cX2_hasAll 29 = .ok (.ireturn, 1) := by decide +kernel
theorem dX2_equal_0 : decode cX2_equal 0 = .ok (.aload_n 0, 1) := by decide +kernel
theorem dX2_equal_1 : decode cX2_equal 1 = .ok (.iload_n 1, 1) := by decide +kernel
theorem dX2_equal_2 : decode cX2_equal 2 = .ok (.iload_n 2, 1) := by decide +kernel
theorem dX2_equal_3 : decode cX2_equal 3 = .ok (.invokevirtual 26, 3) := by decide +kernel
theorem dX2_equal_6 : decode cX2_equal 6 = .ok (.ifCond .ne 7, 3) := by decide +kernel
theorem dX2_equal_9 : decode cX2_equal 9 = .ok (.iconst 1, 1) := by decide +kernel
theorem dX2_equal_10 : decode cX2_equal 10 = .ok (.goto 4, 3) := by decide +kernel
theorem dX2_equal_13 : decode cX2_equal 13 = .ok (.iconst 0, 1) := by decide +kernel
theorem dX2_equal_14 : decode cX2_equal 14 = .ok (.ireturn, 1) := by decide +kernel
theorem dX2_compare_0 : decode cX2_compare 0 = .ok (.aload_n 0, 1) := by decide +kernel
theorem dX2_compare_1 : decode cX2_compare 1 = .ok (.getfield 9, 3) := by decide +kernel
theorem dX2_compare_4 : decode cX2_compare 4 = .ok (.iload_n 1, 1) := by decide +kernel
theorem dX2_compare_5 : decode cX2_compare 5 = .ok (.iaload, 1) := by decide +kernel
theorem dX2_compare_6 : decode cX2_compare 6 = .ok (.aload_n 0, 1) := by decide +kernel
theorem dX2_compare_7 : decode cX2_compare 7 = .ok (.getfield 9, 3) := by decide +kernel
theorem dX2_compare_10 : decode cX2_compare 10 = .ok (.iload_n 2, 1) := by decide +kernel
theorem dX2_compare_11 : decode cX2_compare 11 = .ok (.iaload, 1) := by decide +kernel
theorem dX2_compare_12 : decode cX2_compare 12 = .ok (.invokestatic 30, 3) := by decide +kernel
theorem dX2_compare_15 : decode cX2_compare 15 = .ok (.istore_n 3, 1) := by decide +kernel
theorem dX2_compare_16 : decode cX2_compare 16 = .ok (.iload_n 3, 1) := by decide +kernel
theorem dX2_compare_17 : decode cX2_compare 17 = .ok (.ifCond .eq 7, 3) := by decide +kernel
theorem dX2_compare_20 : decode cX2_compare 20 = .ok (.iload_n 3, 1) := by decide +kernel
theorem dX2_compare_21 : decode cX2_compare 21 = .ok (.goto 18, 3) := by decide +kernel
theorem dX2_compare_24 : decode cX2_compare 24 = .ok (.aload_n 0, 1) := by decide +kernel
theorem dX2_compare_25 : decode cX2_compare 25 = .ok (.getfield 15, 3) := by decide +kernel
theorem dX2_compare_28 : decode cX2_compare 28 = .ok (.iload_n 1, 1) := by decide +kernel
theorem dX2_compare_29 : decode cX2_compare 29 = .ok (.iaload, 1) := by decide +kernel
theorem dX2_compare_30 : decode cX2_compare 30 = .ok (.aload_n 0, 1) := by decide +kernel
theorem dX2_compare_31 : decode cX2_compare 31 = .ok (.getfield 15, 3) := by decide +kernel
theorem dX2_compare_34 : decode cX2_compare 34 = .ok (.iload_n 2, 1) := by decide +kernel
theorem dX2_compare_35 : decode cX2_compare 35 = .ok (.iaload, 1) := by decide +kernel
theorem dX2_compare_36 : decode cX2_compare 36 = .ok (.invokestatic 30, 3) := by decide +kernel
theorem dX2_compare_39 : decode cX2_compare 39 = .ok (.ireturn, 1) := by decide +kernel
theorem dX2_turn_0 : decode cX2_turn 0 = .ok (.aload_n 0, 1) := by decide +kernel
theorem dX2_turn_1 : decode cX2_turn 1 = .ok (.getfield 9, 3) := by decide +kernel
theorem dX2_turn_4 : decode cX2_turn 4 = .ok (.iload_n 2, 1) := by decide +kernel
theorem dX2_turn_5 : decode cX2_turn 5 = .ok (.iaload, 1) := by decide +kernel
theorem dX2_turn_6 : decode cX2_turn 6 = .ok (.aload_n 0, 1) := by decide +kernel
theorem dX2_turn_7 : decode cX2_turn 7 = .ok (.getfield 9, 3) := by decide +kernel
theorem dX2_turn_10 : decode cX2_turn 10 = .ok (.iload_n 1, 1) := by decide +kernel
theorem dX2_turn_11 : decode cX2_turn 11 = .ok (.iaload, 1) := by decide +kernel
theorem dX2_turn_12 : decode cX2_turn 12 = .ok (.isub, 1) := by decide +kernel
theorem dX2_turn_13 : decode cX2_turn 13 = .ok (.i2l, 1) := by decide +kernel
theorem dX2_turn_14 : decode cX2_turn 14 = .ok (.aload_n 0, 1) := by decide +kernel
theorem dX2_turn_15 : decode cX2_turn 15 = .ok (.getfield 15, 3) := by decide +kernel
theorem dX2_turn_18 : decode cX2_turn 18 = .ok (.iload_n 3, 1) := by decide +kernel
theorem dX2_turn_19 : decode cX2_turn 19 = .ok (.iaload, 1) := by decide +kernel
theorem dX2_turn_20 : decode cX2_turn 20 = .ok (.aload_n 0, 1) := by decide +kernel
theorem dX2_turn_21 : decode cX2_turn 21 = .ok (.getfield 15, 3) := by decide +kernel
theorem dX2_turn_24 : decode cX2_turn 24 = .ok (.iload_n 1, 1) := by decide +kernel
theorem dX2_turn_25 : decode cX2_turn 25 = .ok (.iaload, 1) := by decide +kernel
theorem dX2_turn_26 : decode cX2_turn 26 = .ok (.isub, 1) := by decide +kernel
theorem dX2_turn_27 : decode cX2_turn 27 = .ok (.i2l, 1) := by decide +kernel
theorem dX2_turn_28 : decode cX2_turn 28 = .ok (.lmul, 1) := by decide +kernel
theorem dX2_turn_29 : decode cX2_turn 29 = .ok (.lstore 4, 2) := by decide +kernel
theorem dX2_turn_31 : decode cX2_turn 31 = .ok (.aload_n 0, 1) := by decide +kernel
theorem dX2_turn_32 : decode cX2_turn 32 = .ok (.getfield 15, 3) := by decide +kernel
theorem dX2_turn_35 : decode cX2_turn 35 = .ok (.iload_n 2, 1) := by decide +kernel
theorem dX2_turn_36 : decode cX2_turn 36 = .ok (.iaload, 1) := by decide +kernel
theorem dX2_turn_37 : decode cX2_turn 37 = .ok (.aload_n 0, 1) := by decide +kernel
theorem dX2_turn_38 : decode cX2_turn 38 = .ok (.getfield 15, 3) := by decide +kernel
theorem dX2_turn_41 : decode cX2_turn 41 = .ok (.iload_n 1, 1) := by decide +kernel
theorem dX2_turn_42 : decode cX2_turn 42 = .ok (.iaload, 1) := by decide +kernel
theorem dX2_turn_43 : decode cX2_turn 43 = .ok (.isub, 1) := by decide +kernel
theorem dX2_turn_44 : decode cX2_turn 44 = .ok (.i2l, 1) := by decide +kernel
theorem dX2_turn_45 : decode cX2_turn 45 = .ok (.aload_n 0, 1) := by decide +kernel
theorem dX2_turn_46 : decode cX2_turn 46 = .ok (.getfield 9, 3) := by decide +kernel
theorem dX2_turn_49 : decode cX2_turn 49 = .ok (.iload_n 3, 1) := by decide +kernel
theorem dX2_turn_50 : decode cX2_turn 50 = .ok (.iaload, 1) := by decide +kernel
theorem dX2_turn_51 : decode cX2_turn 51 = .ok (.aload_n 0, 1) := by decide +kernel
theorem dX2_turn_52 : decode cX2_turn 52 = .ok (.getfield 9, 3) := by decide +kernel
theorem dX2_turn_55 : decode cX2_turn 55 = .ok (.iload_n 1, 1) := by decide +kernel
theorem dX2_turn_56 : decode cX2_turn 56 = .ok (.iaload, 1) := by decide +kernel
theorem dX2_turn_57 : decode cX2_turn 57 = .ok (.isub, 1) := by decide +kernel
theorem dX2_turn_58 : decode cX2_turn 58 = .ok (.i2l, 1) := by decide +kernel
theorem dX2_turn_59 : decode cX2_turn 59 = .ok (.lmul, 1) := by decide +kernel
theorem dX2_turn_60 : decode cX2_turn 60 = .ok (.lstore 6, 2) := by decide +kernel
theorem dX2_turn_62 : decode cX2_turn 62 = .ok (.lload 4, 2) := by decide +kernel
theorem dX2_turn_64 : decode cX2_turn 64 = .ok (.lload 6, 2) := by decide +kernel
theorem dX2_turn_66 : decode cX2_turn 66 = .ok (.lsub, 1) := by decide +kernel
theorem dX2_turn_67 : decode cX2_turn 67 = .ok (.invokestatic 33, 3) := by decide +kernel
theorem dX2_turn_70 : decode cX2_turn 70 = .ok (.ireturn, 1) := by decide +kernel
theorem dX2_ring_0 : decode cX2_ring 0 = .ok (.aload_n 0, 1) := by decide +kernel
theorem dX2_ring_1 : decode cX2_ring 1 = .ok (.getfield 9, 3) := by decide +kernel
theorem dX2_ring_4 : decode cX2_ring 4 = .ok (.iload_n 1, 1) := by decide +kernel
theorem dX2_ring_5 : decode cX2_ring 5 = .ok (.iaload, 1) := by decide +kernel
theorem dX2_ring_6 : decode cX2_ring 6 = .ok (.aload_n 0, 1) := by decide +kernel
theorem dX2_ring_7 : decode cX2_ring 7 = .ok (.getfield 9, 3) := by decide +kernel
theorem dX2_ring_10 : decode cX2_ring 10 = .ok (.iload 4, 2) := by decide +kernel
theorem dX2_ring_12 : decode cX2_ring 12 = .ok (.iaload, 1) := by decide +kernel
theorem dX2_ring_13 : decode cX2_ring 13 = .ok (.isub, 1) := by decide +kernel
theorem dX2_ring_14 : decode cX2_ring 14 = .ok (.i2l, 1) := by decide +kernel
theorem dX2_ring_15 : decode cX2_ring 15 = .ok (.lstore 5, 2) := by decide +kernel
theorem dX2_ring_17 : decode cX2_ring 17 = .ok (.aload_n 0, 1) := by decide +kernel
theorem dX2_ring_18 : decode cX2_ring 18 = .ok (.getfield 15, 3) := by decide +kernel
theorem dX2_ring_21 : decode cX2_ring 21 = .ok (.iload_n 1, 1) := by decide +kernel
theorem dX2_ring_22 : decode cX2_ring 22 = .ok (.iaload, 1) := by decide +kernel
theorem dX2_ring_23 : decode cX2_ring 23 = .ok (.aload_n 0, 1) := by decide +kernel
theorem dX2_ring_24 : decode cX2_ring 24 = .ok (.getfield 15, 3) := by decide +kernel
theorem dX2_ring_27 : decode cX2_ring 27 = .ok (.iload 4, 2) := by decide +kernel
theorem dX2_ring_29 : decode cX2_ring 29 = .ok (.iaload, 1) := by decide +kernel
theorem dX2_ring_30 : decode cX2_ring 30 = .ok (.isub, 1) := by decide +kernel
theorem dX2_ring_31 : decode cX2_ring 31 = .ok (.i2l, 1) := by decide +kernel
theorem dX2_ring_32 : decode cX2_ring 32 = .ok (.lstore 7, 2) := by decide +kernel
theorem dX2_ring_34 : decode cX2_ring 34 = .ok (.aload_n 0, 1) := by decide +kernel
theorem dX2_ring_35 : decode cX2_ring 35 = .ok (.getfield 9, 3) := by decide +kernel
theorem dX2_ring_38 : decode cX2_ring 38 = .ok (.iload_n 2, 1) := by decide +kernel
theorem dX2_ring_39 : decode cX2_ring 39 = .ok (.iaload, 1) := by decide +kernel
theorem dX2_ring_40 : decode cX2_ring 40 = .ok (.aload_n 0, 1) := by decide +kernel
theorem dX2_ring_41 : decode cX2_ring 41 = .ok (.getfield 9, 3) := by decide +kernel
theorem dX2_ring_44 : decode cX2_ring 44 = .ok (.iload 4, 2) := by decide +kernel
theorem dX2_ring_46 : decode cX2_ring 46 = .ok (.iaload, 1) := by decide +kernel
theorem dX2_ring_47 : decode cX2_ring 47 = .ok (.isub, 1) := by decide +kernel
theorem dX2_ring_48 : decode cX2_ring 48 = .ok (.i2l, 1) := by decide +kernel
theorem dX2_ring_49 : decode cX2_ring 49 = .ok (.lstore 9, 2) := by decide +kernel
theorem dX2_ring_51 : decode cX2_ring 51 = .ok (.aload_n 0, 1) := by decide +kernel
theorem dX2_ring_52 : decode cX2_ring 52 = .ok (.getfield 15, 3) := by decide +kernel
theorem dX2_ring_55 : decode cX2_ring 55 = .ok (.iload_n 2, 1) := by decide +kernel
theorem dX2_ring_56 : decode cX2_ring 56 = .ok (.iaload, 1) := by decide +kernel
theorem dX2_ring_57 : decode cX2_ring 57 = .ok (.aload_n 0, 1) := by decide +kernel
theorem dX2_ring_58 : decode cX2_ring 58 = .ok (.getfield 15, 3) := by decide +kernel
theorem dX2_ring_61 : decode cX2_ring 61 = .ok (.iload 4, 2) := by decide +kernel
theorem dX2_ring_63 : decode cX2_ring 63 = .ok (.iaload, 1) := by decide +kernel
theorem dX2_ring_64 : decode cX2_ring 64 = .ok (.isub, 1) := by decide +kernel
theorem dX2_ring_65 : decode cX2_ring 65 = .ok (.i2l, 1) := by decide +kernel
theorem dX2_ring_66 : decode cX2_ring 66 = .ok (.lstore 11, 2) := by decide +kernel
theorem dX2_ring_68 : decode cX2_ring 68 = .ok (.aload_n 0, 1) := by decide +kernel
theorem dX2_ring_69 : decode cX2_ring 69 = .ok (.getfield 9, 3) := by decide +kernel
theorem dX2_ring_72 : decode cX2_ring 72 = .ok (.iload_n 3, 1) := by decide +kernel
theorem dX2_ring_73 : decode cX2_ring 73 = .ok (.iaload, 1) := by decide +kernel
theorem dX2_ring_74 : decode cX2_ring 74 = .ok (.aload_n 0, 1) := by decide +kernel
theorem dX2_ring_75 : decode cX2_ring 75 = .ok (.getfield 9, 3) := by decide +kernel
theorem dX2_ring_78 : decode cX2_ring 78 = .ok (.iload 4, 2) := by decide +kernel
theorem dX2_ring_80 : decode cX2_ring 80 = .ok (.iaload, 1) := by decide +kernel
theorem dX2_ring_81 : decode cX2_ring 81 = .ok (.isub, 1) := by decide +kernel
theorem dX2_ring_82 : decode cX2_ring 82 = .ok (.i2l, 1) := by decide +kernel
theorem dX2_ring_83 : decode cX2_ring 83 = .ok (.lstore 13, 2) := by decide +kernel
theorem dX2_ring_85 : decode cX2_ring 85 = .ok (.aload_n 0, 1) := by decide +kernel
theorem dX2_ring_86 : decode cX2_ring 86 = .ok (.getfield 15, 3) := by decide +kernel
theorem dX2_ring_89 : decode cX2_ring 89 = .ok (.iload_n 3, 1) := by decide +kernel
theorem dX2_ring_90 : decode cX2_ring 90 = .ok (.iaload, 1) := by decide +kernel
theorem dX2_ring_91 : decode cX2_ring 91 = .ok (.aload_n 0, 1) := by decide +kernel
theorem dX2_ring_92 : decode cX2_ring 92 = .ok (.getfield 15, 3) := by decide +kernel
theorem dX2_ring_95 : decode cX2_ring 95 = .ok (.iload 4, 2) := by decide +kernel
theorem dX2_ring_97 : decode cX2_ring 97 = .ok (.iaload, 1) := by decide +kernel
theorem dX2_ring_98 : decode cX2_ring 98 = .ok (.isub, 1) := by decide +kernel
theorem dX2_ring_99 : decode cX2_ring 99 = .ok (.i2l, 1) := by decide +kernel
theorem dX2_ring_100 : decode cX2_ring 100 = .ok (.lstore 15, 2) := by decide +kernel
theorem dX2_ring_102 : decode cX2_ring 102 = .ok (.lload 5, 2) := by decide +kernel
theorem dX2_ring_104 : decode cX2_ring 104 = .ok (.lload 5, 2) := by decide +kernel
theorem dX2_ring_106 : decode cX2_ring 106 = .ok (.lmul, 1) := by decide +kernel
theorem dX2_ring_107 : decode cX2_ring 107 = .ok (.lload 7, 2) := by decide +kernel
theorem dX2_ring_109 : decode cX2_ring 109 = .ok (.lload 7, 2) := by decide +kernel
theorem dX2_ring_111 : decode cX2_ring 111 = .ok (.lmul, 1) := by decide +kernel
theorem dX2_ring_112 : decode cX2_ring 112 = .ok (.ladd, 1) := by decide +kernel
theorem dX2_ring_113 : decode cX2_ring 113 = .ok (.lload 9, 2) := by decide +kernel
theorem dX2_ring_115 : decode cX2_ring 115 = .ok (.lload 15, 2) := by decide +kernel
theorem dX2_ring_117 : decode cX2_ring 117 = .ok (.lmul, 1) := by decide +kernel
theorem dX2_ring_118 : decode cX2_ring 118 = .ok (.lload 11, 2) := by decide +kernel
theorem dX2_ring_120 : decode cX2_ring 120 = .ok (.lload 13, 2) := by decide +kernel
theorem dX2_ring_122 : decode cX2_ring 122 = .ok (.lmul, 1) := by decide +kernel
theorem dX2_ring_123 : decode cX2_ring 123 = .ok (.lsub, 1) := by decide +kernel
theorem dX2_ring_124 : decode cX2_ring 124 = .ok (.lmul, 1) := by decide +kernel
theorem dX2_ring_125 : decode cX2_ring 125 = .ok (.lload 9, 2) := by decide +kernel
theorem dX2_ring_127 : decode cX2_ring 127 = .ok (.lload 9, 2) := by decide +kernel
theorem dX2_ring_129 : decode cX2_ring 129 = .ok (.lmul, 1) := by decide +kernel
theorem dX2_ring_130 : decode cX2_ring 130 = .ok (.lload 11, 2) := by decide +kernel
theorem dX2_ring_132 : decode cX2_ring 132 = .ok (.lload 11, 2) := by decide +kernel
theorem dX2_ring_134 : decode cX2_ring 134 = .ok (.lmul, 1) := by decide +kernel
theorem dX2_ring_135 : decode cX2_ring 135 = .ok (.ladd, 1) := by decide +kernel
theorem dX2_ring_136 : decode cX2_ring 136 = .ok (.lload 13, 2) := by decide +kernel
theorem dX2_ring_138 : decode cX2_ring 138 = .ok (.lload 7, 2) := by decide +kernel
theorem dX2_ring_140 : decode cX2_ring 140 = .ok (.lmul, 1) := by decide +kernel
theorem dX2_ring_141 : decode cX2_ring 141 = .ok (.lload 15, 2) := by decide +kernel
theorem dX2_ring_143 : decode cX2_ring 143 = .ok (.lload 5, 2) := by decide +kernel
theorem dX2_ring_145 : decode cX2_ring 145 = .ok (.lmul, 1) := by decide +kernel
theorem dX2_ring_146 : decode cX2_ring 146 = .ok (.lsub, 1) := by decide +kernel
theorem dX2_ring_147 : decode cX2_ring 147 = .ok (.lmul, 1) := by decide +kernel
theorem dX2_ring_148 : decode cX2_ring 148 = .ok (.ladd, 1) := by decide +kernel
theorem dX2_ring_149 : decode cX2_ring 149 = .ok (.lload 13, 2) := by decide +kernel
theorem dX2_ring_151 : decode cX2_ring 151 = .ok (.lload 13, 2) := by decide +kernel
theorem dX2_ring_153 : decode cX2_ring 153 = .ok (.lmul, 1) := by decide +kernel
theorem dX2_ring_154 : decode cX2_ring 154 = .ok (.lload 15, 2) := by decide +kernel
theorem dX2_ring_156 : decode cX2_ring 156 = .ok (.lload 15, 2) := by decide +kernel
theorem dX2_ring_158 : decode cX2_ring 158 = .ok (.lmul, 1) := by decide +kernel
theorem dX2_ring_159 : decode cX2_ring 159 = .ok (.ladd, 1) := by decide +kernel
theorem dX2_ring_160 : decode cX2_ring 160 = .ok (.lload 5, 2) := by decide +kernel
theorem dX2_ring_162 : decode cX2_ring 162 = .ok (.lload 11, 2) := by decide +kernel
theorem dX2_ring_164 : decode cX2_ring 164 = .ok (.lmul, 1) := by decide +kernel
theorem dX2_ring_165 : decode cX2_ring 165 = .ok (.lload 7, 2) := by decide +kernel
theorem dX2_ring_167 : decode cX2_ring 167 = .ok (.lload 9, 2) := by decide +kernel
theorem dX2_ring_169 : decode cX2_ring 169 = .ok (.lmul, 1) := by decide +kernel
theorem dX2_ring_170 : decode cX2_ring 170 = .ok (.lsub, 1) := by decide +kernel
theorem dX2_ring_171 : decode cX2_ring 171 = .ok (.lmul, 1) := by decide +kernel
theorem dX2_ring_172 : decode cX2_ring 172 = .ok (.ladd, 1) := by decide +kernel
theorem dX2_ring_173 : decode cX2_ring 173 = .ok (.lstore 17, 2) := by decide +kernel
theorem dX2_ring_175 : decode cX2_ring 175 = .ok (.aload_n 0, 1) := by decide +kernel
theorem dX2_ring_176 : decode cX2_ring 176 = .ok (.iload_n 1, 1) := by decide +kernel
theorem dX2_ring_177 : decode cX2_ring 177 = .ok (.iload_n 2, 1) := by decide +kernel
theorem dX2_ring_178 : decode cX2_ring 178 = .ok (.iload_n 3, 1) := by decide +kernel
theorem dX2_ring_179 : decode cX2_ring 179 = .ok (.invokevirtual 37, 3) := by decide +kernel
theorem dX2_ring_182 : decode cX2_ring 182 = .ok (.lload 17, 2) := by decide +kernel
theorem dX2_ring_184 : decode cX2_ring 184 = .ok (.invokestatic 33, 3) := by decide +kernel
theorem dX2_ring_187 : decode cX2_ring 187 = .ok (.imul, 1) := by decide +kernel
theorem dX2_ring_188 : decode cX2_ring 188 = .ok (.ireturn, 1) := by decide +kernel
theorem dX2_distance_0 : decode cX2_distance 0 = .ok (.aload_n 0, 1) := by decide +kernel
theorem dX2_distance_1 : decode cX2_distance 1 = .ok (.getfield 9, 3) := by decide +kernel
theorem dX2_distance_4 : decode cX2_distance 4 = .ok (.iload_n 1, 1) := by decide +kernel
theorem dX2_distance_5 : decode cX2_distance 5 = .ok (.iaload, 1) := by decide +kernel
theorem dX2_distance_6 : decode cX2_distance 6 = .ok (.aload_n 0, 1) := by decide +kernel
theorem dX2_distance_7 : decode cX2_distance 7 = .ok (.getfield 9, 3) := by decide +kernel
theorem dX2_distance_10 : decode cX2_distance 10 = .ok (.iload_n 2, 1) := by decide +kernel
theorem dX2_distance_11 : decode cX2_distance 11 = .ok (.iaload, 1) := by decide +kernel
theorem dX2_distance_12 : decode cX2_distance 12 = .ok (.isub, 1) := by decide +kernel
theorem dX2_distance_13 : decode cX2_distance 13 = .ok (.i2l, 1) := by decide +kernel
theorem dX2_distance_14 : decode cX2_distance 14 = .ok (.lstore_n 3, 1) := by decide +kernel
theorem dX2_distance_15 : decode cX2_distance 15 = .ok (.aload_n 0, 1) := by decide +kernel
theorem dX2_distance_16 : decode cX2_distance 16 = .ok (.getfield 15, 3) := by decide +kernel
theorem dX2_distance_19 : decode cX2_distance 19 = .ok (.iload_n 1, 1) := by decide +kernel
theorem dX2_distance_20 : decode cX2_distance 20 = .ok (.iaload, 1) := by decide +kernel
theorem dX2_distance_21 : decode cX2_distance 21 = .ok (.aload_n 0, 1) := by decide +kernel
theorem dX2_distance_22 : decode cX2_distance 22 = .ok (.getfield 15, 3) := by decide +kernel
theorem dX2_distance_25 : decode cX2_distance 25 = .ok (.iload_n 2, 1) := by decide +kernel
theorem dX2_distance_26 : decode cX2_distance 26 = .ok (.iaload, 1) := by decide +kernel
theorem dX2_distance_27 : decode cX2_distance 27 = .ok (.isub, 1) := by decide +kernel
theorem dX2_distance_28 : decode cX2_distance 28 = .ok (.i2l, 1) := by decide +kernel
theorem dX2_distance_29 : decode cX2_distance 29 = .ok (.lstore 5, 2) := by decide +kernel
theorem dX2_distance_31 : decode cX2_distance 31 = .ok (.lload_n 3, 1) := by decide +kernel
theorem dX2_distance_32 : decode cX2_distance 32 = .ok (.lload_n 3, 1) := by decide +kernel
theorem dX2_distance_33 : decode cX2_distance 33 = .ok (.lmul, 1) := by decide +kernel
theorem dX2_distance_34 : decode cX2_distance 34 = .ok (.lload 5, 2) := by decide +kernel
theorem dX2_distance_36 : decode cX2_distance 36 = .ok (.lload 5, 2) := by decide +kernel
theorem dX2_distance_38 : decode cX2_distance 38 = .ok (.lmul, 1) := by decide +kernel
theorem dX2_distance_39 : decode cX2_distance 39 = .ok (.ladd, 1) := by decide +kernel
theorem dX2_distance_40 : decode cX2_distance 40 = .ok (.lreturn, 1) := by decide +kernel
theorem dX2_onSegment_0 : decode cX2_onSegment 0 = .ok (.aload_n 0, 1) := by decide +kernel
theorem dX2_onSegment_1 : decode cX2_onSegment 1 = .ok (.iload_n 1, 1) := by decide +kernel
theorem dX2_onSegment_2 : decode cX2_onSegment 2 = .ok (.iload_n 2, 1) := by decide +kernel
theorem dX2_onSegment_3 : decode cX2_onSegment 3 = .ok (.iload_n 3, 1) := by decide +kernel
theorem dX2_onSegment_4 : decode cX2_onSegment 4 = .ok (.invokevirtual 37, 3) := by decide +kernel
theorem dX2_onSegment_7 : decode cX2_onSegment 7 = .ok (.ifCond .ne 55, 3) := by decide +kernel
theorem dX2_onSegment_10 : decode cX2_onSegment 10 = .ok (.aload_n 0, 1) := by decide +kernel
theorem dX2_onSegment_11 : decode cX2_onSegment 11 = .ok (.getfield 9, 3) := by decide +kernel
theorem dX2_onSegment_14 : decode cX2_onSegment 14 = .ok (.iload_n 1, 1) := by decide +kernel
theorem dX2_onSegment_15 : decode cX2_onSegment 15 = .ok (.iaload, 1) := by decide +kernel
theorem dX2_onSegment_16 : decode cX2_onSegment 16 = .ok (.aload_n 0, 1) := by decide +kernel
theorem dX2_onSegment_17 : decode cX2_onSegment 17 = .ok (.getfield 9, 3) := by decide +kernel
theorem dX2_onSegment_20 : decode cX2_onSegment 20 = .ok (.iload_n 2, 1) := by decide +kernel
theorem dX2_onSegment_21 : decode cX2_onSegment 21 = .ok (.iaload, 1) := by decide +kernel
theorem dX2_onSegment_22 : decode cX2_onSegment 22 = .ok (.aload_n 0, 1) := by decide +kernel
theorem dX2_onSegment_23 : decode cX2_onSegment 23 = .ok (.getfield 9, 3) := by decide +kernel
theorem dX2_onSegment_26 : decode cX2_onSegment 26 = .ok (.iload_n 3, 1) := by decide +kernel
theorem dX2_onSegment_27 : decode cX2_onSegment 27 = .ok (.iaload, 1) := by decide +kernel
theorem dX2_onSegment_28 : decode cX2_onSegment 28 = .ok (.invokestatic 41, 3) := by decide +kernel
theorem dX2_onSegment_31 : decode cX2_onSegment 31 = .ok (.ifCond .eq 31, 3) := by decide +kernel
theorem dX2_onSegment_34 : decode cX2_onSegment 34 = .ok (.aload_n 0, 1) := by decide +kernel
theorem dX2_onSegment_35 : decode cX2_onSegment 35 = .ok (.getfield 15, 3) := by decide +kernel
theorem dX2_onSegment_38 : decode cX2_onSegment 38 = .ok (.iload_n 1, 1) := by decide +kernel
theorem dX2_onSegment_39 : decode cX2_onSegment 39 = .ok (.iaload, 1) := by decide +kernel
theorem dX2_onSegment_40 : decode cX2_onSegment 40 = .ok (.aload_n 0, 1) := by decide +kernel
theorem dX2_onSegment_41 : decode cX2_onSegment 41 = .ok (.getfield 15, 3) := by decide +kernel
theorem dX2_onSegment_44 : decode cX2_onSegment 44 = .ok (.iload_n 2, 1) := by decide +kernel
theorem dX2_onSegment_45 : decode cX2_onSegment 45 = .ok (.iaload, 1) := by decide +kernel
theorem dX2_onSegment_46 : decode cX2_onSegment 46 = .ok (.aload_n 0, 1) := by decide +kernel
theorem dX2_onSegment_47 : decode cX2_onSegment 47 = .ok (.getfield 15, 3) := by decide +kernel
theorem dX2_onSegment_50 : decode cX2_onSegment 50 = .ok (.iload_n 3, 1) := by decide +kernel
theorem dX2_onSegment_51 : decode cX2_onSegment 51 = .ok (.iaload, 1) := by decide +kernel
theorem dX2_onSegment_52 : decode cX2_onSegment 52 = .ok (.invokestatic 41, 3) := by decide +kernel
theorem dX2_onSegment_55 : decode cX2_onSegment 55 = .ok (.ifCond .eq 7, 3) := by decide +kernel
theorem dX2_onSegment_58 : decode cX2_onSegment 58 = .ok (.iconst 1, 1) := by decide +kernel
theorem dX2_onSegment_59 : decode cX2_onSegment 59 = .ok (.goto 4, 3) := by decide +kernel
theorem dX2_onSegment_62 : decode cX2_onSegment 62 = .ok (.iconst 0, 1) := by decide +kernel
theorem dX2_onSegment_63 : decode cX2_onSegment 63 = .ok (.ireturn, 1) := by decide +kernel
theorem dX2_sameDirection_0 : decode cX2_sameDirection 0 = .ok (.aload_n 0, 1) := by decide +kernel
theorem dX2_sameDirection_1 : decode cX2_sameDirection 1 = .ok (.getfield 9, 3) := by decide +kernel
theorem dX2_sameDirection_4 : decode cX2_sameDirection 4 = .ok (.iload_n 2, 1) := by decide +kernel
theorem dX2_sameDirection_5 : decode cX2_sameDirection 5 = .ok (.iaload, 1) := by decide +kernel
theorem dX2_sameDirection_6 : decode cX2_sameDirection 6 = .ok (.aload_n 0, 1) := by decide +kernel
theorem dX2_sameDirection_7 : decode cX2_sameDirection 7 = .ok (.getfield 9, 3) := by decide +kernel
theorem dX2_sameDirection_10 : decode cX2_sameDirection 10 = .ok (.iload_n 1, 1) := by decide +kernel
theorem dX2_sameDirection_11 : decode cX2_sameDirection 11 = .ok (.iaload, 1) := by decide +kernel
theorem dX2_sameDirection_12 : decode cX2_sameDirection 12 = .ok (.isub, 1) := by decide +kernel
theorem dX2_sameDirection_13 : decode cX2_sameDirection 13 = .ok (.i2l, 1) := by decide +kernel
theorem dX2_sameDirection_14 : decode cX2_sameDirection 14 = .ok (.aload_n 0, 1) := by decide +kernel
theorem dX2_sameDirection_15 : decode cX2_sameDirection 15 = .ok (.getfield 9, 3) := by decide +kernel
theorem dX2_sameDirection_18 : decode cX2_sameDirection 18 = .ok (.iload_n 3, 1) := by decide +kernel
theorem dX2_sameDirection_19 : decode cX2_sameDirection 19 = .ok (.iaload, 1) := by decide +kernel
theorem dX2_sameDirection_20 : decode cX2_sameDirection 20 = .ok (.aload_n 0, 1) := by decide +kernel
theorem dX2_sameDirection_21 : decode cX2_sameDirection 21 = .ok (.getfield 9, 3) := by decide +kernel
theorem dX2_sameDirection_24 : decode cX2_sameDirection 24 = .ok (.iload_n 1, 1) := by decide +kernel
theorem dX2_sameDirection_25 : decode cX2_sameDirection 25 = .ok (.iaload, 1) := by decide +kernel
theorem dX2_sameDirection_26 : decode cX2_sameDirection 26 = .ok (.isub, 1) := by decide +kernel
theorem dX2_sameDirection_27 : decode cX2_sameDirection 27 = .ok (.i2l, 1) := by decide +kernel
theorem dX2_sameDirection_28 : decode cX2_sameDirection 28 = .ok (.lmul, 1) := by decide +kernel
theorem dX2_sameDirection_29 : decode cX2_sameDirection 29 = .ok (.aload_n 0, 1) := by decide +kernel
theorem dX2_sameDirection_30 : decode cX2_sameDirection 30 = .ok (.getfield 15, 3) := by decide +kernel
theorem dX2_sameDirection_33 : decode cX2_sameDirection 33 = .ok (.iload_n 2, 1) := by decide +kernel
theorem dX2_sameDirection_34 : decode cX2_sameDirection 34 = .ok (.iaload, 1) := by decide +kernel
theorem dX2_sameDirection_35 : decode cX2_sameDirection 35 = .ok (.aload_n 0, 1) := by decide +kernel
theorem dX2_sameDirection_36 : decode cX2_sameDirection 36 = .ok (.getfield 15, 3) := by decide +kernel
theorem dX2_sameDirection_39 : decode cX2_sameDirection 39 = .ok (.iload_n 1, 1) := by decide +kernel
theorem dX2_sameDirection_40 : decode cX2_sameDirection 40 = .ok (.iaload, 1) := by decide +kernel
theorem dX2_sameDirection_41 : decode cX2_sameDirection 41 = .ok (.isub, 1) := by decide +kernel
theorem dX2_sameDirection_42 : decode cX2_sameDirection 42 = .ok (.i2l, 1) := by decide +kernel
theorem dX2_sameDirection_43 : decode cX2_sameDirection 43 = .ok (.aload_n 0, 1) := by decide +kernel
theorem dX2_sameDirection_44 : decode cX2_sameDirection 44 = .ok (.getfield 15, 3) := by decide +kernel
theorem dX2_sameDirection_47 : decode cX2_sameDirection 47 = .ok (.iload_n 3, 1) := by decide +kernel
theorem dX2_sameDirection_48 : decode cX2_sameDirection 48 = .ok (.iaload, 1) := by decide +kernel
theorem dX2_sameDirection_49 : decode cX2_sameDirection 49 = .ok (.aload_n 0, 1) := by decide +kernel
theorem dX2_sameDirection_50 : decode cX2_sameDirection 50 = .ok (.getfield 15, 3) := by decide +kernel
theorem dX2_sameDirection_53 : decode cX2_sameDirection 53 = .ok (.iload_n 1, 1) := by decide +kernel
theorem dX2_sameDirection_54 : decode cX2_sameDirection 54 = .ok (.iaload, 1) := by decide +kernel
theorem dX2_sameDirection_55 : decode cX2_sameDirection 55 = .ok (.isub, 1) := by decide +kernel
theorem dX2_sameDirection_56 : decode cX2_sameDirection 56 = .ok (.i2l, 1) := by decide +kernel
theorem dX2_sameDirection_57 : decode cX2_sameDirection 57 = .ok (.lmul, 1) := by decide +kernel
theorem dX2_sameDirection_58 : decode cX2_sameDirection 58 = .ok (.ladd, 1) := by decide +kernel
theorem dX2_sameDirection_59 : decode cX2_sameDirection 59 = .ok (.lstore 4, 2) := by decide +kernel
theorem dX2_sameDirection_61 : decode cX2_sameDirection 61 = .ok (.lload 4, 2) := by decide +kernel
theorem dX2_sameDirection_63 : decode cX2_sameDirection 63 = .ok (.lconst 0, 1) := by decide +kernel
theorem dX2_sameDirection_64 : decode cX2_sameDirection 64 = .ok (.lcmp, 1) := by decide +kernel
theorem dX2_sameDirection_65 : decode cX2_sameDirection 65 = .ok (.ifCond .le 17, 3) := by decide +kernel
theorem dX2_sameDirection_68 : decode cX2_sameDirection 68 = .ok (.aload_n 0, 1) := by decide +kernel
theorem dX2_sameDirection_69 : decode cX2_sameDirection 69 = .ok (.iload_n 1, 1) := by decide +kernel
theorem dX2_sameDirection_70 : decode cX2_sameDirection 70 = .ok (.iload_n 2, 1) := by decide +kernel
theorem dX2_sameDirection_71 : decode cX2_sameDirection 71 = .ok (.iload_n 3, 1) := by decide +kernel
theorem dX2_sameDirection_72 : decode cX2_sameDirection 72 = .ok (.invokevirtual 37, 3) := by decide +kernel
theorem dX2_sameDirection_75 : decode cX2_sameDirection 75 = .ok (.ifCond .ne 7, 3) := by decide +kernel
theorem dX2_sameDirection_78 : decode cX2_sameDirection 78 = .ok (.iconst 1, 1) := by decide +kernel
theorem dX2_sameDirection_79 : decode cX2_sameDirection 79 = .ok (.goto 4, 3) := by decide +kernel
theorem dX2_sameDirection_82 : decode cX2_sameDirection 82 = .ok (.iconst 0, 1) := by decide +kernel
theorem dX2_sameDirection_83 : decode cX2_sameDirection 83 = .ok (.ireturn, 1) := by decide +kernel
theorem dX2_liesAmong_0 : decode cX2_liesAmong 0 = .ok (.iload_n 2, 1) := by decide +kernel
theorem dX2_liesAmong_1 : decode cX2_liesAmong 1 = .ok (.iload_n 0, 1) := by decide +kernel
theorem dX2_liesAmong_2 : decode cX2_liesAmong 2 = .ok (.iload_n 1, 1) := by decide +kernel
theorem dX2_liesAmong_3 : decode cX2_liesAmong 3 = .ok (.invokestatic 45, 3) := by decide +kernel
theorem dX2_liesAmong_6 : decode cX2_liesAmong 6 = .ok (.if_icmp .lt 16, 3) := by decide +kernel
theorem dX2_liesAmong_9 : decode cX2_liesAmong 9 = .ok (.iload_n 2, 1) := by decide +kernel
theorem dX2_liesAmong_10 : decode cX2_liesAmong 10 = .ok (.iload_n 0, 1) := by decide +kernel
theorem dX2_liesAmong_11 : decode cX2_liesAmong 11 = .ok (.iload_n 1, 1) := by decide +kernel
theorem dX2_liesAmong_12 : decode cX2_liesAmong 12 = .ok (.invokestatic 50, 3) := by decide +kernel
theorem dX2_liesAmong_15 : decode cX2_liesAmong 15 = .ok (.if_icmp .gt 7, 3) := by decide +kernel
theorem dX2_liesAmong_18 : decode cX2_liesAmong 18 = .ok (.iconst 1, 1) := by decide +kernel
theorem dX2_liesAmong_19 : decode cX2_liesAmong 19 = .ok (.goto 4, 3) := by decide +kernel
theorem dX2_liesAmong_22 : decode cX2_liesAmong 22 = .ok (.iconst 0, 1) := by decide +kernel
theorem dX2_liesAmong_23 : decode cX2_liesAmong 23 = .ok (.ireturn, 1) := by decide +kernel
theorem dX3_init_0 : decode cX3_init 0 = .ok (.aload_n 0, 1) := by decide +kernel
theorem dX3_init_1 : decode cX3_init 1 = .ok (.invokespecial 1, 3) := by decide +kernel
theorem dX3_init_4 : decode cX3_init 4 = .ok (.aload_n 0, 1) := by decide +kernel
theorem dX3_init_5 : decode cX3_init 5 = .ok (.iconst 1, 1) := by decide +kernel
theorem dX3_init_6 : decode cX3_init 6 = .ok (.putfield 7, 3) := by decide +kernel
theorem dX3_init_9 : decode cX3_init 9 = .ok (.aload_n 0, 1) := by decide +kernel
theorem dX3_init_10 : decode cX3_init 10 = .ok (.iconst 0, 1) := by decide +kernel
theorem dX3_init_11 : decode cX3_init 11 = .ok (.putfield 13, 3) := by decide +kernel
theorem dX3_init_14 : decode cX3_init 14 = .ok (.aload_n 0, 1) := by decide +kernel
theorem dX3_init_15 : decode cX3_init 15 = .ok (.iconst 0, 1) := by decide +kernel
theorem dX3_init_16 : decode cX3_init 16 = .ok (.putfield 17, 3) := by decide +kernel
theorem dX3_init_19 : decode cX3_init 19 = .ok (.aload_n 0, 1) := by decide +kernel
theorem dX3_init_20 : decode cX3_init 20 = .ok (.iconst 0, 1) := by decide +kernel
theorem dX3_init_21 : decode cX3_init 21 = .ok (.putfield 20, 3) := by decide +kernel
theorem dX3_init_24 : decode cX3_init 24 = .ok (.aload_n 0, 1) := by decide +kernel
theorem dX3_init_25 : decode cX3_init 25 = .ok (.aload_n 1, 1) := by decide +kernel
theorem dX3_init_26 : decode cX3_init 26 = .ok (.putfield 23, 3) := by decide +kernel
theorem dX3_init_29 : decode cX3_init 29 = .ok (.return_, 1) := by decide +kernel
theorem dX3_note_0 : decode cX3_note 0 = .ok (.aload_n 0, 1) := by decide +kernel
theorem dX3_note_1 : decode cX3_note 1 = .ok (.getfield 7, 3) := by decide +kernel
theorem dX3_note_4 : decode cX3_note 4 = .ok (.ifCond .eq 20, 3) := by decide +kernel
theorem dX3_note_7 : decode cX3_note 7 = .ok (.iload_n 1, 1) := by decide +kernel
theorem dX3_note_8 : decode cX3_note 8 = .ok (.ifCond .eq 16, 3) := by decide +kernel
theorem dX3_note_11 : decode cX3_note 11 = .ok (.aload_n 0, 1) := by decide +kernel
theorem dX3_note_12 : decode cX3_note 12 = .ok (.dup, 1) := by decide +kernel
theorem dX3_note_13 : decode cX3_note 13 = .ok (.getfield 13, 3) := by decide +kernel
theorem dX3_note_16 : decode cX3_note 16 = .ok (.iconst 1, 1) := by decide +kernel
theorem dX3_note_17 : decode cX3_note 17 = .ok (.iadd, 1) := by decide +kernel
theorem dX3_note_18 : decode cX3_note 18 = .ok (.putfield 13, 3) := by decide +kernel
theorem dX3_note_21 : decode cX3_note 21 = .ok (.goto 13, 3) := by decide +kernel
theorem dX3_note_24 : decode cX3_note 24 = .ok (.aload_n 0, 1) := by decide +kernel
theorem dX3_note_25 : decode cX3_note 25 = .ok (.dup, 1) := by decide +kernel
theorem dX3_note_26 : decode cX3_note 26 = .ok (.getfield 17, 3) := by decide +kernel
theorem dX3_note_29 : decode cX3_note 29 = .ok (.iconst 1, 1) := by decide +kernel
theorem dX3_note_30 : decode cX3_note 30 = .ok (.iadd, 1) := by decide +kernel
theorem dX3_note_31 : decode cX3_note 31 = .ok (.putfield 17, 3) := by decide +kernel
theorem dX3_note_34 : decode cX3_note 34 = .ok (.iload_n 2, 1) := by decide +kernel
theorem dX3_note_35 : decode cX3_note 35 = .ok (.ifCond .ne 13, 3) := by decide +kernel
theorem dX3_note_38 : decode cX3_note 38 = .ok (.aload_n 0, 1) := by decide +kernel
theorem dX3_note_39 : decode cX3_note 39 = .ok (.dup, 1) := by decide +kernel
theorem dX3_note_40 : decode cX3_note 40 = .ok (.getfield 20, 3) := by decide +kernel
theorem dX3_note_43 : decode cX3_note 43 = .ok (.iconst 1, 1) := by decide +kernel
theorem dX3_note_44 : decode cX3_note 44 = .ok (.iadd, 1) := by decide +kernel
theorem dX3_note_45 : decode cX3_note 45 = .ok (.putfield 20, 3) := by decide +kernel
theorem dX3_note_48 : decode cX3_note 48 = .ok (.iload_n 2, 1) := by decide +kernel
theorem dX3_note_49 : decode cX3_note 49 = .ok (.ireturn, 1) := by decide +kernel
theorem dX3_decidesTurn_0 : decode cX3_decidesTurn 0 = .ok (.aload_n 0, 1) := by decide +kernel
theorem dX3_decidesTurn_1 : decode cX3_decidesTurn 1 = .ok (.iload_n 2, 1) := by decide +kernel
theorem dX3_decidesTurn_2 : decode cX3_decidesTurn 2 = .ok (.invokevirtual 27, 3) := by decide +kernel
theorem dX3_decidesTurn_5 : decode cX3_decidesTurn 5 = .ok (.aload_n 0, 1) := by decide +kernel
theorem dX3_decidesTurn_6 : decode cX3_decidesTurn 6 = .ok (.iload_n 1, 1) := by decide +kernel
theorem dX3_decidesTurn_7 : decode cX3_decidesTurn 7 = .ok (.invokevirtual 27, 3) := by decide +kernel
theorem dX3_decidesTurn_10 : decode cX3_decidesTurn 10 = .ok (.fsub, 1) := by decide +kernel
theorem dX3_decidesTurn_11 : decode cX3_decidesTurn 11 = .ok (.aload_n 0, 1) := by decide +kernel
theorem dX3_decidesTurn_12 : decode cX3_decidesTurn 12 = .ok (.iload_n 3, 1) := by decide +kernel
theorem dX3_decidesTurn_13 : decode cX3_decidesTurn 13 = .ok (.invokevirtual 31, 3) := by decide +kernel
theorem dX3_decidesTurn_16 : decode cX3_decidesTurn 16 = .ok (.aload_n 0, 1) := by decide +kernel
theorem dX3_decidesTurn_17 : decode cX3_decidesTurn 17 = .ok (.iload_n 1, 1) := by decide +kernel
theorem dX3_decidesTurn_18 : decode cX3_decidesTurn 18 = .ok (.invokevirtual 31, 3) := by decide +kernel
theorem dX3_decidesTurn_21 : decode cX3_decidesTurn 21 = .ok (.fsub, 1) := by decide +kernel
theorem dX3_decidesTurn_22 : decode cX3_decidesTurn 22 = .ok (.fmul, 1) := by decide +kernel
theorem dX3_decidesTurn_23 : decode cX3_decidesTurn 23 = .ok (.fstore 4, 2) := by decide +kernel
theorem dX3_decidesTurn_25 : decode cX3_decidesTurn 25 = .ok (.aload_n 0, 1) := by decide +kernel
theorem dX3_decidesTurn_26 : decode cX3_decidesTurn 26 = .ok (.iload_n 2, 1) := by decide +kernel
theorem dX3_decidesTurn_27 : decode cX3_decidesTurn 27 = .ok (.invokevirtual 31, 3) := by decide +kernel
theorem dX3_decidesTurn_30 : decode cX3_decidesTurn 30 = .ok (.aload_n 0, 1) := by decide +kernel
theorem dX3_decidesTurn_31 : decode cX3_decidesTurn 31 = .ok (.iload_n 1, 1) := by decide +kernel
theorem dX3_decidesTurn_32 : decode cX3_decidesTurn 32 = .ok (.invokevirtual 31, 3) := by decide +kernel
theorem dX3_decidesTurn_35 : decode cX3_decidesTurn 35 = .ok (.fsub, 1) := by decide +kernel
theorem dX3_decidesTurn_36 : decode cX3_decidesTurn 36 = .ok (.aload_n 0, 1) := by decide +kernel
theorem dX3_decidesTurn_37 : decode cX3_decidesTurn 37 = .ok (.iload_n 3, 1) := by decide +kernel
theorem dX3_decidesTurn_38 : decode cX3_decidesTurn 38 = .ok (.invokevirtual 27, 3) := by decide +kernel
theorem dX3_decidesTurn_41 : decode cX3_decidesTurn 41 = .ok (.aload_n 0, 1) := by decide +kernel
theorem dX3_decidesTurn_42 : decode cX3_decidesTurn 42 = .ok (.iload_n 1, 1) := by decide +kernel
theorem dX3_decidesTurn_43 : decode cX3_decidesTurn 43 = .ok (.invokevirtual 27, 3) := by decide +kernel
theorem dX3_decidesTurn_46 : decode cX3_decidesTurn 46 = .ok (.fsub, 1) := by decide +kernel
theorem dX3_decidesTurn_47 : decode cX3_decidesTurn 47 = .ok (.fmul, 1) := by decide +kernel
theorem dX3_decidesTurn_48 : decode cX3_decidesTurn 48 = .ok (.fstore 5, 2) := by decide +kernel
theorem dX3_decidesTurn_50 : decode cX3_decidesTurn 50 = .ok (.aload_n 0, 1) := by decide +kernel
theorem dX3_decidesTurn_51 : decode cX3_decidesTurn 51 = .ok (.iload_n 1, 1) := by decide +kernel
theorem dX3_decidesTurn_52 : decode cX3_decidesTurn 52 = .ok (.invokevirtual 34, 3) := by decide +kernel
theorem dX3_decidesTurn_55 : decode cX3_decidesTurn 55 = .ok (.aload_n 0, 1) := by decide +kernel
theorem dX3_decidesTurn_56 : decode cX3_decidesTurn 56 = .ok (.iload_n 2, 1) := by decide +kernel
theorem dX3_decidesTurn_57 : decode cX3_decidesTurn 57 = .ok (.invokevirtual 34, 3) := by decide +kernel
theorem dX3_decidesTurn_60 : decode cX3_decidesTurn 60 = .ok (.invokestatic 37, 3) := by decide +kernel
theorem dX3_decidesTurn_63 : decode cX3_decidesTurn 63 = .ok (.aload_n 0, 1) := by decide +kernel
theorem dX3_decidesTurn_64 : decode cX3_decidesTurn 64 = .ok (.iload_n 3, 1) := by decide +kernel
theorem dX3_decidesTurn_65 : decode cX3_decidesTurn 65 = .ok (.invokevirtual 34, 3) := by decide +kernel
theorem dX3_decidesTurn_68 : decode cX3_decidesTurn 68 = .ok (.invokestatic 37, 3) := by decide +kernel
theorem dX3_decidesTurn_71 : decode cX3_decidesTurn 71 = .ok (.fstore 6, 2) := by decide +kernel
theorem dX3_decidesTurn_73 : decode cX3_decidesTurn 73 = .ok (.fload 4, 2) := by decide +kernel
theorem dX3_decidesTurn_75 : decode cX3_decidesTurn 75 = .ok (.fload 5, 2) := by decide +kernel
theorem dX3_decidesTurn_77 : decode cX3_decidesTurn 77 = .ok (.fsub, 1) := by decide +kernel
theorem dX3_decidesTurn_78 : decode cX3_decidesTurn 78 = .ok (.invokestatic 41, 3) := by decide +kernel
theorem dX3_decidesTurn_81 : decode cX3_decidesTurn 81 = .ok (.fload 6, 2) := by decide +kernel
theorem dX3_decidesTurn_83 : decode cX3_decidesTurn 83 = .ok (.fload 6, 2) := by decide +kernel
theorem dX3_decidesTurn_85 : decode cX3_decidesTurn 85 = .ok (.fmul, 1) := by decide +kernel
theorem dX3_decidesTurn_86 : decode cX3_decidesTurn 86 = .ok (.ldc 45, 2) := by decide +kernel
theorem dX3_decidesTurn_88 : decode cX3_decidesTurn 88 = .ok (.fmul, 1) := by decide +kernel
theorem dX3_decidesTurn_89 : decode cX3_decidesTurn 89 = .ok (.fcmp .l, 1) := by decide +kernel
theorem dX3_decidesTurn_90 : decode cX3_decidesTurn 90 = .ok (.ifCond .le 7, 3) := by decide +kernel
theorem dX3_decidesTurn_93 : decode cX3_decidesTurn 93 = .ok (.iconst 1, 1) := by decide +kernel
theorem dX3_decidesTurn_94 : decode cX3_decidesTurn 94 = .ok (.goto 4, 3) := by decide +kernel
theorem dX3_decidesTurn_97 : decode cX3_decidesTurn 97 = .ok (.iconst 0, 1) := by decide +kernel
theorem dX3_decidesTurn_98 : decode cX3_decidesTurn 98 = .ok (.ireturn, 1) := by decide +kernel
theorem dX3_decidesRing_0 : decode cX3_decidesRing 0 = .ok (.aload_n 0, 1) := by decide +kernel
theorem dX3_decidesRing_1 : decode cX3_decidesRing 1 = .ok (.iload_n 1, 1) := by decide +kernel
theorem dX3_decidesRing_2 : decode cX3_decidesRing 2 = .ok (.invokevirtual 27, 3) := by decide +kernel
theorem dX3_decidesRing_5 : decode cX3_decidesRing 5 = .ok (.aload_n 0, 1) := by decide +kernel
theorem dX3_decidesRing_6 : decode cX3_decidesRing 6 = .ok (.iload 4, 2) := by decide +kernel
theorem dX3_decidesRing_8 : decode cX3_decidesRing 8 = .ok (.invokevirtual 27, 3) := by decide +kernel
theorem dX3_decidesRing_11 : decode cX3_decidesRing 11 = .ok (.fsub, 1) := by decide +kernel
theorem dX3_decidesRing_12 : decode cX3_decidesRing 12 = .ok (.fstore 5, 2) := by decide +kernel
theorem dX3_decidesRing_14 : decode cX3_decidesRing 14 = .ok (.aload_n 0, 1) := by decide +kernel
theorem dX3_decidesRing_15 : decode cX3_decidesRing 15 = .ok (.iload_n 1, 1) := by decide +kernel
theorem dX3_decidesRing_16 : decode cX3_decidesRing 16 = .ok (.invokevirtual 31, 3) := by decide +kernel
theorem dX3_decidesRing_19 : decode cX3_decidesRing 19 = .ok (.aload_n 0, 1) := by decide +kernel
theorem dX3_decidesRing_20 : decode cX3_decidesRing 20 = .ok (.iload 4, 2) := by decide +kernel
theorem dX3_decidesRing_22 : decode cX3_decidesRing 22 = .ok (.invokevirtual 31, 3) := by decide +kernel
theorem dX3_decidesRing_25 : decode cX3_decidesRing 25 = .ok (.fsub, 1) := by decide +kernel
theorem dX3_decidesRing_26 : decode cX3_decidesRing 26 = .ok (.fstore 6, 2) := by decide +kernel
theorem dX3_decidesRing_28 : decode cX3_decidesRing 28 = .ok (.aload_n 0, 1) := by decide +kernel
theorem dX3_decidesRing_29 : decode cX3_decidesRing 29 = .ok (.iload_n 2, 1) := by decide +kernel
theorem dX3_decidesRing_30 : decode cX3_decidesRing 30 = .ok (.invokevirtual 27, 3) := by decide +kernel
theorem dX3_decidesRing_33 : decode cX3_decidesRing 33 = .ok (.aload_n 0, 1) := by decide +kernel
theorem dX3_decidesRing_34 : decode cX3_decidesRing 34 = .ok (.iload 4, 2) := by decide +kernel
theorem dX3_decidesRing_36 : decode cX3_decidesRing 36 = .ok (.invokevirtual 27, 3) := by decide +kernel
theorem dX3_decidesRing_39 : decode cX3_decidesRing 39 = .ok (.fsub, 1) := by decide +kernel
theorem dX3_decidesRing_40 : decode cX3_decidesRing 40 = .ok (.fstore 7, 2) := by decide +kernel
theorem dX3_decidesRing_42 : decode cX3_decidesRing 42 = .ok (.aload_n 0, 1) := by decide +kernel
theorem dX3_decidesRing_43 : decode cX3_decidesRing 43 = .ok (.iload_n 2, 1) := by decide +kernel
theorem dX3_decidesRing_44 : decode cX3_decidesRing 44 = .ok (.invokevirtual 31, 3) := by decide +kernel
theorem dX3_decidesRing_47 : decode cX3_decidesRing 47 = .ok (.aload_n 0, 1) := by decide +kernel
theorem dX3_decidesRing_48 : decode cX3_decidesRing 48 = .ok (.iload 4, 2) := by decide +kernel
theorem dX3_decidesRing_50 : decode cX3_decidesRing 50 = .ok (.invokevirtual 31, 3) := by decide +kernel
theorem dX3_decidesRing_53 : decode cX3_decidesRing 53 = .ok (.fsub, 1) := by decide +kernel
theorem dX3_decidesRing_54 : decode cX3_decidesRing 54 = .ok (.fstore 8, 2) := by decide +kernel
theorem dX3_decidesRing_56 : decode cX3_decidesRing 56 = .ok (.aload_n 0, 1) := by decide +kernel
theorem dX3_decidesRing_57 : decode cX3_decidesRing 57 = .ok (.iload_n 3, 1) := by decide +kernel
theorem dX3_decidesRing_58 : decode cX3_decidesRing 58 = .ok (.invokevirtual 27, 3) := by decide +kernel
theorem dX3_decidesRing_61 : decode cX3_decidesRing 61 = .ok (.aload_n 0, 1) := by decide +kernel
theorem dX3_decidesRing_62 : decode cX3_decidesRing 62 = .ok (.iload 4, 2) := by decide +kernel
theorem dX3_decidesRing_64 : decode cX3_decidesRing 64 = .ok (.invokevirtual 27, 3) := by decide +kernel
theorem dX3_decidesRing_67 : decode cX3_decidesRing 67 = .ok (.fsub, 1) := by decide +kernel
theorem dX3_decidesRing_68 : decode cX3_decidesRing 68 = .ok (.fstore 9, 2) := by decide +kernel
theorem dX3_decidesRing_70 : decode cX3_decidesRing 70 = .ok (.aload_n 0, 1) := by decide +kernel
theorem dX3_decidesRing_71 : decode cX3_decidesRing 71 = .ok (.iload_n 3, 1) := by decide +kernel
theorem dX3_decidesRing_72 : decode cX3_decidesRing 72 = .ok (.invokevirtual 31, 3) := by decide +kernel
theorem dX3_decidesRing_75 : decode cX3_decidesRing 75 = .ok (.aload_n 0, 1) := by decide +kernel
theorem dX3_decidesRing_76 : decode cX3_decidesRing 76 = .ok (.iload 4, 2) := by decide +kernel
theorem dX3_decidesRing_78 : decode cX3_decidesRing 78 = .ok (.invokevirtual 31, 3) := by decide +kernel
theorem dX3_decidesRing_81 : decode cX3_decidesRing 81 = .ok (.fsub, 1) := by decide +kernel
theorem dX3_decidesRing_82 : decode cX3_decidesRing 82 = .ok (.fstore 10, 2) := by decide +kernel
theorem dX3_decidesRing_84 : decode cX3_decidesRing 84 = .ok (.fload 5, 2) := by decide +kernel
theorem dX3_decidesRing_86 : decode cX3_decidesRing 86 = .ok (.fload 5, 2) := by decide +kernel
theorem dX3_decidesRing_88 : decode cX3_decidesRing 88 = .ok (.fmul, 1) := by decide +kernel
theorem dX3_decidesRing_89 : decode cX3_decidesRing 89 = .ok (.fload 6, 2) := by decide +kernel
theorem dX3_decidesRing_91 : decode cX3_decidesRing 91 = .ok (.fload 6, 2) := by decide +kernel
theorem dX3_decidesRing_93 : decode cX3_decidesRing 93 = .ok (.fmul, 1) := by decide +kernel
theorem dX3_decidesRing_94 : decode cX3_decidesRing 94 = .ok (.fadd, 1) := by decide +kernel
theorem dX3_decidesRing_95 : decode cX3_decidesRing 95 = .ok (.fload 7, 2) := by decide +kernel
theorem dX3_decidesRing_97 : decode cX3_decidesRing 97 = .ok (.fload 10, 2) := by decide +kernel
theorem dX3_decidesRing_99 : decode cX3_decidesRing 99 = .ok (.fmul, 1) := by decide +kernel
theorem dX3_decidesRing_100 : decode cX3_decidesRing 100 = .ok (.fload 8, 2) := by decide +kernel
theorem dX3_decidesRing_102 : decode cX3_decidesRing 102 = .ok (.fload 9, 2) := by decide +kernel
theorem dX3_decidesRing_104 : decode cX3_decidesRing 104 = .ok (.fmul, 1) := by decide +kernel
theorem dX3_decidesRing_105 : decode cX3_decidesRing 105 = .ok (.fsub, 1) := by decide +kernel
theorem dX3_decidesRing_106 : decode cX3_decidesRing 106 = .ok (.fmul, 1) := by decide +kernel
theorem dX3_decidesRing_107 : decode cX3_decidesRing 107 = .ok (.fstore 11, 2) := by decide +kernel
theorem dX3_decidesRing_109 : decode cX3_decidesRing 109 = .ok (.fload 7, 2) := by decide +kernel
theorem dX3_decidesRing_111 : decode cX3_decidesRing 111 = .ok (.fload 7, 2) := by decide +kernel
theorem dX3_decidesRing_113 : decode cX3_decidesRing 113 = .ok (.fmul, 1) := by decide +kernel
theorem dX3_decidesRing_114 : decode cX3_decidesRing 114 = .ok (.fload 8, 2) := by decide +kernel
theorem dX3_decidesRing_116 : decode cX3_decidesRing 116 = .ok (.fload 8, 2) := by decide +kernel
theorem dX3_decidesRing_118 : decode cX3_decidesRing 118 = .ok (.fmul, 1) := by decide +kernel
theorem dX3_decidesRing_119 : decode cX3_decidesRing 119 = .ok (.fadd, 1) := by decide +kernel
theorem dX3_decidesRing_120 : decode cX3_decidesRing 120 = .ok (.fload 9, 2) := by decide +kernel
theorem dX3_decidesRing_122 : decode cX3_decidesRing 122 = .ok (.fload 6, 2) := by decide +kernel
theorem dX3_decidesRing_124 : decode cX3_decidesRing 124 = .ok (.fmul, 1) := by decide +kernel
theorem dX3_decidesRing_125 : decode cX3_decidesRing 125 = .ok (.fload 10, 2) := by decide +kernel
theorem dX3_decidesRing_127 : decode cX3_decidesRing 127 = .ok (.fload 5, 2) := by decide +kernel
theorem dX3_decidesRing_129 : decode cX3_decidesRing 129 = .ok (.fmul, 1) := by decide +kernel
theorem dX3_decidesRing_130 : decode cX3_decidesRing 130 = .ok (.fsub, 1) := by decide +kernel
theorem dX3_decidesRing_131 : decode cX3_decidesRing 131 = .ok (.fmul, 1) := by decide +kernel
theorem dX3_decidesRing_132 : decode cX3_decidesRing 132 = .ok (.fstore 12, 2) := by decide +kernel
theorem dX3_decidesRing_134 : decode cX3_decidesRing 134 = .ok (.fload 9, 2) := by decide +kernel

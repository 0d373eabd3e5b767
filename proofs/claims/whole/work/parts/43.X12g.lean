theorem dX12_longOf_0 : decode cX12_longOf 0 = .ok (.iconst 0, 1) := by decide +kernel
theorem dX12_longOf_1 : decode cX12_longOf 1 = .ok (.istore_n 2, 1) := by decide +kernel
theorem dX12_longOf_2 : decode cX12_longOf 2 = .ok (.iconst 0, 1) := by decide +kernel
theorem dX12_longOf_3 : decode cX12_longOf 3 = .ok (.istore_n 3, 1) := by decide +kernel
theorem dX12_longOf_4 : decode cX12_longOf 4 = .ok (.iload_n 3, 1) := by decide +kernel
theorem dX12_longOf_5 : decode cX12_longOf 5 = .ok (.aload_n 0, 1) := by decide +kernel
theorem dX12_longOf_6 : decode cX12_longOf 6 = .ok (.getfield 35, 3) := by decide +kernel
theorem dX12_longOf_9 : decode cX12_longOf 9 = .ok (.iconst 0, 1) := by decide +kernel
theorem dX12_longOf_10 : decode cX12_longOf 10 = .ok (.iaload, 1) := by decide +kernel
theorem dX12_longOf_11 : decode cX12_longOf 11 = .ok (.if_icmp .ge 33, 3) := by decide +kernel
theorem dX12_longOf_14 : decode cX12_longOf 14 = .ok (.iload_n 2, 1) := by decide +kernel
theorem dX12_longOf_15 : decode cX12_longOf 15 = .ok (.iload_n 1, 1) := by decide +kernel
theorem dX12_longOf_16 : decode cX12_longOf 16 = .ok (.iload_n 3, 1) := by decide +kernel
theorem dX12_longOf_17 : decode cX12_longOf 17 = .ok (.invokestatic 107, 3) := by decide +kernel
theorem dX12_longOf_20 : decode cX12_longOf 20 = .ok (.ifCond .eq 15, 3) := by decide +kernel
theorem dX12_longOf_23 : decode cX12_longOf 23 = .ok (.aload_n 0, 1) := by decide +kernel
theorem dX12_longOf_24 : decode cX12_longOf 24 = .ok (.getfield 35, 3) := by decide +kernel
theorem dX12_longOf_27 : decode cX12_longOf 27 = .ok (.bipush 37, 2) := by decide +kernel
theorem dX12_longOf_29 : decode cX12_longOf 29 = .ok (.iload_n 3, 1) := by decide +kernel
theorem dX12_longOf_30 : decode cX12_longOf 30 = .ok (.iadd, 1) := by decide +kernel
theorem dX12_longOf_31 : decode cX12_longOf 31 = .ok (.iaload, 1) := by decide +kernel
theorem dX12_longOf_32 : decode cX12_longOf 32 = .ok (.goto 4, 3) := by decide +kernel
theorem dX12_longOf_35 : decode cX12_longOf 35 = .ok (.iconst 0, 1) := by decide +kernel
theorem dX12_longOf_36 : decode cX12_longOf 36 = .ok (.iadd, 1) := by decide +kernel
theorem dX12_longOf_37 : decode cX12_longOf 37 = .ok (.istore_n 2, 1) := by decide +kernel
theorem dX12_longOf_38 : decode cX12_longOf 38 = .ok (.iinc 3 1, 3) := by decide +kernel
theorem dX12_longOf_41 : decode cX12_longOf 41 = .ok (.goto (-37), 3) := by decide +kernel
theorem dX12_longOf_44 : decode cX12_longOf 44 = .ok (.iload_n 2, 1) := by decide +kernel
theorem dX12_longOf_45 : decode cX12_longOf 45 = .ok (.ireturn, 1) := by decide +kernel
def j_X12_longOf : JD := (yX12_longOf, cX12_longOf, 4, (some .int))
def b_X12_longOf : BD := (1, 0, 0)
theorem dX12_ground_0 : decode cX12_ground 0 = .ok (.aload_n 0, 1) := by decide +kernel
theorem dX12_ground_1 : decode cX12_ground 1 = .ok (.iconst 0, 1) := by decide +kernel
theorem dX12_ground_2 : decode cX12_ground 2 = .ok (.putfield 68, 3) := by decide +kernel
theorem dX12_ground_5 : decode cX12_ground 5 = .ok (.aload_n 0, 1) := by decide +kernel
theorem dX12_ground_6 : decode cX12_ground 6 = .ok (.iconst 0, 1) := by decide +kernel
theorem dX12_ground_7 : decode cX12_ground 7 = .ok (.putfield 71, 3) := by decide +kernel
theorem dX12_ground_10 : decode cX12_ground 10 = .ok (.iload_n 1, 1) := by decide +kernel
theorem dX12_ground_11 : decode cX12_ground 11 = .ok (.i2l, 1) := by decide +kernel
theorem dX12_ground_12 : decode cX12_ground 12 = .ok (.lconst 1, 1) := by decide +kernel
theorem dX12_ground_13 : decode cX12_ground 13 = .ok (.ldc2_w 404, 3) := by decide +kernel
theorem dX12_ground_16 : decode cX12_ground 16 = .ok (.invokestatic 103, 3) := by decide +kernel
theorem dX12_ground_19 : decode cX12_ground 19 = .ok (.ifCond .ne 9, 3) := by decide +kernel
theorem dX12_ground_22 : decode cX12_ground 22 = .ok (.aload_n 0, 1) := by decide +kernel
theorem dX12_ground_23 : decode cX12_ground 23 = .ok (.iconst 5, 1) := by decide +kernel
theorem dX12_ground_24 : decode cX12_ground 24 = .ok (.invokevirtual 331, 3) := by decide +kernel
theorem dX12_ground_27 : decode cX12_ground 27 = .ok (.ireturn, 1) := by decide +kernel
theorem dX12_ground_28 : decode cX12_ground 28 = .ok (.iconst 0, 1) := by decide +kernel
theorem dX12_ground_29 : decode cX12_ground 29 = .ok (.istore_n 2, 1) := by decide +kernel
theorem dX12_ground_30 : decode cX12_ground 30 = .ok (.iconst 0, 1) := by decide +kernel
theorem dX12_ground_31 : decode cX12_ground 31 = .ok (.istore_n 3, 1) := by decide +kernel
theorem dX12_ground_32 : decode cX12_ground 32 = .ok (.iload_n 3, 1) := by decide +kernel
theorem dX12_ground_33 : decode cX12_ground 33 = .ok (.aload_n 0, 1) := by decide +kernel
theorem dX12_ground_34 : decode cX12_ground 34 = .ok (.getfield 35, 3) := by decide +kernel
theorem dX12_ground_37 : decode cX12_ground 37 = .ok (.iconst 0, 1) := by decide +kernel
theorem dX12_ground_38 : decode cX12_ground 38 = .ok (.iaload, 1) := by decide +kernel
theorem dX12_ground_39 : decode cX12_ground 39 = .ok (.if_icmp .ge 58, 3) := by decide +kernel
theorem dX12_ground_42 : decode cX12_ground 42 = .ok (.aload_n 0, 1) := by decide +kernel
theorem dX12_ground_43 : decode cX12_ground 43 = .ok (.iload_n 3, 1) := by decide +kernel
theorem dX12_ground_44 : decode cX12_ground 44 = .ok (.invokevirtual 324, 3) := by decide +kernel
theorem dX12_ground_47 : decode cX12_ground 47 = .ok (.ifCond .eq 44, 3) := by decide +kernel
theorem dX12_ground_50 : decode cX12_ground 50 = .ok (.aload_n 0, 1) := by decide +kernel
theorem dX12_ground_51 : decode cX12_ground 51 = .ok (.getfield 35, 3) := by decide +kernel
theorem dX12_ground_54 : decode cX12_ground 54 = .ok (.bipush 53, 2) := by decide +kernel
theorem dX12_ground_56 : decode cX12_ground 56 = .ok (.iload_n 3, 1) := by decide +kernel
theorem dX12_ground_57 : decode cX12_ground 57 = .ok (.iadd, 1) := by decide +kernel
theorem dX12_ground_58 : decode cX12_ground 58 = .ok (.iaload, 1) := by decide +kernel
theorem dX12_ground_59 : decode cX12_ground 59 = .ok (.ifCond .le 6, 3) := by decide +kernel
theorem dX12_ground_62 : decode cX12_ground 62 = .ok (.goto 29, 3) := by decide +kernel
theorem dX12_ground_65 : decode cX12_ground 65 = .ok (.iload_n 2, 1) := by decide +kernel
theorem dX12_ground_66 : decode cX12_ground 66 = .ok (.iconst 1, 1) := by decide +kernel
theorem dX12_ground_67 : decode cX12_ground 67 = .ok (.iload_n 3, 1) := by decide +kernel
theorem dX12_ground_68 : decode cX12_ground 68 = .ok (.ishl, 1) := by decide +kernel
theorem dX12_ground_69 : decode cX12_ground 69 = .ok (.ior, 1) := by decide +kernel
theorem dX12_ground_70 : decode cX12_ground 70 = .ok (.istore_n 2, 1) := by decide +kernel
theorem dX12_ground_71 : decode cX12_ground 71 = .ok (.aload_n 0, 1) := by decide +kernel
theorem dX12_ground_72 : decode cX12_ground 72 = .ok (.getfield 35, 3) := by decide +kernel
theorem dX12_ground_75 : decode cX12_ground 75 = .ok (.bipush 37, 2) := by decide +kernel
theorem dX12_ground_77 : decode cX12_ground 77 = .ok (.iload_n 3, 1) := by decide +kernel
theorem dX12_ground_78 : decode cX12_ground 78 = .ok (.iadd, 1) := by decide +kernel
theorem dX12_ground_79 : decode cX12_ground 79 = .ok (.iaload, 1) := by decide +kernel
theorem dX12_ground_80 : decode cX12_ground 80 = .ok (.iload_n 1, 1) := by decide +kernel
theorem dX12_ground_81 : decode cX12_ground 81 = .ok (.if_icmp .le 10, 3) := by decide +kernel
theorem dX12_ground_84 : decode cX12_ground 84 = .ok (.aload_n 0, 1) := by decide +kernel
theorem dX12_ground_85 : decode cX12_ground 85 = .ok (.bipush 9, 2) := by decide +kernel
theorem dX12_ground_87 : decode cX12_ground 87 = .ok (.invokevirtual 331, 3) := by decide +kernel
theorem dX12_ground_90 : decode cX12_ground 90 = .ok (.ireturn, 1) := by decide +kernel
theorem dX12_ground_91 : decode cX12_ground 91 = .ok (.iinc 3 1, 3) := by decide +kernel
theorem dX12_ground_94 : decode cX12_ground 94 = .ok (.goto (-62), 3) := by decide +kernel
theorem dX12_ground_97 : decode cX12_ground 97 = .ok (.iconst 0, 1) := by decide +kernel
theorem dX12_ground_98 : decode cX12_ground 98 = .ok (.istore_n 3, 1) := by decide +kernel
theorem dX12_ground_99 : decode cX12_ground 99 = .ok (.iload_n 3, 1) := by decide +kernel
theorem dX12_ground_100 : decode cX12_ground 100 = .ok (.iload_n 2, 1) := by decide +kernel
theorem dX12_ground_101 : decode cX12_ground 101 = .ok (.if_icmp .gt 82, 3) := by decide +kernel
theorem dX12_ground_104 : decode cX12_ground 104 = .ok (.aload_n 0, 1) := by decide +kernel
theorem dX12_ground_105 : decode cX12_ground 105 = .ok (.getfield 50, 3) := by decide +kernel
theorem dX12_ground_108 : decode cX12_ground 108 = .ok (.iload_n 3, 1) := by decide +kernel
theorem dX12_ground_109 : decode cX12_ground 109 = .ok (.iload_n 3, 1) := by decide +kernel
theorem dX12_ground_110 : decode cX12_ground 110 = .ok (.ifCond .ne 7, 3) := by decide +kernel
theorem dX12_ground_113 : decode cX12_ground 113 = .ok (.iconst 0, 1) := by decide +kernel
theorem dX12_ground_114 : decode cX12_ground 114 = .ok (.goto 5, 3) := by decide +kernel
theorem dX12_ground_117 : decode cX12_ground 117 = .ok (.bipush 99, 2) := by decide +kernel
theorem dX12_ground_119 : decode cX12_ground 119 = .ok (.iastore, 1) := by decide +kernel
theorem dX12_ground_120 : decode cX12_ground 120 = .ok (.iload_n 3, 1) := by decide +kernel
theorem dX12_ground_121 : decode cX12_ground 121 = .ok (.istore 4, 2) := by decide +kernel
theorem dX12_ground_123 : decode cX12_ground 123 = .ok (.iload 4, 2) := by decide +kernel
theorem dX12_ground_125 : decode cX12_ground 125 = .ok (.ifCond .le 52, 3) := by decide +kernel
theorem dX12_ground_128 : decode cX12_ground 128 = .ok (.aload_n 0, 1) := by decide +kernel
theorem dX12_ground_129 : decode cX12_ground 129 = .ok (.iload 4, 2) := by decide +kernel
theorem dX12_ground_131 : decode cX12_ground 131 = .ok (.invokevirtual 477, 3) := by decide +kernel
theorem dX12_ground_134 : decode cX12_ground 134 = .ok (.iload_n 1, 1) := by decide +kernel
theorem dX12_ground_135 : decode cX12_ground 135 = .ok (.if_icmp .gt 31, 3) := by decide +kernel
theorem dX12_ground_138 : decode cX12_ground 138 = .ok (.aload_n 0, 1) := by decide +kernel
theorem dX12_ground_139 : decode cX12_ground 139 = .ok (.getfield 50, 3) := by decide +kernel
theorem dX12_ground_142 : decode cX12_ground 142 = .ok (.iload_n 3, 1) := by decide +kernel
theorem dX12_ground_143 : decode cX12_ground 143 = .ok (.aload_n 0, 1) := by decide +kernel
theorem dX12_ground_144 : decode cX12_ground 144 = .ok (.getfield 50, 3) := by decide +kernel
theorem dX12_ground_147 : decode cX12_ground 147 = .ok (.iload_n 3, 1) := by decide +kernel
theorem dX12_ground_148 : decode cX12_ground 148 = .ok (.iaload, 1) := by decide +kernel
theorem dX12_ground_149 : decode cX12_ground 149 = .ok (.iconst 1, 1) := by decide +kernel
theorem dX12_ground_150 : decode cX12_ground 150 = .ok (.aload_n 0, 1) := by decide +kernel
theorem dX12_ground_151 : decode cX12_ground 151 = .ok (.getfield 50, 3) := by decide +kernel
theorem dX12_ground_154 : decode cX12_ground 154 = .ok (.iload_n 3, 1) := by decide +kernel
theorem dX12_ground_155 : decode cX12_ground 155 = .ok (.iload 4, 2) := by decide +kernel
theorem dX12_ground_157 : decode cX12_ground 157 = .ok (.iconst (-1), 1) := by decide +kernel
theorem dX12_ground_158 : decode cX12_ground 158 = .ok (.ixor, 1) := by decide +kernel
theorem dX12_ground_159 : decode cX12_ground 159 = .ok (.iand, 1) := by decide +kernel
theorem dX12_ground_160 : decode cX12_ground 160 = .ok (.iaload, 1) := by decide +kernel
theorem dX12_ground_161 : decode cX12_ground 161 = .ok (.iadd, 1) := by decide +kernel
theorem dX12_ground_162 : decode cX12_ground 162 = .ok (.invokestatic 387, 3) := by decide +kernel
theorem dX12_ground_165 : decode cX12_ground 165 = .ok (.iastore, 1) := by decide +kernel
theorem dX12_ground_166 : decode cX12_ground 166 = .ok (.iload 4, 2) := by decide +kernel
theorem dX12_ground_168 : decode cX12_ground 168 = .ok (.iconst 1, 1) := by decide +kernel
theorem dX12_ground_169 : decode cX12_ground 169 = .ok (.isub, 1) := by decide +kernel
theorem dX12_ground_170 : decode cX12_ground 170 = .ok (.iload_n 3, 1) := by decide +kernel
theorem dX12_ground_171 : decode cX12_ground 171 = .ok (.iand, 1) := by decide +kernel
theorem dX12_ground_172 : decode cX12_ground 172 = .ok (.istore 4, 2) := by decide +kernel
theorem dX12_ground_174 : decode cX12_ground 174 = .ok (.goto (-51), 3) := by decide +kernel
theorem dX12_ground_177 : decode cX12_ground 177 = .ok (.iinc 3 1, 3) := by decide +kernel
theorem dX12_ground_180 : decode cX12_ground 180 = .ok (.goto (-81), 3) := by decide +kernel
theorem dX12_ground_183 : decode cX12_ground 183 = .ok (.aload_n 0, 1) := by decide +kernel
theorem dX12_ground_184 : decode cX12_ground 184 = .ok (.getfield 50, 3) := by decide +kernel
theorem dX12_ground_187 : decode cX12_ground 187 = .ok (.iload_n 2, 1) := by decide +kernel
theorem dX12_ground_188 : decode cX12_ground 188 = .ok (.iaload, 1) := by decide +kernel
theorem dX12_ground_189 : decode cX12_ground 189 = .ok (.ireturn, 1) := by decide +kernel
def j_X12_ground : JD := (yX12_ground, cX12_ground, 5, (some .int))
def b_X12_ground : BD := (2, 0, 0)
theorem dX12_signs_0 : decode cX12_signs 0 = .ok (.aload_n 0, 1) := by decide +kernel
theorem dX12_signs_1 : decode cX12_signs 1 = .ok (.iconst 0, 1) := by decide +kernel
theorem dX12_signs_2 : decode cX12_signs 2 = .ok (.putfield 68, 3) := by decide +kernel
theorem dX12_signs_5 : decode cX12_signs 5 = .ok (.aload_n 0, 1) := by decide +kernel
theorem dX12_signs_6 : decode cX12_signs 6 = .ok (.iconst 0, 1) := by decide +kernel
theorem dX12_signs_7 : decode cX12_signs 7 = .ok (.putfield 71, 3) := by decide +kernel
theorem dX12_signs_10 : decode cX12_signs 10 = .ok (.aload_n 0, 1) := by decide +kernel
theorem dX12_signs_11 : decode cX12_signs 11 = .ok (.iload_n 1, 1) := by decide +kernel
theorem dX12_signs_12 : decode cX12_signs 12 = .ok (.invokevirtual 454, 3) := by decide +kernel
theorem dX12_signs_15 : decode cX12_signs 15 = .ok (.ifCond .ne 9, 3) := by decide +kernel
theorem dX12_signs_18 : decode cX12_signs 18 = .ok (.aload_n 0, 1) := by decide +kernel
theorem dX12_signs_19 : decode cX12_signs 19 = .ok (.iconst 1, 1) := by decide +kernel
theorem dX12_signs_20 : decode cX12_signs 20 = .ok (.invokevirtual 331, 3) := by decide +kernel
theorem dX12_signs_23 : decode cX12_signs 23 = .ok (.ireturn, 1) := by decide +kernel
theorem dX12_signs_24 : decode cX12_signs 24 = .ok (.aload_n 0, 1) := by decide +kernel
theorem dX12_signs_25 : decode cX12_signs 25 = .ok (.getfield 17, 3) := by decide +kernel
theorem dX12_signs_28 : decode cX12_signs 28 = .ok (.iload_n 1, 1) := by decide +kernel
theorem dX12_signs_29 : decode cX12_signs 29 = .ok (.iaload, 1) := by decide +kernel
theorem dX12_signs_30 : decode cX12_signs 30 = .ok (.ifCond .ge 9, 3) := by decide +kernel
theorem dX12_signs_33 : decode cX12_signs 33 = .ok (.aload_n 0, 1) := by decide +kernel
theorem dX12_signs_34 : decode cX12_signs 34 = .ok (.iconst 3, 1) := by decide +kernel
theorem dX12_signs_35 : decode cX12_signs 35 = .ok (.invokevirtual 331, 3) := by decide +kernel
theorem dX12_signs_38 : decode cX12_signs 38 = .ok (.ireturn, 1) := by decide +kernel
theorem dX12_signs_39 : decode cX12_signs 39 = .ok (.aload_n 0, 1) := by decide +kernel
theorem dX12_signs_40 : decode cX12_signs 40 = .ok (.getfield 17, 3) := by decide +kernel
theorem dX12_signs_43 : decode cX12_signs 43 = .ok (.iload_n 1, 1) := by decide +kernel
theorem dX12_signs_44 : decode cX12_signs 44 = .ok (.iaload, 1) := by decide +kernel
theorem dX12_signs_45 : decode cX12_signs 45 = .ok (.iload_n 2, 1) := by decide +kernel
theorem dX12_signs_46 : decode cX12_signs 46 = .ok (.if_icmp .ge 9, 3) := by decide +kernel
theorem dX12_signs_49 : decode cX12_signs 49 = .ok (.aload_n 0, 1) := by decide +kernel
theorem dX12_signs_50 : decode cX12_signs 50 = .ok (.iconst 4, 1) := by decide +kernel
theorem dX12_signs_51 : decode cX12_signs 51 = .ok (.invokevirtual 331, 3) := by decide +kernel
theorem dX12_signs_54 : decode cX12_signs 54 = .ok (.ireturn, 1) := by decide +kernel
theorem dX12_signs_55 : decode cX12_signs 55 = .ok (.iload_n 2, 1) := by decide +kernel
theorem dX12_signs_56 : decode cX12_signs 56 = .ok (.i2l, 1) := by decide +kernel
theorem dX12_signs_57 : decode cX12_signs 57 = .ok (.lconst 1, 1) := by decide +kernel
theorem dX12_signs_58 : decode cX12_signs 58 = .ok (.ldc2_w 457, 3) := by decide +kernel
theorem dX12_signs_61 : decode cX12_signs 61 = .ok (.invokestatic 103, 3) := by decide +kernel
theorem dX12_signs_64 : decode cX12_signs 64 = .ok (.ifCond .ne 9, 3) := by decide +kernel
theorem dX12_signs_67 : decode cX12_signs 67 = .ok (.aload_n 0, 1) := by decide +kernel
theorem dX12_signs_68 : decode cX12_signs 68 = .ok (.iconst 5, 1) := by decide +kernel
theorem dX12_signs_69 : decode cX12_signs 69 = .ok (.invokevirtual 331, 3) := by decide +kernel
theorem dX12_signs_72 : decode cX12_signs 72 = .ok (.ireturn, 1) := by decide +kernel
theorem dX12_signs_73 : decode cX12_signs 73 = .ok (.iconst 0, 1) := by decide +kernel
theorem dX12_signs_74 : decode cX12_signs 74 = .ok (.istore_n 3, 1) := by decide +kernel
theorem dX12_signs_75 : decode cX12_signs 75 = .ok (.iload_n 3, 1) := by decide +kernel
theorem dX12_signs_76 : decode cX12_signs 76 = .ok (.iload_n 2, 1) := by decide +kernel
theorem dX12_signs_77 : decode cX12_signs 77 = .ok (.if_icmp .ge 37, 3) := by decide +kernel
theorem dX12_signs_80 : decode cX12_signs 80 = .ok (.aload_n 0, 1) := by decide +kernel
theorem dX12_signs_81 : decode cX12_signs 81 = .ok (.iload_n 1, 1) := by decide +kernel
theorem dX12_signs_82 : decode cX12_signs 82 = .ok (.iload_n 3, 1) := by decide +kernel
theorem dX12_signs_83 : decode cX12_signs 83 = .ok (.invokevirtual 459, 3) := by decide +kernel
theorem dX12_signs_86 : decode cX12_signs 86 = .ok (.lconst 0, 1) := by decide +kernel
theorem dX12_signs_87 : decode cX12_signs 87 = .ok (.aload_n 0, 1) := by decide +kernel
theorem dX12_signs_88 : decode cX12_signs 88 = .ok (.getfield 35, 3) := by decide +kernel
theorem dX12_signs_91 : decode cX12_signs 91 = .ok (.iconst 0, 1) := by decide +kernel
theorem dX12_signs_92 : decode cX12_signs 92 = .ok (.iaload, 1) := by decide +kernel
theorem dX12_signs_93 : decode cX12_signs 93 = .ok (.iconst 1, 1) := by decide +kernel
theorem dX12_signs_94 : decode cX12_signs 94 = .ok (.isub, 1) := by decide +kernel
theorem dX12_signs_95 : decode cX12_signs 95 = .ok (.i2l, 1) := by decide +kernel
theorem dX12_signs_96 : decode cX12_signs 96 = .ok (.invokestatic 103, 3) := by decide +kernel
theorem dX12_signs_99 : decode cX12_signs 99 = .ok (.ifCond .ne 9, 3) := by decide +kernel
theorem dX12_signs_102 : decode cX12_signs 102 = .ok (.aload_n 0, 1) := by decide +kernel
theorem dX12_signs_103 : decode cX12_signs 103 = .ok (.iconst 2, 1) := by decide +kernel
theorem dX12_signs_104 : decode cX12_signs 104 = .ok (.invokevirtual 331, 3) := by decide +kernel
theorem dX12_signs_107 : decode cX12_signs 107 = .ok (.ireturn, 1) := by decide +kernel
theorem dX12_signs_108 : decode cX12_signs 108 = .ok (.iinc 3 1, 3) := by decide +kernel
theorem dX12_signs_111 : decode cX12_signs 111 = .ok (.goto (-36), 3) := by decide +kernel
theorem dX12_signs_114 : decode cX12_signs 114 = .ok (.iconst 0, 1) := by decide +kernel
theorem dX12_signs_115 : decode cX12_signs 115 = .ok (.istore_n 3, 1) := by decide +kernel
theorem dX12_signs_116 : decode cX12_signs 116 = .ok (.iconst 0, 1) := by decide +kernel
theorem dX12_signs_117 : decode cX12_signs 117 = .ok (.istore 4, 2) := by decide +kernel
theorem dX12_signs_119 : decode cX12_signs 119 = .ok (.iload 4, 2) := by decide +kernel
theorem dX12_signs_121 : decode cX12_signs 121 = .ok (.aload_n 0, 1) := by decide +kernel
theorem dX12_signs_122 : decode cX12_signs 122 = .ok (.getfield 35, 3) := by decide +kernel
theorem dX12_signs_125 : decode cX12_signs 125 = .ok (.iconst 0, 1) := by decide +kernel
theorem dX12_signs_126 : decode cX12_signs 126 = .ok (.iaload, 1) := by decide +kernel
theorem dX12_signs_127 : decode cX12_signs 127 = .ok (.if_icmp .ge 71, 3) := by decide +kernel
theorem dX12_signs_130 : decode cX12_signs 130 = .ok (.iconst 0, 1) := by decide +kernel
theorem dX12_signs_131 : decode cX12_signs 131 = .ok (.istore 5, 2) := by decide +kernel
theorem dX12_signs_133 : decode cX12_signs 133 = .ok (.iconst 0, 1) := by decide +kernel
theorem dX12_signs_134 : decode cX12_signs 134 = .ok (.istore 6, 2) := by decide +kernel
theorem dX12_signs_136 : decode cX12_signs 136 = .ok (.iload 6, 2) := by decide +kernel
theorem dX12_signs_138 : decode cX12_signs 138 = .ok (.iload_n 2, 1) := by decide +kernel
theorem dX12_signs_139 : decode cX12_signs 139 = .ok (.if_icmp .ge 33, 3) := by decide +kernel
theorem dX12_signs_142 : decode cX12_signs 142 = .ok (.iload 5, 2) := by decide +kernel
theorem dX12_signs_144 : decode cX12_signs 144 = .ok (.aload_n 0, 1) := by decide +kernel
theorem dX12_signs_145 : decode cX12_signs 145 = .ok (.iload_n 1, 1) := by decide +kernel
theorem dX12_signs_146 : decode cX12_signs 146 = .ok (.iload 6, 2) := by decide +kernel
theorem dX12_signs_148 : decode cX12_signs 148 = .ok (.invokevirtual 459, 3) := by decide +kernel
theorem dX12_signs_151 : decode cX12_signs 151 = .ok (.iload 4, 2) := by decide +kernel
theorem dX12_signs_153 : decode cX12_signs 153 = .ok (.i2l, 1) := by decide +kernel
theorem dX12_signs_154 : decode cX12_signs 154 = .ok (.lcmp, 1) := by decide +kernel
theorem dX12_signs_155 : decode cX12_signs 155 = .ok (.ifCond .ne 7, 3) := by decide +kernel
theorem dX12_signs_158 : decode cX12_signs 158 = .ok (.iconst 1, 1) := by decide +kernel
theorem dX12_signs_159 : decode cX12_signs 159 = .ok (.goto 4, 3) := by decide +kernel
theorem dX12_signs_162 : decode cX12_signs 162 = .ok (.iconst 0, 1) := by decide +kernel
theorem dX12_signs_163 : decode cX12_signs 163 = .ok (.iadd, 1) := by decide +kernel
theorem dX12_signs_164 : decode cX12_signs 164 = .ok (.istore 5, 2) := by decide +kernel
theorem dX12_signs_166 : decode cX12_signs 166 = .ok (.iinc 6 1, 3) := by decide +kernel
theorem dX12_signs_169 : decode cX12_signs 169 = .ok (.goto (-33), 3) := by decide +kernel
theorem dX12_signs_172 : decode cX12_signs 172 = .ok (.iload_n 3, 1) := by decide +kernel
theorem dX12_signs_173 : decode cX12_signs 173 = .ok (.iconst 0, 1) := by decide +kernel
theorem dX12_signs_174 : decode cX12_signs 174 = .ok (.iload 5, 2) := by decide +kernel
theorem dX12_signs_176 : decode cX12_signs 176 = .ok (.aload_n 0, 1) := by decide +kernel
theorem dX12_signs_177 : decode cX12_signs 177 = .ok (.getfield 35, 3) := by decide +kernel
theorem dX12_signs_180 : decode cX12_signs 180 = .ok (.bipush 21, 2) := by decide +kernel
theorem dX12_signs_182 : decode cX12_signs 182 = .ok (.iload 4, 2) := by decide +kernel
theorem dX12_signs_184 : decode cX12_signs 184 = .ok (.iadd, 1) := by decide +kernel
theorem dX12_signs_185 : decode cX12_signs 185 = .ok (.iaload, 1) := by decide +kernel
theorem dX12_signs_186 : decode cX12_signs 186 = .ok (.isub, 1) := by decide +kernel
theorem dX12_signs_187 : decode cX12_signs 187 = .ok (.invokestatic 264, 3) := by decide +kernel
theorem dX12_signs_190 : decode cX12_signs 190 = .ok (.iadd, 1) := by decide +kernel
theorem dX12_signs_191 : decode cX12_signs 191 = .ok (.istore_n 3, 1) := by decide +kernel
theorem dX12_signs_192 : decode cX12_signs 192 = .ok (.iinc 4 1, 3) := by decide +kernel
theorem dX12_signs_195 : decode cX12_signs 195 = .ok (.goto (-76), 3) := by decide +kernel
theorem dX12_signs_198 : decode cX12_signs 198 = .ok (.iload_n 3, 1) := by decide +kernel
theorem dX12_signs_199 : decode cX12_signs 199 = .ok (.ireturn, 1) := by decide +kernel
def j_X12_signs : JD := (yX12_signs, cX12_signs, 7, (some .int))
def b_X12_signs : BD := (2, 0, 0)
theorem dX12_flownBy_0 : decode cX12_flownBy 0 = .ok (.aload_n 0, 1) := by decide +kernel
theorem dX12_flownBy_1 : decode cX12_flownBy 1 = .ok (.iload_n 1, 1) := by decide +kernel
theorem dX12_flownBy_2 : decode cX12_flownBy 2 = .ok (.invokevirtual 454, 3) := by decide +kernel
theorem dX12_flownBy_5 : decode cX12_flownBy 5 = .ok (.ifCond .ne 9, 3) := by decide +kernel
theorem dX12_flownBy_8 : decode cX12_flownBy 8 = .ok (.aload_n 0, 1) := by decide +kernel
theorem dX12_flownBy_9 : decode cX12_flownBy 9 = .ok (.iconst 1, 1) := by decide +kernel
theorem dX12_flownBy_10 : decode cX12_flownBy 10 = .ok (.invokevirtual 331, 3) := by decide +kernel
theorem dX12_flownBy_13 : decode cX12_flownBy 13 = .ok (.ireturn, 1) := by decide +kernel
theorem dX12_flownBy_14 : decode cX12_flownBy 14 = .ok (.aload_n 0, 1) := by decide +kernel
theorem dX12_flownBy_15 : decode cX12_flownBy 15 = .ok (.getfield 17, 3) := by decide +kernel
theorem dX12_flownBy_18 : decode cX12_flownBy 18 = .ok (.iload_n 1, 1) := by decide +kernel
theorem dX12_flownBy_19 : decode cX12_flownBy 19 = .ok (.iaload, 1) := by decide +kernel
theorem dX12_flownBy_20 : decode cX12_flownBy 20 = .ok (.ifCond .ge 9, 3) := by decide +kernel
theorem dX12_flownBy_23 : decode cX12_flownBy 23 = .ok (.aload_n 0, 1) := by decide +kernel
theorem dX12_flownBy_24 : decode cX12_flownBy 24 = .ok (.iconst 3, 1) := by decide +kernel
theorem dX12_flownBy_25 : decode cX12_flownBy 25 = .ok (.invokevirtual 331, 3) := by decide +kernel
theorem dX12_flownBy_28 : decode cX12_flownBy 28 = .ok (.ireturn, 1) := by decide +kernel
theorem dX12_flownBy_29 : decode cX12_flownBy 29 = .ok (.aload_n 0, 1) := by decide +kernel
theorem dX12_flownBy_30 : decode cX12_flownBy 30 = .ok (.getfield 17, 3) := by decide +kernel
theorem dX12_flownBy_33 : decode cX12_flownBy 33 = .ok (.iload_n 1, 1) := by decide +kernel
theorem dX12_flownBy_34 : decode cX12_flownBy 34 = .ok (.iaload, 1) := by decide +kernel
theorem dX12_flownBy_35 : decode cX12_flownBy 35 = .ok (.aload_n 0, 1) := by decide +kernel
theorem dX12_flownBy_36 : decode cX12_flownBy 36 = .ok (.getfield 35, 3) := by decide +kernel
theorem dX12_flownBy_39 : decode cX12_flownBy 39 = .ok (.iconst 0, 1) := by decide +kernel
theorem dX12_flownBy_40 : decode cX12_flownBy 40 = .ok (.iaload, 1) := by decide +kernel
theorem dX12_flownBy_41 : decode cX12_flownBy 41 = .ok (.if_icmp .ge 9, 3) := by decide +kernel
theorem dX12_flownBy_44 : decode cX12_flownBy 44 = .ok (.aload_n 0, 1) := by decide +kernel
theorem dX12_flownBy_45 : decode cX12_flownBy 45 = .ok (.iconst 4, 1) := by decide +kernel
theorem dX12_flownBy_46 : decode cX12_flownBy 46 = .ok (.invokevirtual 331, 3) := by decide +kernel
theorem dX12_flownBy_49 : decode cX12_flownBy 49 = .ok (.ireturn, 1) := by decide +kernel
theorem dX12_flownBy_50 : decode cX12_flownBy 50 = .ok (.iconst 0, 1) := by decide +kernel
theorem dX12_flownBy_51 : decode cX12_flownBy 51 = .ok (.istore_n 2, 1) := by decide +kernel
theorem dX12_flownBy_52 : decode cX12_flownBy 52 = .ok (.iconst 0, 1) := by decide +kernel
theorem dX12_flownBy_53 : decode cX12_flownBy 53 = .ok (.istore_n 3, 1) := by decide +kernel
theorem dX12_flownBy_54 : decode cX12_flownBy 54 = .ok (.iload_n 3, 1) := by decide +kernel
theorem dX12_flownBy_55 : decode cX12_flownBy 55 = .ok (.aload_n 0, 1) := by decide +kernel
theorem dX12_flownBy_56 : decode cX12_flownBy 56 = .ok (.getfield 35, 3) := by decide +kernel
theorem dX12_flownBy_59 : decode cX12_flownBy 59 = .ok (.iconst 0, 1) := by decide +kernel
theorem dX12_flownBy_60 : decode cX12_flownBy 60 = .ok (.iaload, 1) := by decide +kernel
theorem dX12_flownBy_61 : decode cX12_flownBy 61 = .ok (.if_icmp .ge 58, 3) := by decide +kernel
theorem dX12_flownBy_64 : decode cX12_flownBy 64 = .ok (.aload_n 0, 1) := by decide +kernel
theorem dX12_flownBy_65 : decode cX12_flownBy 65 = .ok (.iload_n 1, 1) := by decide +kernel
theorem dX12_flownBy_66 : decode cX12_flownBy 66 = .ok (.iload_n 3, 1) := by decide +kernel
theorem dX12_flownBy_67 : decode cX12_flownBy 67 = .ok (.invokevirtual 459, 3) := by decide +kernel
theorem dX12_flownBy_70 : decode cX12_flownBy 70 = .ok (.lconst 0, 1) := by decide +kernel
theorem dX12_flownBy_71 : decode cX12_flownBy 71 = .ok (.lconst 1, 1) := by decide +kernel
theorem dX12_flownBy_72 : decode cX12_flownBy 72 = .ok (.invokestatic 103, 3) := by decide +kernel
theorem dX12_flownBy_75 : decode cX12_flownBy 75 = .ok (.ifCond .ne 9, 3) := by decide +kernel
theorem dX12_flownBy_78 : decode cX12_flownBy 78 = .ok (.aload_n 0, 1) := by decide +kernel
theorem dX12_flownBy_79 : decode cX12_flownBy 79 = .ok (.iconst 5, 1) := by decide +kernel
theorem dX12_flownBy_80 : decode cX12_flownBy 80 = .ok (.invokevirtual 331, 3) := by decide +kernel
theorem dX12_flownBy_83 : decode cX12_flownBy 83 = .ok (.ireturn, 1) := by decide +kernel
theorem dX12_flownBy_84 : decode cX12_flownBy 84 = .ok (.iload_n 2, 1) := by decide +kernel
theorem dX12_flownBy_85 : decode cX12_flownBy 85 = .ok (.aload_n 0, 1) := by decide +kernel
theorem dX12_flownBy_86 : decode cX12_flownBy 86 = .ok (.iload_n 3, 1) := by decide +kernel
theorem dX12_flownBy_87 : decode cX12_flownBy 87 = .ok (.invokevirtual 324, 3) := by decide +kernel
theorem dX12_flownBy_90 : decode cX12_flownBy 90 = .ok (.ifCond .eq 20, 3) := by decide +kernel
theorem dX12_flownBy_93 : decode cX12_flownBy 93 = .ok (.aload_n 0, 1) := by decide +kernel
theorem dX12_flownBy_94 : decode cX12_flownBy 94 = .ok (.iload_n 1, 1) := by decide +kernel
theorem dX12_flownBy_95 : decode cX12_flownBy 95 = .ok (.iload_n 3, 1) := by decide +kernel
theorem dX12_flownBy_96 : decode cX12_flownBy 96 = .ok (.invokevirtual 459, 3) := by decide +kernel
theorem dX12_flownBy_99 : decode cX12_flownBy 99 = .ok (.lconst 1, 1) := by decide +kernel
theorem dX12_flownBy_100 : decode cX12_flownBy 100 = .ok (.lcmp, 1) := by decide +kernel
theorem dX12_flownBy_101 : decode cX12_flownBy 101 = .ok (.ifCond .ne 9, 3) := by decide +kernel
theorem dX12_flownBy_104 : decode cX12_flownBy 104 = .ok (.iconst 1, 1) := by decide +kernel
theorem dX12_flownBy_105 : decode cX12_flownBy 105 = .ok (.iload_n 3, 1) := by decide +kernel
theorem dX12_flownBy_106 : decode cX12_flownBy 106 = .ok (.ishl, 1) := by decide +kernel
theorem dX12_flownBy_107 : decode cX12_flownBy 107 = .ok (.goto 4, 3) := by decide +kernel
theorem dX12_flownBy_110 : decode cX12_flownBy 110 = .ok (.iconst 0, 1) := by decide +kernel
theorem dX12_flownBy_111 : decode cX12_flownBy 111 = .ok (.ior, 1) := by decide +kernel
theorem dX12_flownBy_112 : decode cX12_flownBy 112 = .ok (.istore_n 2, 1) := by decide +kernel
theorem dX12_flownBy_113 : decode cX12_flownBy 113 = .ok (.iinc 3 1, 3) := by decide +kernel
theorem dX12_flownBy_116 : decode cX12_flownBy 116 = .ok (.goto (-62), 3) := by decide +kernel
theorem dX12_flownBy_119 : decode cX12_flownBy 119 = .ok (.iconst 0, 1) := by decide +kernel
theorem dX12_flownBy_120 : decode cX12_flownBy 120 = .ok (.istore_n 3, 1) := by decide +kernel
theorem dX12_flownBy_121 : decode cX12_flownBy 121 = .ok (.iconst 0, 1) := by decide +kernel
theorem dX12_flownBy_122 : decode cX12_flownBy 122 = .ok (.istore 4, 2) := by decide +kernel
theorem dX12_flownBy_124 : decode cX12_flownBy 124 = .ok (.iload 4, 2) := by decide +kernel
theorem dX12_flownBy_126 : decode cX12_flownBy 126 = .ok (.aload_n 0, 1) := by decide +kernel
theorem dX12_flownBy_127 : decode cX12_flownBy 127 = .ok (.getfield 35, 3) := by decide +kernel
theorem dX12_flownBy_130 : decode cX12_flownBy 130 = .ok (.iconst 2, 1) := by decide +kernel
theorem dX12_flownBy_131 : decode cX12_flownBy 131 = .ok (.iaload, 1) := by decide +kernel
theorem dX12_flownBy_132 : decode cX12_flownBy 132 = .ok (.if_icmp .ge 39, 3) := by decide +kernel
theorem dX12_flownBy_135 : decode cX12_flownBy 135 = .ok (.iload_n 3, 1) := by decide +kernel
theorem dX12_flownBy_136 : decode cX12_flownBy 136 = .ok (.aload_n 0, 1) := by decide +kernel
theorem dX12_flownBy_137 : decode cX12_flownBy 137 = .ok (.aload_n 0, 1) := by decide +kernel
theorem dX12_flownBy_138 : decode cX12_flownBy 138 = .ok (.getfield 35, 3) := by decide +kernel
theorem dX12_flownBy_141 : decode cX12_flownBy 141 = .ok (.sipush 161, 3) := by decide +kernel
theorem dX12_flownBy_144 : decode cX12_flownBy 144 = .ok (.iload 4, 2) := by decide +kernel
theorem dX12_flownBy_146 : decode cX12_flownBy 146 = .ok (.iadd, 1) := by decide +kernel
theorem dX12_flownBy_147 : decode cX12_flownBy 147 = .ok (.iaload, 1) := by decide +kernel
theorem dX12_flownBy_148 : decode cX12_flownBy 148 = .ok (.invokevirtual 398, 3) := by decide +kernel
theorem dX12_flownBy_151 : decode cX12_flownBy 151 = .ok (.iload_n 2, 1) := by decide +kernel
theorem dX12_flownBy_152 : decode cX12_flownBy 152 = .ok (.if_icmp .ne 10, 3) := by decide +kernel
theorem dX12_flownBy_155 : decode cX12_flownBy 155 = .ok (.iconst 1, 1) := by decide +kernel
theorem dX12_flownBy_156 : decode cX12_flownBy 156 = .ok (.iload 4, 2) := by decide +kernel
theorem dX12_flownBy_158 : decode cX12_flownBy 158 = .ok (.ishl, 1) := by decide +kernel
theorem dX12_flownBy_159 : decode cX12_flownBy 159 = .ok (.goto 4, 3) := by decide +kernel
theorem dX12_flownBy_162 : decode cX12_flownBy 162 = .ok (.iconst 0, 1) := by decide +kernel
theorem dX12_flownBy_163 : decode cX12_flownBy 163 = .ok (.ior, 1) := by decide +kernel
theorem dX12_flownBy_164 : decode cX12_flownBy 164 = .ok (.istore_n 3, 1) := by decide +kernel
theorem dX12_flownBy_165 : decode cX12_flownBy 165 = .ok (.iinc 4 1, 3) := by decide +kernel
theorem dX12_flownBy_168 : decode cX12_flownBy 168 = .ok (.goto (-44), 3) := by decide +kernel
theorem dX12_flownBy_171 : decode cX12_flownBy 171 = .ok (.iload_n 3, 1) := by decide +kernel
theorem dX12_flownBy_172 : decode cX12_flownBy 172 = .ok (.ireturn, 1) := by decide +kernel
def j_X12_flownBy : JD := (yX12_flownBy, cX12_flownBy, 5, (some .int))
def b_X12_flownBy : BD := (3, 0, 0)
theorem dX12_flown_0 : decode cX12_flown 0 = .ok (.aload_n 0, 1) := by decide +kernel
theorem dX12_flown_1 : decode cX12_flown 1 = .ok (.iconst 0, 1) := by decide +kernel
theorem dX12_flown_2 : decode cX12_flown 2 = .ok (.putfield 68, 3) := by decide +kernel
theorem dX12_flown_5 : decode cX12_flown 5 = .ok (.aload_n 0, 1) := by decide +kernel
theorem dX12_flown_6 : decode cX12_flown 6 = .ok (.iconst 0, 1) := by decide +kernel
theorem dX12_flown_7 : decode cX12_flown 7 = .ok (.putfield 71, 3) := by decide +kernel
theorem dX12_flown_10 : decode cX12_flown 10 = .ok (.aload_n 0, 1) := by decide +kernel
theorem dX12_flown_11 : decode cX12_flown 11 = .ok (.iload_n 1, 1) := by decide +kernel
theorem dX12_flown_12 : decode cX12_flown 12 = .ok (.invokevirtual 480, 3) := by decide +kernel
theorem dX12_flown_15 : decode cX12_flown 15 = .ok (.ireturn, 1) := by decide +kernel
def j_X12_flown : JD := (yX12_flown, cX12_flown, 2, (some .int))
def b_X12_flown : BD := (4, 0, 0)
theorem dX12_likeliest_0 : decode cX12_likeliest 0 = .ok (.aload_n 0, 1) := by decide +kernel
theorem dX12_likeliest_1 : decode cX12_likeliest 1 = .ok (.iconst 0, 1) := by decide +kernel
theorem dX12_likeliest_2 : decode cX12_likeliest 2 = .ok (.putfield 68, 3) := by decide +kernel
theorem dX12_likeliest_5 : decode cX12_likeliest 5 = .ok (.aload_n 0, 1) := by decide +kernel
theorem dX12_likeliest_6 : decode cX12_likeliest 6 = .ok (.iconst 0, 1) := by decide +kernel
theorem dX12_likeliest_7 : decode cX12_likeliest 7 = .ok (.putfield 71, 3) := by decide +kernel
theorem dX12_likeliest_10 : decode cX12_likeliest 10 = .ok (.aload_n 0, 1) := by decide +kernel
theorem dX12_likeliest_11 : decode cX12_likeliest 11 = .ok (.iload_n 1, 1) := by decide +kernel
theorem dX12_likeliest_12 : decode cX12_likeliest 12 = .ok (.invokevirtual 480, 3) := by decide +kernel
theorem dX12_likeliest_15 : decode cX12_likeliest 15 = .ok (.istore_n 2, 1) := by decide +kernel
theorem dX12_likeliest_16 : decode cX12_likeliest 16 = .ok (.aload_n 0, 1) := by decide +kernel
theorem dX12_likeliest_17 : decode cX12_likeliest 17 = .ok (.getfield 71, 3) := by decide +kernel
theorem dX12_likeliest_20 : decode cX12_likeliest 20 = .ok (.ifCond .le 5, 3) := by decide +kernel
theorem dX12_likeliest_23 : decode cX12_likeliest 23 = .ok (.iconst (-1), 1) := by decide +kernel
theorem dX12_likeliest_24 : decode cX12_likeliest 24 = .ok (.ireturn, 1) := by decide +kernel
theorem dX12_likeliest_25 : decode cX12_likeliest 25 = .ok (.iconst (-1), 1) := by decide +kernel
theorem dX12_likeliest_26 : decode cX12_likeliest 26 = .ok (.istore_n 3, 1) := by decide +kernel
theorem dX12_likeliest_27 : decode cX12_likeliest 27 = .ok (.iconst 0, 1) := by decide +kernel
theorem dX12_likeliest_28 : decode cX12_likeliest 28 = .ok (.istore 4, 2) := by decide +kernel
theorem dX12_likeliest_30 : decode cX12_likeliest 30 = .ok (.iload 4, 2) := by decide +kernel
theorem dX12_likeliest_32 : decode cX12_likeliest 32 = .ok (.aload_n 0, 1) := by decide +kernel
theorem dX12_likeliest_33 : decode cX12_likeliest 33 = .ok (.getfield 35, 3) := by decide +kernel
theorem dX12_likeliest_36 : decode cX12_likeliest 36 = .ok (.iconst 2, 1) := by decide +kernel
theorem dX12_likeliest_37 : decode cX12_likeliest 37 = .ok (.iaload, 1) := by decide +kernel
theorem dX12_likeliest_38 : decode cX12_likeliest 38 = .ok (.if_icmp .ge 49, 3) := by decide +kernel
theorem dX12_likeliest_41 : decode cX12_likeliest 41 = .ok (.iload_n 2, 1) := by decide +kernel
theorem dX12_likeliest_42 : decode cX12_likeliest 42 = .ok (.iload 4, 2) := by decide +kernel
theorem dX12_likeliest_44 : decode cX12_likeliest 44 = .ok (.invokestatic 107, 3) := by decide +kernel
theorem dX12_likeliest_47 : decode cX12_likeliest 47 = .ok (.ifCond .eq 34, 3) := by decide +kernel
theorem dX12_likeliest_50 : decode cX12_likeliest 50 = .ok (.iload_n 3, 1) := by decide +kernel
theorem dX12_likeliest_51 : decode cX12_likeliest 51 = .ok (.ifCond .lt 27, 3) := by decide +kernel
theorem dX12_likeliest_54 : decode cX12_likeliest 54 = .ok (.aload_n 0, 1) := by decide +kernel
theorem dX12_likeliest_55 : decode cX12_likeliest 55 = .ok (.getfield 35, 3) := by decide +kernel
theorem dX12_likeliest_58 : decode cX12_likeliest 58 = .ok (.sipush 167, 3) := by decide +kernel
theorem dX12_likeliest_61 : decode cX12_likeliest 61 = .ok (.iload 4, 2) := by decide +kernel
theorem dX12_likeliest_63 : decode cX12_likeliest 63 = .ok (.iadd, 1) := by decide +kernel
theorem dX12_likeliest_64 : decode cX12_likeliest 64 = .ok (.iaload, 1) := by decide +kernel
theorem dX12_likeliest_65 : decode cX12_likeliest 65 = .ok (.aload_n 0, 1) := by decide +kernel
theorem dX12_likeliest_66 : decode cX12_likeliest 66 = .ok (.getfield 35, 3) := by decide +kernel
theorem dX12_likeliest_69 : decode cX12_likeliest 69 = .ok (.sipush 167, 3) := by decide +kernel
theorem dX12_likeliest_72 : decode cX12_likeliest 72 = .ok (.iload_n 3, 1) := by decide +kernel
theorem dX12_likeliest_73 : decode cX12_likeliest 73 = .ok (.iadd, 1) := by decide +kernel
theorem dX12_likeliest_74 : decode cX12_likeliest 74 = .ok (.iaload, 1) := by decide +kernel
theorem dX12_likeliest_75 : decode cX12_likeliest 75 = .ok (.if_icmp .le 6, 3) := by decide +kernel
theorem dX12_likeliest_78 : decode cX12_likeliest 78 = .ok (.iload 4, 2) := by decide +kernel
theorem dX12_likeliest_80 : decode cX12_likeliest 80 = .ok (.istore_n 3, 1) := by decide +kernel
theorem dX12_likeliest_81 : decode cX12_likeliest 81 = .ok (.iinc 4 1, 3) := by decide +kernel
theorem dX12_likeliest_84 : decode cX12_likeliest 84 = .ok (.goto (-54), 3) := by decide +kernel
theorem dX12_likeliest_87 : decode cX12_likeliest 87 = .ok (.iload_n 3, 1) := by decide +kernel
theorem dX12_likeliest_88 : decode cX12_likeliest 88 = .ok (.ifCond .ge 12, 3) := by decide +kernel
theorem dX12_likeliest_91 : decode cX12_likeliest 91 = .ok (.aload_n 0, 1) := by decide +kernel
theorem dX12_likeliest_92 : decode cX12_likeliest 92 = .ok (.bipush 8, 2) := by decide +kernel
theorem dX12_likeliest_94 : decode cX12_likeliest 94 = .ok (.invokevirtual 331, 3) := by decide +kernel
theorem dX12_likeliest_97 : decode cX12_likeliest 97 = .ok (.goto 4, 3) := by decide +kernel
theorem dX12_likeliest_100 : decode cX12_likeliest 100 = .ok (.iload_n 3, 1) := by decide +kernel
theorem dX12_likeliest_101 : decode cX12_likeliest 101 = .ok (.ireturn, 1) := by decide +kernel
def j_X12_likeliest : JD := (yX12_likeliest, cX12_likeliest, 5, (some .int))
def b_X12_likeliest : BD := (4, 0, 0)
theorem dX12_neighbour_0 : decode cX12_neighbour 0 = .ok (.aload_n 0, 1) := by decide +kernel
theorem dX12_neighbour_1 : decode cX12_neighbour 1 = .ok (.iconst 0, 1) := by decide +kernel
theorem dX12_neighbour_2 : decode cX12_neighbour 2 = .ok (.putfield 68, 3) := by decide +kernel
theorem dX12_neighbour_5 : decode cX12_neighbour 5 = .ok (.aload_n 0, 1) := by decide +kernel
theorem dX12_neighbour_6 : decode cX12_neighbour 6 = .ok (.iconst 0, 1) := by decide +kernel
theorem dX12_neighbour_7 : decode cX12_neighbour 7 = .ok (.putfield 71, 3) := by decide +kernel
theorem dX12_neighbour_10 : decode cX12_neighbour 10 = .ok (.aload_n 0, 1) := by decide +kernel
theorem dX12_neighbour_11 : decode cX12_neighbour 11 = .ok (.iload_n 1, 1) := by decide +kernel
theorem dX12_neighbour_12 : decode cX12_neighbour 12 = .ok (.invokevirtual 341, 3) := by decide +kernel
theorem dX12_neighbour_15 : decode cX12_neighbour 15 = .ok (.ifCond .ne 9, 3) := by decide +kernel
theorem dX12_neighbour_18 : decode cX12_neighbour 18 = .ok (.aload_n 0, 1) := by decide +kernel
theorem dX12_neighbour_19 : decode cX12_neighbour 19 = .ok (.iconst 2, 1) := by decide +kernel
theorem dX12_neighbour_20 : decode cX12_neighbour 20 = .ok (.invokevirtual 331, 3) := by decide +kernel
theorem dX12_neighbour_23 : decode cX12_neighbour 23 = .ok (.ireturn, 1) := by decide +kernel
theorem dX12_neighbour_24 : decode cX12_neighbour 24 = .ok (.iconst (-1), 1) := by decide +kernel
theorem dX12_neighbour_25 : decode cX12_neighbour 25 = .ok (.istore_n 2, 1) := by decide +kernel
theorem dX12_neighbour_26 : decode cX12_neighbour 26 = .ok (.iconst 0, 1) := by decide +kernel
theorem dX12_neighbour_27 : decode cX12_neighbour 27 = .ok (.istore_n 3, 1) := by decide +kernel
theorem dX12_neighbour_28 : decode cX12_neighbour 28 = .ok (.iload_n 3, 1) := by decide +kernel
theorem dX12_neighbour_29 : decode cX12_neighbour 29 = .ok (.aload_n 0, 1) := by decide +kernel
theorem dX12_neighbour_30 : decode cX12_neighbour 30 = .ok (.getfield 35, 3) := by decide +kernel
theorem dX12_neighbour_33 : decode cX12_neighbour 33 = .ok (.iconst 0, 1) := by decide +kernel
theorem dX12_neighbour_34 : decode cX12_neighbour 34 = .ok (.iaload, 1) := by decide +kernel
theorem dX12_neighbour_35 : decode cX12_neighbour 35 = .ok (.if_icmp .ge 71, 3) := by decide +kernel
theorem dX12_neighbour_38 : decode cX12_neighbour 38 = .ok (.iload_n 3, 1) := by decide +kernel
theorem dX12_neighbour_39 : decode cX12_neighbour 39 = .ok (.iload_n 1, 1) := by decide +kernel
theorem dX12_neighbour_40 : decode cX12_neighbour 40 = .ok (.if_icmp .eq 60, 3) := by decide +kernel
theorem dX12_neighbour_43 : decode cX12_neighbour 43 = .ok (.aload_n 0, 1) := by decide +kernel
theorem dX12_neighbour_44 : decode cX12_neighbour 44 = .ok (.iload_n 3, 1) := by decide +kernel
theorem dX12_neighbour_45 : decode cX12_neighbour 45 = .ok (.invokevirtual 324, 3) := by decide +kernel
theorem dX12_neighbour_48 : decode cX12_neighbour 48 = .ok (.ifCond .eq 52, 3) := by decide +kernel
theorem dX12_neighbour_51 : decode cX12_neighbour 51 = .ok (.iload_n 2, 1) := by decide +kernel
theorem dX12_neighbour_52 : decode cX12_neighbour 52 = .ok (.ifCond .lt 46, 3) := by decide +kernel
theorem dX12_neighbour_55 : decode cX12_neighbour 55 = .ok (.aload_n 0, 1) := by decide +kernel
theorem dX12_neighbour_56 : decode cX12_neighbour 56 = .ok (.getfield 35, 3) := by decide +kernel
theorem dX12_neighbour_59 : decode cX12_neighbour 59 = .ok (.iconst 5, 1) := by decide +kernel
theorem dX12_neighbour_60 : decode cX12_neighbour 60 = .ok (.iload_n 3, 1) := by decide +kernel
theorem dX12_neighbour_61 : decode cX12_neighbour 61 = .ok (.iadd, 1) := by decide +kernel
theorem dX12_neighbour_62 : decode cX12_neighbour 62 = .ok (.iaload, 1) := by decide +kernel
theorem dX12_neighbour_63 : decode cX12_neighbour 63 = .ok (.aload_n 0, 1) := by decide +kernel
theorem dX12_neighbour_64 : decode cX12_neighbour 64 = .ok (.getfield 35, 3) := by decide +kernel
theorem dX12_neighbour_67 : decode cX12_neighbour 67 = .ok (.iconst 5, 1) := by decide +kernel
theorem dX12_neighbour_68 : decode cX12_neighbour 68 = .ok (.iload_n 1, 1) := by decide +kernel
theorem dX12_neighbour_69 : decode cX12_neighbour 69 = .ok (.iadd, 1) := by decide +kernel
theorem dX12_neighbour_70 : decode cX12_neighbour 70 = .ok (.iaload, 1) := by decide +kernel
theorem dX12_neighbour_71 : decode cX12_neighbour 71 = .ok (.isub, 1) := by decide +kernel
theorem dX12_neighbour_72 : decode cX12_neighbour 72 = .ok (.invokestatic 327, 3) := by decide +kernel
theorem dX12_neighbour_75 : decode cX12_neighbour 75 = .ok (.aload_n 0, 1) := by decide +kernel
theorem dX12_neighbour_76 : decode cX12_neighbour 76 = .ok (.getfield 35, 3) := by decide +kernel
theorem dX12_neighbour_79 : decode cX12_neighbour 79 = .ok (.iconst 5, 1) := by decide +kernel
theorem dX12_neighbour_80 : decode cX12_neighbour 80 = .ok (.iload_n 2, 1) := by decide +kernel
theorem dX12_neighbour_81 : decode cX12_neighbour 81 = .ok (.iadd, 1) := by decide +kernel
theorem dX12_neighbour_82 : decode cX12_neighbour 82 = .ok (.iaload, 1) := by decide +kernel
theorem dX12_neighbour_83 : decode cX12_neighbour 83 = .ok (.aload_n 0, 1) := by decide +kernel
theorem dX12_neighbour_84 : decode cX12_neighbour 84 = .ok (.getfield 35, 3) := by decide +kernel
theorem dX12_neighbour_87 : decode cX12_neighbour 87 = .ok (.iconst 5, 1) := by decide +kernel
theorem dX12_neighbour_88 : decode cX12_neighbour 88 = .ok (.iload_n 1, 1) := by decide +kernel
theorem dX12_neighbour_89 : decode cX12_neighbour 89 = .ok (.iadd, 1) := by decide +kernel
theorem dX12_neighbour_90 : decode cX12_neighbour 90 = .ok (.iaload, 1) := by decide +kernel
theorem dX12_neighbour_91 : decode cX12_neighbour 91 = .ok (.isub, 1) := by decide +kernel
theorem dX12_neighbour_92 : decode cX12_neighbour 92 = .ok (.invokestatic 327, 3) := by decide +kernel
theorem dX12_neighbour_95 : decode cX12_neighbour 95 = .ok (.if_icmp .ge 5, 3) := by decide +kernel
theorem dX12_neighbour_98 : decode cX12_neighbour 98 = .ok (.iload_n 3, 1) := by decide +kernel
theorem dX12_neighbour_99 : decode cX12_neighbour 99 = .ok (.istore_n 2, 1) := by decide +kernel
theorem dX12_neighbour_100 : decode cX12_neighbour 100 = .ok (.iinc 3 1, 3) := by decide +kernel
theorem dX12_neighbour_103 : decode cX12_neighbour 103 = .ok (.goto (-75), 3) := by decide +kernel
theorem dX12_neighbour_106 : decode cX12_neighbour 106 = .ok (.iload_n 2, 1) := by decide +kernel
theorem dX12_neighbour_107 : decode cX12_neighbour 107 = .ok (.ifCond .ge 12, 3) := by decide +kernel
theorem dX12_neighbour_110 : decode cX12_neighbour 110 = .ok (.aload_n 0, 1) := by decide +kernel
theorem dX12_neighbour_111 : decode cX12_neighbour 111 = .ok (.bipush 8, 2) := by decide +kernel
theorem dX12_neighbour_113 : decode cX12_neighbour 113 = .ok (.invokevirtual 331, 3) := by decide +kernel
theorem dX12_neighbour_116 : decode cX12_neighbour 116 = .ok (.goto 4, 3) := by decide +kernel
theorem dX12_neighbour_119 : decode cX12_neighbour 119 = .ok (.iload_n 2, 1) := by decide +kernel
theorem dX12_neighbour_120 : decode cX12_neighbour 120 = .ok (.ireturn, 1) := by decide +kernel
def j_X12_neighbour : JD := (yX12_neighbour, cX12_neighbour, 4, (some .int))
def b_X12_neighbour : BD := (2, 0, 0)
theorem dX12_draw_0 : decode cX12_draw 0 = .ok (.aload_n 0, 1) := by decide +kernel
theorem dX12_draw_1 : decode cX12_draw 1 = .ok (.aload_n 0, 1) := by decide +kernel
theorem dX12_draw_2 : decode cX12_draw 2 = .ok (.getfield 483, 3) := by decide +kernel
theorem dX12_draw_5 : decode cX12_draw 5 = .ok (.sipush 2909, 3) := by decide +kernel
theorem dX12_draw_8 : decode cX12_draw 8 = .ok (.imul, 1) := by decide +kernel
theorem dX12_draw_9 : decode cX12_draw 9 = .ok (.sipush 10597, 3) := by decide +kernel
theorem dX12_draw_12 : decode cX12_draw 12 = .ok (.iadd, 1) := by decide +kernel
theorem dX12_draw_13 : decode cX12_draw 13 = .ok (.ldc_w 486, 3) := by decide +kernel
theorem dX12_draw_16 : decode cX12_draw 16 = .ok (.irem, 1) := by decide +kernel
theorem dX12_draw_17 : decode cX12_draw 17 = .ok (.putfield 483, 3) := by decide +kernel
theorem dX12_draw_20 : decode cX12_draw 20 = .ok (.aload_n 0, 1) := by decide +kernel
theorem dX12_draw_21 : decode cX12_draw 21 = .ok (.getfield 483, 3) := by decide +kernel
theorem dX12_draw_24 : decode cX12_draw 24 = .ok (.bipush 8, 2) := by decide +kernel
theorem dX12_draw_26 : decode cX12_draw 26 = .ok (.idiv, 1) := by decide +kernel
theorem dX12_draw_27 : decode cX12_draw 27 = .ok (.iload_n 1, 1) := by decide +kernel
theorem dX12_draw_28 : decode cX12_draw 28 = .ok (.irem, 1) := by decide +kernel
theorem dX12_draw_29 : decode cX12_draw 29 = .ok (.ireturn, 1) := by decide +kernel
def j_X12_draw : JD := (yX12_draw, cX12_draw, 2, (some .int))
def b_X12_draw : BD := (0, 0, 0)
theorem dX12_galeComes_0 : decode cX12_galeComes 0 = .ok (.aload_n 0, 1) := by decide +kernel
theorem dX12_galeComes_1 : decode cX12_galeComes 1 = .ok (.getfield 35, 3) := by decide +kernel
theorem dX12_galeComes_4 : decode cX12_galeComes 4 = .ok (.iconst 2, 1) := by decide +kernel
theorem dX12_galeComes_5 : decode cX12_galeComes 5 = .ok (.iaload, 1) := by decide +kernel
theorem dX12_galeComes_6 : decode cX12_galeComes 6 = .ok (.ifCond .ne 5, 3) := by decide +kernel
theorem dX12_galeComes_9 : decode cX12_galeComes 9 = .ok (.iconst 0, 1) := by decide +kernel
theorem dX12_galeComes_10 : decode cX12_galeComes 10 = .ok (.ireturn, 1) := by decide +kernel
theorem dX12_galeComes_11 : decode cX12_galeComes 11 = .ok (.aload_n 0, 1) := by decide +kernel
theorem dX12_galeComes_12 : decode cX12_galeComes 12 = .ok (.aload_n 0, 1) := by decide +kernel
theorem dX12_galeComes_13 : decode cX12_galeComes 13 = .ok (.invokevirtual 338, 3) := by decide +kernel
theorem dX12_galeComes_16 : decode cX12_galeComes 16 = .ok (.invokevirtual 487, 3) := by decide +kernel
theorem dX12_galeComes_19 : decode cX12_galeComes 19 = .ok (.istore_n 1, 1) := by decide +kernel
theorem dX12_galeComes_20 : decode cX12_galeComes 20 = .ok (.iconst 0, 1) := by decide +kernel
theorem dX12_galeComes_21 : decode cX12_galeComes 21 = .ok (.istore_n 2, 1) := by decide +kernel
theorem dX12_galeComes_22 : decode cX12_galeComes 22 = .ok (.iload_n 1, 1) := by decide +kernel
theorem dX12_galeComes_23 : decode cX12_galeComes 23 = .ok (.aload_n 0, 1) := by decide +kernel
theorem dX12_galeComes_24 : decode cX12_galeComes 24 = .ok (.getfield 35, 3) := by decide +kernel
theorem dX12_galeComes_27 : decode cX12_galeComes 27 = .ok (.sipush 167, 3) := by decide +kernel
theorem dX12_galeComes_30 : decode cX12_galeComes 30 = .ok (.iload_n 2, 1) := by decide +kernel
theorem dX12_galeComes_31 : decode cX12_galeComes 31 = .ok (.iadd, 1) := by decide +kernel
theorem dX12_galeComes_32 : decode cX12_galeComes 32 = .ok (.iaload, 1) := by decide +kernel
theorem dX12_galeComes_33 : decode cX12_galeComes 33 = .ok (.if_icmp .lt 22, 3) := by decide +kernel
theorem dX12_galeComes_36 : decode cX12_galeComes 36 = .ok (.iload_n 1, 1) := by decide +kernel
theorem dX12_galeComes_37 : decode cX12_galeComes 37 = .ok (.aload_n 0, 1) := by decide +kernel
theorem dX12_galeComes_38 : decode cX12_galeComes 38 = .ok (.getfield 35, 3) := by decide +kernel
theorem dX12_galeComes_41 : decode cX12_galeComes 41 = .ok (.sipush 167, 3) := by decide +kernel
theorem dX12_galeComes_44 : decode cX12_galeComes 44 = .ok (.iload_n 2, 1) := by decide +kernel
theorem dX12_galeComes_45 : decode cX12_galeComes 45 = .ok (.iadd, 1) := by decide +kernel
theorem dX12_galeComes_46 : decode cX12_galeComes 46 = .ok (.iaload, 1) := by decide +kernel
theorem dX12_galeComes_47 : decode cX12_galeComes 47 = .ok (.isub, 1) := by decide +kernel
theorem dX12_galeComes_48 : decode cX12_galeComes 48 = .ok (.istore_n 1, 1) := by decide +kernel
theorem dX12_galeComes_49 : decode cX12_galeComes 49 = .ok (.iinc 2 1, 3) := by decide +kernel
theorem dX12_galeComes_52 : decode cX12_galeComes 52 = .ok (.goto (-30), 3) := by decide +kernel
theorem dX12_galeComes_55 : decode cX12_galeComes 55 = .ok (.aload_n 0, 1) := by decide +kernel
theorem dX12_galeComes_56 : decode cX12_galeComes 56 = .ok (.dup, 1) := by decide +kernel
theorem dX12_galeComes_57 : decode cX12_galeComes 57 = .ok (.getfield 490, 3) := by decide +kernel
theorem dX12_galeComes_60 : decode cX12_galeComes 60 = .ok (.aload_n 0, 1) := by decide +kernel
theorem dX12_galeComes_61 : decode cX12_galeComes 61 = .ok (.aload_n 0, 1) := by decide +kernel
theorem dX12_galeComes_62 : decode cX12_galeComes 62 = .ok (.getfield 35, 3) := by decide +kernel
theorem dX12_galeComes_65 : decode cX12_galeComes 65 = .ok (.sipush 161, 3) := by decide +kernel
theorem dX12_galeComes_68 : decode cX12_galeComes 68 = .ok (.iload_n 2, 1) := by decide +kernel
theorem dX12_galeComes_69 : decode cX12_galeComes 69 = .ok (.iadd, 1) := by decide +kernel
theorem dX12_galeComes_70 : decode cX12_galeComes 70 = .ok (.iaload, 1) := by decide +kernel
theorem dX12_galeComes_71 : decode cX12_galeComes 71 = .ok (.invokevirtual 406, 3) := by decide +kernel
theorem dX12_galeComes_74 : decode cX12_galeComes 74 = .ok (.iadd, 1) := by decide +kernel
theorem dX12_galeComes_75 : decode cX12_galeComes 75 = .ok (.putfield 490, 3) := by decide +kernel
theorem dX12_galeComes_78 : decode cX12_galeComes 78 = .ok (.iconst 1, 1) := by decide +kernel
theorem dX12_galeComes_79 : decode cX12_galeComes 79 = .ok (.ireturn, 1) := by decide +kernel
def j_X12_galeComes : JD := (yX12_galeComes, cX12_galeComes, 3, (some .boolean))
def b_X12_galeComes : BD := (4, 0, 0)
theorem dX12_does_0 : decode cX12_does 0 = .ok (.aload_n 0, 1) := by decide +kernel
theorem dX12_does_1 : decode cX12_does 1 = .ok (.getfield 35, 3) := by decide +kernel
theorem dX12_does_4 : decode cX12_does 4 = .ok (.iload_n 1, 1) := by decide +kernel
theorem dX12_does_5 : decode cX12_does 5 = .ok (.iaload, 1) := by decide +kernel
theorem dX12_does_6 : decode cX12_does 6 = .ok (.istore_n 2, 1) := by decide +kernel
theorem dX12_does_7 : decode cX12_does 7 = .ok (.iload_n 2, 1) := by decide +kernel
theorem dX12_does_8 : decode cX12_does 8 = .ok (.ifCond .ne 66, 3) := by decide +kernel
theorem dX12_does_11 : decode cX12_does 11 = .ok (.aload_n 0, 1) := by decide +kernel
theorem dX12_does_12 : decode cX12_does 12 = .ok (.getfield 35, 3) := by decide +kernel
theorem dX12_does_15 : decode cX12_does 15 = .ok (.iconst 4, 1) := by decide +kernel
theorem dX12_does_16 : decode cX12_does 16 = .ok (.iaload, 1) := by decide +kernel
theorem dX12_does_17 : decode cX12_does 17 = .ok (.aload_n 0, 1) := by decide +kernel
theorem dX12_does_18 : decode cX12_does 18 = .ok (.getfield 35, 3) := by decide +kernel
theorem dX12_does_21 : decode cX12_does 21 = .ok (.iload_n 1, 1) := by decide +kernel
theorem dX12_does_22 : decode cX12_does 22 = .ok (.iconst 1, 1) := by decide +kernel
theorem dX12_does_23 : decode cX12_does 23 = .ok (.iadd, 1) := by decide +kernel
theorem dX12_does_24 : decode cX12_does 24 = .ok (.iaload, 1) := by decide +kernel
theorem dX12_does_25 : decode cX12_does 25 = .ok (.iadd, 1) := by decide +kernel
theorem dX12_does_26 : decode cX12_does 26 = .ok (.sipush 9999, 3) := by decide +kernel
theorem dX12_does_29 : decode cX12_does 29 = .ok (.if_icmp .le 5, 3) := by decide +kernel
theorem dX12_does_32 : decode cX12_does 32 = .ok (.iconst 0, 1) := by decide +kernel
theorem dX12_does_33 : decode cX12_does 33 = .ok (.ireturn, 1) := by decide +kernel
theorem dX12_does_34 : decode cX12_does 34 = .ok (.aload_n 0, 1) := by decide +kernel
theorem dX12_does_35 : decode cX12_does 35 = .ok (.dup, 1) := by decide +kernel
theorem dX12_does_36 : decode cX12_does 36 = .ok (.getfield 493, 3) := by decide +kernel
theorem dX12_does_39 : decode cX12_does 39 = .ok (.aload_n 0, 1) := by decide +kernel
theorem dX12_does_40 : decode cX12_does 40 = .ok (.aload_n 0, 1) := by decide +kernel
theorem dX12_does_41 : decode cX12_does 41 = .ok (.getfield 35, 3) := by decide +kernel
theorem dX12_does_44 : decode cX12_does 44 = .ok (.iload_n 1, 1) := by decide +kernel
theorem dX12_does_45 : decode cX12_does 45 = .ok (.iconst 1, 1) := by decide +kernel
theorem dX12_does_46 : decode cX12_does 46 = .ok (.iadd, 1) := by decide +kernel
theorem dX12_does_47 : decode cX12_does 47 = .ok (.iaload, 1) := by decide +kernel
theorem dX12_does_48 : decode cX12_does 48 = .ok (.invokevirtual 395, 3) := by decide +kernel
theorem dX12_does_51 : decode cX12_does 51 = .ok (.iadd, 1) := by decide +kernel
theorem dX12_does_52 : decode cX12_does 52 = .ok (.putfield 493, 3) := by decide +kernel
theorem dX12_does_55 : decode cX12_does 55 = .ok (.aload_n 0, 1) := by decide +kernel
theorem dX12_does_56 : decode cX12_does 56 = .ok (.dup, 1) := by decide +kernel
theorem dX12_does_57 : decode cX12_does 57 = .ok (.getfield 496, 3) := by decide +kernel
theorem dX12_does_60 : decode cX12_does 60 = .ok (.aload_n 0, 1) := by decide +kernel
theorem dX12_does_61 : decode cX12_does 61 = .ok (.getfield 35, 3) := by decide +kernel
theorem dX12_does_64 : decode cX12_does 64 = .ok (.iload_n 1, 1) := by decide +kernel
theorem dX12_does_65 : decode cX12_does 65 = .ok (.iconst 1, 1) := by decide +kernel
theorem dX12_does_66 : decode cX12_does 66 = .ok (.iadd, 1) := by decide +kernel
theorem dX12_does_67 : decode cX12_does 67 = .ok (.iaload, 1) := by decide +kernel
theorem dX12_does_68 : decode cX12_does 68 = .ok (.iadd, 1) := by decide +kernel
theorem dX12_does_69 : decode cX12_does 69 = .ok (.putfield 496, 3) := by decide +kernel
theorem dX12_does_72 : decode cX12_does 72 = .ok (.iconst 1, 1) := by decide +kernel
theorem dX12_does_73 : decode cX12_does 73 = .ok (.ireturn, 1) := by decide +kernel
theorem dX12_does_74 : decode cX12_does 74 = .ok (.iload_n 2, 1) := by decide +kernel
theorem dX12_does_75 : decode cX12_does 75 = .ok (.iconst 1, 1) := by decide +kernel
theorem dX12_does_76 : decode cX12_does 76 = .ok (.if_icmp .ne 8, 3) := by decide +kernel
theorem dX12_does_79 : decode cX12_does 79 = .ok (.aload_n 0, 1) := by decide +kernel
theorem dX12_does_80 : decode cX12_does 80 = .ok (.invokevirtual 499, 3) := by decide +kernel
theorem dX12_does_83 : decode cX12_does 83 = .ok (.ireturn, 1) := by decide +kernel
theorem dX12_does_84 : decode cX12_does 84 = .ok (.iload_n 2, 1) := by decide +kernel
theorem dX12_does_85 : decode cX12_does 85 = .ok (.iconst 3, 1) := by decide +kernel
theorem dX12_does_86 : decode cX12_does 86 = .ok (.if_icmp .ne 24, 3) := by decide +kernel
theorem dX12_does_89 : decode cX12_does 89 = .ok (.aload_n 0, 1) := by decide +kernel
theorem dX12_does_90 : decode cX12_does 90 = .ok (.aload_n 0, 1) := by decide +kernel
theorem dX12_does_91 : decode cX12_does 91 = .ok (.getfield 35, 3) := by decide +kernel
theorem dX12_does_94 : decode cX12_does 94 = .ok (.iload_n 1, 1) := by decide +kernel
theorem dX12_does_95 : decode cX12_does 95 = .ok (.iconst 2, 1) := by decide +kernel
theorem dX12_does_96 : decode cX12_does 96 = .ok (.iadd, 1) := by decide +kernel
theorem dX12_does_97 : decode cX12_does 97 = .ok (.iaload, 1) := by decide +kernel
theorem dX12_does_98 : decode cX12_does 98 = .ok (.aload_n 0, 1) := by decide +kernel
theorem dX12_does_99 : decode cX12_does 99 = .ok (.getfield 35, 3) := by decide +kernel
theorem dX12_does_102 : decode cX12_does 102 = .ok (.iload_n 1, 1) := by decide +kernel
theorem dX12_does_103 : decode cX12_does 103 = .ok (.iconst 1, 1) := by decide +kernel
theorem dX12_does_104 : decode cX12_does 104 = .ok (.iadd, 1) := by decide +kernel
theorem dX12_does_105 : decode cX12_does 105 = .ok (.iaload, 1) := by decide +kernel
theorem dX12_does_106 : decode cX12_does 106 = .ok (.invokevirtual 378, 3) := by decide +kernel
theorem dX12_does_109 : decode cX12_does 109 = .ok (.ireturn, 1) := by decide +kernel
theorem dX12_does_110 : decode cX12_does 110 = .ok (.iload_n 2, 1) := by decide +kernel
theorem dX12_does_111 : decode cX12_does 111 = .ok (.iconst 2, 1) := by decide +kernel
theorem dX12_does_112 : decode cX12_does 112 = .ok (.if_icmp .ne 11, 3) := by decide +kernel
theorem dX12_does_115 : decode cX12_does 115 = .ok (.aload_n 0, 1) := by decide +kernel
theorem dX12_does_116 : decode cX12_does 116 = .ok (.invokevirtual 409, 3) := by decide +kernel
theorem dX12_does_119 : decode cX12_does 119 = .ok (.pop, 1) := by decide +kernel
theorem dX12_does_120 : decode cX12_does 120 = .ok (.goto 15, 3) := by decide +kernel
theorem dX12_does_123 : decode cX12_does 123 = .ok (.aload_n 0, 1) := by decide +kernel
theorem dX12_does_124 : decode cX12_does 124 = .ok (.aload_n 0, 1) := by decide +kernel
theorem dX12_does_125 : decode cX12_does 125 = .ok (.getfield 35, 3) := by decide +kernel
theorem dX12_does_128 : decode cX12_does 128 = .ok (.iload_n 1, 1) := by decide +kernel
theorem dX12_does_129 : decode cX12_does 129 = .ok (.iconst 1, 1) := by decide +kernel
theorem dX12_does_130 : decode cX12_does 130 = .ok (.iadd, 1) := by decide +kernel
theorem dX12_does_131 : decode cX12_does 131 = .ok (.iaload, 1) := by decide +kernel
theorem dX12_does_132 : decode cX12_does 132 = .ok (.invokevirtual 381, 3) := by decide +kernel
theorem dX12_does_135 : decode cX12_does 135 = .ok (.iconst 1, 1) := by decide +kernel
theorem dX12_does_136 : decode cX12_does 136 = .ok (.ireturn, 1) := by decide +kernel
def j_X12_does : JD := (yX12_does, cX12_does, 3, (some .boolean))
def b_X12_does : BD := (5, 0, 0)
theorem dX12_isSo_0 : decode cX12_isSo 0 = .ok (.aload_n 0, 1) := by decide +kernel
theorem dX12_isSo_1 : decode cX12_isSo 1 = .ok (.getfield 35, 3) := by decide +kernel
theorem dX12_isSo_4 : decode cX12_isSo 4 = .ok (.iload_n 1, 1) := by decide +kernel
theorem dX12_isSo_5 : decode cX12_isSo 5 = .ok (.bipush 6, 2) := by decide +kernel
theorem dX12_isSo_7 : decode cX12_isSo 7 = .ok (.iadd, 1) := by decide +kernel
theorem dX12_isSo_8 : decode cX12_isSo 8 = .ok (.iaload, 1) := by decide +kernel
theorem dX12_isSo_9 : decode cX12_isSo 9 = .ok (.istore_n 2, 1) := by decide +kernel
theorem dX12_isSo_10 : decode cX12_isSo 10 = .ok (.aload_n 0, 1) := by decide +kernel
theorem dX12_isSo_11 : decode cX12_isSo 11 = .ok (.getfield 35, 3) := by decide +kernel
theorem dX12_isSo_14 : decode cX12_isSo 14 = .ok (.iload_n 1, 1) := by decide +kernel
theorem dX12_isSo_15 : decode cX12_isSo 15 = .ok (.iconst 1, 1) := by decide +kernel
theorem dX12_isSo_16 : decode cX12_isSo 16 = .ok (.iadd, 1) := by decide +kernel
theorem dX12_isSo_17 : decode cX12_isSo 17 = .ok (.iaload, 1) := by decide +kernel
theorem dX12_isSo_18 : decode cX12_isSo 18 = .ok (.istore_n 3, 1) := by decide +kernel
theorem dX12_isSo_19 : decode cX12_isSo 19 = .ok (.iload_n 2, 1) := by decide +kernel
theorem dX12_isSo_20 : decode cX12_isSo 20 = .ok (.ifCond .ne 29, 3) := by decide +kernel
theorem dX12_isSo_23 : decode cX12_isSo 23 = .ok (.aload_n 0, 1) := by decide +kernel
theorem dX12_isSo_24 : decode cX12_isSo 24 = .ok (.iload_n 3, 1) := by decide +kernel
theorem dX12_isSo_25 : decode cX12_isSo 25 = .ok (.invokevirtual 324, 3) := by decide +kernel
theorem dX12_isSo_28 : decode cX12_isSo 28 = .ok (.ifCond .eq 19, 3) := by decide +kernel
theorem dX12_isSo_31 : decode cX12_isSo 31 = .ok (.aload_n 0, 1) := by decide +kernel
theorem dX12_isSo_32 : decode cX12_isSo 32 = .ok (.getfield 35, 3) := by decide +kernel
theorem dX12_isSo_35 : decode cX12_isSo 35 = .ok (.bipush 53, 2) := by decide +kernel
theorem dX12_isSo_37 : decode cX12_isSo 37 = .ok (.iload_n 3, 1) := by decide +kernel
theorem dX12_isSo_38 : decode cX12_isSo 38 = .ok (.iadd, 1) := by decide +kernel
theorem dX12_isSo_39 : decode cX12_isSo 39 = .ok (.iaload, 1) := by decide +kernel
theorem dX12_isSo_40 : decode cX12_isSo 40 = .ok (.ifCond .ne 7, 3) := by decide +kernel
theorem dX12_isSo_43 : decode cX12_isSo 43 = .ok (.iconst 1, 1) := by decide +kernel
theorem dX12_isSo_44 : decode cX12_isSo 44 = .ok (.goto 4, 3) := by decide +kernel
theorem dX12_isSo_47 : decode cX12_isSo 47 = .ok (.iconst 0, 1) := by decide +kernel
theorem dX12_isSo_48 : decode cX12_isSo 48 = .ok (.ireturn, 1) := by decide +kernel
theorem dX12_isSo_49 : decode cX12_isSo 49 = .ok (.iload_n 2, 1) := by decide +kernel
theorem dX12_isSo_50 : decode cX12_isSo 50 = .ok (.iconst 1, 1) := by decide +kernel
theorem dX12_isSo_51 : decode cX12_isSo 51 = .ok (.if_icmp .ne 9, 3) := by decide +kernel
theorem dX12_isSo_54 : decode cX12_isSo 54 = .ok (.aload_n 0, 1) := by decide +kernel
theorem dX12_isSo_55 : decode cX12_isSo 55 = .ok (.iload_n 3, 1) := by decide +kernel
theorem dX12_isSo_56 : decode cX12_isSo 56 = .ok (.invokevirtual 324, 3) := by decide +kernel
theorem dX12_isSo_59 : decode cX12_isSo 59 = .ok (.ireturn, 1) := by decide +kernel
theorem dX12_isSo_60 : decode cX12_isSo 60 = .ok (.aload_n 0, 1) := by decide +kernel
theorem dX12_isSo_61 : decode cX12_isSo 61 = .ok (.iconst 1, 1) := by decide +kernel
theorem dX12_isSo_62 : decode cX12_isSo 62 = .ok (.invokevirtual 334, 3) := by decide +kernel
theorem dX12_isSo_65 : decode cX12_isSo 65 = .ok (.istore 4, 2) := by decide +kernel
theorem dX12_isSo_67 : decode cX12_isSo 67 = .ok (.aload_n 0, 1) := by decide +kernel
theorem dX12_isSo_68 : decode cX12_isSo 68 = .ok (.getfield 35, 3) := by decide +kernel
theorem dX12_isSo_71 : decode cX12_isSo 71 = .ok (.iload_n 1, 1) := by decide +kernel
theorem dX12_isSo_72 : decode cX12_isSo 72 = .ok (.bipush 7, 2) := by decide +kernel
theorem dX12_isSo_74 : decode cX12_isSo 74 = .ok (.iadd, 1) := by decide +kernel
theorem dX12_isSo_75 : decode cX12_isSo 75 = .ok (.iaload, 1) := by decide +kernel
theorem dX12_isSo_76 : decode cX12_isSo 76 = .ok (.bipush 60, 2) := by decide +kernel
theorem dX12_isSo_78 : decode cX12_isSo 78 = .ok (.if_icmp .ne 24, 3) := by decide +kernel
theorem dX12_isSo_81 : decode cX12_isSo 81 = .ok (.iload 4, 2) := by decide +kernel
theorem dX12_isSo_83 : decode cX12_isSo 83 = .ok (.aload_n 0, 1) := by decide +kernel
theorem dX12_isSo_84 : decode cX12_isSo 84 = .ok (.getfield 35, 3) := by decide +kernel
theorem dX12_isSo_87 : decode cX12_isSo 87 = .ok (.iload_n 1, 1) := by decide +kernel
theorem dX12_isSo_88 : decode cX12_isSo 88 = .ok (.iconst 2, 1) := by decide +kernel
theorem dX12_isSo_89 : decode cX12_isSo 89 = .ok (.iadd, 1) := by decide +kernel
theorem dX12_isSo_90 : decode cX12_isSo 90 = .ok (.iaload, 1) := by decide +kernel
theorem dX12_isSo_91 : decode cX12_isSo 91 = .ok (.if_icmp .ge 7, 3) := by decide +kernel
theorem dX12_isSo_94 : decode cX12_isSo 94 = .ok (.iconst 1, 1) := by decide +kernel
theorem dX12_isSo_95 : decode cX12_isSo 95 = .ok (.goto 60, 3) := by decide +kernel
theorem dX12_isSo_98 : decode cX12_isSo 98 = .ok (.iconst 0, 1) := by decide +kernel
theorem dX12_isSo_99 : decode cX12_isSo 99 = .ok (.goto 56, 3) := by decide +kernel
theorem dX12_isSo_102 : decode cX12_isSo 102 = .ok (.aload_n 0, 1) := by decide +kernel
theorem dX12_isSo_103 : decode cX12_isSo 103 = .ok (.getfield 35, 3) := by decide +kernel
theorem dX12_isSo_106 : decode cX12_isSo 106 = .ok (.iload_n 1, 1) := by decide +kernel
theorem dX12_isSo_107 : decode cX12_isSo 107 = .ok (.bipush 7, 2) := by decide +kernel
theorem dX12_isSo_109 : decode cX12_isSo 109 = .ok (.iadd, 1) := by decide +kernel
theorem dX12_isSo_110 : decode cX12_isSo 110 = .ok (.iaload, 1) := by decide +kernel
theorem dX12_isSo_111 : decode cX12_isSo 111 = .ok (.bipush 62, 2) := by decide +kernel
theorem dX12_isSo_113 : decode cX12_isSo 113 = .ok (.if_icmp .ne 24, 3) := by decide +kernel
theorem dX12_isSo_116 : decode cX12_isSo 116 = .ok (.iload 4, 2) := by decide +kernel
theorem dX12_isSo_118 : decode cX12_isSo 118 = .ok (.aload_n 0, 1) := by decide +kernel
theorem dX12_isSo_119 : decode cX12_isSo 119 = .ok (.getfield 35, 3) := by decide +kernel
theorem dX12_isSo_122 : decode cX12_isSo 122 = .ok (.iload_n 1, 1) := by decide +kernel
theorem dX12_isSo_123 : decode cX12_isSo 123 = .ok (.iconst 2, 1) := by decide +kernel
theorem dX12_isSo_124 : decode cX12_isSo 124 = .ok (.iadd, 1) := by decide +kernel
theorem dX12_isSo_125 : decode cX12_isSo 125 = .ok (.iaload, 1) := by decide +kernel
theorem dX12_isSo_126 : decode cX12_isSo 126 = .ok (.if_icmp .le 7, 3) := by decide +kernel
theorem dX12_isSo_129 : decode cX12_isSo 129 = .ok (.iconst 1, 1) := by decide +kernel
theorem dX12_isSo_130 : decode cX12_isSo 130 = .ok (.goto 25, 3) := by decide +kernel
theorem dX12_isSo_133 : decode cX12_isSo 133 = .ok (.iconst 0, 1) := by decide +kernel
theorem dX12_isSo_134 : decode cX12_isSo 134 = .ok (.goto 21, 3) := by decide +kernel
theorem dX12_isSo_137 : decode cX12_isSo 137 = .ok (.iload 4, 2) := by decide +kernel
theorem dX12_isSo_139 : decode cX12_isSo 139 = .ok (.aload_n 0, 1) := by decide +kernel
theorem dX12_isSo_140 : decode cX12_isSo 140 = .ok (.getfield 35, 3) := by decide +kernel
theorem dX12_isSo_143 : decode cX12_isSo 143 = .ok (.iload_n 1, 1) := by decide +kernel
theorem dX12_isSo_144 : decode cX12_isSo 144 = .ok (.iconst 2, 1) := by decide +kernel
theorem dX12_isSo_145 : decode cX12_isSo 145 = .ok (.iadd, 1) := by decide +kernel
theorem dX12_isSo_146 : decode cX12_isSo 146 = .ok (.iaload, 1) := by decide +kernel
theorem dX12_isSo_147 : decode cX12_isSo 147 = .ok (.if_icmp .ne 7, 3) := by decide +kernel
theorem dX12_isSo_150 : decode cX12_isSo 150 = .ok (.iconst 1, 1) := by decide +kernel
theorem dX12_isSo_151 : decode cX12_isSo 151 = .ok (.goto 4, 3) := by decide +kernel
theorem dX12_isSo_154 : decode cX12_isSo 154 = .ok (.iconst 0, 1) := by decide +kernel
theorem dX12_isSo_155 : decode cX12_isSo 155 = .ok (.ireturn, 1) := by decide +kernel
def j_X12_isSo : JD := (yX12_isSo, cX12_isSo, 5, (some .boolean))
def b_X12_isSo : BD := (2, 0, 0)
theorem dX12_doOne_0 : decode cX12_doOne 0 = .ok (.aload_n 0, 1) := by decide +kernel
theorem dX12_doOne_1 : decode cX12_doOne 1 = .ok (.getfield 502, 3) := by decide +kernel
theorem dX12_doOne_4 : decode cX12_doOne 4 = .ok (.sipush 300, 3) := by decide +kernel
theorem dX12_doOne_7 : decode cX12_doOne 7 = .ok (.if_icmp .ne 14, 3) := by decide +kernel
theorem dX12_doOne_10 : decode cX12_doOne 10 = .ok (.aload_n 0, 1) := by decide +kernel
theorem dX12_doOne_11 : decode cX12_doOne 11 = .ok (.iconst 1, 1) := by decide +kernel
theorem dX12_doOne_12 : decode cX12_doOne 12 = .ok (.putfield 505, 3) := by decide +kernel
theorem dX12_doOne_15 : decode cX12_doOne 15 = .ok (.aload_n 0, 1) := by decide +kernel
theorem dX12_doOne_16 : decode cX12_doOne 16 = .ok (.iconst 1, 1) := by decide +kernel
theorem dX12_doOne_17 : decode cX12_doOne 17 = .ok (.putfield 508, 3) := by decide +kernel
theorem dX12_doOne_20 : decode cX12_doOne 20 = .ok (.return_, 1) := by decide +kernel
theorem dX12_doOne_21 : decode cX12_doOne 21 = .ok (.aload_n 0, 1) := by decide +kernel
theorem dX12_doOne_22 : decode cX12_doOne 22 = .ok (.dup, 1) := by decide +kernel
theorem dX12_doOne_23 : decode cX12_doOne 23 = .ok (.getfield 502, 3) := by decide +kernel
theorem dX12_doOne_26 : decode cX12_doOne 26 = .ok (.iconst 1, 1) := by decide +kernel
theorem dX12_doOne_27 : decode cX12_doOne 27 = .ok (.iadd, 1) := by decide +kernel
theorem dX12_doOne_28 : decode cX12_doOne 28 = .ok (.putfield 502, 3) := by decide +kernel
theorem dX12_doOne_31 : decode cX12_doOne 31 = .ok (.sipush 175, 3) := by decide +kernel
theorem dX12_doOne_34 : decode cX12_doOne 34 = .ok (.bipush 9, 2) := by decide +kernel
theorem dX12_doOne_36 : decode cX12_doOne 36 = .ok (.iload_n 1, 1) := by decide +kernel
theorem dX12_doOne_37 : decode cX12_doOne 37 = .ok (.imul, 1) := by decide +kernel
theorem dX12_doOne_38 : decode cX12_doOne 38 = .ok (.iadd, 1) := by decide +kernel
theorem dX12_doOne_39 : decode cX12_doOne 39 = .ok (.istore_n 2, 1) := by decide +kernel
theorem dX12_doOne_40 : decode cX12_doOne 40 = .ok (.aload_n 0, 1) := by decide +kernel
theorem dX12_doOne_41 : decode cX12_doOne 41 = .ok (.getfield 35, 3) := by decide +kernel
theorem dX12_doOne_44 : decode cX12_doOne 44 = .ok (.iload_n 2, 1) := by decide +kernel
theorem dX12_doOne_45 : decode cX12_doOne 45 = .ok (.iaload, 1) := by decide +kernel
theorem dX12_doOne_46 : decode cX12_doOne 46 = .ok (.istore_n 3, 1) := by decide +kernel
theorem dX12_doOne_47 : decode cX12_doOne 47 = .ok (.iload_n 3, 1) := by decide +kernel
theorem dX12_doOne_48 : decode cX12_doOne 48 = .ok (.iconst 5, 1) := by decide +kernel
theorem dX12_doOne_49 : decode cX12_doOne 49 = .ok (.if_icmp .ge 28, 3) := by decide +kernel
theorem dX12_doOne_52 : decode cX12_doOne 52 = .ok (.aload_n 0, 1) := by decide +kernel
theorem dX12_doOne_53 : decode cX12_doOne 53 = .ok (.dup, 1) := by decide +kernel
theorem dX12_doOne_54 : decode cX12_doOne 54 = .ok (.getfield 511, 3) := by decide +kernel
theorem dX12_doOne_57 : decode cX12_doOne 57 = .ok (.aload_n 0, 1) := by decide +kernel
theorem dX12_doOne_58 : decode cX12_doOne 58 = .ok (.iload_n 2, 1) := by decide +kernel
theorem dX12_doOne_59 : decode cX12_doOne 59 = .ok (.invokevirtual 514, 3) := by decide +kernel
theorem dX12_doOne_62 : decode cX12_doOne 62 = .ok (.ifCond .eq 7, 3) := by decide +kernel
theorem dX12_doOne_65 : decode cX12_doOne 65 = .ok (.iconst 0, 1) := by decide +kernel
theorem dX12_doOne_66 : decode cX12_doOne 66 = .ok (.goto 4, 3) := by decide +kernel
theorem dX12_doOne_69 : decode cX12_doOne 69 = .ok (.iconst 1, 1) := by decide +kernel
theorem dX12_doOne_70 : decode cX12_doOne 70 = .ok (.iadd, 1) := by decide +kernel
theorem dX12_doOne_71 : decode cX12_doOne 71 = .ok (.putfield 511, 3) := by decide +kernel
theorem dX12_doOne_74 : decode cX12_doOne 74 = .ok (.goto 100, 3) := by decide +kernel
theorem dX12_doOne_77 : decode cX12_doOne 77 = .ok (.iload_n 3, 1) := by decide +kernel
theorem dX12_doOne_78 : decode cX12_doOne 78 = .ok (.iconst 5, 1) := by decide +kernel
theorem dX12_doOne_79 : decode cX12_doOne 79 = .ok (.if_icmp .ne 30, 3) := by decide +kernel
theorem dX12_doOne_82 : decode cX12_doOne 82 = .ok (.aload_n 0, 1) := by decide +kernel
theorem dX12_doOne_83 : decode cX12_doOne 83 = .ok (.iload_n 2, 1) := by decide +kernel
theorem dX12_doOne_84 : decode cX12_doOne 84 = .ok (.invokevirtual 517, 3) := by decide +kernel
theorem dX12_doOne_87 : decode cX12_doOne 87 = .ok (.ifCond .eq 22, 3) := by decide +kernel
theorem dX12_doOne_90 : decode cX12_doOne 90 = .ok (.aload_n 0, 1) := by decide +kernel
theorem dX12_doOne_91 : decode cX12_doOne 91 = .ok (.iload_n 1, 1) := by decide +kernel
theorem dX12_doOne_92 : decode cX12_doOne 92 = .ok (.iconst 1, 1) := by decide +kernel
theorem dX12_doOne_93 : decode cX12_doOne 93 = .ok (.iadd, 1) := by decide +kernel
theorem dX12_doOne_94 : decode cX12_doOne 94 = .ok (.aload_n 0, 1) := by decide +kernel
theorem dX12_doOne_95 : decode cX12_doOne 95 = .ok (.getfield 35, 3) := by decide +kernel
theorem dX12_doOne_98 : decode cX12_doOne 98 = .ok (.iload_n 2, 1) := by decide +kernel
theorem dX12_doOne_99 : decode cX12_doOne 99 = .ok (.bipush 8, 2) := by decide +kernel
theorem dX12_doOne_101 : decode cX12_doOne 101 = .ok (.iadd, 1) := by decide +kernel
theorem dX12_doOne_102 : decode cX12_doOne 102 = .ok (.iaload, 1) := by decide +kernel
theorem dX12_doOne_103 : decode cX12_doOne 103 = .ok (.invokevirtual 520, 3) := by decide +kernel
theorem dX12_doOne_106 : decode cX12_doOne 106 = .ok (.goto 68, 3) := by decide +kernel
theorem dX12_doOne_109 : decode cX12_doOne 109 = .ok (.iload_n 3, 1) := by decide +kernel
theorem dX12_doOne_110 : decode cX12_doOne 110 = .ok (.bipush 6, 2) := by decide +kernel
theorem dX12_doOne_112 : decode cX12_doOne 112 = .ok (.if_icmp .ne 51, 3) := by decide +kernel
theorem dX12_doOne_115 : decode cX12_doOne 115 = .ok (.iconst 0, 1) := by decide +kernel
theorem dX12_doOne_116 : decode cX12_doOne 116 = .ok (.istore 4, 2) := by decide +kernel
theorem dX12_doOne_118 : decode cX12_doOne 118 = .ok (.iload 4, 2) := by decide +kernel
theorem dX12_doOne_120 : decode cX12_doOne 120 = .ok (.aload_n 0, 1) := by decide +kernel
theorem dX12_doOne_121 : decode cX12_doOne 121 = .ok (.getfield 35, 3) := by decide +kernel
theorem dX12_doOne_124 : decode cX12_doOne 124 = .ok (.iload_n 2, 1) := by decide +kernel
theorem dX12_doOne_125 : decode cX12_doOne 125 = .ok (.iconst 1, 1) := by decide +kernel
theorem dX12_doOne_126 : decode cX12_doOne 126 = .ok (.iadd, 1) := by decide +kernel
theorem dX12_doOne_127 : decode cX12_doOne 127 = .ok (.iaload, 1) := by decide +kernel
theorem dX12_doOne_128 : decode cX12_doOne 128 = .ok (.if_icmp .ge 32, 3) := by decide +kernel
theorem dX12_doOne_131 : decode cX12_doOne 131 = .ok (.aload_n 0, 1) := by decide +kernel
theorem dX12_doOne_132 : decode cX12_doOne 132 = .ok (.getfield 505, 3) := by decide +kernel
theorem dX12_doOne_135 : decode cX12_doOne 135 = .ok (.ifCond .ne 25, 3) := by decide +kernel
theorem dX12_doOne_138 : decode cX12_doOne 138 = .ok (.aload_n 0, 1) := by decide +kernel
theorem dX12_doOne_139 : decode cX12_doOne 139 = .ok (.iload_n 1, 1) := by decide +kernel
theorem dX12_doOne_140 : decode cX12_doOne 140 = .ok (.iconst 1, 1) := by decide +kernel
theorem dX12_doOne_141 : decode cX12_doOne 141 = .ok (.iadd, 1) := by decide +kernel
theorem dX12_doOne_142 : decode cX12_doOne 142 = .ok (.aload_n 0, 1) := by decide +kernel
theorem dX12_doOne_143 : decode cX12_doOne 143 = .ok (.getfield 35, 3) := by decide +kernel
theorem dX12_doOne_146 : decode cX12_doOne 146 = .ok (.iload_n 2, 1) := by decide +kernel
theorem dX12_doOne_147 : decode cX12_doOne 147 = .ok (.bipush 8, 2) := by decide +kernel
theorem dX12_doOne_149 : decode cX12_doOne 149 = .ok (.iadd, 1) := by decide +kernel
theorem dX12_doOne_150 : decode cX12_doOne 150 = .ok (.iaload, 1) := by decide +kernel
theorem dX12_doOne_151 : decode cX12_doOne 151 = .ok (.invokevirtual 520, 3) := by decide +kernel
theorem dX12_doOne_154 : decode cX12_doOne 154 = .ok (.iinc 4 1, 3) := by decide +kernel
theorem dX12_doOne_157 : decode cX12_doOne 157 = .ok (.goto (-39), 3) := by decide +kernel
theorem dX12_doOne_160 : decode cX12_doOne 160 = .ok (.goto 14, 3) := by decide +kernel
theorem dX12_doOne_163 : decode cX12_doOne 163 = .ok (.iload_n 3, 1) := by decide +kernel
theorem dX12_doOne_164 : decode cX12_doOne 164 = .ok (.bipush 6, 2) := by decide +kernel
theorem dX12_doOne_166 : decode cX12_doOne 166 = .ok (.if_icmp .le 8, 3) := by decide +kernel
theorem dX12_doOne_169 : decode cX12_doOne 169 = .ok (.aload_n 0, 1) := by decide +kernel
theorem dX12_doOne_170 : decode cX12_doOne 170 = .ok (.iconst 1, 1) := by decide +kernel
theorem dX12_doOne_171 : decode cX12_doOne 171 = .ok (.putfield 505, 3) := by decide +kernel
theorem dX12_doOne_174 : decode cX12_doOne 174 = .ok (.return_, 1) := by decide +kernel
def j_X12_doOne : JD := (yX12_doOne, cX12_doOne, 5, none)
def b_X12_doOne (d : Nat) : BD := (7 + 2 * d, 0, 0)
theorem dX12_doAll_0 : decode cX12_doAll 0 = .ok (.iload_n 1, 1) := by decide +kernel
theorem dX12_doAll_1 : decode cX12_doAll 1 = .ok (.istore_n 3, 1) := by decide +kernel
theorem dX12_doAll_2 : decode cX12_doAll 2 = .ok (.iload_n 3, 1) := by decide +kernel
theorem dX12_doAll_3 : decode cX12_doAll 3 = .ok (.iload_n 2, 1) := by decide +kernel
theorem dX12_doAll_4 : decode cX12_doAll 4 = .ok (.if_icmp .ge 35, 3) := by decide +kernel
theorem dX12_doAll_7 : decode cX12_doAll 7 = .ok (.aload_n 0, 1) := by decide +kernel
theorem dX12_doAll_8 : decode cX12_doAll 8 = .ok (.getfield 505, 3) := by decide +kernel
theorem dX12_doAll_11 : decode cX12_doAll 11 = .ok (.ifCond .ne 28, 3) := by decide +kernel
theorem dX12_doAll_14 : decode cX12_doAll 14 = .ok (.aload_n 0, 1) := by decide +kernel
theorem dX12_doAll_15 : decode cX12_doAll 15 = .ok (.iload_n 3, 1) := by decide +kernel
theorem dX12_doAll_16 : decode cX12_doAll 16 = .ok (.invokevirtual 523, 3) := by decide +kernel
theorem dX12_doAll_19 : decode cX12_doAll 19 = .ok (.aload_n 0, 1) := by decide +kernel
theorem dX12_doAll_20 : decode cX12_doAll 20 = .ok (.getfield 35, 3) := by decide +kernel
theorem dX12_doAll_23 : decode cX12_doAll 23 = .ok (.sipush 175, 3) := by decide +kernel
theorem dX12_doAll_26 : decode cX12_doAll 26 = .ok (.bipush 9, 2) := by decide +kernel
theorem dX12_doAll_28 : decode cX12_doAll 28 = .ok (.iload_n 3, 1) := by decide +kernel
theorem dX12_doAll_29 : decode cX12_doAll 29 = .ok (.imul, 1) := by decide +kernel
theorem dX12_doAll_30 : decode cX12_doAll 30 = .ok (.iadd, 1) := by decide +kernel
theorem dX12_doAll_31 : decode cX12_doAll 31 = .ok (.bipush 8, 2) := by decide +kernel
theorem dX12_doAll_33 : decode cX12_doAll 33 = .ok (.iadd, 1) := by decide +kernel
theorem dX12_doAll_34 : decode cX12_doAll 34 = .ok (.iaload, 1) := by decide +kernel
theorem dX12_doAll_35 : decode cX12_doAll 35 = .ok (.istore_n 3, 1) := by decide +kernel
theorem dX12_doAll_36 : decode cX12_doAll 36 = .ok (.goto (-34), 3) := by decide +kernel
theorem dX12_doAll_39 : decode cX12_doAll 39 = .ok (.return_, 1) := by decide +kernel
def j_X12_doAll : JD := (yX12_doAll, cX12_doAll, 4, none)
def b_X12_doAll (d : Nat) : BD := (6 + 2 * d, 0, 0)
theorem dX12_runs_0 : decode cX12_runs 0 = .ok (.aload_n 0, 1) := by decide +kernel
theorem dX12_runs_1 : decode cX12_runs 1 = .ok (.iload_n 1, 1) := by decide +kernel
theorem dX12_runs_2 : decode cX12_runs 2 = .ok (.putfield 483, 3) := by decide +kernel
theorem dX12_runs_5 : decode cX12_runs 5 = .ok (.aload_n 0, 1) := by decide +kernel
theorem dX12_runs_6 : decode cX12_runs 6 = .ok (.iconst 0, 1) := by decide +kernel
theorem dX12_runs_7 : decode cX12_runs 7 = .ok (.putfield 502, 3) := by decide +kernel
theorem dX12_runs_10 : decode cX12_runs 10 = .ok (.aload_n 0, 1) := by decide +kernel
theorem dX12_runs_11 : decode cX12_runs 11 = .ok (.iconst 0, 1) := by decide +kernel
theorem dX12_runs_12 : decode cX12_runs 12 = .ok (.putfield 511, 3) := by decide +kernel
theorem dX12_runs_15 : decode cX12_runs 15 = .ok (.aload_n 0, 1) := by decide +kernel
theorem dX12_runs_16 : decode cX12_runs 16 = .ok (.iconst 0, 1) := by decide +kernel
theorem dX12_runs_17 : decode cX12_runs 17 = .ok (.putfield 496, 3) := by decide +kernel
theorem dX12_runs_20 : decode cX12_runs 20 = .ok (.aload_n 0, 1) := by decide +kernel
theorem dX12_runs_21 : decode cX12_runs 21 = .ok (.iconst 0, 1) := by decide +kernel
theorem dX12_runs_22 : decode cX12_runs 22 = .ok (.putfield 493, 3) := by decide +kernel
theorem dX12_runs_25 : decode cX12_runs 25 = .ok (.aload_n 0, 1) := by decide +kernel
theorem dX12_runs_26 : decode cX12_runs 26 = .ok (.iconst 0, 1) := by decide +kernel
theorem dX12_runs_27 : decode cX12_runs 27 = .ok (.putfield 490, 3) := by decide +kernel
theorem dX12_runs_30 : decode cX12_runs 30 = .ok (.aload_n 0, 1) := by decide +kernel
theorem dX12_runs_31 : decode cX12_runs 31 = .ok (.iconst 0, 1) := by decide +kernel
theorem dX12_runs_32 : decode cX12_runs 32 = .ok (.putfield 508, 3) := by decide +kernel
theorem dX12_runs_35 : decode cX12_runs 35 = .ok (.aload_n 0, 1) := by decide +kernel
theorem dX12_runs_36 : decode cX12_runs 36 = .ok (.iconst 0, 1) := by decide +kernel
theorem dX12_runs_37 : decode cX12_runs 37 = .ok (.putfield 505, 3) := by decide +kernel
theorem dX12_runs_40 : decode cX12_runs 40 = .ok (.aload_n 0, 1) := by decide +kernel
theorem dX12_runs_41 : decode cX12_runs 41 = .ok (.iconst 0, 1) := by decide +kernel
theorem dX12_runs_42 : decode cX12_runs 42 = .ok (.aload_n 0, 1) := by decide +kernel
theorem dX12_runs_43 : decode cX12_runs 43 = .ok (.getfield 35, 3) := by decide +kernel
theorem dX12_runs_46 : decode cX12_runs 46 = .ok (.sipush 174, 3) := by decide +kernel
theorem dX12_runs_49 : decode cX12_runs 49 = .ok (.iaload, 1) := by decide +kernel
theorem dX12_runs_50 : decode cX12_runs 50 = .ok (.invokevirtual 520, 3) := by decide +kernel
theorem dX12_runs_53 : decode cX12_runs 53 = .ok (.return_, 1) := by decide +kernel
def j_X12_runs : JD := (yX12_runs, cX12_runs, 2, none)
def b_X12_runs : BD := (19, 0, 0)
theorem dX12_live_0 : decode cX12_live 0 = .ok (.aload_n 0, 1) := by decide +kernel
theorem dX12_live_1 : decode cX12_live 1 = .ok (.iconst 0, 1) := by decide +kernel
theorem dX12_live_2 : decode cX12_live 2 = .ok (.putfield 68, 3) := by decide +kernel
theorem dX12_live_5 : decode cX12_live 5 = .ok (.aload_n 0, 1) := by decide +kernel
theorem dX12_live_6 : decode cX12_live 6 = .ok (.iconst 0, 1) := by decide +kernel
theorem dX12_live_7 : decode cX12_live 7 = .ok (.putfield 71, 3) := by decide +kernel
theorem dX12_live_10 : decode cX12_live 10 = .ok (.iload_n 1, 1) := by decide +kernel
theorem dX12_live_11 : decode cX12_live 11 = .ok (.i2l, 1) := by decide +kernel
theorem dX12_live_12 : decode cX12_live 12 = .ok (.lconst 0, 1) := by decide +kernel
theorem dX12_live_13 : decode cX12_live 13 = .ok (.ldc2_w 526, 3) := by decide +kernel
theorem dX12_live_16 : decode cX12_live 16 = .ok (.invokestatic 103, 3) := by decide +kernel
theorem dX12_live_19 : decode cX12_live 19 = .ok (.ifCond .ne 9, 3) := by decide +kernel
theorem dX12_live_22 : decode cX12_live 22 = .ok (.aload_n 0, 1) := by decide +kernel
theorem dX12_live_23 : decode cX12_live 23 = .ok (.iconst 5, 1) := by decide +kernel
theorem dX12_live_24 : decode cX12_live 24 = .ok (.invokevirtual 331, 3) := by decide +kernel
theorem dX12_live_27 : decode cX12_live 27 = .ok (.ireturn, 1) := by decide +kernel
theorem dX12_live_28 : decode cX12_live 28 = .ok (.aload_n 0, 1) := by decide +kernel
theorem dX12_live_29 : decode cX12_live 29 = .ok (.getfield 35, 3) := by decide +kernel
theorem dX12_live_32 : decode cX12_live 32 = .ok (.sipush 173, 3) := by decide +kernel
theorem dX12_live_35 : decode cX12_live 35 = .ok (.iaload, 1) := by decide +kernel
theorem dX12_live_36 : decode cX12_live 36 = .ok (.ifCond .ne 10, 3) := by decide +kernel
theorem dX12_live_39 : decode cX12_live 39 = .ok (.aload_n 0, 1) := by decide +kernel
theorem dX12_live_40 : decode cX12_live 40 = .ok (.bipush 8, 2) := by decide +kernel
theorem dX12_live_42 : decode cX12_live 42 = .ok (.invokevirtual 331, 3) := by decide +kernel
theorem dX12_live_45 : decode cX12_live 45 = .ok (.ireturn, 1) := by decide +kernel
theorem dX12_live_46 : decode cX12_live 46 = .ok (.aload_n 0, 1) := by decide +kernel
theorem dX12_live_47 : decode cX12_live 47 = .ok (.iload_n 1, 1) := by decide +kernel
theorem dX12_live_48 : decode cX12_live 48 = .ok (.invokevirtual 528, 3) := by decide +kernel
theorem dX12_live_51 : decode cX12_live 51 = .ok (.aload_n 0, 1) := by decide +kernel
theorem dX12_live_52 : decode cX12_live 52 = .ok (.getfield 65, 3) := by decide +kernel
theorem dX12_live_55 : decode cX12_live 55 = .ok (.iconst 0, 1) := by decide +kernel
theorem dX12_live_56 : decode cX12_live 56 = .ok (.aload_n 0, 1) := by decide +kernel
theorem dX12_live_57 : decode cX12_live 57 = .ok (.getfield 511, 3) := by decide +kernel
theorem dX12_live_60 : decode cX12_live 60 = .ok (.iastore, 1) := by decide +kernel
theorem dX12_live_61 : decode cX12_live 61 = .ok (.aload_n 0, 1) := by decide +kernel
theorem dX12_live_62 : decode cX12_live 62 = .ok (.getfield 65, 3) := by decide +kernel
theorem dX12_live_65 : decode cX12_live 65 = .ok (.iconst 1, 1) := by decide +kernel
theorem dX12_live_66 : decode cX12_live 66 = .ok (.aload_n 0, 1) := by decide +kernel
theorem dX12_live_67 : decode cX12_live 67 = .ok (.getfield 496, 3) := by decide +kernel
theorem dX12_live_70 : decode cX12_live 70 = .ok (.iastore, 1) := by decide +kernel
theorem dX12_live_71 : decode cX12_live 71 = .ok (.aload_n 0, 1) := by decide +kernel
theorem dX12_live_72 : decode cX12_live 72 = .ok (.getfield 65, 3) := by decide +kernel
theorem dX12_live_75 : decode cX12_live 75 = .ok (.iconst 2, 1) := by decide +kernel
theorem dX12_live_76 : decode cX12_live 76 = .ok (.aload_n 0, 1) := by decide +kernel
theorem dX12_live_77 : decode cX12_live 77 = .ok (.getfield 493, 3) := by decide +kernel
theorem dX12_live_80 : decode cX12_live 80 = .ok (.iastore, 1) := by decide +kernel
theorem dX12_live_81 : decode cX12_live 81 = .ok (.aload_n 0, 1) := by decide +kernel
theorem dX12_live_82 : decode cX12_live 82 = .ok (.getfield 65, 3) := by decide +kernel
theorem dX12_live_85 : decode cX12_live 85 = .ok (.iconst 3, 1) := by decide +kernel
theorem dX12_live_86 : decode cX12_live 86 = .ok (.aload_n 0, 1) := by decide +kernel
theorem dX12_live_87 : decode cX12_live 87 = .ok (.getfield 490, 3) := by decide +kernel
theorem dX12_live_90 : decode cX12_live 90 = .ok (.iastore, 1) := by decide +kernel
theorem dX12_live_91 : decode cX12_live 91 = .ok (.aload_n 0, 1) := by decide +kernel
theorem dX12_live_92 : decode cX12_live 92 = .ok (.getfield 65, 3) := by decide +kernel
theorem dX12_live_95 : decode cX12_live 95 = .ok (.iconst 4, 1) := by decide +kernel
theorem dX12_live_96 : decode cX12_live 96 = .ok (.aload_n 0, 1) := by decide +kernel
theorem dX12_live_97 : decode cX12_live 97 = .ok (.getfield 508, 3) := by decide +kernel
theorem dX12_live_100 : decode cX12_live 100 = .ok (.iastore, 1) := by decide +kernel
theorem dX12_live_101 : decode cX12_live 101 = .ok (.aload_n 0, 1) := by decide +kernel
theorem dX12_live_102 : decode cX12_live 102 = .ok (.iconst 1, 1) := by decide +kernel
theorem dX12_live_103 : decode cX12_live 103 = .ok (.putfield 531, 3) := by decide +kernel
theorem dX12_live_106 : decode cX12_live 106 = .ok (.aload_n 0, 1) := by decide +kernel
theorem dX12_live_107 : decode cX12_live 107 = .ok (.getfield 502, 3) := by decide +kernel
theorem dX12_live_110 : decode cX12_live 110 = .ok (.ireturn, 1) := by decide +kernel
def j_X12_live : JD := (yX12_live, cX12_live, 2, (some .int))
def b_X12_live : BD := (20, 0, 0)
theorem dX12_lived_0 : decode cX12_lived 0 = .ok (.aload_n 0, 1) := by decide +kernel
theorem dX12_lived_1 : decode cX12_lived 1 = .ok (.iconst 0, 1) := by decide +kernel
theorem dX12_lived_2 : decode cX12_lived 2 = .ok (.putfield 68, 3) := by decide +kernel
theorem dX12_lived_5 : decode cX12_lived 5 = .ok (.aload_n 0, 1) := by decide +kernel
theorem dX12_lived_6 : decode cX12_lived 6 = .ok (.iconst 0, 1) := by decide +kernel
theorem dX12_lived_7 : decode cX12_lived 7 = .ok (.putfield 71, 3) := by decide +kernel
theorem dX12_lived_10 : decode cX12_lived 10 = .ok (.iload_n 1, 1) := by decide +kernel
theorem dX12_lived_11 : decode cX12_lived 11 = .ok (.i2l, 1) := by decide +kernel
theorem dX12_lived_12 : decode cX12_lived 12 = .ok (.lconst 0, 1) := by decide +kernel
theorem dX12_lived_13 : decode cX12_lived 13 = .ok (.ldc2_w 534, 3) := by decide +kernel
theorem dX12_lived_16 : decode cX12_lived 16 = .ok (.invokestatic 103, 3) := by decide +kernel
theorem dX12_lived_19 : decode cX12_lived 19 = .ok (.ifCond .ne 9, 3) := by decide +kernel
theorem dX12_lived_22 : decode cX12_lived 22 = .ok (.aload_n 0, 1) := by decide +kernel
theorem dX12_lived_23 : decode cX12_lived 23 = .ok (.iconst 5, 1) := by decide +kernel
theorem dX12_lived_24 : decode cX12_lived 24 = .ok (.invokevirtual 331, 3) := by decide +kernel
theorem dX12_lived_27 : decode cX12_lived 27 = .ok (.ireturn, 1) := by decide +kernel
theorem dX12_lived_28 : decode cX12_lived 28 = .ok (.aload_n 0, 1) := by decide +kernel
theorem dX12_lived_29 : decode cX12_lived 29 = .ok (.getfield 531, 3) := by decide +kernel
theorem dX12_lived_32 : decode cX12_lived 32 = .ok (.ifCond .eq 12, 3) := by decide +kernel
theorem dX12_lived_35 : decode cX12_lived 35 = .ok (.aload_n 0, 1) := by decide +kernel
theorem dX12_lived_36 : decode cX12_lived 36 = .ok (.getfield 65, 3) := by decide +kernel
theorem dX12_lived_39 : decode cX12_lived 39 = .ok (.iload_n 1, 1) := by decide +kernel
theorem dX12_lived_40 : decode cX12_lived 40 = .ok (.iaload, 1) := by decide +kernel
theorem dX12_lived_41 : decode cX12_lived 41 = .ok (.goto 9, 3) := by decide +kernel
theorem dX12_lived_44 : decode cX12_lived 44 = .ok (.aload_n 0, 1) := by decide +kernel
theorem dX12_lived_45 : decode cX12_lived 45 = .ok (.bipush 8, 2) := by decide +kernel
theorem dX12_lived_47 : decode cX12_lived 47 = .ok (.invokevirtual 331, 3) := by decide +kernel
theorem dX12_lived_50 : decode cX12_lived 50 = .ok (.ireturn, 1) := by decide +kernel
def j_X12_lived : JD := (yX12_lived, cX12_lived, 2, (some .int))
def b_X12_lived : BD := (1, 0, 0)
theorem dX12_mean_0 : decode cX12_mean 0 = .ok (.aload_n 0, 1) := by decide +kernel
theorem dX12_mean_1 : decode cX12_mean 1 = .ok (.iconst 0, 1) := by decide +kernel
theorem dX12_mean_2 : decode cX12_mean 2 = .ok (.putfield 68, 3) := by decide +kernel
theorem dX12_mean_5 : decode cX12_mean 5 = .ok (.aload_n 0, 1) := by decide +kernel
theorem dX12_mean_6 : decode cX12_mean 6 = .ok (.iconst 0, 1) := by decide +kernel
theorem dX12_mean_7 : decode cX12_mean 7 = .ok (.putfield 71, 3) := by decide +kernel
theorem dX12_mean_10 : decode cX12_mean 10 = .ok (.iload_n 2, 1) := by decide +kernel
theorem dX12_mean_11 : decode cX12_mean 11 = .ok (.i2l, 1) := by decide +kernel
theorem dX12_mean_12 : decode cX12_mean 12 = .ok (.lconst 1, 1) := by decide +kernel
theorem dX12_mean_13 : decode cX12_mean 13 = .ok (.ldc2_w 536, 3) := by decide +kernel
theorem dX12_mean_16 : decode cX12_mean 16 = .ok (.invokestatic 103, 3) := by decide +kernel
theorem dX12_mean_19 : decode cX12_mean 19 = .ok (.ifCond .eq 18, 3) := by decide +kernel
theorem dX12_mean_22 : decode cX12_mean 22 = .ok (.iload_n 1, 1) := by decide +kernel
theorem dX12_mean_23 : decode cX12_mean 23 = .ok (.i2l, 1) := by decide +kernel
theorem dX12_mean_24 : decode cX12_mean 24 = .ok (.lconst 0, 1) := by decide +kernel
theorem dX12_mean_25 : decode cX12_mean 25 = .ok (.sipush 10000, 3) := by decide +kernel
theorem dX12_mean_28 : decode cX12_mean 28 = .ok (.iload_n 2, 1) := by decide +kernel
theorem dX12_mean_29 : decode cX12_mean 29 = .ok (.isub, 1) := by decide +kernel
theorem dX12_mean_30 : decode cX12_mean 30 = .ok (.i2l, 1) := by decide +kernel
theorem dX12_mean_31 : decode cX12_mean 31 = .ok (.invokestatic 103, 3) := by decide +kernel
theorem dX12_mean_34 : decode cX12_mean 34 = .ok (.ifCond .ne 9, 3) := by decide +kernel
theorem dX12_mean_37 : decode cX12_mean 37 = .ok (.aload_n 0, 1) := by decide +kernel
theorem dX12_mean_38 : decode cX12_mean 38 = .ok (.iconst 5, 1) := by decide +kernel
theorem dX12_mean_39 : decode cX12_mean 39 = .ok (.invokevirtual 83, 3) := by decide +kernel
theorem dX12_mean_42 : decode cX12_mean 42 = .ok (.ireturn, 1) := by decide +kernel
theorem dX12_mean_43 : decode cX12_mean 43 = .ok (.aload_n 0, 1) := by decide +kernel
theorem dX12_mean_44 : decode cX12_mean 44 = .ok (.getfield 35, 3) := by decide +kernel
theorem dX12_mean_47 : decode cX12_mean 47 = .ok (.sipush 173, 3) := by decide +kernel
theorem dX12_mean_50 : decode cX12_mean 50 = .ok (.iaload, 1) := by decide +kernel
theorem dX12_mean_51 : decode cX12_mean 51 = .ok (.ifCond .ne 10, 3) := by decide +kernel
theorem dX12_mean_54 : decode cX12_mean 54 = .ok (.aload_n 0, 1) := by decide +kernel
theorem dX12_mean_55 : decode cX12_mean 55 = .ok (.bipush 8, 2) := by decide +kernel
theorem dX12_mean_57 : decode cX12_mean 57 = .ok (.invokevirtual 83, 3) := by decide +kernel
theorem dX12_mean_60 : decode cX12_mean 60 = .ok (.ireturn, 1) := by decide +kernel
theorem dX12_mean_61 : decode cX12_mean 61 = .ok (.aload_n 0, 1) := by decide +kernel
theorem dX12_mean_62 : decode cX12_mean 62 = .ok (.invokevirtual 422, 3) := by decide +kernel
theorem dX12_mean_65 : decode cX12_mean 65 = .ok (.lconst 0, 1) := by decide +kernel
theorem dX12_mean_66 : decode cX12_mean 66 = .ok (.lstore_n 3, 1) := by decide +kernel
theorem dX12_mean_67 : decode cX12_mean 67 = .ok (.iconst 0, 1) := by decide +kernel
theorem dX12_mean_68 : decode cX12_mean 68 = .ok (.istore 5, 2) := by decide +kernel
theorem dX12_mean_70 : decode cX12_mean 70 = .ok (.iload 5, 2) := by decide +kernel
theorem dX12_mean_72 : decode cX12_mean 72 = .ok (.iload_n 2, 1) := by decide +kernel
theorem dX12_mean_73 : decode cX12_mean 73 = .ok (.if_icmp .ge 30, 3) := by decide +kernel
theorem dX12_mean_76 : decode cX12_mean 76 = .ok (.aload_n 0, 1) := by decide +kernel
theorem dX12_mean_77 : decode cX12_mean 77 = .ok (.iload_n 1, 1) := by decide +kernel
theorem dX12_mean_78 : decode cX12_mean 78 = .ok (.iload 5, 2) := by decide +kernel
theorem dX12_mean_80 : decode cX12_mean 80 = .ok (.iadd, 1) := by decide +kernel
theorem dX12_mean_81 : decode cX12_mean 81 = .ok (.invokevirtual 528, 3) := by decide +kernel
theorem dX12_mean_84 : decode cX12_mean 84 = .ok (.lload_n 3, 1) := by decide +kernel
theorem dX12_mean_85 : decode cX12_mean 85 = .ok (.aload_n 0, 1) := by decide +kernel
theorem dX12_mean_86 : decode cX12_mean 86 = .ok (.iconst 1, 1) := by decide +kernel
theorem dX12_mean_87 : decode cX12_mean 87 = .ok (.invokevirtual 334, 3) := by decide +kernel
theorem dX12_mean_90 : decode cX12_mean 90 = .ok (.i2l, 1) := by decide +kernel
theorem dX12_mean_91 : decode cX12_mean 91 = .ok (.ladd, 1) := by decide +kernel
theorem dX12_mean_92 : decode cX12_mean 92 = .ok (.lstore_n 3, 1) := by decide +kernel
theorem dX12_mean_93 : decode cX12_mean 93 = .ok (.aload_n 0, 1) := by decide +kernel
theorem dX12_mean_94 : decode cX12_mean 94 = .ok (.invokevirtual 425, 3) := by decide +kernel
theorem dX12_mean_97 : decode cX12_mean 97 = .ok (.iinc 5 1, 3) := by decide +kernel
theorem dX12_mean_100 : decode cX12_mean 100 = .ok (.goto (-30), 3) := by decide +kernel
theorem dX12_mean_103 : decode cX12_mean 103 = .ok (.aload_n 0, 1) := by decide +kernel
theorem dX12_mean_104 : decode cX12_mean 104 = .ok (.lload_n 3, 1) := by decide +kernel
theorem dX12_mean_105 : decode cX12_mean 105 = .ok (.iload_n 2, 1) := by decide +kernel
theorem dX12_mean_106 : decode cX12_mean 106 = .ok (.i2l, 1) := by decide +kernel
theorem dX12_mean_107 : decode cX12_mean 107 = .ok (.invokevirtual 415, 3) := by decide +kernel
theorem dX12_mean_110 : decode cX12_mean 110 = .ok (.ireturn, 1) := by decide +kernel
def j_X12_mean : JD := (yX12_mean, cX12_mean, 6, (some .boolean))
def b_X12_mean : BD := (20, 0, 0)
theorem dX12_mark_0 : decode cX12_mark 0 = .ok (.aload_n 0, 1) := by decide +kernel
theorem dX12_mark_1 : decode cX12_mark 1 = .ok (.iconst 0, 1) := by decide +kernel
theorem dX12_mark_2 : decode cX12_mark 2 = .ok (.putfield 68, 3) := by decide +kernel
theorem dX12_mark_5 : decode cX12_mark 5 = .ok (.aload_n 0, 1) := by decide +kernel
theorem dX12_mark_6 : decode cX12_mark 6 = .ok (.iconst 0, 1) := by decide +kernel
theorem dX12_mark_7 : decode cX12_mark 7 = .ok (.putfield 71, 3) := by decide +kernel
theorem dX12_mark_10 : decode cX12_mark 10 = .ok (.aload_n 0, 1) := by decide +kernel
theorem dX12_mark_11 : decode cX12_mark 11 = .ok (.getfield 538, 3) := by decide +kernel
theorem dX12_mark_14 : decode cX12_mark 14 = .ok (.iconst 3, 1) := by decide +kernel
theorem dX12_mark_15 : decode cX12_mark 15 = .ok (.if_icmp .ne 10, 3) := by decide +kernel
theorem dX12_mark_18 : decode cX12_mark 18 = .ok (.aload_n 0, 1) := by decide +kernel
theorem dX12_mark_19 : decode cX12_mark 19 = .ok (.bipush 7, 2) := by decide +kernel
theorem dX12_mark_21 : decode cX12_mark 21 = .ok (.invokevirtual 331, 3) := by decide +kernel
theorem dX12_mark_24 : decode cX12_mark 24 = .ok (.ireturn, 1) := by decide +kernel
theorem dX12_mark_25 : decode cX12_mark 25 = .ok (.aload_n 0, 1) := by decide +kernel
theorem dX12_mark_26 : decode cX12_mark 26 = .ok (.dup, 1) := by decide +kernel
theorem dX12_mark_27 : decode cX12_mark 27 = .ok (.getfield 538, 3) := by decide +kernel
theorem dX12_mark_30 : decode cX12_mark 30 = .ok (.iconst 1, 1) := by decide +kernel
theorem dX12_mark_31 : decode cX12_mark 31 = .ok (.iadd, 1) := by decide +kernel
theorem dX12_mark_32 : decode cX12_mark 32 = .ok (.putfield 538, 3) := by decide +kernel
theorem dX12_mark_35 : decode cX12_mark 35 = .ok (.aload_n 0, 1) := by decide +kernel
theorem dX12_mark_36 : decode cX12_mark 36 = .ok (.iconst 0, 1) := by decide +kernel
theorem dX12_mark_37 : decode cX12_mark 37 = .ok (.aload_n 0, 1) := by decide +kernel
theorem dX12_mark_38 : decode cX12_mark 38 = .ok (.getfield 538, 3) := by decide +kernel
theorem dX12_mark_41 : decode cX12_mark 41 = .ok (.invokevirtual 309, 3) := by decide +kernel
theorem dX12_mark_44 : decode cX12_mark 44 = .ok (.aload_n 0, 1) := by decide +kernel
theorem dX12_mark_45 : decode cX12_mark 45 = .ok (.getfield 538, 3) := by decide +kernel
theorem dX12_mark_48 : decode cX12_mark 48 = .ok (.ireturn, 1) := by decide +kernel
def j_X12_mark : JD := (yX12_mark, cX12_mark, 1, (some .int))
def b_X12_mark : BD := (1, 0, 0)
theorem dX12_back_0 : decode cX12_back 0 = .ok (.aload_n 0, 1) := by decide +kernel
theorem dX12_back_1 : decode cX12_back 1 = .ok (.iconst 0, 1) := by decide +kernel
theorem dX12_back_2 : decode cX12_back 2 = .ok (.putfield 68, 3) := by decide +kernel
theorem dX12_back_5 : decode cX12_back 5 = .ok (.aload_n 0, 1) := by decide +kernel
theorem dX12_back_6 : decode cX12_back 6 = .ok (.iconst 0, 1) := by decide +kernel
theorem dX12_back_7 : decode cX12_back 7 = .ok (.putfield 71, 3) := by decide +kernel
theorem dX12_back_10 : decode cX12_back 10 = .ok (.aload_n 0, 1) := by decide +kernel
theorem dX12_back_11 : decode cX12_back 11 = .ok (.getfield 538, 3) := by decide +kernel
theorem dX12_back_14 : decode cX12_back 14 = .ok (.ifCond .ne 10, 3) := by decide +kernel
theorem dX12_back_17 : decode cX12_back 17 = .ok (.aload_n 0, 1) := by decide +kernel
theorem dX12_back_18 : decode cX12_back 18 = .ok (.bipush 8, 2) := by decide +kernel
theorem dX12_back_20 : decode cX12_back 20 = .ok (.invokevirtual 331, 3) := by decide +kernel
theorem dX12_back_23 : decode cX12_back 23 = .ok (.ireturn, 1) := by decide +kernel
theorem dX12_back_24 : decode cX12_back 24 = .ok (.aload_n 0, 1) := by decide +kernel
theorem dX12_back_25 : decode cX12_back 25 = .ok (.aload_n 0, 1) := by decide +kernel
theorem dX12_back_26 : decode cX12_back 26 = .ok (.getfield 538, 3) := by decide +kernel
theorem dX12_back_29 : decode cX12_back 29 = .ok (.iconst 0, 1) := by decide +kernel
theorem dX12_back_30 : decode cX12_back 30 = .ok (.invokevirtual 309, 3) := by decide +kernel
theorem dX12_back_33 : decode cX12_back 33 = .ok (.aload_n 0, 1) := by decide +kernel
theorem dX12_back_34 : decode cX12_back 34 = .ok (.dup, 1) := by decide +kernel
theorem dX12_back_35 : decode cX12_back 35 = .ok (.getfield 538, 3) := by decide +kernel
theorem dX12_back_38 : decode cX12_back 38 = .ok (.iconst 1, 1) := by decide +kernel
theorem dX12_back_39 : decode cX12_back 39 = .ok (.isub, 1) := by decide +kernel
theorem dX12_back_40 : decode cX12_back 40 = .ok (.putfield 538, 3) := by decide +kernel
theorem dX12_back_43 : decode cX12_back 43 = .ok (.aload_n 0, 1) := by decide +kernel
theorem dX12_back_44 : decode cX12_back 44 = .ok (.getfield 538, 3) := by decide +kernel
theorem dX12_back_47 : decode cX12_back 47 = .ok (.ireturn, 1) := by decide +kernel
def j_X12_back : JD := (yX12_back, cX12_back, 1, (some .int))
def b_X12_back : BD := (1, 0, 0)
theorem mv_X12_longOf : MV j_X12_longOf 12 1 := ⟨⟨gw_at 2237 (by decide +kernel) rfl, gw_at 221 (by decide +kernel) rfl, ⟨by decide +kernel, by decide +kernel⟩, by decide +kernel, by decide, by decide +kernel⟩, ⟨_, rfl, rfl⟩, gw_at 2236 (by decide +kernel) rfl, gw_at 197 (by decide +kernel) rfl⟩
theorem mv_X12_flownBy : MV j_X12_flownBy 12 1 := ⟨⟨gw_at 2249 (by decide +kernel) rfl, gw_at 221 (by decide +kernel) rfl, ⟨by decide +kernel, by decide +kernel⟩, by decide +kernel, by decide, by decide +kernel⟩, ⟨_, rfl, rfl⟩, gw_at 2248 (by decide +kernel) rfl, gw_at 198 (by decide +kernel) rfl⟩
theorem mv_X12_draw : MV j_X12_draw 12 1 := ⟨⟨gw_at 2286 (by decide +kernel) rfl, gw_at 221 (by decide +kernel) rfl, ⟨by decide +kernel, by decide +kernel⟩, by decide +kernel, by decide, by decide +kernel⟩, ⟨_, rfl, rfl⟩, gw_at 2285 (by decide +kernel) rfl, gw_at 204 (by decide +kernel) rfl⟩
theorem mv_X12_galeComes : MV j_X12_galeComes 12 0 := ⟨⟨gw_at 2282 (by decide +kernel) rfl, gw_at 221 (by decide +kernel) rfl, ⟨by decide +kernel, by decide +kernel⟩, by decide +kernel, by decide, by decide +kernel⟩, ⟨_, rfl, rfl⟩, gw_at 2281 (by decide +kernel) rfl, gw_at 203 (by decide +kernel) rfl⟩
theorem mv_X12_does : MV j_X12_does 12 1 := ⟨⟨gw_at 2278 (by decide +kernel) rfl, gw_at 221 (by decide +kernel) rfl, ⟨by decide +kernel, by decide +kernel⟩, by decide +kernel, by decide, by decide +kernel⟩, ⟨_, rfl, rfl⟩, gw_at 2277 (by decide +kernel) rfl, gw_at 202 (by decide +kernel) rfl⟩
theorem mv_X12_isSo : MV j_X12_isSo 12 1 := ⟨⟨gw_at 2291 (by decide +kernel) rfl, gw_at 221 (by decide +kernel) rfl, ⟨by decide +kernel, by decide +kernel⟩, by decide +kernel, by decide, by decide +kernel⟩, ⟨_, rfl, rfl⟩, gw_at 2290 (by decide +kernel) rfl, gw_at 205 (by decide +kernel) rfl⟩
theorem mv_X12_doOne : MV j_X12_doOne 12 1 := ⟨⟨gw_at 2274 (by decide +kernel) rfl, gw_at 221 (by decide +kernel) rfl, ⟨by decide +kernel, by decide +kernel⟩, by decide +kernel, by decide, by decide +kernel⟩, ⟨_, rfl, rfl⟩, gw_at 2273 (by decide +kernel) rfl, gw_at 201 (by decide +kernel) rfl⟩
theorem mv_X12_doAll : MV j_X12_doAll 12 2 := ⟨⟨gw_at 2270 (by decide +kernel) rfl, gw_at 221 (by decide +kernel) rfl, ⟨by decide +kernel, by decide +kernel⟩, by decide +kernel, by decide, by decide +kernel⟩, ⟨_, rfl, rfl⟩, gw_at 2269 (by decide +kernel) rfl, gw_at 200 (by decide +kernel) rfl⟩
theorem mv_X12_runs : MV j_X12_runs 12 1 := ⟨⟨gw_at 2266 (by decide +kernel) rfl, gw_at 221 (by decide +kernel) rfl, ⟨by decide +kernel, by decide +kernel⟩, by decide +kernel, by decide, by decide +kernel⟩, ⟨_, rfl, rfl⟩, gw_at 2265 (by decide +kernel) rfl, gw_at 199 (by decide +kernel) rfl⟩
theorem ml_X12_477 : MLk RX12 477 j_X12_longOf.1 := Or.inl (gw_at 2234 (by decide +kernel) rfl)
theorem ml_X12_480 : MLk RX12 480 j_X12_flownBy.1 := Or.inl (gw_at 2246 (by decide +kernel) rfl)
theorem ml_X12_487 : MLk RX12 487 j_X12_draw.1 := Or.inl (gw_at 2283 (by decide +kernel) rfl)
theorem ml_X12_499 : MLk RX12 499 j_X12_galeComes.1 := Or.inl (gw_at 2279 (by decide +kernel) rfl)
theorem ml_X12_514 : MLk RX12 514 j_X12_does.1 := Or.inl (gw_at 2275 (by decide +kernel) rfl)
theorem ml_X12_517 : MLk RX12 517 j_X12_isSo.1 := Or.inl (gw_at 2288 (by decide +kernel) rfl)
theorem ml_X12_520 : MLk RX12 520 j_X12_doAll.1 := Or.inl (gw_at 2267 (by decide +kernel) rfl)
theorem ml_X12_523 : MLk RX12 523 j_X12_doOne.1 := Or.inl (gw_at 2271 (by decide +kernel) rfl)
theorem ml_X12_528 : MLk RX12 528 j_X12_runs.1 := Or.inl (gw_at 2263 (by decide +kernel) rfl)
def f_X12_longOf_36 (k4 : Mm → Option Nat → Int32 → Int32 → Int32 → Option (Int32 × Mm)) (M : Mm) (l0 : Option Nat) (l1 : Int32) (l3 : Int32) (s0 : Int32) (s1 : Int32) : Option (Int32 × Mm) := nmI (s0 + s1) fun x37 => k4 M l0 l1 x37 (l3 + 1)
def f_X12_longOf_4 : Nat → Mm → Option Nat → Int32 → Int32 → Int32 → Option (Int32 × Mm)
  | 0, _, _, _, _, _ => none
  | n + 1, M, l0, l1, l2, l3 => gfR M l0 12 20 fun v6 => alI M v6 21 0 fun v10 => if v10 ≤ l3 then (some (l2, M)) else (bd (f_X12_has M l1 l3) fun v17 M17 => if v17 = 0 then (f_X12_longOf_36 (f_X12_longOf_4 n) M17 l0 l1 l3 l2 0) else (gfR M17 l0 12 20 fun v24 => alI M17 v24 21 (37 + l3) fun v31 => f_X12_longOf_36 (f_X12_longOf_4 n) M17 l0 l1 l3 l2 v31))
def f_X12_longOf (M : Mm) (l0 : Option Nat) (l1 : Int32) : Option (Int32 × Mm) := f_X12_longOf_4  fu M l0 l1 0 0
set_option maxHeartbeats 4000000 in
set_option maxRecDepth 100000 in
theorem t_X12_longOf_36 {G : GG} {X : CX} {ans : Int32 × Mm} (he : EndI G X j_X12_longOf b_X12_longOf ans) {k4 : Mm → Option Nat → Int32 → Int32 → Int32 → Option (Int32 × Mm)} (hk4 : ∀ (M : Mm) (a0 : Option Nat) (a1 : Int32) (a2 : Int32) (a3 : Int32), k4 M a0 a1 a2 a3 = some ans → Wt G X j_X12_longOf b_X12_longOf 4 [(0, rf G.1 a0), (1, .int a1), (2, .int a2), (3, .int a3)] [] M 0 0) {M : Mm} {l0 : Option Nat} {l1 : Int32} {l3 : Int32} {s0 : Int32} {s1 : Int32} (h : f_X12_longOf_36 k4 M l0 l1 l3 s0 s1 = some ans) : Wt G X j_X12_longOf b_X12_longOf 36 [(0, rf G.1 l0), (1, .int l1), (3, .int l3)] [.int s1, .int s0] M 0 0 := by
  unfold f_X12_longOf_36 at h
  refine wt_iadd (pc := 36) dX12_longOf_36 ?_
  refine wt_nmI h (fun x37 h => ?_)
  refine wt_istore_n (pc := 37) (i := 2) (ls' := [(2, .int x37), (0, rf G.1 l0), (1, .int l1), (3, .int l3)]) rfl dX12_longOf_37 (by decide) rfl ?_
  refine wt_iinc (pc := 38) (d := 1) (ls' := [(3, .int (l3 + 1)), (2, .int x37), (0, rf G.1 l0), (1, .int l1)]) 3 dX12_longOf_38 rfl (by decide) (by decide) rfl ?_
  refine wt_goto (pc := 41) (tgt := 4) dX12_longOf_41 (by decide) ?_
  refine wt_sub (ls' := [(0, rf G.1 l0), (1, .int l1), (2, .int x37), (3, .int (l3 + 1))]) [2, 3, 1, 0] rfl ?_
  exact hk4 _ _ _ _ _ h
set_option maxHeartbeats 4000000 in
set_option maxRecDepth 100000 in
theorem t_X12_longOf_4 {G : GG} {X : CX} {ans : Int32 × Mm} (he : EndI G X j_X12_longOf b_X12_longOf ans) : ∀ (n : Nat) {M : Mm} {l0 : Option Nat} {l1 : Int32} {l2 : Int32} {l3 : Int32}, f_X12_longOf_4 n M l0 l1 l2 l3 = some ans → Wt G X j_X12_longOf b_X12_longOf 4 [(0, rf G.1 l0), (1, .int l1), (2, .int l2), (3, .int l3)] [] M 0 0 := by
  intro n
  induction n with
  | zero =>
    intro M l0 l1 l2 l3 h
    rw [f_X12_longOf_4] at h
    cases h
  | succ n ih =>
    intro M l0 l1 l2 l3 h
    rw [f_X12_longOf_4] at h
    refine wt_iload_n (pc := 4) 3 dX12_longOf_4 rfl ?_
    refine wt_aload_n (pc := 5) 0 dX12_longOf_5 rfl ?_
    refine wt_getR (pc := 6) dX12_longOf_6 fl_X12_35 (fun _ _ _ => rfl) h (fun v6 h => ?_)
    refine wt_iconst (pc := 9) (v := 0) dX12_longOf_9 (by decide) ?_
    refine wt_iaload (pc := 10) (kd := 21) dX12_longOf_10 rfl rfl h (fun v10 h => ?_)
    refine wt_icmp_ge (pc := 11) (tgt := 44) dX12_longOf_11 (by decide) (fun q => ?_) (fun q => ?_)
    · have h := ite_t q h
      refine wt_iload_n (pc := 44) 2 dX12_longOf_44 rfl ?_
      cases h
      exact he 45 _ _ _ dX12_longOf_45 (by decide) (by decide)
    · have h := ite_f q h
      refine wt_iload_n (pc := 14) 2 dX12_longOf_14 rfl ?_
      refine wt_iload_n (pc := 15) 1 dX12_longOf_15 rfl ?_
      refine wt_iload_n (pc := 16) 3 dX12_longOf_16 rfl ?_
      refine wt_cSI (pc := 17) (J' := j_X12_has) (As := [.int l1, .int l3]) (st := [.int l2]) (B' := b_X12_has) (u' := 0) (w' := 0) dX12_longOf_17 ml_X12_107 ms_X12_has (fun v9 M9 e9 => c_X12_has e9) rfl (by decide) rfl rfl (by decide) (by decide) (by simp [rf_cat, cat_i, cat_l, cat_r]) rfl h (fun v17 M17 h => ?_)
      refine wt_if_eq (pc := 20) (tgt := 35) dX12_longOf_20 (by decide) (fun q => ?_) (fun q => ?_)
      · have h := ite_t q h
        refine wt_iconst (pc := 35) (v := 0) dX12_longOf_35 (by decide) ?_
        refine wt_sub (ls' := [(0, rf G.1 l0), (1, .int l1), (3, .int l3)]) [0, 1, 3] rfl ?_
        exact t_X12_longOf_36 he (fun _ _ _ _ _ h => ih h) h
      · have h := ite_f q h
        refine wt_aload_n (pc := 23) 0 dX12_longOf_23 rfl ?_
        refine wt_getR (pc := 24) dX12_longOf_24 fl_X12_35 (fun _ _ _ => rfl) h (fun v24 h => ?_)
        refine wt_bipush (pc := 27) (v := 37) dX12_longOf_27 (by decide) ?_
        refine wt_iload_n (pc := 29) 3 dX12_longOf_29 rfl ?_
        refine wt_iadd (pc := 30) dX12_longOf_30 ?_
        refine wt_iaload (pc := 31) (kd := 21) dX12_longOf_31 rfl rfl h (fun v31 h => ?_)
        refine wt_goto (pc := 32) (tgt := 36) dX12_longOf_32 (by decide) ?_
        refine wt_sub (ls' := [(0, rf G.1 l0), (1, .int l1), (3, .int l3)]) [0, 1, 3] rfl ?_
        exact t_X12_longOf_36 he (fun _ _ _ _ _ h => ih h) h
set_option maxHeartbeats 4000000 in
set_option maxRecDepth 100000 in
theorem t_X12_longOf_e {G : GG} {X : CX} {ans : Int32 × Mm} (he : EndI G X j_X12_longOf b_X12_longOf ans) {M : Mm} {l0 : Option Nat} {l1 : Int32} (h : f_X12_longOf M l0 l1 = some ans) : Wt G X j_X12_longOf b_X12_longOf 0 [(0, rf G.1 l0), (1, .int l1)] [] M 0 0 := by
  unfold f_X12_longOf at h
  refine wt_iconst (pc := 0) (v := 0) dX12_longOf_0 (by decide) ?_
  refine wt_istore_n (pc := 1) (i := 2) (ls' := [(2, .int 0), (0, rf G.1 l0), (1, .int l1)]) rfl dX12_longOf_1 (by decide) rfl ?_
  refine wt_iconst (pc := 2) (v := 0) dX12_longOf_2 (by decide) ?_
  refine wt_istore_n (pc := 3) (i := 3) (ls' := [(3, .int 0), (2, .int 0), (0, rf G.1 l0), (1, .int l1)]) rfl dX12_longOf_3 (by decide) rfl ?_
  refine wt_sub (ls' := [(0, rf G.1 l0), (1, .int l1), (2, .int 0), (3, .int 0)]) [2, 3, 1, 0] rfl ?_
  exact t_X12_longOf_4 he  fu h
set_option maxHeartbeats 4000000 in
set_option maxRecDepth 100000 in
theorem c_X12_longOf {G : GG} {M : Mm} {l0 : Option Nat} {l1 : Int32} {r : Int32 × Mm} (h : f_X12_longOf M l0 l1 = some r) (l : Launch) : Ct l G j_X12_longOf b_X12_longOf [rf G.1 l0, .int l1] M (some (.int r.1)) r.2 := cf_I (by decide +kernel) (by simp [lg_sl, rf_cat, cat_i, cat_l, j_X12_longOf]) rfl (by simp [lv_args, rf_cat, cat_i, cat_l]) (fun X he => t_X12_longOf_e he h)
def f_X12_ground_166 (k99 : Mm → Option Nat → Int32 → Int32 → Int32 → Option (Int32 × Mm)) (k123 : Mm → Option Nat → Int32 → Int32 → Int32 → Int32 → Option (Int32 × Mm)) (M : Mm) (l0 : Option Nat) (l1 : Int32) (l2 : Int32) (l3 : Int32) (l4 : Int32) : Option (Int32 × Mm) := nmI ((l4 - 1) &&& l3) fun x172 => k123 M l0 l1 l2 l3 x172
def f_X12_ground_123 (k99 : Mm → Option Nat → Int32 → Int32 → Int32 → Option (Int32 × Mm)) : Nat → Mm → Option Nat → Int32 → Int32 → Int32 → Int32 → Option (Int32 × Mm)
  | 0, _, _, _, _, _, _ => none
  | n + 1, M, l0, l1, l2, l3, l4 => if l4 ≤ 0 then (k99 M l0 l1 l2 (l3 + 1)) else (ck M l0 12 <| bd (f_X12_longOf M l0 l4) fun v131 M131 => if l1 < v131 then (f_X12_ground_166 k99 (f_X12_ground_123 k99 n) M131 l0 l1 l2 l3 l4) else (gfR M131 l0 12 29 fun v139 => gfR M131 l0 12 29 fun v144 => alI M131 v144 21 l3 fun v148 => gfR M131 l0 12 29 fun v151 => alI M131 v151 21 (l3 &&& (l4 ^^^ (-1))) fun v160 => asI M131 v139 21 l3 (mnI v148 (1 + v160)) fun M165 => f_X12_ground_166 k99 (f_X12_ground_123 k99 n) M165 l0 l1 l2 l3 l4))
def f_X12_ground_119 (k99 : Mm → Option Nat → Int32 → Int32 → Int32 → Option (Int32 × Mm)) (M : Mm) (l0 : Option Nat) (l1 : Int32) (l2 : Int32) (l3 : Int32) (s0 : Option Nat) (s1 : Int32) (s2 : Int32) : Option (Int32 × Mm) := asI M s0 21 s1 s2 fun M119 => f_X12_ground_123 k99 fu M119 l0 l1 l2 l3 l3
def f_X12_ground_99 : Nat → Mm → Option Nat → Int32 → Int32 → Int32 → Option (Int32 × Mm)
  | 0, _, _, _, _, _ => none
  | n + 1, M, l0, l1, l2, l3 => if l2 < l3 then (gfR M l0 12 29 fun v184 => alI M v184 21 l2 fun v188 => some (v188, M)) else (gfR M l0 12 29 fun v105 => if l3 = 0 then (f_X12_ground_119 (f_X12_ground_99 n) M l0 l1 l2 l3 v105 l3 0) else (f_X12_ground_119 (f_X12_ground_99 n) M l0 l1 l2 l3 v105 l3 99))
def f_X12_ground_91 (k32 : Mm → Option Nat → Int32 → Int32 → Int32 → Option (Int32 × Mm)) (M : Mm) (l0 : Option Nat) (l1 : Int32) (l2 : Int32) (l3 : Int32) : Option (Int32 × Mm) := k32 M l0 l1 l2 (l3 + 1)
def f_X12_ground_32 : Nat → Mm → Option Nat → Int32 → Int32 → Int32 → Option (Int32 × Mm)
  | 0, _, _, _, _, _ => none
  | n + 1, M, l0, l1, l2, l3 => gfR M l0 12 20 fun v34 => alI M v34 21 0 fun v38 => if v38 ≤ l3 then (f_X12_ground_99  fu M l0 l1 l2 0) else (ck M l0 12 <| bd (f_X12_stands M l0 l3) fun v44 M44 => if v44 = 0 then (f_X12_ground_91 (f_X12_ground_32 n) M44 l0 l1 l2 l3) else (gfR M44 l0 12 20 fun v51 => alI M44 v51 21 (53 + l3) fun v58 => if v58 ≤ 0 then (nmI (l2 ||| (1 <<< (l3 &&& 31))) fun x70 => gfR M44 l0 12 20 fun v72 => alI M44 v72 21 (37 + l3) fun v79 => if v79 ≤ l1 then (f_X12_ground_91 (f_X12_ground_32 n) M44 l0 l1 x70 l3) else (ck M44 l0 12 <| bd (f_X12_refuse M44 l0 9) fun v87 M87 => some (v87, M87))) else (f_X12_ground_91 (f_X12_ground_32 n) M44 l0 l1 l2 l3)))
def f_X12_ground (M : Mm) (l0 : Option Nat) (l1 : Int32) : Option (Int32 × Mm) := pfI M l0 12 1 0 fun M2 => pfI M2 l0 12 0 0 fun M7 => bd (f_X12_isIn M7 (Int32.toInt64 l1) 1 99) fun v16 M16 => if v16 = 0 then (ck M16 l0 12 <| bd (f_X12_refuse M16 l0 5) fun v24 M24 => some (v24, M24)) else (f_X12_ground_32  fu M16 l0 l1 0 0)
set_option maxHeartbeats 4000000 in
set_option maxRecDepth 100000 in
theorem t_X12_ground_166 {G : GG} {X : CX} {ans : Int32 × Mm} (he : EndI G X j_X12_ground b_X12_ground ans) {k99 : Mm → Option Nat → Int32 → Int32 → Int32 → Option (Int32 × Mm)} {k123 : Mm → Option Nat → Int32 → Int32 → Int32 → Int32 → Option (Int32 × Mm)} (hk99 : ∀ (M : Mm) (a0 : Option Nat) (a1 : Int32) (a2 : Int32) (a3 : Int32), k99 M a0 a1 a2 a3 = some ans → Wt G X j_X12_ground b_X12_ground 99 [(0, rf G.1 a0), (1, .int a1), (2, .int a2), (3, .int a3)] [] M 0 0) (hk123 : ∀ (M : Mm) (a0 : Option Nat) (a1 : Int32) (a2 : Int32) (a3 : Int32) (a4 : Int32), k123 M a0 a1 a2 a3 a4 = some ans → Wt G X j_X12_ground b_X12_ground 123 [(0, rf G.1 a0), (1, .int a1), (2, .int a2), (3, .int a3), (4, .int a4)] [] M 0 0) {M : Mm} {l0 : Option Nat} {l1 : Int32} {l2 : Int32} {l3 : Int32} {l4 : Int32} (h : f_X12_ground_166 k99 k123 M l0 l1 l2 l3 l4 = some ans) : Wt G X j_X12_ground b_X12_ground 166 [(0, rf G.1 l0), (1, .int l1), (2, .int l2), (3, .int l3), (4, .int l4)] [] M 0 0 := by
  unfold f_X12_ground_166 at h
  refine wt_iload (pc := 166) 4 dX12_ground_166 rfl ?_
  refine wt_iconst (pc := 168) (v := 1) dX12_ground_168 (by decide) ?_
  refine wt_isub (pc := 169) dX12_ground_169 ?_
  refine wt_iload_n (pc := 170) 3 dX12_ground_170 rfl ?_
  refine wt_iand (pc := 171) dX12_ground_171 ?_
  refine wt_nmI h (fun x172 h => ?_)
  refine wt_istore (pc := 172) (i := 4) (ls' := [(4, .int x172), (0, rf G.1 l0), (1, .int l1), (2, .int l2), (3, .int l3)]) dX12_ground_172 (by decide) rfl ?_
  refine wt_goto (pc := 174) (tgt := 123) dX12_ground_174 (by decide) ?_
  refine wt_sub (ls' := [(0, rf G.1 l0), (1, .int l1), (2, .int l2), (3, .int l3), (4, .int x172)]) [1, 2, 3, 4, 0] rfl ?_
  exact hk123 _ _ _ _ _ _ h
set_option maxHeartbeats 4000000 in
set_option maxRecDepth 100000 in
theorem t_X12_ground_123 {G : GG} {X : CX} {ans : Int32 × Mm} (he : EndI G X j_X12_ground b_X12_ground ans) {k99 : Mm → Option Nat → Int32 → Int32 → Int32 → Option (Int32 × Mm)} (hk99 : ∀ (M : Mm) (a0 : Option Nat) (a1 : Int32) (a2 : Int32) (a3 : Int32), k99 M a0 a1 a2 a3 = some ans → Wt G X j_X12_ground b_X12_ground 99 [(0, rf G.1 a0), (1, .int a1), (2, .int a2), (3, .int a3)] [] M 0 0) : ∀ (n : Nat) {M : Mm} {l0 : Option Nat} {l1 : Int32} {l2 : Int32} {l3 : Int32} {l4 : Int32}, f_X12_ground_123 k99 n M l0 l1 l2 l3 l4 = some ans → Wt G X j_X12_ground b_X12_ground 123 [(0, rf G.1 l0), (1, .int l1), (2, .int l2), (3, .int l3), (4, .int l4)] [] M 0 0 := by
  intro n
  induction n with
  | zero =>
    intro M l0 l1 l2 l3 l4 h
    rw [f_X12_ground_123] at h
    cases h
  | succ n ih =>
    intro M l0 l1 l2 l3 l4 h
    rw [f_X12_ground_123] at h
    refine wt_iload (pc := 123) 4 dX12_ground_123 rfl ?_
    refine wt_if_le (pc := 125) (tgt := 177) dX12_ground_125 (by decide) (fun q => ?_) (fun q => ?_)
    · have h := ite_t q h
      refine wt_iinc (pc := 177) (d := 1) (ls' := [(3, .int (l3 + 1)), (0, rf G.1 l0), (1, .int l1), (2, .int l2), (4, .int l4)]) 3 dX12_ground_177 rfl (by decide) (by decide) rfl ?_
      refine wt_goto (pc := 180) (tgt := 99) dX12_ground_180 (by decide) ?_
      refine wt_sub (ls' := [(0, rf G.1 l0), (1, .int l1), (2, .int l2), (3, .int (l3 + 1))]) [1, 2, 3, 0] rfl ?_
      exact hk99 _ _ _ _ _ h
    · have h := ite_f q h
      refine wt_aload_n (pc := 128) 0 dX12_ground_128 rfl ?_
      refine wt_iload (pc := 129) 4 dX12_ground_129 rfl ?_
      refine wt_cVI (pc := 131) (J' := j_X12_longOf) (As := [.int l4]) (st := []) (B' := b_X12_longOf) (u' := 0) (w' := 0) dX12_ground_131 ml_X12_477 mv_X12_longOf (fun v9 M9 e9 => c_X12_longOf e9) rfl (by decide) rfl rfl (by decide) (by decide) (by decide) rfl h (fun v131 M131 h => ?_)
      refine wt_iload_n (pc := 134) 1 dX12_ground_134 rfl ?_
      refine wt_icmp_gt (pc := 135) (tgt := 166) dX12_ground_135 (by decide) (fun q => ?_) (fun q => ?_)
      · have h := ite_t q h
        exact t_X12_ground_166 he (fun _ _ _ _ _ h => hk99 _ _ _ _ _ h) (fun _ _ _ _ _ _ h => ih h) h
      · have h := ite_f q h
        refine wt_aload_n (pc := 138) 0 dX12_ground_138 rfl ?_
        refine wt_getR (pc := 139) dX12_ground_139 fl_X12_50 (fun _ _ _ => rfl) h (fun v139 h => ?_)
        refine wt_iload_n (pc := 142) 3 dX12_ground_142 rfl ?_
        refine wt_aload_n (pc := 143) 0 dX12_ground_143 rfl ?_
        refine wt_getR (pc := 144) dX12_ground_144 fl_X12_50 (fun _ _ _ => rfl) h (fun v144 h => ?_)
        refine wt_iload_n (pc := 147) 3 dX12_ground_147 rfl ?_
        refine wt_iaload (pc := 148) (kd := 21) dX12_ground_148 rfl rfl h (fun v148 h => ?_)
        refine wt_iconst (pc := 149) (v := 1) dX12_ground_149 (by decide) ?_
        refine wt_aload_n (pc := 150) 0 dX12_ground_150 rfl ?_
        refine wt_getR (pc := 151) dX12_ground_151 fl_X12_50 (fun _ _ _ => rfl) h (fun v151 h => ?_)
        refine wt_iload_n (pc := 154) 3 dX12_ground_154 rfl ?_
        refine wt_iload (pc := 155) 4 dX12_ground_155 rfl ?_
        refine wt_iconst (pc := 157) (v := (-1)) dX12_ground_157 (by decide) ?_
        refine wt_ixor (pc := 158) dX12_ground_158 ?_
        refine wt_iand (pc := 159) dX12_ground_159 ?_
        refine wt_iaload (pc := 160) (kd := 21) dX12_ground_160 rfl rfl h (fun v160 h => ?_)
        refine wt_iadd (pc := 161) dX12_ground_161 ?_
        refine wt_mmin (pc := 162) dX12_ground_162 bi_X12_387 mw_min.1 mw_min.2.1 mw_min.2.2 (by decide) (by decide) (by decide) (by simp [rf_cat, cat_i, cat_l, cat_r]) ?_
        refine wt_iastore (pc := 165) (kd := 21) dX12_ground_165 rfl rfl h (fun M165 h => ?_)
        exact t_X12_ground_166 he (fun _ _ _ _ _ h => hk99 _ _ _ _ _ h) (fun _ _ _ _ _ _ h => ih h) h
set_option maxHeartbeats 4000000 in
set_option maxRecDepth 100000 in
theorem t_X12_ground_119 {G : GG} {X : CX} {ans : Int32 × Mm} (he : EndI G X j_X12_ground b_X12_ground ans) {k99 : Mm → Option Nat → Int32 → Int32 → Int32 → Option (Int32 × Mm)} (hk99 : ∀ (M : Mm) (a0 : Option Nat) (a1 : Int32) (a2 : Int32) (a3 : Int32), k99 M a0 a1 a2 a3 = some ans → Wt G X j_X12_ground b_X12_ground 99 [(0, rf G.1 a0), (1, .int a1), (2, .int a2), (3, .int a3)] [] M 0 0) {M : Mm} {l0 : Option Nat} {l1 : Int32} {l2 : Int32} {l3 : Int32} {s0 : Option Nat} {s1 : Int32} {s2 : Int32} (h : f_X12_ground_119 k99 M l0 l1 l2 l3 s0 s1 s2 = some ans) : Wt G X j_X12_ground b_X12_ground 119 [(0, rf G.1 l0), (1, .int l1), (2, .int l2), (3, .int l3)] [.int s2, .int s1, rf G.1 s0] M 0 0 := by
  unfold f_X12_ground_119 at h
  refine wt_iastore (pc := 119) (kd := 21) dX12_ground_119 rfl rfl h (fun M119 h => ?_)
  refine wt_iload_n (pc := 120) 3 dX12_ground_120 rfl ?_
  refine wt_istore (pc := 121) (i := 4) (ls' := [(4, .int l3), (0, rf G.1 l0), (1, .int l1), (2, .int l2), (3, .int l3)]) dX12_ground_121 (by decide) rfl ?_
  refine wt_sub (ls' := [(0, rf G.1 l0), (1, .int l1), (2, .int l2), (3, .int l3), (4, .int l3)]) [1, 2, 3, 4, 0] rfl ?_
  exact t_X12_ground_123 he (fun _ _ _ _ _ h => hk99 _ _ _ _ _ h) fu h
set_option maxHeartbeats 4000000 in
set_option maxRecDepth 100000 in
theorem t_X12_ground_99 {G : GG} {X : CX} {ans : Int32 × Mm} (he : EndI G X j_X12_ground b_X12_ground ans) : ∀ (n : Nat) {M : Mm} {l0 : Option Nat} {l1 : Int32} {l2 : Int32} {l3 : Int32}, f_X12_ground_99 n M l0 l1 l2 l3 = some ans → Wt G X j_X12_ground b_X12_ground 99 [(0, rf G.1 l0), (1, .int l1), (2, .int l2), (3, .int l3)] [] M 0 0 := by
  intro n
  induction n with
  | zero =>
    intro M l0 l1 l2 l3 h
    rw [f_X12_ground_99] at h
    cases h
  | succ n ih =>
    intro M l0 l1 l2 l3 h
    rw [f_X12_ground_99] at h
    refine wt_iload_n (pc := 99) 3 dX12_ground_99 rfl ?_
    refine wt_iload_n (pc := 100) 2 dX12_ground_100 rfl ?_
    refine wt_icmp_gt (pc := 101) (tgt := 183) dX12_ground_101 (by decide) (fun q => ?_) (fun q => ?_)
    · have h := ite_t q h
      refine wt_aload_n (pc := 183) 0 dX12_ground_183 rfl ?_
      refine wt_getR (pc := 184) dX12_ground_184 fl_X12_50 (fun _ _ _ => rfl) h (fun v184 h => ?_)
      refine wt_iload_n (pc := 187) 2 dX12_ground_187 rfl ?_
      refine wt_iaload (pc := 188) (kd := 21) dX12_ground_188 rfl rfl h (fun v188 h => ?_)
      cases h
      exact he 189 _ _ _ dX12_ground_189 (by decide) (by decide)
    · have h := ite_f q h
      refine wt_aload_n (pc := 104) 0 dX12_ground_104 rfl ?_
      refine wt_getR (pc := 105) dX12_ground_105 fl_X12_50 (fun _ _ _ => rfl) h (fun v105 h => ?_)
      refine wt_iload_n (pc := 108) 3 dX12_ground_108 rfl ?_
      refine wt_iload_n (pc := 109) 3 dX12_ground_109 rfl ?_
      refine wt_if_ne (pc := 110) (tgt := 117) dX12_ground_110 (by decide) (fun q => ?_) (fun q => ?_)
      · have h := ite_f q h
        refine wt_bipush (pc := 117) (v := 99) dX12_ground_117 (by decide) ?_
        exact t_X12_ground_119 he (fun _ _ _ _ _ h => ih h) h
      · have h := ite_t q h
        refine wt_iconst (pc := 113) (v := 0) dX12_ground_113 (by decide) ?_
        refine wt_goto (pc := 114) (tgt := 119) dX12_ground_114 (by decide) ?_
        exact t_X12_ground_119 he (fun _ _ _ _ _ h => ih h) h
set_option maxHeartbeats 4000000 in
set_option maxRecDepth 100000 in
theorem t_X12_ground_91 {G : GG} {X : CX} {ans : Int32 × Mm} (he : EndI G X j_X12_ground b_X12_ground ans) {k32 : Mm → Option Nat → Int32 → Int32 → Int32 → Option (Int32 × Mm)} (hk32 : ∀ (M : Mm) (a0 : Option Nat) (a1 : Int32) (a2 : Int32) (a3 : Int32), k32 M a0 a1 a2 a3 = some ans → Wt G X j_X12_ground b_X12_ground 32 [(0, rf G.1 a0), (1, .int a1), (2, .int a2), (3, .int a3)] [] M 0 0) {M : Mm} {l0 : Option Nat} {l1 : Int32} {l2 : Int32} {l3 : Int32} (h : f_X12_ground_91 k32 M l0 l1 l2 l3 = some ans) : Wt G X j_X12_ground b_X12_ground 91 [(0, rf G.1 l0), (1, .int l1), (2, .int l2), (3, .int l3)] [] M 0 0 := by
  unfold f_X12_ground_91 at h
  refine wt_iinc (pc := 91) (d := 1) (ls' := [(3, .int (l3 + 1)), (0, rf G.1 l0), (1, .int l1), (2, .int l2)]) 3 dX12_ground_91 rfl (by decide) (by decide) rfl ?_
  refine wt_goto (pc := 94) (tgt := 32) dX12_ground_94 (by decide) ?_
  refine wt_sub (ls' := [(0, rf G.1 l0), (1, .int l1), (2, .int l2), (3, .int (l3 + 1))]) [1, 2, 3, 0] rfl ?_
  exact hk32 _ _ _ _ _ h
set_option maxHeartbeats 4000000 in
set_option maxRecDepth 100000 in
theorem t_X12_ground_32 {G : GG} {X : CX} {ans : Int32 × Mm} (he : EndI G X j_X12_ground b_X12_ground ans) : ∀ (n : Nat) {M : Mm} {l0 : Option Nat} {l1 : Int32} {l2 : Int32} {l3 : Int32}, f_X12_ground_32 n M l0 l1 l2 l3 = some ans → Wt G X j_X12_ground b_X12_ground 32 [(0, rf G.1 l0), (1, .int l1), (2, .int l2), (3, .int l3)] [] M 0 0 := by
  intro n
  induction n with
  | zero =>
    intro M l0 l1 l2 l3 h
    rw [f_X12_ground_32] at h
    cases h
  | succ n ih =>
    intro M l0 l1 l2 l3 h
    rw [f_X12_ground_32] at h
    refine wt_iload_n (pc := 32) 3 dX12_ground_32 rfl ?_
    refine wt_aload_n (pc := 33) 0 dX12_ground_33 rfl ?_
    refine wt_getR (pc := 34) dX12_ground_34 fl_X12_35 (fun _ _ _ => rfl) h (fun v34 h => ?_)
    refine wt_iconst (pc := 37) (v := 0) dX12_ground_37 (by decide) ?_
    refine wt_iaload (pc := 38) (kd := 21) dX12_ground_38 rfl rfl h (fun v38 h => ?_)
    refine wt_icmp_ge (pc := 39) (tgt := 97) dX12_ground_39 (by decide) (fun q => ?_) (fun q => ?_)
    · have h := ite_t q h
      refine wt_iconst (pc := 97) (v := 0) dX12_ground_97 (by decide) ?_
      refine wt_istore_n (pc := 98) (i := 3) (ls' := [(3, .int 0), (0, rf G.1 l0), (1, .int l1), (2, .int l2)]) rfl dX12_ground_98 (by decide) rfl ?_
      refine wt_sub (ls' := [(0, rf G.1 l0), (1, .int l1), (2, .int l2), (3, .int 0)]) [1, 2, 3, 0] rfl ?_
      exact t_X12_ground_99 he  fu h
    · have h := ite_f q h
      refine wt_aload_n (pc := 42) 0 dX12_ground_42 rfl ?_
      refine wt_iload_n (pc := 43) 3 dX12_ground_43 rfl ?_
      refine wt_cVI (pc := 44) (J' := j_X12_stands) (As := [.int l3]) (st := []) (B' := b_X12_stands) (u' := 0) (w' := 0) dX12_ground_44 ml_X12_324 mv_X12_stands (fun v9 M9 e9 => c_X12_stands e9) rfl (by decide) rfl rfl (by decide) (by decide) (by decide) rfl h (fun v44 M44 h => ?_)
      refine wt_if_eq (pc := 47) (tgt := 91) dX12_ground_47 (by decide) (fun q => ?_) (fun q => ?_)
      · have h := ite_t q h
        exact t_X12_ground_91 he (fun _ _ _ _ _ h => ih h) h
      · have h := ite_f q h
        refine wt_aload_n (pc := 50) 0 dX12_ground_50 rfl ?_
        refine wt_getR (pc := 51) dX12_ground_51 fl_X12_35 (fun _ _ _ => rfl) h (fun v51 h => ?_)
        refine wt_bipush (pc := 54) (v := 53) dX12_ground_54 (by decide) ?_
        refine wt_iload_n (pc := 56) 3 dX12_ground_56 rfl ?_
        refine wt_iadd (pc := 57) dX12_ground_57 ?_
        refine wt_iaload (pc := 58) (kd := 21) dX12_ground_58 rfl rfl h (fun v58 h => ?_)
        refine wt_if_le (pc := 59) (tgt := 65) dX12_ground_59 (by decide) (fun q => ?_) (fun q => ?_)
        · have h := ite_t q h
          refine wt_iload_n (pc := 65) 2 dX12_ground_65 rfl ?_
          refine wt_iconst (pc := 66) (v := 1) dX12_ground_66 (by decide) ?_
          refine wt_iload_n (pc := 67) 3 dX12_ground_67 rfl ?_
          refine wt_ishl (pc := 68) dX12_ground_68 ?_
          refine wt_ior (pc := 69) dX12_ground_69 ?_
          refine wt_nmI h (fun x70 h => ?_)
          refine wt_istore_n (pc := 70) (i := 2) (ls' := [(2, .int x70), (0, rf G.1 l0), (1, .int l1), (3, .int l3)]) rfl dX12_ground_70 (by decide) rfl ?_
          refine wt_aload_n (pc := 71) 1 dX12_ground_71 rfl ?_
          refine wt_getR (pc := 72) dX12_ground_72 fl_X12_35 (fun _ _ _ => rfl) h (fun v72 h => ?_)
          refine wt_bipush (pc := 75) (v := 37) dX12_ground_75 (by decide) ?_
          refine wt_iload_n (pc := 77) 3 dX12_ground_77 rfl ?_
          refine wt_iadd (pc := 78) dX12_ground_78 ?_
          refine wt_iaload (pc := 79) (kd := 21) dX12_ground_79 rfl rfl h (fun v79 h => ?_)
          refine wt_iload_n (pc := 80) 2 dX12_ground_80 rfl ?_
          refine wt_icmp_le (pc := 81) (tgt := 91) dX12_ground_81 (by decide) (fun q => ?_) (fun q => ?_)
          · have h := ite_t q h
            refine wt_sub (ls' := [(0, rf G.1 l0), (1, .int l1), (2, .int x70), (3, .int l3)]) [1, 2, 0, 3] rfl ?_
            exact t_X12_ground_91 he (fun _ _ _ _ _ h => ih h) h
          · have h := ite_f q h
            refine wt_aload_n (pc := 84) 1 dX12_ground_84 rfl ?_
            refine wt_bipush (pc := 85) (v := 9) dX12_ground_85 (by decide) ?_
            refine wt_cVI (pc := 87) (J' := j_X12_refuse) (As := [.int 9]) (st := []) (B' := b_X12_refuse) (u' := 0) (w' := 0) dX12_ground_87 ml_X12_331 mv_X12_refuse (fun v9 M9 e9 => c_X12_refuse e9) rfl (by decide) rfl rfl (by decide) (by decide) (by decide) rfl h (fun v87 M87 h => ?_)
            cases h
            exact he 90 _ _ _ dX12_ground_90 (by decide) (by decide)
        · have h := ite_f q h
          refine wt_goto (pc := 62) (tgt := 91) dX12_ground_62 (by decide) ?_
          exact t_X12_ground_91 he (fun _ _ _ _ _ h => ih h) h
set_option maxHeartbeats 4000000 in
set_option maxRecDepth 100000 in
theorem t_X12_ground_e {G : GG} {X : CX} {ans : Int32 × Mm} (he : EndI G X j_X12_ground b_X12_ground ans) {M : Mm} {l0 : Option Nat} {l1 : Int32} (h : f_X12_ground M l0 l1 = some ans) : Wt G X j_X12_ground b_X12_ground 0 [(0, rf G.1 l0), (1, .int l1)] [] M 0 0 := by
  unfold f_X12_ground at h
  refine wt_aload_n (pc := 0) 0 dX12_ground_0 rfl ?_
  refine wt_iconst (pc := 1) (v := 0) dX12_ground_1 (by decide) ?_
  refine wt_putI (pc := 2) dX12_ground_2 fl_X12_68 rfl rfl h (fun M2 h => ?_)
  refine wt_aload_n (pc := 5) 0 dX12_ground_5 rfl ?_
  refine wt_iconst (pc := 6) (v := 0) dX12_ground_6 (by decide) ?_
  refine wt_putI (pc := 7) dX12_ground_7 fl_X12_71 rfl rfl h (fun M7 h => ?_)
  refine wt_iload_n (pc := 10) 1 dX12_ground_10 rfl ?_
  refine wt_i2l (pc := 11) dX12_ground_11 ?_
  refine wt_lconst (pc := 12) (v := 1) dX12_ground_12 (by decide) ?_
  refine wt_ldc2 (pc := 13) dX12_ground_13 kc_X12_404 ?_
  refine wt_cSI (pc := 16) (J' := j_X12_isIn) (As := [.long (Int32.toInt64 l1), .long 1, .long 99]) (st := []) (B' := b_X12_isIn) (u' := 0) (w' := 0) dX12_ground_16 ml_X12_103 ms_X12_isIn (fun v9 M9 e9 => c_X12_isIn e9) rfl (by decide) rfl rfl (by decide) (by decide) (by decide) rfl h (fun v16 M16 h => ?_)
  refine wt_if_ne (pc := 19) (tgt := 28) dX12_ground_19 (by decide) (fun q => ?_) (fun q => ?_)
  · have h := ite_f q h
    refine wt_iconst (pc := 28) (v := 0) dX12_ground_28 (by decide) ?_
    refine wt_istore_n (pc := 29) (i := 2) (ls' := [(2, .int 0), (0, rf G.1 l0), (1, .int l1)]) rfl dX12_ground_29 (by decide) rfl ?_
    refine wt_iconst (pc := 30) (v := 0) dX12_ground_30 (by decide) ?_
    refine wt_istore_n (pc := 31) (i := 3) (ls' := [(3, .int 0), (2, .int 0), (0, rf G.1 l0), (1, .int l1)]) rfl dX12_ground_31 (by decide) rfl ?_
    refine wt_sub (ls' := [(0, rf G.1 l0), (1, .int l1), (2, .int 0), (3, .int 0)]) [2, 3, 1, 0] rfl ?_
    exact t_X12_ground_32 he  fu h
  · have h := ite_t q h
    refine wt_aload_n (pc := 22) 0 dX12_ground_22 rfl ?_
    refine wt_iconst (pc := 23) (v := 5) dX12_ground_23 (by decide) ?_
    refine wt_cVI (pc := 24) (J' := j_X12_refuse) (As := [.int 5]) (st := []) (B' := b_X12_refuse) (u' := 0) (w' := 0) dX12_ground_24 ml_X12_331 mv_X12_refuse (fun v9 M9 e9 => c_X12_refuse e9) rfl (by decide) rfl rfl (by decide) (by decide) (by decide) rfl h (fun v24 M24 h => ?_)
    cases h
    exact he 27 _ _ _ dX12_ground_27 (by decide) (by decide)
set_option maxHeartbeats 4000000 in
set_option maxRecDepth 100000 in
theorem c_X12_ground {G : GG} {M : Mm} {l0 : Option Nat} {l1 : Int32} {r : Int32 × Mm} (h : f_X12_ground M l0 l1 = some r) (l : Launch) : Ct l G j_X12_ground b_X12_ground [rf G.1 l0, .int l1] M (some (.int r.1)) r.2 := cf_I (by decide +kernel) (by simp [lg_sl, rf_cat, cat_i, cat_l, j_X12_ground]) rfl (by simp [lv_args, rf_cat, cat_i, cat_l]) (fun X he => t_X12_ground_e he h)
def f_X12_signs_163 (k119 : Mm → Option Nat → Int32 → Int32 → Int32 → Int32 → Option (Int32 × Mm)) (k136 : Mm → Option Nat → Int32 → Int32 → Int32 → Int32 → Int32 → Int32 → Option (Int32 × Mm)) (M : Mm) (l0 : Option Nat) (l1 : Int32) (l2 : Int32) (l3 : Int32) (l4 : Int32) (l6 : Int32) (s0 : Int32) (s1 : Int32) : Option (Int32 × Mm) := nmI (s0 + s1) fun x164 => k136 M l0 l1 l2 l3 l4 x164 (l6 + 1)
def f_X12_signs_136 (k119 : Mm → Option Nat → Int32 → Int32 → Int32 → Int32 → Option (Int32 × Mm)) : Nat → Mm → Option Nat → Int32 → Int32 → Int32 → Int32 → Int32 → Int32 → Option (Int32 × Mm)
  | 0, _, _, _, _, _, _, _, _ => none
  | n + 1, M, l0, l1, l2, l3, l4, l5, l6 => if l2 ≤ l6 then (gfR M l0 12 20 fun v177 => alI M v177 21 (21 + l4) fun v185 => nmI (l3 + (mxI 0 (l5 - v185))) fun x191 => k119 M l0 l1 l2 x191 (l4 + 1)) else (ck M l0 12 <| bd (f_X12_numberOf M l0 l1 l6) fun v148 M148 => if (lg_cmp v148 (Int32.toInt64 l4)) = 0 then (f_X12_signs_163 k119 (f_X12_signs_136 k119 n) M148 l0 l1 l2 l3 l4 l6 l5 1) else (f_X12_signs_163 k119 (f_X12_signs_136 k119 n) M148 l0 l1 l2 l3 l4 l6 l5 0))
def f_X12_signs_119 : Nat → Mm → Option Nat → Int32 → Int32 → Int32 → Int32 → Option (Int32 × Mm)
  | 0, _, _, _, _, _, _ => none
  | n + 1, M, l0, l1, l2, l3, l4 => gfR M l0 12 20 fun v122 => alI M v122 21 0 fun v126 => if v126 ≤ l4 then (some (l3, M)) else (f_X12_signs_136 (f_X12_signs_119 n) fu M l0 l1 l2 l3 l4 0 0)
def f_X12_signs_75 : Nat → Mm → Option Nat → Int32 → Int32 → Int32 → Option (Int32 × Mm)
  | 0, _, _, _, _, _ => none
  | n + 1, M, l0, l1, l2, l3 => if l2 ≤ l3 then (f_X12_signs_119  fu M l0 l1 l2 0 0) else (ck M l0 12 <| bd (f_X12_numberOf M l0 l1 l3) fun v83 M83 => gfR M83 l0 12 20 fun v88 => alI M83 v88 21 0 fun v92 => bd (f_X12_isIn M83 v83 0 (Int32.toInt64 (v92 - 1))) fun v96 M96 => if v96 = 0 then (ck M96 l0 12 <| bd (f_X12_refuse M96 l0 2) fun v104 M104 => some (v104, M104)) else (f_X12_signs_75 n M96 l0 l1 l2 (l3 + 1)))
def f_X12_signs (M : Mm) (l0 : Option Nat) (l1 : Int32) (l2 : Int32) : Option (Int32 × Mm) := pfI M l0 12 1 0 fun M2 => pfI M2 l0 12 0 0 fun M7 => ck M7 l0 12 <| bd (f_X12_isTray M7 l0 l1) fun v12 M12 => if v12 = 0 then (ck M12 l0 12 <| bd (f_X12_refuse M12 l0 1) fun v20 M20 => some (v20, M20)) else (gfR M12 l0 12 5 fun v25 => alI M12 v25 21 l1 fun v29 => if 0 ≤ v29 then (gfR M12 l0 12 5 fun v40 => alI M12 v40 21 l1 fun v44 => if l2 ≤ v44 then (bd (f_X12_isIn M12 (Int32.toInt64 l2) 1 60) fun v61 M61 => if v61 = 0 then (ck M61 l0 12 <| bd (f_X12_refuse M61 l0 5) fun v69 M69 => some (v69, M69)) else (f_X12_signs_75  fu M61 l0 l1 l2 0)) else (ck M12 l0 12 <| bd (f_X12_refuse M12 l0 4) fun v51 M51 => some (v51, M51))) else (ck M12 l0 12 <| bd (f_X12_refuse M12 l0 3) fun v35 M35 => some (v35, M35)))
set_option maxHeartbeats 4000000 in
set_option maxRecDepth 100000 in
theorem t_X12_signs_163 {G : GG} {X : CX} {ans : Int32 × Mm} (he : EndI G X j_X12_signs b_X12_signs ans) {k119 : Mm → Option Nat → Int32 → Int32 → Int32 → Int32 → Option (Int32 × Mm)} {k136 : Mm → Option Nat → Int32 → Int32 → Int32 → Int32 → Int32 → Int32 → Option (Int32 × Mm)} (hk119 : ∀ (M : Mm) (a0 : Option Nat) (a1 : Int32) (a2 : Int32) (a3 : Int32) (a4 : Int32), k119 M a0 a1 a2 a3 a4 = some ans → Wt G X j_X12_signs b_X12_signs 119 [(0, rf G.1 a0), (1, .int a1), (2, .int a2), (3, .int a3), (4, .int a4)] [] M 0 0) (hk136 : ∀ (M : Mm) (a0 : Option Nat) (a1 : Int32) (a2 : Int32) (a3 : Int32) (a4 : Int32) (a5 : Int32) (a6 : Int32), k136 M a0 a1 a2 a3 a4 a5 a6 = some ans → Wt G X j_X12_signs b_X12_signs 136 [(0, rf G.1 a0), (1, .int a1), (2, .int a2), (3, .int a3), (4, .int a4), (5, .int a5), (6, .int a6)] [] M 0 0) {M : Mm} {l0 : Option Nat} {l1 : Int32} {l2 : Int32} {l3 : Int32} {l4 : Int32} {l6 : Int32} {s0 : Int32} {s1 : Int32} (h : f_X12_signs_163 k119 k136 M l0 l1 l2 l3 l4 l6 s0 s1 = some ans) : Wt G X j_X12_signs b_X12_signs 163 [(0, rf G.1 l0), (1, .int l1), (2, .int l2), (3, .int l3), (4, .int l4), (6, .int l6)] [.int s1, .int s0] M 0 0 := by
  unfold f_X12_signs_163 at h
  refine wt_iadd (pc := 163) dX12_signs_163 ?_
  refine wt_nmI h (fun x164 h => ?_)
  refine wt_istore (pc := 164) (i := 5) (ls' := [(5, .int x164), (0, rf G.1 l0), (1, .int l1), (2, .int l2), (3, .int l3), (4, .int l4), (6, .int l6)]) dX12_signs_164 (by decide) rfl ?_
  refine wt_iinc (pc := 166) (d := 1) (ls' := [(6, .int (l6 + 1)), (5, .int x164), (0, rf G.1 l0), (1, .int l1), (2, .int l2), (3, .int l3), (4, .int l4)]) 6 dX12_signs_166 rfl (by decide) (by decide) rfl ?_
  refine wt_goto (pc := 169) (tgt := 136) dX12_signs_169 (by decide) ?_
  refine wt_sub (ls' := [(0, rf G.1 l0), (1, .int l1), (2, .int l2), (3, .int l3), (4, .int l4), (5, .int x164), (6, .int (l6 + 1))]) [2, 3, 4, 5, 6, 1, 0] rfl ?_
  exact hk136 _ _ _ _ _ _ _ _ h
set_option maxHeartbeats 4000000 in
set_option maxRecDepth 100000 in
theorem t_X12_signs_136 {G : GG} {X : CX} {ans : Int32 × Mm} (he : EndI G X j_X12_signs b_X12_signs ans) {k119 : Mm → Option Nat → Int32 → Int32 → Int32 → Int32 → Option (Int32 × Mm)} (hk119 : ∀ (M : Mm) (a0 : Option Nat) (a1 : Int32) (a2 : Int32) (a3 : Int32) (a4 : Int32), k119 M a0 a1 a2 a3 a4 = some ans → Wt G X j_X12_signs b_X12_signs 119 [(0, rf G.1 a0), (1, .int a1), (2, .int a2), (3, .int a3), (4, .int a4)] [] M 0 0) : ∀ (n : Nat) {M : Mm} {l0 : Option Nat} {l1 : Int32} {l2 : Int32} {l3 : Int32} {l4 : Int32} {l5 : Int32} {l6 : Int32}, f_X12_signs_136 k119 n M l0 l1 l2 l3 l4 l5 l6 = some ans → Wt G X j_X12_signs b_X12_signs 136 [(0, rf G.1 l0), (1, .int l1), (2, .int l2), (3, .int l3), (4, .int l4), (5, .int l5), (6, .int l6)] [] M 0 0 := by
  intro n
  induction n with
  | zero =>
    intro M l0 l1 l2 l3 l4 l5 l6 h
    rw [f_X12_signs_136] at h
    cases h
  | succ n ih =>
    intro M l0 l1 l2 l3 l4 l5 l6 h
    rw [f_X12_signs_136] at h
    refine wt_iload (pc := 136) 6 dX12_signs_136 rfl ?_
    refine wt_iload_n (pc := 138) 2 dX12_signs_138 rfl ?_
    refine wt_icmp_ge (pc := 139) (tgt := 172) dX12_signs_139 (by decide) (fun q => ?_) (fun q => ?_)
    · have h := ite_t q h
      refine wt_iload_n (pc := 172) 3 dX12_signs_172 rfl ?_
      refine wt_iconst (pc := 173) (v := 0) dX12_signs_173 (by decide) ?_
      refine wt_iload (pc := 174) 5 dX12_signs_174 rfl ?_
      refine wt_aload_n (pc := 176) 0 dX12_signs_176 rfl ?_
      refine wt_getR (pc := 177) dX12_signs_177 fl_X12_35 (fun _ _ _ => rfl) h (fun v177 h => ?_)
      refine wt_bipush (pc := 180) (v := 21) dX12_signs_180 (by decide) ?_
      refine wt_iload (pc := 182) 4 dX12_signs_182 rfl ?_
      refine wt_iadd (pc := 184) dX12_signs_184 ?_
      refine wt_iaload (pc := 185) (kd := 21) dX12_signs_185 rfl rfl h (fun v185 h => ?_)
      refine wt_isub (pc := 186) dX12_signs_186 ?_
      refine wt_mmax (pc := 187) dX12_signs_187 bi_X12_264 mw_max.1 mw_max.2.1 mw_max.2.2 (by decide) (by decide) (by decide) (by simp [rf_cat, cat_i, cat_l, cat_r]) ?_
      refine wt_iadd (pc := 190) dX12_signs_190 ?_
      refine wt_nmI h (fun x191 h => ?_)
      refine wt_istore_n (pc := 191) (i := 3) (ls' := [(3, .int x191), (0, rf G.1 l0), (1, .int l1), (2, .int l2), (4, .int l4), (5, .int l5), (6, .int l6)]) rfl dX12_signs_191 (by decide) rfl ?_
      refine wt_iinc (pc := 192) (d := 1) (ls' := [(4, .int (l4 + 1)), (3, .int x191), (0, rf G.1 l0), (1, .int l1), (2, .int l2), (5, .int l5), (6, .int l6)]) 4 dX12_signs_192 rfl (by decide) (by decide) rfl ?_
      refine wt_goto (pc := 195) (tgt := 119) dX12_signs_195 (by decide) ?_
      refine wt_sub (ls' := [(0, rf G.1 l0), (1, .int l1), (2, .int l2), (3, .int x191), (4, .int (l4 + 1))]) [2, 3, 4, 1, 0] rfl ?_
      exact hk119 _ _ _ _ _ _ h
    · have h := ite_f q h
      refine wt_iload (pc := 142) 5 dX12_signs_142 rfl ?_
      refine wt_aload_n (pc := 144) 0 dX12_signs_144 rfl ?_
      refine wt_iload_n (pc := 145) 1 dX12_signs_145 rfl ?_
      refine wt_iload (pc := 146) 6 dX12_signs_146 rfl ?_
      refine wt_cVL (pc := 148) (J' := j_X12_numberOf) (As := [.int l1, .int l6]) (st := [.int l5]) (B' := b_X12_numberOf) (u' := 0) (w' := 0) dX12_signs_148 ml_X12_459 mv_X12_numberOf (fun v9 M9 e9 => c_X12_numberOf e9) rfl (by decide) rfl rfl (by decide) (by decide) (by simp [rf_cat, cat_i, cat_l, cat_r]) rfl h (fun v148 M148 h => ?_)
      refine wt_iload (pc := 151) 4 dX12_signs_151 rfl ?_
      refine wt_i2l (pc := 153) dX12_signs_153 ?_
      refine wt_lcmp (pc := 154) dX12_signs_154 ?_
      refine wt_if_ne (pc := 155) (tgt := 162) dX12_signs_155 (by decide) (fun q => ?_) (fun q => ?_)
      · have h := ite_f q h
        refine wt_iconst (pc := 162) (v := 0) dX12_signs_162 (by decide) ?_
        refine wt_sub (ls' := [(0, rf G.1 l0), (1, .int l1), (2, .int l2), (3, .int l3), (4, .int l4), (6, .int l6)]) [0, 1, 2, 3, 4, 6] rfl ?_
        exact t_X12_signs_163 he (fun _ _ _ _ _ _ h => hk119 _ _ _ _ _ _ h) (fun _ _ _ _ _ _ _ _ h => ih h) h
      · have h := ite_t q h
        refine wt_iconst (pc := 158) (v := 1) dX12_signs_158 (by decide) ?_
        refine wt_goto (pc := 159) (tgt := 163) dX12_signs_159 (by decide) ?_
        refine wt_sub (ls' := [(0, rf G.1 l0), (1, .int l1), (2, .int l2), (3, .int l3), (4, .int l4), (6, .int l6)]) [0, 1, 2, 3, 4, 6] rfl ?_
        exact t_X12_signs_163 he (fun _ _ _ _ _ _ h => hk119 _ _ _ _ _ _ h) (fun _ _ _ _ _ _ _ _ h => ih h) h
set_option maxHeartbeats 4000000 in
set_option maxRecDepth 100000 in
theorem t_X12_signs_119 {G : GG} {X : CX} {ans : Int32 × Mm} (he : EndI G X j_X12_signs b_X12_signs ans) : ∀ (n : Nat) {M : Mm} {l0 : Option Nat} {l1 : Int32} {l2 : Int32} {l3 : Int32} {l4 : Int32}, f_X12_signs_119 n M l0 l1 l2 l3 l4 = some ans → Wt G X j_X12_signs b_X12_signs 119 [(0, rf G.1 l0), (1, .int l1), (2, .int l2), (3, .int l3), (4, .int l4)] [] M 0 0 := by
  intro n
  induction n with
  | zero =>
    intro M l0 l1 l2 l3 l4 h
    rw [f_X12_signs_119] at h
    cases h
  | succ n ih =>
    intro M l0 l1 l2 l3 l4 h
    rw [f_X12_signs_119] at h
    refine wt_iload (pc := 119) 4 dX12_signs_119 rfl ?_
    refine wt_aload_n (pc := 121) 0 dX12_signs_121 rfl ?_
    refine wt_getR (pc := 122) dX12_signs_122 fl_X12_35 (fun _ _ _ => rfl) h (fun v122 h => ?_)
    refine wt_iconst (pc := 125) (v := 0) dX12_signs_125 (by decide) ?_
    refine wt_iaload (pc := 126) (kd := 21) dX12_signs_126 rfl rfl h (fun v126 h => ?_)
    refine wt_icmp_ge (pc := 127) (tgt := 198) dX12_signs_127 (by decide) (fun q => ?_) (fun q => ?_)
    · have h := ite_t q h
      refine wt_iload_n (pc := 198) 3 dX12_signs_198 rfl ?_
      cases h
      exact he 199 _ _ _ dX12_signs_199 (by decide) (by decide)
    · have h := ite_f q h
      refine wt_iconst (pc := 130) (v := 0) dX12_signs_130 (by decide) ?_
      refine wt_istore (pc := 131) (i := 5) (ls' := [(5, .int 0), (0, rf G.1 l0), (1, .int l1), (2, .int l2), (3, .int l3), (4, .int l4)]) dX12_signs_131 (by decide) rfl ?_
      refine wt_iconst (pc := 133) (v := 0) dX12_signs_133 (by decide) ?_
      refine wt_istore (pc := 134) (i := 6) (ls' := [(6, .int 0), (5, .int 0), (0, rf G.1 l0), (1, .int l1), (2, .int l2), (3, .int l3), (4, .int l4)]) dX12_signs_134 (by decide) rfl ?_
      refine wt_sub (ls' := [(0, rf G.1 l0), (1, .int l1), (2, .int l2), (3, .int l3), (4, .int l4), (5, .int 0), (6, .int 0)]) [2, 3, 4, 5, 6, 1, 0] rfl ?_
      exact t_X12_signs_136 he (fun _ _ _ _ _ _ h => ih h) fu h
set_option maxHeartbeats 4000000 in
set_option maxRecDepth 100000 in
theorem t_X12_signs_75 {G : GG} {X : CX} {ans : Int32 × Mm} (he : EndI G X j_X12_signs b_X12_signs ans) : ∀ (n : Nat) {M : Mm} {l0 : Option Nat} {l1 : Int32} {l2 : Int32} {l3 : Int32}, f_X12_signs_75 n M l0 l1 l2 l3 = some ans → Wt G X j_X12_signs b_X12_signs 75 [(0, rf G.1 l0), (1, .int l1), (2, .int l2), (3, .int l3)] [] M 0 0 := by
  intro n
  induction n with
  | zero =>
    intro M l0 l1 l2 l3 h
    rw [f_X12_signs_75] at h
    cases h
  | succ n ih =>
    intro M l0 l1 l2 l3 h
    rw [f_X12_signs_75] at h
    refine wt_iload_n (pc := 75) 3 dX12_signs_75 rfl ?_
    refine wt_iload_n (pc := 76) 2 dX12_signs_76 rfl ?_
    refine wt_icmp_ge (pc := 77) (tgt := 114) dX12_signs_77 (by decide) (fun q => ?_) (fun q => ?_)
    · have h := ite_t q h
      refine wt_iconst (pc := 114) (v := 0) dX12_signs_114 (by decide) ?_
      refine wt_istore_n (pc := 115) (i := 3) (ls' := [(3, .int 0), (0, rf G.1 l0), (1, .int l1), (2, .int l2)]) rfl dX12_signs_115 (by decide) rfl ?_
      refine wt_iconst (pc := 116) (v := 0) dX12_signs_116 (by decide) ?_
      refine wt_istore (pc := 117) (i := 4) (ls' := [(4, .int 0), (3, .int 0), (0, rf G.1 l0), (1, .int l1), (2, .int l2)]) dX12_signs_117 (by decide) rfl ?_
      refine wt_sub (ls' := [(0, rf G.1 l0), (1, .int l1), (2, .int l2), (3, .int 0), (4, .int 0)]) [2, 3, 4, 1, 0] rfl ?_
      exact t_X12_signs_119 he  fu h
    · have h := ite_f q h
      refine wt_aload_n (pc := 80) 0 dX12_signs_80 rfl ?_
      refine wt_iload_n (pc := 81) 1 dX12_signs_81 rfl ?_
      refine wt_iload_n (pc := 82) 3 dX12_signs_82 rfl ?_
      refine wt_cVL (pc := 83) (J' := j_X12_numberOf) (As := [.int l1, .int l3]) (st := []) (B' := b_X12_numberOf) (u' := 0) (w' := 0) dX12_signs_83 ml_X12_459 mv_X12_numberOf (fun v9 M9 e9 => c_X12_numberOf e9) rfl (by decide) rfl rfl (by decide) (by decide) (by decide) rfl h (fun v83 M83 h => ?_)
      refine wt_lconst (pc := 86) (v := 0) dX12_signs_86 (by decide) ?_
      refine wt_aload_n (pc := 87) 0 dX12_signs_87 rfl ?_
      refine wt_getR (pc := 88) dX12_signs_88 fl_X12_35 (fun _ _ _ => rfl) h (fun v88 h => ?_)
      refine wt_iconst (pc := 91) (v := 0) dX12_signs_91 (by decide) ?_
      refine wt_iaload (pc := 92) (kd := 21) dX12_signs_92 rfl rfl h (fun v92 h => ?_)
      refine wt_iconst (pc := 93) (v := 1) dX12_signs_93 (by decide) ?_
      refine wt_isub (pc := 94) dX12_signs_94 ?_
      refine wt_i2l (pc := 95) dX12_signs_95 ?_
      refine wt_cSI (pc := 96) (J' := j_X12_isIn) (As := [.long v83, .long 0, .long (Int32.toInt64 (v92 - 1))]) (st := []) (B' := b_X12_isIn) (u' := 0) (w' := 0) dX12_signs_96 ml_X12_103 ms_X12_isIn (fun v9 M9 e9 => c_X12_isIn e9) rfl (by decide) rfl rfl (by decide) (by decide) (by decide) rfl h (fun v96 M96 h => ?_)
      refine wt_if_ne (pc := 99) (tgt := 108) dX12_signs_99 (by decide) (fun q => ?_) (fun q => ?_)
      · have h := ite_f q h
        refine wt_iinc (pc := 108) (d := 1) (ls' := [(3, .int (l3 + 1)), (0, rf G.1 l0), (1, .int l1), (2, .int l2)]) 3 dX12_signs_108 rfl (by decide) (by decide) rfl ?_
        refine wt_goto (pc := 111) (tgt := 75) dX12_signs_111 (by decide) ?_
        refine wt_sub (ls' := [(0, rf G.1 l0), (1, .int l1), (2, .int l2), (3, .int (l3 + 1))]) [1, 2, 3, 0] rfl ?_
        exact ih h
      · have h := ite_t q h
        refine wt_aload_n (pc := 102) 0 dX12_signs_102 rfl ?_
        refine wt_iconst (pc := 103) (v := 2) dX12_signs_103 (by decide) ?_
        refine wt_cVI (pc := 104) (J' := j_X12_refuse) (As := [.int 2]) (st := []) (B' := b_X12_refuse) (u' := 0) (w' := 0) dX12_signs_104 ml_X12_331 mv_X12_refuse (fun v9 M9 e9 => c_X12_refuse e9) rfl (by decide) rfl rfl (by decide) (by decide) (by decide) rfl h (fun v104 M104 h => ?_)
        cases h
        exact he 107 _ _ _ dX12_signs_107 (by decide) (by decide)
set_option maxHeartbeats 4000000 in
set_option maxRecDepth 100000 in
theorem t_X12_signs_e {G : GG} {X : CX} {ans : Int32 × Mm} (he : EndI G X j_X12_signs b_X12_signs ans) {M : Mm} {l0 : Option Nat} {l1 : Int32} {l2 : Int32} (h : f_X12_signs M l0 l1 l2 = some ans) : Wt G X j_X12_signs b_X12_signs 0 [(0, rf G.1 l0), (1, .int l1), (2, .int l2)] [] M 0 0 := by
  unfold f_X12_signs at h
  refine wt_aload_n (pc := 0) 0 dX12_signs_0 rfl ?_
  refine wt_iconst (pc := 1) (v := 0) dX12_signs_1 (by decide) ?_
  refine wt_putI (pc := 2) dX12_signs_2 fl_X12_68 rfl rfl h (fun M2 h => ?_)
  refine wt_aload_n (pc := 5) 0 dX12_signs_5 rfl ?_
  refine wt_iconst (pc := 6) (v := 0) dX12_signs_6 (by decide) ?_
  refine wt_putI (pc := 7) dX12_signs_7 fl_X12_71 rfl rfl h (fun M7 h => ?_)
  refine wt_aload_n (pc := 10) 0 dX12_signs_10 rfl ?_
  refine wt_iload_n (pc := 11) 1 dX12_signs_11 rfl ?_
  refine wt_cVI (pc := 12) (J' := j_X12_isTray) (As := [.int l1]) (st := []) (B' := b_X12_isTray) (u' := 0) (w' := 0) dX12_signs_12 ml_X12_454 mv_X12_isTray (fun v9 M9 e9 => c_X12_isTray e9) rfl (by decide) rfl rfl (by decide) (by decide) (by decide) rfl h (fun v12 M12 h => ?_)
  refine wt_if_ne (pc := 15) (tgt := 24) dX12_signs_15 (by decide) (fun q => ?_) (fun q => ?_)
  · have h := ite_f q h
    refine wt_aload_n (pc := 24) 0 dX12_signs_24 rfl ?_
    refine wt_getR (pc := 25) dX12_signs_25 fl_X12_17 (fun _ _ _ => rfl) h (fun v25 h => ?_)
    refine wt_iload_n (pc := 28) 1 dX12_signs_28 rfl ?_
    refine wt_iaload (pc := 29) (kd := 21) dX12_signs_29 rfl rfl h (fun v29 h => ?_)
    refine wt_if_ge (pc := 30) (tgt := 39) dX12_signs_30 (by decide) (fun q => ?_) (fun q => ?_)
    · have h := ite_t q h
      refine wt_aload_n (pc := 39) 0 dX12_signs_39 rfl ?_
      refine wt_getR (pc := 40) dX12_signs_40 fl_X12_17 (fun _ _ _ => rfl) h (fun v40 h => ?_)
      refine wt_iload_n (pc := 43) 1 dX12_signs_43 rfl ?_
      refine wt_iaload (pc := 44) (kd := 21) dX12_signs_44 rfl rfl h (fun v44 h => ?_)
      refine wt_iload_n (pc := 45) 2 dX12_signs_45 rfl ?_
      refine wt_icmp_ge (pc := 46) (tgt := 55) dX12_signs_46 (by decide) (fun q => ?_) (fun q => ?_)
      · have h := ite_t q h
        refine wt_iload_n (pc := 55) 2 dX12_signs_55 rfl ?_
        refine wt_i2l (pc := 56) dX12_signs_56 ?_
        refine wt_lconst (pc := 57) (v := 1) dX12_signs_57 (by decide) ?_
        refine wt_ldc2 (pc := 58) dX12_signs_58 kc_X12_457 ?_
        refine wt_cSI (pc := 61) (J' := j_X12_isIn) (As := [.long (Int32.toInt64 l2), .long 1, .long 60]) (st := []) (B' := b_X12_isIn) (u' := 0) (w' := 0) dX12_signs_61 ml_X12_103 ms_X12_isIn (fun v9 M9 e9 => c_X12_isIn e9) rfl (by decide) rfl rfl (by decide) (by decide) (by decide) rfl h (fun v61 M61 h => ?_)
        refine wt_if_ne (pc := 64) (tgt := 73) dX12_signs_64 (by decide) (fun q => ?_) (fun q => ?_)
        · have h := ite_f q h
          refine wt_iconst (pc := 73) (v := 0) dX12_signs_73 (by decide) ?_
          refine wt_istore_n (pc := 74) (i := 3) (ls' := [(3, .int 0), (0, rf G.1 l0), (1, .int l1), (2, .int l2)]) rfl dX12_signs_74 (by decide) rfl ?_
          refine wt_sub (ls' := [(0, rf G.1 l0), (1, .int l1), (2, .int l2), (3, .int 0)]) [1, 2, 3, 0] rfl ?_
          exact t_X12_signs_75 he  fu h
        · have h := ite_t q h
          refine wt_aload_n (pc := 67) 0 dX12_signs_67 rfl ?_
          refine wt_iconst (pc := 68) (v := 5) dX12_signs_68 (by decide) ?_
          refine wt_cVI (pc := 69) (J' := j_X12_refuse) (As := [.int 5]) (st := []) (B' := b_X12_refuse) (u' := 0) (w' := 0) dX12_signs_69 ml_X12_331 mv_X12_refuse (fun v9 M9 e9 => c_X12_refuse e9) rfl (by decide) rfl rfl (by decide) (by decide) (by decide) rfl h (fun v69 M69 h => ?_)
          cases h
          exact he 72 _ _ _ dX12_signs_72 (by decide) (by decide)
      · have h := ite_f q h
        refine wt_aload_n (pc := 49) 0 dX12_signs_49 rfl ?_
        refine wt_iconst (pc := 50) (v := 4) dX12_signs_50 (by decide) ?_
        refine wt_cVI (pc := 51) (J' := j_X12_refuse) (As := [.int 4]) (st := []) (B' := b_X12_refuse) (u' := 0) (w' := 0) dX12_signs_51 ml_X12_331 mv_X12_refuse (fun v9 M9 e9 => c_X12_refuse e9) rfl (by decide) rfl rfl (by decide) (by decide) (by decide) rfl h (fun v51 M51 h => ?_)
        cases h
        exact he 54 _ _ _ dX12_signs_54 (by decide) (by decide)
    · have h := ite_f q h
      refine wt_aload_n (pc := 33) 0 dX12_signs_33 rfl ?_
      refine wt_iconst (pc := 34) (v := 3) dX12_signs_34 (by decide) ?_
      refine wt_cVI (pc := 35) (J' := j_X12_refuse) (As := [.int 3]) (st := []) (B' := b_X12_refuse) (u' := 0) (w' := 0) dX12_signs_35 ml_X12_331 mv_X12_refuse (fun v9 M9 e9 => c_X12_refuse e9) rfl (by decide) rfl rfl (by decide) (by decide) (by decide) rfl h (fun v35 M35 h => ?_)
      cases h
      exact he 38 _ _ _ dX12_signs_38 (by decide) (by decide)
  · have h := ite_t q h
    refine wt_aload_n (pc := 18) 0 dX12_signs_18 rfl ?_
    refine wt_iconst (pc := 19) (v := 1) dX12_signs_19 (by decide) ?_
    refine wt_cVI (pc := 20) (J' := j_X12_refuse) (As := [.int 1]) (st := []) (B' := b_X12_refuse) (u' := 0) (w' := 0) dX12_signs_20 ml_X12_331 mv_X12_refuse (fun v9 M9 e9 => c_X12_refuse e9) rfl (by decide) rfl rfl (by decide) (by decide) (by decide) rfl h (fun v20 M20 h => ?_)
    cases h
    exact he 23 _ _ _ dX12_signs_23 (by decide) (by decide)
set_option maxHeartbeats 4000000 in
set_option maxRecDepth 100000 in
theorem c_X12_signs {G : GG} {M : Mm} {l0 : Option Nat} {l1 : Int32} {l2 : Int32} {r : Int32 × Mm} (h : f_X12_signs M l0 l1 l2 = some r) (l : Launch) : Ct l G j_X12_signs b_X12_signs [rf G.1 l0, .int l1, .int l2] M (some (.int r.1)) r.2 := cf_I (by decide +kernel) (by simp [lg_sl, rf_cat, cat_i, cat_l, j_X12_signs]) rfl (by simp [lv_args, rf_cat, cat_i, cat_l]) (fun X he => t_X12_signs_e he h)
def f_X12_flownBy_163 (k124 : Mm → Option Nat → Int32 → Int32 → Int32 → Option (Int32 × Mm)) (M : Mm) (l0 : Option Nat) (l2 : Int32) (l4 : Int32) (s0 : Int32) (s1 : Int32) : Option (Int32 × Mm) := nmI (s0 ||| s1) fun x164 => k124 M l0 l2 x164 (l4 + 1)
def f_X12_flownBy_124 : Nat → Mm → Option Nat → Int32 → Int32 → Int32 → Option (Int32 × Mm)
  | 0, _, _, _, _, _ => none
  | n + 1, M, l0, l2, l3, l4 => gfR M l0 12 20 fun v127 => alI M v127 21 2 fun v131 => if v131 ≤ l4 then (some (l3, M)) else (gfR M l0 12 20 fun v138 => alI M v138 21 (161 + l4) fun v147 => ck M l0 12 <| bd (f_X12_fallSet M l0 v147) fun v148 M148 => if v148 = l2 then (f_X12_flownBy_163 (f_X12_flownBy_124 n) M148 l0 l2 l4 l3 (1 <<< (l4 &&& 31))) else (f_X12_flownBy_163 (f_X12_flownBy_124 n) M148 l0 l2 l4 l3 0))
def f_X12_flownBy_111 (k54 : Mm → Option Nat → Int32 → Int32 → Int32 → Option (Int32 × Mm)) (M : Mm) (l0 : Option Nat) (l1 : Int32) (l3 : Int32) (s0 : Int32) (s1 : Int32) : Option (Int32 × Mm) := nmI (s0 ||| s1) fun x112 => k54 M l0 l1 x112 (l3 + 1)
def f_X12_flownBy_110 (k54 : Mm → Option Nat → Int32 → Int32 → Int32 → Option (Int32 × Mm)) (M : Mm) (l0 : Option Nat) (l1 : Int32) (l3 : Int32) (s0 : Int32) : Option (Int32 × Mm) := f_X12_flownBy_111 k54 M l0 l1 l3 s0 0
def f_X12_flownBy_54 : Nat → Mm → Option Nat → Int32 → Int32 → Int32 → Option (Int32 × Mm)
  | 0, _, _, _, _, _ => none
  | n + 1, M, l0, l1, l2, l3 => gfR M l0 12 20 fun v56 => alI M v56 21 0 fun v60 => if v60 ≤ l3 then (f_X12_flownBy_124  fu M l0 l2 0 0) else (ck M l0 12 <| bd (f_X12_numberOf M l0 l1 l3) fun v67 M67 => bd (f_X12_isIn M67 v67 0 1) fun v72 M72 => if v72 = 0 then (ck M72 l0 12 <| bd (f_X12_refuse M72 l0 5) fun v80 M80 => some (v80, M80)) else (ck M72 l0 12 <| bd (f_X12_stands M72 l0 l3) fun v87 M87 => if v87 = 0 then (f_X12_flownBy_110 (f_X12_flownBy_54 n) M87 l0 l1 l3 l2) else (ck M87 l0 12 <| bd (f_X12_numberOf M87 l0 l1 l3) fun v96 M96 => if (lg_cmp v96 1) = 0 then (f_X12_flownBy_111 (f_X12_flownBy_54 n) M96 l0 l1 l3 l2 (1 <<< (l3 &&& 31))) else (f_X12_flownBy_110 (f_X12_flownBy_54 n) M96 l0 l1 l3 l2))))
def f_X12_flownBy (M : Mm) (l0 : Option Nat) (l1 : Int32) : Option (Int32 × Mm) := ck M l0 12 <| bd (f_X12_isTray M l0 l1) fun v2 M2 => if v2 = 0 then (ck M2 l0 12 <| bd (f_X12_refuse M2 l0 1) fun v10 M10 => some (v10, M10)) else (gfR M2 l0 12 5 fun v15 => alI M2 v15 21 l1 fun v19 => if 0 ≤ v19 then (gfR M2 l0 12 5 fun v30 => alI M2 v30 21 l1 fun v34 => gfR M2 l0 12 20 fun v36 => alI M2 v36 21 0 fun v40 => if v40 ≤ v34 then (f_X12_flownBy_54  fu M2 l0 l1 0 0) else (ck M2 l0 12 <| bd (f_X12_refuse M2 l0 4) fun v46 M46 => some (v46, M46))) else (ck M2 l0 12 <| bd (f_X12_refuse M2 l0 3) fun v25 M25 => some (v25, M25)))
set_option maxHeartbeats 4000000 in
set_option maxRecDepth 100000 in
theorem t_X12_flownBy_163 {G : GG} {X : CX} {ans : Int32 × Mm} (he : EndI G X j_X12_flownBy b_X12_flownBy ans) {k124 : Mm → Option Nat → Int32 → Int32 → Int32 → Option (Int32 × Mm)} (hk124 : ∀ (M : Mm) (a0 : Option Nat) (a2 : Int32) (a3 : Int32) (a4 : Int32), k124 M a0 a2 a3 a4 = some ans → Wt G X j_X12_flownBy b_X12_flownBy 124 [(0, rf G.1 a0), (2, .int a2), (3, .int a3), (4, .int a4)] [] M 0 0) {M : Mm} {l0 : Option Nat} {l2 : Int32} {l4 : Int32} {s0 : Int32} {s1 : Int32} (h : f_X12_flownBy_163 k124 M l0 l2 l4 s0 s1 = some ans) : Wt G X j_X12_flownBy b_X12_flownBy 163 [(0, rf G.1 l0), (2, .int l2), (4, .int l4)] [.int s1, .int s0] M 0 0 := by
  unfold f_X12_flownBy_163 at h
  refine wt_ior (pc := 163) dX12_flownBy_163 ?_
  refine wt_nmI h (fun x164 h => ?_)
  refine wt_istore_n (pc := 164) (i := 3) (ls' := [(3, .int x164), (0, rf G.1 l0), (2, .int l2), (4, .int l4)]) rfl dX12_flownBy_164 (by decide) rfl ?_
  refine wt_iinc (pc := 165) (d := 1) (ls' := [(4, .int (l4 + 1)), (3, .int x164), (0, rf G.1 l0), (2, .int l2)]) 3 dX12_flownBy_165 rfl (by decide) (by decide) rfl ?_
  refine wt_goto (pc := 168) (tgt := 124) dX12_flownBy_168 (by decide) ?_
  refine wt_sub (ls' := [(0, rf G.1 l0), (2, .int l2), (3, .int x164), (4, .int (l4 + 1))]) [2, 3, 1, 0] rfl ?_
  exact hk124 _ _ _ _ _ h
set_option maxHeartbeats 4000000 in
set_option maxRecDepth 100000 in
theorem t_X12_flownBy_124 {G : GG} {X : CX} {ans : Int32 × Mm} (he : EndI G X j_X12_flownBy b_X12_flownBy ans) : ∀ (n : Nat) {M : Mm} {l0 : Option Nat} {l2 : Int32} {l3 : Int32} {l4 : Int32}, f_X12_flownBy_124 n M l0 l2 l3 l4 = some ans → Wt G X j_X12_flownBy b_X12_flownBy 124 [(0, rf G.1 l0), (2, .int l2), (3, .int l3), (4, .int l4)] [] M 0 0 := by
  intro n
  induction n with
  | zero =>
    intro M l0 l2 l3 l4 h
    rw [f_X12_flownBy_124] at h
    cases h
  | succ n ih =>
    intro M l0 l2 l3 l4 h
    rw [f_X12_flownBy_124] at h
    refine wt_iload (pc := 124) 3 dX12_flownBy_124 rfl ?_
    refine wt_aload_n (pc := 126) 0 dX12_flownBy_126 rfl ?_
    refine wt_getR (pc := 127) dX12_flownBy_127 fl_X12_35 (fun _ _ _ => rfl) h (fun v127 h => ?_)
    refine wt_iconst (pc := 130) (v := 2) dX12_flownBy_130 (by decide) ?_
    refine wt_iaload (pc := 131) (kd := 21) dX12_flownBy_131 rfl rfl h (fun v131 h => ?_)
    refine wt_icmp_ge (pc := 132) (tgt := 171) dX12_flownBy_132 (by decide) (fun q => ?_) (fun q => ?_)
    · have h := ite_t q h
      refine wt_iload_n (pc := 171) 2 dX12_flownBy_171 rfl ?_
      cases h
      exact he 172 _ _ _ dX12_flownBy_172 (by decide) (by decide)
    · have h := ite_f q h
      refine wt_iload_n (pc := 135) 2 dX12_flownBy_135 rfl ?_
      refine wt_aload_n (pc := 136) 0 dX12_flownBy_136 rfl ?_
      refine wt_aload_n (pc := 137) 0 dX12_flownBy_137 rfl ?_
      refine wt_getR (pc := 138) dX12_flownBy_138 fl_X12_35 (fun _ _ _ => rfl) h (fun v138 h => ?_)
      refine wt_sipush (pc := 141) (v := 161) dX12_flownBy_141 (by decide) ?_
      refine wt_iload (pc := 144) 3 dX12_flownBy_144 rfl ?_
      refine wt_iadd (pc := 146) dX12_flownBy_146 ?_
      refine wt_iaload (pc := 147) (kd := 21) dX12_flownBy_147 rfl rfl h (fun v147 h => ?_)
      refine wt_cVI (pc := 148) (J' := j_X12_fallSet) (As := [.int v147]) (st := [.int l3]) (B' := b_X12_fallSet) (u' := 0) (w' := 0) dX12_flownBy_148 ml_X12_398 mv_X12_fallSet (fun v9 M9 e9 => c_X12_fallSet e9) rfl (by decide) rfl rfl (by decide) (by decide) (by simp [rf_cat, cat_i, cat_l, cat_r]) rfl h (fun v148 M148 h => ?_)
      refine wt_iload_n (pc := 151) 1 dX12_flownBy_151 rfl ?_
      refine wt_icmp_ne (pc := 152) (tgt := 162) dX12_flownBy_152 (by decide) (fun q => ?_) (fun q => ?_)
      · have h := ite_f q h
        refine wt_iconst (pc := 162) (v := 0) dX12_flownBy_162 (by decide) ?_
        refine wt_sub (ls' := [(0, rf G.1 l0), (2, .int l2), (4, .int l4)]) [0, 1, 3] rfl ?_
        exact t_X12_flownBy_163 he (fun _ _ _ _ _ h => ih h) h
      · have h := ite_t q h
        refine wt_iconst (pc := 155) (v := 1) dX12_flownBy_155 (by decide) ?_
        refine wt_iload (pc := 156) 3 dX12_flownBy_156 rfl ?_
        refine wt_ishl (pc := 158) dX12_flownBy_158 ?_
        refine wt_goto (pc := 159) (tgt := 163) dX12_flownBy_159 (by decide) ?_
        refine wt_sub (ls' := [(0, rf G.1 l0), (2, .int l2), (4, .int l4)]) [0, 1, 3] rfl ?_
        exact t_X12_flownBy_163 he (fun _ _ _ _ _ h => ih h) h
set_option maxHeartbeats 4000000 in
set_option maxRecDepth 100000 in
theorem t_X12_flownBy_111 {G : GG} {X : CX} {ans : Int32 × Mm} (he : EndI G X j_X12_flownBy b_X12_flownBy ans) {k54 : Mm → Option Nat → Int32 → Int32 → Int32 → Option (Int32 × Mm)} (hk54 : ∀ (M : Mm) (a0 : Option Nat) (a1 : Int32) (a2 : Int32) (a3 : Int32), k54 M a0 a1 a2 a3 = some ans → Wt G X j_X12_flownBy b_X12_flownBy 54 [(0, rf G.1 a0), (1, .int a1), (2, .int a2), (3, .int a3)] [] M 0 0) {M : Mm} {l0 : Option Nat} {l1 : Int32} {l3 : Int32} {s0 : Int32} {s1 : Int32} (h : f_X12_flownBy_111 k54 M l0 l1 l3 s0 s1 = some ans) : Wt G X j_X12_flownBy b_X12_flownBy 111 [(0, rf G.1 l0), (1, .int l1), (3, .int l3)] [.int s1, .int s0] M 0 0 := by
  unfold f_X12_flownBy_111 at h
  refine wt_ior (pc := 111) dX12_flownBy_111 ?_
  refine wt_nmI h (fun x112 h => ?_)
  refine wt_istore_n (pc := 112) (i := 2) (ls' := [(2, .int x112), (0, rf G.1 l0), (1, .int l1), (3, .int l3)]) rfl dX12_flownBy_112 (by decide) rfl ?_
  refine wt_iinc (pc := 113) (d := 1) (ls' := [(3, .int (l3 + 1)), (2, .int x112), (0, rf G.1 l0), (1, .int l1)]) 3 dX12_flownBy_113 rfl (by decide) (by decide) rfl ?_
  refine wt_goto (pc := 116) (tgt := 54) dX12_flownBy_116 (by decide) ?_
  refine wt_sub (ls' := [(0, rf G.1 l0), (1, .int l1), (2, .int x112), (3, .int (l3 + 1))]) [2, 3, 1, 0] rfl ?_
  exact hk54 _ _ _ _ _ h
set_option maxHeartbeats 4000000 in
set_option maxRecDepth 100000 in
theorem t_X12_flownBy_110 {G : GG} {X : CX} {ans : Int32 × Mm} (he : EndI G X j_X12_flownBy b_X12_flownBy ans) {k54 : Mm → Option Nat → Int32 → Int32 → Int32 → Option (Int32 × Mm)} (hk54 : ∀ (M : Mm) (a0 : Option Nat) (a1 : Int32) (a2 : Int32) (a3 : Int32), k54 M a0 a1 a2 a3 = some ans → Wt G X j_X12_flownBy b_X12_flownBy 54 [(0, rf G.1 a0), (1, .int a1), (2, .int a2), (3, .int a3)] [] M 0 0) {M : Mm} {l0 : Option Nat} {l1 : Int32} {l3 : Int32} {s0 : Int32} (h : f_X12_flownBy_110 k54 M l0 l1 l3 s0 = some ans) : Wt G X j_X12_flownBy b_X12_flownBy 110 [(0, rf G.1 l0), (1, .int l1), (3, .int l3)] [.int s0] M 0 0 := by
  unfold f_X12_flownBy_110 at h
  refine wt_iconst (pc := 110) (v := 0) dX12_flownBy_110 (by decide) ?_
  exact t_X12_flownBy_111 he (fun _ _ _ _ _ h => hk54 _ _ _ _ _ h) h
set_option maxHeartbeats 4000000 in
set_option maxRecDepth 100000 in
theorem t_X12_flownBy_54 {G : GG} {X : CX} {ans : Int32 × Mm} (he : EndI G X j_X12_flownBy b_X12_flownBy ans) : ∀ (n : Nat) {M : Mm} {l0 : Option Nat} {l1 : Int32} {l2 : Int32} {l3 : Int32}, f_X12_flownBy_54 n M l0 l1 l2 l3 = some ans → Wt G X j_X12_flownBy b_X12_flownBy 54 [(0, rf G.1 l0), (1, .int l1), (2, .int l2), (3, .int l3)] [] M 0 0 := by
  intro n
  induction n with
  | zero =>
    intro M l0 l1 l2 l3 h
    rw [f_X12_flownBy_54] at h
    cases h
  | succ n ih =>
    intro M l0 l1 l2 l3 h
    rw [f_X12_flownBy_54] at h
    refine wt_iload_n (pc := 54) 3 dX12_flownBy_54 rfl ?_
    refine wt_aload_n (pc := 55) 0 dX12_flownBy_55 rfl ?_
    refine wt_getR (pc := 56) dX12_flownBy_56 fl_X12_35 (fun _ _ _ => rfl) h (fun v56 h => ?_)
    refine wt_iconst (pc := 59) (v := 0) dX12_flownBy_59 (by decide) ?_
    refine wt_iaload (pc := 60) (kd := 21) dX12_flownBy_60 rfl rfl h (fun v60 h => ?_)
    refine wt_icmp_ge (pc := 61) (tgt := 119) dX12_flownBy_61 (by decide) (fun q => ?_) (fun q => ?_)
    · have h := ite_t q h
      refine wt_iconst (pc := 119) (v := 0) dX12_flownBy_119 (by decide) ?_
      refine wt_istore_n (pc := 120) (i := 3) (ls' := [(3, .int 0), (0, rf G.1 l0), (1, .int l1), (2, .int l2)]) rfl dX12_flownBy_120 (by decide) rfl ?_
      refine wt_iconst (pc := 121) (v := 0) dX12_flownBy_121 (by decide) ?_
      refine wt_istore (pc := 122) (i := 4) (ls' := [(4, .int 0), (3, .int 0), (0, rf G.1 l0), (1, .int l1), (2, .int l2)]) dX12_flownBy_122 (by decide) rfl ?_
      refine wt_sub (ls' := [(0, rf G.1 l0), (2, .int l2), (3, .int 0), (4, .int 0)]) [2, 4, 1, 0] rfl ?_
      exact t_X12_flownBy_124 he  fu h
    · have h := ite_f q h
      refine wt_aload_n (pc := 64) 0 dX12_flownBy_64 rfl ?_
      refine wt_iload_n (pc := 65) 1 dX12_flownBy_65 rfl ?_
      refine wt_iload_n (pc := 66) 3 dX12_flownBy_66 rfl ?_
      refine wt_cVL (pc := 67) (J' := j_X12_numberOf) (As := [.int l1, .int l3]) (st := []) (B' := b_X12_numberOf) (u' := 0) (w' := 0) dX12_flownBy_67 ml_X12_459 mv_X12_numberOf (fun v9 M9 e9 => c_X12_numberOf e9) rfl (by decide) rfl rfl (by decide) (by decide) (by decide) rfl h (fun v67 M67 h => ?_)
      refine wt_lconst (pc := 70) (v := 0) dX12_flownBy_70 (by decide) ?_
      refine wt_lconst (pc := 71) (v := 1) dX12_flownBy_71 (by decide) ?_
      refine wt_cSI (pc := 72) (J' := j_X12_isIn) (As := [.long v67, .long 0, .long 1]) (st := []) (B' := b_X12_isIn) (u' := 0) (w' := 0) dX12_flownBy_72 ml_X12_103 ms_X12_isIn (fun v9 M9 e9 => c_X12_isIn e9) rfl (by decide) rfl rfl (by decide) (by decide) (by decide) rfl h (fun v72 M72 h => ?_)
      refine wt_if_ne (pc := 75) (tgt := 84) dX12_flownBy_75 (by decide) (fun q => ?_) (fun q => ?_)
      · have h := ite_f q h
        refine wt_iload_n (pc := 84) 2 dX12_flownBy_84 rfl ?_
        refine wt_aload_n (pc := 85) 0 dX12_flownBy_85 rfl ?_
        refine wt_iload_n (pc := 86) 3 dX12_flownBy_86 rfl ?_
        refine wt_cVI (pc := 87) (J' := j_X12_stands) (As := [.int l3]) (st := [.int l2]) (B' := b_X12_stands) (u' := 0) (w' := 0) dX12_flownBy_87 ml_X12_324 mv_X12_stands (fun v9 M9 e9 => c_X12_stands e9) rfl (by decide) rfl rfl (by decide) (by decide) (by simp [rf_cat, cat_i, cat_l, cat_r]) rfl h (fun v87 M87 h => ?_)
        refine wt_if_eq (pc := 90) (tgt := 110) dX12_flownBy_90 (by decide) (fun q => ?_) (fun q => ?_)
        · have h := ite_t q h
          refine wt_sub (ls' := [(0, rf G.1 l0), (1, .int l1), (3, .int l3)]) [0, 1, 3] rfl ?_
          exact t_X12_flownBy_110 he (fun _ _ _ _ _ h => ih h) h
        · have h := ite_f q h
          refine wt_aload_n (pc := 93) 0 dX12_flownBy_93 rfl ?_
          refine wt_iload_n (pc := 94) 1 dX12_flownBy_94 rfl ?_
          refine wt_iload_n (pc := 95) 3 dX12_flownBy_95 rfl ?_
          refine wt_cVL (pc := 96) (J' := j_X12_numberOf) (As := [.int l1, .int l3]) (st := [.int l2]) (B' := b_X12_numberOf) (u' := 0) (w' := 0) dX12_flownBy_96 ml_X12_459 mv_X12_numberOf (fun v9 M9 e9 => c_X12_numberOf e9) rfl (by decide) rfl rfl (by decide) (by decide) (by simp [rf_cat, cat_i, cat_l, cat_r]) rfl h (fun v96 M96 h => ?_)
          refine wt_lconst (pc := 99) (v := 1) dX12_flownBy_99 (by decide) ?_
          refine wt_lcmp (pc := 100) dX12_flownBy_100 ?_
          refine wt_if_ne (pc := 101) (tgt := 110) dX12_flownBy_101 (by decide) (fun q => ?_) (fun q => ?_)
          · have h := ite_f q h
            refine wt_sub (ls' := [(0, rf G.1 l0), (1, .int l1), (3, .int l3)]) [0, 1, 3] rfl ?_
            exact t_X12_flownBy_110 he (fun _ _ _ _ _ h => ih h) h
          · have h := ite_t q h
            refine wt_iconst (pc := 104) (v := 1) dX12_flownBy_104 (by decide) ?_
            refine wt_iload_n (pc := 105) 3 dX12_flownBy_105 rfl ?_
            refine wt_ishl (pc := 106) dX12_flownBy_106 ?_
            refine wt_goto (pc := 107) (tgt := 111) dX12_flownBy_107 (by decide) ?_
            refine wt_sub (ls' := [(0, rf G.1 l0), (1, .int l1), (3, .int l3)]) [0, 1, 3] rfl ?_
            exact t_X12_flownBy_111 he (fun _ _ _ _ _ h => ih h) h
      · have h := ite_t q h
        refine wt_aload_n (pc := 78) 0 dX12_flownBy_78 rfl ?_
        refine wt_iconst (pc := 79) (v := 5) dX12_flownBy_79 (by decide) ?_
        refine wt_cVI (pc := 80) (J' := j_X12_refuse) (As := [.int 5]) (st := []) (B' := b_X12_refuse) (u' := 0) (w' := 0) dX12_flownBy_80 ml_X12_331 mv_X12_refuse (fun v9 M9 e9 => c_X12_refuse e9) rfl (by decide) rfl rfl (by decide) (by decide) (by decide) rfl h (fun v80 M80 h => ?_)
        cases h
        exact he 83 _ _ _ dX12_flownBy_83 (by decide) (by decide)
set_option maxHeartbeats 4000000 in
set_option maxRecDepth 100000 in
theorem t_X12_flownBy_e {G : GG} {X : CX} {ans : Int32 × Mm} (he : EndI G X j_X12_flownBy b_X12_flownBy ans) {M : Mm} {l0 : Option Nat} {l1 : Int32} (h : f_X12_flownBy M l0 l1 = some ans) : Wt G X j_X12_flownBy b_X12_flownBy 0 [(0, rf G.1 l0), (1, .int l1)] [] M 0 0 := by
  unfold f_X12_flownBy at h
  refine wt_aload_n (pc := 0) 0 dX12_flownBy_0 rfl ?_
  refine wt_iload_n (pc := 1) 1 dX12_flownBy_1 rfl ?_
  refine wt_cVI (pc := 2) (J' := j_X12_isTray) (As := [.int l1]) (st := []) (B' := b_X12_isTray) (u' := 0) (w' := 0) dX12_flownBy_2 ml_X12_454 mv_X12_isTray (fun v9 M9 e9 => c_X12_isTray e9) rfl (by decide) rfl rfl (by decide) (by decide) (by decide) rfl h (fun v2 M2 h => ?_)
  refine wt_if_ne (pc := 5) (tgt := 14) dX12_flownBy_5 (by decide) (fun q => ?_) (fun q => ?_)
  · have h := ite_f q h
    refine wt_aload_n (pc := 14) 0 dX12_flownBy_14 rfl ?_
    refine wt_getR (pc := 15) dX12_flownBy_15 fl_X12_17 (fun _ _ _ => rfl) h (fun v15 h => ?_)
    refine wt_iload_n (pc := 18) 1 dX12_flownBy_18 rfl ?_
    refine wt_iaload (pc := 19) (kd := 21) dX12_flownBy_19 rfl rfl h (fun v19 h => ?_)
    refine wt_if_ge (pc := 20) (tgt := 29) dX12_flownBy_20 (by decide) (fun q => ?_) (fun q => ?_)
    · have h := ite_t q h
      refine wt_aload_n (pc := 29) 0 dX12_flownBy_29 rfl ?_
      refine wt_getR (pc := 30) dX12_flownBy_30 fl_X12_17 (fun _ _ _ => rfl) h (fun v30 h => ?_)
      refine wt_iload_n (pc := 33) 1 dX12_flownBy_33 rfl ?_
      refine wt_iaload (pc := 34) (kd := 21) dX12_flownBy_34 rfl rfl h (fun v34 h => ?_)
      refine wt_aload_n (pc := 35) 0 dX12_flownBy_35 rfl ?_
      refine wt_getR (pc := 36) dX12_flownBy_36 fl_X12_35 (fun _ _ _ => rfl) h (fun v36 h => ?_)
      refine wt_iconst (pc := 39) (v := 0) dX12_flownBy_39 (by decide) ?_
      refine wt_iaload (pc := 40) (kd := 21) dX12_flownBy_40 rfl rfl h (fun v40 h => ?_)
      refine wt_icmp_ge (pc := 41) (tgt := 50) dX12_flownBy_41 (by decide) (fun q => ?_) (fun q => ?_)
      · have h := ite_t q h
        refine wt_iconst (pc := 50) (v := 0) dX12_flownBy_50 (by decide) ?_
        refine wt_istore_n (pc := 51) (i := 2) (ls' := [(2, .int 0), (0, rf G.1 l0), (1, .int l1)]) rfl dX12_flownBy_51 (by decide) rfl ?_
        refine wt_iconst (pc := 52) (v := 0) dX12_flownBy_52 (by decide) ?_
        refine wt_istore_n (pc := 53) (i := 3) (ls' := [(3, .int 0), (2, .int 0), (0, rf G.1 l0), (1, .int l1)]) rfl dX12_flownBy_53 (by decide) rfl ?_
        refine wt_sub (ls' := [(0, rf G.1 l0), (1, .int l1), (2, .int 0), (3, .int 0)]) [2, 3, 1, 0] rfl ?_
        exact t_X12_flownBy_54 he  fu h
      · have h := ite_f q h
        refine wt_aload_n (pc := 44) 0 dX12_flownBy_44 rfl ?_
        refine wt_iconst (pc := 45) (v := 4) dX12_flownBy_45 (by decide) ?_
        refine wt_cVI (pc := 46) (J' := j_X12_refuse) (As := [.int 4]) (st := []) (B' := b_X12_refuse) (u' := 0) (w' := 0) dX12_flownBy_46 ml_X12_331 mv_X12_refuse (fun v9 M9 e9 => c_X12_refuse e9) rfl (by decide) rfl rfl (by decide) (by decide) (by decide) rfl h (fun v46 M46 h => ?_)
        cases h
        exact he 49 _ _ _ dX12_flownBy_49 (by decide) (by decide)
    · have h := ite_f q h
      refine wt_aload_n (pc := 23) 0 dX12_flownBy_23 rfl ?_
      refine wt_iconst (pc := 24) (v := 3) dX12_flownBy_24 (by decide) ?_
      refine wt_cVI (pc := 25) (J' := j_X12_refuse) (As := [.int 3]) (st := []) (B' := b_X12_refuse) (u' := 0) (w' := 0) dX12_flownBy_25 ml_X12_331 mv_X12_refuse (fun v9 M9 e9 => c_X12_refuse e9) rfl (by decide) rfl rfl (by decide) (by decide) (by decide) rfl h (fun v25 M25 h => ?_)
      cases h
      exact he 28 _ _ _ dX12_flownBy_28 (by decide) (by decide)
  · have h := ite_t q h
    refine wt_aload_n (pc := 8) 0 dX12_flownBy_8 rfl ?_
    refine wt_iconst (pc := 9) (v := 1) dX12_flownBy_9 (by decide) ?_
    refine wt_cVI (pc := 10) (J' := j_X12_refuse) (As := [.int 1]) (st := []) (B' := b_X12_refuse) (u' := 0) (w' := 0) dX12_flownBy_10 ml_X12_331 mv_X12_refuse (fun v9 M9 e9 => c_X12_refuse e9) rfl (by decide) rfl rfl (by decide) (by decide) (by decide) rfl h (fun v10 M10 h => ?_)
    cases h
    exact he 13 _ _ _ dX12_flownBy_13 (by decide) (by decide)
set_option maxHeartbeats 4000000 in
set_option maxRecDepth 100000 in
theorem c_X12_flownBy {G : GG} {M : Mm} {l0 : Option Nat} {l1 : Int32} {r : Int32 × Mm} (h : f_X12_flownBy M l0 l1 = some r) (l : Launch) : Ct l G j_X12_flownBy b_X12_flownBy [rf G.1 l0, .int l1] M (some (.int r.1)) r.2 := cf_I (by decide +kernel) (by simp [lg_sl, rf_cat, cat_i, cat_l, j_X12_flownBy]) rfl (by simp [lv_args, rf_cat, cat_i, cat_l]) (fun X he => t_X12_flownBy_e he h)
def f_X12_flown (M : Mm) (l0 : Option Nat) (l1 : Int32) : Option (Int32 × Mm) := pfI M l0 12 1 0 fun M2 => pfI M2 l0 12 0 0 fun M7 => ck M7 l0 12 <| bd (f_X12_flownBy M7 l0 l1) fun v12 M12 => some (v12, M12)
set_option maxHeartbeats 4000000 in
set_option maxRecDepth 100000 in
theorem t_X12_flown_e {G : GG} {X : CX} {ans : Int32 × Mm} (he : EndI G X j_X12_flown b_X12_flown ans) {M : Mm} {l0 : Option Nat} {l1 : Int32} (h : f_X12_flown M l0 l1 = some ans) : Wt G X j_X12_flown b_X12_flown 0 [(0, rf G.1 l0), (1, .int l1)] [] M 0 0 := by
  unfold f_X12_flown at h
  refine wt_aload_n (pc := 0) 0 dX12_flown_0 rfl ?_
  refine wt_iconst (pc := 1) (v := 0) dX12_flown_1 (by decide) ?_
  refine wt_putI (pc := 2) dX12_flown_2 fl_X12_68 rfl rfl h (fun M2 h => ?_)
  refine wt_aload_n (pc := 5) 0 dX12_flown_5 rfl ?_
  refine wt_iconst (pc := 6) (v := 0) dX12_flown_6 (by decide) ?_
  refine wt_putI (pc := 7) dX12_flown_7 fl_X12_71 rfl rfl h (fun M7 h => ?_)
  refine wt_aload_n (pc := 10) 0 dX12_flown_10 rfl ?_
  refine wt_iload_n (pc := 11) 1 dX12_flown_11 rfl ?_
  refine wt_cVI (pc := 12) (J' := j_X12_flownBy) (As := [.int l1]) (st := []) (B' := b_X12_flownBy) (u' := 0) (w' := 0) dX12_flown_12 ml_X12_480 mv_X12_flownBy (fun v9 M9 e9 => c_X12_flownBy e9) rfl (by decide) rfl rfl (by decide) (by decide) (by decide) rfl h (fun v12 M12 h => ?_)
  cases h
  exact he 15 _ _ _ dX12_flown_15 (by decide) (by decide)
set_option maxHeartbeats 4000000 in
set_option maxRecDepth 100000 in
theorem c_X12_flown {G : GG} {M : Mm} {l0 : Option Nat} {l1 : Int32} {r : Int32 × Mm} (h : f_X12_flown M l0 l1 = some r) (l : Launch) : Ct l G j_X12_flown b_X12_flown [rf G.1 l0, .int l1] M (some (.int r.1)) r.2 := cf_I (by decide +kernel) (by simp [lg_sl, rf_cat, cat_i, cat_l, j_X12_flown]) rfl (by simp [lv_args, rf_cat, cat_i, cat_l]) (fun X he => t_X12_flown_e he h)
def f_X12_likeliest_81 (k30 : Mm → Option Nat → Int32 → Int32 → Int32 → Option (Int32 × Mm)) (M : Mm) (l0 : Option Nat) (l2 : Int32) (l3 : Int32) (l4 : Int32) : Option (Int32 × Mm) := k30 M l0 l2 l3 (l4 + 1)
def f_X12_likeliest_78 (k30 : Mm → Option Nat → Int32 → Int32 → Int32 → Option (Int32 × Mm)) (M : Mm) (l0 : Option Nat) (l2 : Int32) (l4 : Int32) : Option (Int32 × Mm) := f_X12_likeliest_81 k30 M l0 l2 l4 l4
def f_X12_likeliest_30 : Nat → Mm → Option Nat → Int32 → Int32 → Int32 → Option (Int32 × Mm)
  | 0, _, _, _, _, _ => none
  | n + 1, M, l0, l2, l3, l4 => gfR M l0 12 20 fun v33 => alI M v33 21 2 fun v37 => if v37 ≤ l4 then (if 0 ≤ l3 then (some (l3, M)) else (ck M l0 12 <| bd (f_X12_refuse M l0 8) fun v94 M94 => some (v94, M94))) else (bd (f_X12_has M l2 l4) fun v44 M44 => if v44 = 0 then (f_X12_likeliest_81 (f_X12_likeliest_30 n) M44 l0 l2 l3 l4) else (if l3 < 0 then (f_X12_likeliest_78 (f_X12_likeliest_30 n) M44 l0 l2 l4) else (gfR M44 l0 12 20 fun v55 => alI M44 v55 21 (167 + l4) fun v64 => gfR M44 l0 12 20 fun v66 => alI M44 v66 21 (167 + l3) fun v74 => if v64 ≤ v74 then (f_X12_likeliest_81 (f_X12_likeliest_30 n) M44 l0 l2 l3 l4) else (f_X12_likeliest_78 (f_X12_likeliest_30 n) M44 l0 l2 l4))))
def f_X12_likeliest (M : Mm) (l0 : Option Nat) (l1 : Int32) : Option (Int32 × Mm) := pfI M l0 12 1 0 fun M2 => pfI M2 l0 12 0 0 fun M7 => ck M7 l0 12 <| bd (f_X12_flownBy M7 l0 l1) fun v12 M12 => gfI M12 l0 12 0 fun v17 => if v17 ≤ 0 then (f_X12_likeliest_30  fu M12 l0 v12 (-1) 0) else (some ((-1), M12))
set_option maxHeartbeats 4000000 in
set_option maxRecDepth 100000 in
theorem t_X12_likeliest_81 {G : GG} {X : CX} {ans : Int32 × Mm} (he : EndI G X j_X12_likeliest b_X12_likeliest ans) {k30 : Mm → Option Nat → Int32 → Int32 → Int32 → Option (Int32 × Mm)} (hk30 : ∀ (M : Mm) (a0 : Option Nat) (a2 : Int32) (a3 : Int32) (a4 : Int32), k30 M a0 a2 a3 a4 = some ans → Wt G X j_X12_likeliest b_X12_likeliest 30 [(0, rf G.1 a0), (2, .int a2), (3, .int a3), (4, .int a4)] [] M 0 0) {M : Mm} {l0 : Option Nat} {l2 : Int32} {l3 : Int32} {l4 : Int32} (h : f_X12_likeliest_81 k30 M l0 l2 l3 l4 = some ans) : Wt G X j_X12_likeliest b_X12_likeliest 81 [(0, rf G.1 l0), (2, .int l2), (3, .int l3), (4, .int l4)] [] M 0 0 := by
  unfold f_X12_likeliest_81 at h
  refine wt_iinc (pc := 81) (d := 1) (ls' := [(4, .int (l4 + 1)), (0, rf G.1 l0), (2, .int l2), (3, .int l3)]) 3 dX12_likeliest_81 rfl (by decide) (by decide) rfl ?_
  refine wt_goto (pc := 84) (tgt := 30) dX12_likeliest_84 (by decide) ?_
  refine wt_sub (ls' := [(0, rf G.1 l0), (2, .int l2), (3, .int l3), (4, .int (l4 + 1))]) [1, 2, 3, 0] rfl ?_
  exact hk30 _ _ _ _ _ h
set_option maxHeartbeats 4000000 in
set_option maxRecDepth 100000 in
theorem t_X12_likeliest_78 {G : GG} {X : CX} {ans : Int32 × Mm} (he : EndI G X j_X12_likeliest b_X12_likeliest ans) {k30 : Mm → Option Nat → Int32 → Int32 → Int32 → Option (Int32 × Mm)} (hk30 : ∀ (M : Mm) (a0 : Option Nat) (a2 : Int32) (a3 : Int32) (a4 : Int32), k30 M a0 a2 a3 a4 = some ans → Wt G X j_X12_likeliest b_X12_likeliest 30 [(0, rf G.1 a0), (2, .int a2), (3, .int a3), (4, .int a4)] [] M 0 0) {M : Mm} {l0 : Option Nat} {l2 : Int32} {l4 : Int32} (h : f_X12_likeliest_78 k30 M l0 l2 l4 = some ans) : Wt G X j_X12_likeliest b_X12_likeliest 78 [(0, rf G.1 l0), (2, .int l2), (4, .int l4)] [] M 0 0 := by
  unfold f_X12_likeliest_78 at h
  refine wt_iload (pc := 78) 2 dX12_likeliest_78 rfl ?_
  refine wt_istore_n (pc := 80) (i := 3) (ls' := [(3, .int l4), (0, rf G.1 l0), (2, .int l2), (4, .int l4)]) rfl dX12_likeliest_80 (by decide) rfl ?_
  refine wt_sub (ls' := [(0, rf G.1 l0), (2, .int l2), (3, .int l4), (4, .int l4)]) [1, 2, 0, 3] rfl ?_
  exact t_X12_likeliest_81 he (fun _ _ _ _ _ h => hk30 _ _ _ _ _ h) h
set_option maxHeartbeats 4000000 in
set_option maxRecDepth 100000 in
theorem t_X12_likeliest_30 {G : GG} {X : CX} {ans : Int32 × Mm} (he : EndI G X j_X12_likeliest b_X12_likeliest ans) : ∀ (n : Nat) {M : Mm} {l0 : Option Nat} {l2 : Int32} {l3 : Int32} {l4 : Int32}, f_X12_likeliest_30 n M l0 l2 l3 l4 = some ans → Wt G X j_X12_likeliest b_X12_likeliest 30 [(0, rf G.1 l0), (2, .int l2), (3, .int l3), (4, .int l4)] [] M 0 0 := by
  intro n
  induction n with
  | zero =>
    intro M l0 l2 l3 l4 h
    rw [f_X12_likeliest_30] at h
    cases h
  | succ n ih =>
    intro M l0 l2 l3 l4 h
    rw [f_X12_likeliest_30] at h
    refine wt_iload (pc := 30) 3 dX12_likeliest_30 rfl ?_
    refine wt_aload_n (pc := 32) 0 dX12_likeliest_32 rfl ?_
    refine wt_getR (pc := 33) dX12_likeliest_33 fl_X12_35 (fun _ _ _ => rfl) h (fun v33 h => ?_)
    refine wt_iconst (pc := 36) (v := 2) dX12_likeliest_36 (by decide) ?_
    refine wt_iaload (pc := 37) (kd := 21) dX12_likeliest_37 rfl rfl h (fun v37 h => ?_)
    refine wt_icmp_ge (pc := 38) (tgt := 87) dX12_likeliest_38 (by decide) (fun q => ?_) (fun q => ?_)
    · have h := ite_t q h
      refine wt_iload_n (pc := 87) 2 dX12_likeliest_87 rfl ?_
      refine wt_if_ge (pc := 88) (tgt := 100) dX12_likeliest_88 (by decide) (fun q => ?_) (fun q => ?_)
      · have h := ite_t q h
        refine wt_iload_n (pc := 100) 2 dX12_likeliest_100 rfl ?_
        cases h
        exact he 101 _ _ _ dX12_likeliest_101 (by decide) (by decide)
      · have h := ite_f q h
        refine wt_aload_n (pc := 91) 0 dX12_likeliest_91 rfl ?_
        refine wt_bipush (pc := 92) (v := 8) dX12_likeliest_92 (by decide) ?_
        refine wt_cVI (pc := 94) (J' := j_X12_refuse) (As := [.int 8]) (st := []) (B' := b_X12_refuse) (u' := 0) (w' := 0) dX12_likeliest_94 ml_X12_331 mv_X12_refuse (fun v9 M9 e9 => c_X12_refuse e9) rfl (by decide) rfl rfl (by decide) (by decide) (by decide) rfl h (fun v94 M94 h => ?_)
        refine wt_goto (pc := 97) (tgt := 101) dX12_likeliest_97 (by decide) ?_
        cases h
        exact he 101 _ _ _ dX12_likeliest_101 (by decide) (by decide)
    · have h := ite_f q h
      refine wt_iload_n (pc := 41) 1 dX12_likeliest_41 rfl ?_
      refine wt_iload (pc := 42) 3 dX12_likeliest_42 rfl ?_
      refine wt_cSI (pc := 44) (J' := j_X12_has) (As := [.int l2, .int l4]) (st := []) (B' := b_X12_has) (u' := 0) (w' := 0) dX12_likeliest_44 ml_X12_107 ms_X12_has (fun v9 M9 e9 => c_X12_has e9) rfl (by decide) rfl rfl (by decide) (by decide) (by decide) rfl h (fun v44 M44 h => ?_)
      refine wt_if_eq (pc := 47) (tgt := 81) dX12_likeliest_47 (by decide) (fun q => ?_) (fun q => ?_)
      · have h := ite_t q h
        exact t_X12_likeliest_81 he (fun _ _ _ _ _ h => ih h) h
      · have h := ite_f q h
        refine wt_iload_n (pc := 50) 2 dX12_likeliest_50 rfl ?_
        refine wt_if_lt (pc := 51) (tgt := 78) dX12_likeliest_51 (by decide) (fun q => ?_) (fun q => ?_)
        · have h := ite_t q h
          refine wt_sub (ls' := [(0, rf G.1 l0), (2, .int l2), (4, .int l4)]) [0, 1, 3] rfl ?_
          exact t_X12_likeliest_78 he (fun _ _ _ _ _ h => ih h) h
        · have h := ite_f q h
          refine wt_aload_n (pc := 54) 0 dX12_likeliest_54 rfl ?_
          refine wt_getR (pc := 55) dX12_likeliest_55 fl_X12_35 (fun _ _ _ => rfl) h (fun v55 h => ?_)
          refine wt_sipush (pc := 58) (v := 167) dX12_likeliest_58 (by decide) ?_
          refine wt_iload (pc := 61) 3 dX12_likeliest_61 rfl ?_
          refine wt_iadd (pc := 63) dX12_likeliest_63 ?_
          refine wt_iaload (pc := 64) (kd := 21) dX12_likeliest_64 rfl rfl h (fun v64 h => ?_)
          refine wt_aload_n (pc := 65) 0 dX12_likeliest_65 rfl ?_
          refine wt_getR (pc := 66) dX12_likeliest_66 fl_X12_35 (fun _ _ _ => rfl) h (fun v66 h => ?_)
          refine wt_sipush (pc := 69) (v := 167) dX12_likeliest_69 (by decide) ?_
          refine wt_iload_n (pc := 72) 2 dX12_likeliest_72 rfl ?_
          refine wt_iadd (pc := 73) dX12_likeliest_73 ?_
          refine wt_iaload (pc := 74) (kd := 21) dX12_likeliest_74 rfl rfl h (fun v74 h => ?_)
          refine wt_icmp_le (pc := 75) (tgt := 81) dX12_likeliest_75 (by decide) (fun q => ?_) (fun q => ?_)
          · have h := ite_t q h
            exact t_X12_likeliest_81 he (fun _ _ _ _ _ h => ih h) h
          · have h := ite_f q h
            refine wt_sub (ls' := [(0, rf G.1 l0), (2, .int l2), (4, .int l4)]) [0, 1, 3] rfl ?_
            exact t_X12_likeliest_78 he (fun _ _ _ _ _ h => ih h) h
set_option maxHeartbeats 4000000 in
set_option maxRecDepth 100000 in
theorem t_X12_likeliest_e {G : GG} {X : CX} {ans : Int32 × Mm} (he : EndI G X j_X12_likeliest b_X12_likeliest ans) {M : Mm} {l0 : Option Nat} {l1 : Int32} (h : f_X12_likeliest M l0 l1 = some ans) : Wt G X j_X12_likeliest b_X12_likeliest 0 [(0, rf G.1 l0), (1, .int l1)] [] M 0 0 := by
  unfold f_X12_likeliest at h
  refine wt_aload_n (pc := 0) 0 dX12_likeliest_0 rfl ?_
  refine wt_iconst (pc := 1) (v := 0) dX12_likeliest_1 (by decide) ?_
  refine wt_putI (pc := 2) dX12_likeliest_2 fl_X12_68 rfl rfl h (fun M2 h => ?_)
  refine wt_aload_n (pc := 5) 0 dX12_likeliest_5 rfl ?_
  refine wt_iconst (pc := 6) (v := 0) dX12_likeliest_6 (by decide) ?_
  refine wt_putI (pc := 7) dX12_likeliest_7 fl_X12_71 rfl rfl h (fun M7 h => ?_)
  refine wt_aload_n (pc := 10) 0 dX12_likeliest_10 rfl ?_
  refine wt_iload_n (pc := 11) 1 dX12_likeliest_11 rfl ?_
  refine wt_cVI (pc := 12) (J' := j_X12_flownBy) (As := [.int l1]) (st := []) (B' := b_X12_flownBy) (u' := 0) (w' := 0) dX12_likeliest_12 ml_X12_480 mv_X12_flownBy (fun v9 M9 e9 => c_X12_flownBy e9) rfl (by decide) rfl rfl (by decide) (by decide) (by decide) rfl h (fun v12 M12 h => ?_)
  refine wt_istore_n (pc := 15) (i := 2) (ls' := [(2, .int v12), (0, rf G.1 l0), (1, .int l1)]) rfl dX12_likeliest_15 (by decide) rfl ?_
  refine wt_aload_n (pc := 16) 1 dX12_likeliest_16 rfl ?_
  refine wt_getI (pc := 17) dX12_likeliest_17 fl_X12_71 (fun _ _ _ => rfl) h (fun v17 h => ?_)
  refine wt_if_le (pc := 20) (tgt := 25) dX12_likeliest_20 (by decide) (fun q => ?_) (fun q => ?_)
  · have h := ite_t q h
    refine wt_iconst (pc := 25) (v := (-1)) dX12_likeliest_25 (by decide) ?_
    refine wt_istore_n (pc := 26) (i := 3) (ls' := [(3, .int (-1)), (2, .int v12), (0, rf G.1 l0), (1, .int l1)]) rfl dX12_likeliest_26 (by decide) rfl ?_
    refine wt_iconst (pc := 27) (v := 0) dX12_likeliest_27 (by decide) ?_
    refine wt_istore (pc := 28) (i := 4) (ls' := [(4, .int 0), (3, .int (-1)), (2, .int v12), (0, rf G.1 l0), (1, .int l1)]) dX12_likeliest_28 (by decide) rfl ?_
    refine wt_sub (ls' := [(0, rf G.1 l0), (2, .int v12), (3, .int (-1)), (4, .int 0)]) [3, 2, 1, 0] rfl ?_
    exact t_X12_likeliest_30 he  fu h
  · have h := ite_f q h
    refine wt_iconst (pc := 23) (v := (-1)) dX12_likeliest_23 (by decide) ?_
    cases h
    exact he 24 _ _ _ dX12_likeliest_24 (by decide) (by decide)
set_option maxHeartbeats 4000000 in
set_option maxRecDepth 100000 in
theorem c_X12_likeliest {G : GG} {M : Mm} {l0 : Option Nat} {l1 : Int32} {r : Int32 × Mm} (h : f_X12_likeliest M l0 l1 = some r) (l : Launch) : Ct l G j_X12_likeliest b_X12_likeliest [rf G.1 l0, .int l1] M (some (.int r.1)) r.2 := cf_I (by decide +kernel) (by simp [lg_sl, rf_cat, cat_i, cat_l, j_X12_likeliest]) rfl (by simp [lv_args, rf_cat, cat_i, cat_l]) (fun X he => t_X12_likeliest_e he h)
def f_X12_neighbour_100 (k28 : Mm → Option Nat → Int32 → Int32 → Int32 → Option (Int32 × Mm)) (M : Mm) (l0 : Option Nat) (l1 : Int32) (l2 : Int32) (l3 : Int32) : Option (Int32 × Mm) := k28 M l0 l1 l2 (l3 + 1)
def f_X12_neighbour_98 (k28 : Mm → Option Nat → Int32 → Int32 → Int32 → Option (Int32 × Mm)) (M : Mm) (l0 : Option Nat) (l1 : Int32) (l3 : Int32) : Option (Int32 × Mm) := f_X12_neighbour_100 k28 M l0 l1 l3 l3
def f_X12_neighbour_28 : Nat → Mm → Option Nat → Int32 → Int32 → Int32 → Option (Int32 × Mm)
  | 0, _, _, _, _, _ => none
  | n + 1, M, l0, l1, l2, l3 => gfR M l0 12 20 fun v30 => alI M v30 21 0 fun v34 => if v34 ≤ l3 then (if 0 ≤ l2 then (some (l2, M)) else (ck M l0 12 <| bd (f_X12_refuse M l0 8) fun v113 M113 => some (v113, M113))) else (if l3 = l1 then (f_X12_neighbour_100 (f_X12_neighbour_28 n) M l0 l1 l2 l3) else (ck M l0 12 <| bd (f_X12_stands M l0 l3) fun v45 M45 => if v45 = 0 then (f_X12_neighbour_100 (f_X12_neighbour_28 n) M45 l0 l1 l2 l3) else (if l2 < 0 then (f_X12_neighbour_98 (f_X12_neighbour_28 n) M45 l0 l1 l3) else (gfR M45 l0 12 20 fun v56 => alI M45 v56 21 (5 + l3) fun v62 => gfR M45 l0 12 20 fun v64 => alI M45 v64 21 (5 + l1) fun v70 => gfR M45 l0 12 20 fun v76 => alI M45 v76 21 (5 + l2) fun v82 => gfR M45 l0 12 20 fun v84 => alI M45 v84 21 (5 + l1) fun v90 => if (abI (v82 - v90)) ≤ (abI (v62 - v70)) then (f_X12_neighbour_100 (f_X12_neighbour_28 n) M45 l0 l1 l2 l3) else (f_X12_neighbour_98 (f_X12_neighbour_28 n) M45 l0 l1 l3)))))
def f_X12_neighbour (M : Mm) (l0 : Option Nat) (l1 : Int32) : Option (Int32 × Mm) := pfI M l0 12 1 0 fun M2 => pfI M2 l0 12 0 0 fun M7 => ck M7 l0 12 <| bd (f_X12_isHouseAt M7 l0 l1) fun v12 M12 => if v12 = 0 then (ck M12 l0 12 <| bd (f_X12_refuse M12 l0 2) fun v20 M20 => some (v20, M20)) else (f_X12_neighbour_28  fu M12 l0 l1 (-1) 0)
set_option maxHeartbeats 4000000 in
set_option maxRecDepth 100000 in
theorem t_X12_neighbour_100 {G : GG} {X : CX} {ans : Int32 × Mm} (he : EndI G X j_X12_neighbour b_X12_neighbour ans) {k28 : Mm → Option Nat → Int32 → Int32 → Int32 → Option (Int32 × Mm)} (hk28 : ∀ (M : Mm) (a0 : Option Nat) (a1 : Int32) (a2 : Int32) (a3 : Int32), k28 M a0 a1 a2 a3 = some ans → Wt G X j_X12_neighbour b_X12_neighbour 28 [(0, rf G.1 a0), (1, .int a1), (2, .int a2), (3, .int a3)] [] M 0 0) {M : Mm} {l0 : Option Nat} {l1 : Int32} {l2 : Int32} {l3 : Int32} (h : f_X12_neighbour_100 k28 M l0 l1 l2 l3 = some ans) : Wt G X j_X12_neighbour b_X12_neighbour 100 [(0, rf G.1 l0), (1, .int l1), (2, .int l2), (3, .int l3)] [] M 0 0 := by
  unfold f_X12_neighbour_100 at h
  refine wt_iinc (pc := 100) (d := 1) (ls' := [(3, .int (l3 + 1)), (0, rf G.1 l0), (1, .int l1), (2, .int l2)]) 3 dX12_neighbour_100 rfl (by decide) (by decide) rfl ?_
  refine wt_goto (pc := 103) (tgt := 28) dX12_neighbour_103 (by decide) ?_
  refine wt_sub (ls' := [(0, rf G.1 l0), (1, .int l1), (2, .int l2), (3, .int (l3 + 1))]) [1, 2, 3, 0] rfl ?_
  exact hk28 _ _ _ _ _ h
set_option maxHeartbeats 4000000 in
set_option maxRecDepth 100000 in
theorem t_X12_neighbour_98 {G : GG} {X : CX} {ans : Int32 × Mm} (he : EndI G X j_X12_neighbour b_X12_neighbour ans) {k28 : Mm → Option Nat → Int32 → Int32 → Int32 → Option (Int32 × Mm)} (hk28 : ∀ (M : Mm) (a0 : Option Nat) (a1 : Int32) (a2 : Int32) (a3 : Int32), k28 M a0 a1 a2 a3 = some ans → Wt G X j_X12_neighbour b_X12_neighbour 28 [(0, rf G.1 a0), (1, .int a1), (2, .int a2), (3, .int a3)] [] M 0 0) {M : Mm} {l0 : Option Nat} {l1 : Int32} {l3 : Int32} (h : f_X12_neighbour_98 k28 M l0 l1 l3 = some ans) : Wt G X j_X12_neighbour b_X12_neighbour 98 [(0, rf G.1 l0), (1, .int l1), (3, .int l3)] [] M 0 0 := by
  unfold f_X12_neighbour_98 at h
  refine wt_iload_n (pc := 98) 2 dX12_neighbour_98 rfl ?_
  refine wt_istore_n (pc := 99) (i := 2) (ls' := [(2, .int l3), (0, rf G.1 l0), (1, .int l1), (3, .int l3)]) rfl dX12_neighbour_99 (by decide) rfl ?_
  refine wt_sub (ls' := [(0, rf G.1 l0), (1, .int l1), (2, .int l3), (3, .int l3)]) [1, 2, 0, 3] rfl ?_
  exact t_X12_neighbour_100 he (fun _ _ _ _ _ h => hk28 _ _ _ _ _ h) h
set_option maxHeartbeats 4000000 in
set_option maxRecDepth 100000 in
theorem t_X12_neighbour_28 {G : GG} {X : CX} {ans : Int32 × Mm} (he : EndI G X j_X12_neighbour b_X12_neighbour ans) : ∀ (n : Nat) {M : Mm} {l0 : Option Nat} {l1 : Int32} {l2 : Int32} {l3 : Int32}, f_X12_neighbour_28 n M l0 l1 l2 l3 = some ans → Wt G X j_X12_neighbour b_X12_neighbour 28 [(0, rf G.1 l0), (1, .int l1), (2, .int l2), (3, .int l3)] [] M 0 0 := by
  intro n
  induction n with
  | zero =>
    intro M l0 l1 l2 l3 h
    rw [f_X12_neighbour_28] at h
    cases h
  | succ n ih =>
    intro M l0 l1 l2 l3 h
    rw [f_X12_neighbour_28] at h
    refine wt_iload_n (pc := 28) 3 dX12_neighbour_28 rfl ?_
    refine wt_aload_n (pc := 29) 0 dX12_neighbour_29 rfl ?_
    refine wt_getR (pc := 30) dX12_neighbour_30 fl_X12_35 (fun _ _ _ => rfl) h (fun v30 h => ?_)
    refine wt_iconst (pc := 33) (v := 0) dX12_neighbour_33 (by decide) ?_
    refine wt_iaload (pc := 34) (kd := 21) dX12_neighbour_34 rfl rfl h (fun v34 h => ?_)
    refine wt_icmp_ge (pc := 35) (tgt := 106) dX12_neighbour_35 (by decide) (fun q => ?_) (fun q => ?_)
    · have h := ite_t q h
      refine wt_iload_n (pc := 106) 2 dX12_neighbour_106 rfl ?_
      refine wt_if_ge (pc := 107) (tgt := 119) dX12_neighbour_107 (by decide) (fun q => ?_) (fun q => ?_)
      · have h := ite_t q h
        refine wt_iload_n (pc := 119) 2 dX12_neighbour_119 rfl ?_
        cases h
        exact he 120 _ _ _ dX12_neighbour_120 (by decide) (by decide)
      · have h := ite_f q h
        refine wt_aload_n (pc := 110) 0 dX12_neighbour_110 rfl ?_
        refine wt_bipush (pc := 111) (v := 8) dX12_neighbour_111 (by decide) ?_
        refine wt_cVI (pc := 113) (J' := j_X12_refuse) (As := [.int 8]) (st := []) (B' := b_X12_refuse) (u' := 0) (w' := 0) dX12_neighbour_113 ml_X12_331 mv_X12_refuse (fun v9 M9 e9 => c_X12_refuse e9) rfl (by decide) rfl rfl (by decide) (by decide) (by decide) rfl h (fun v113 M113 h => ?_)
        refine wt_goto (pc := 116) (tgt := 120) dX12_neighbour_116 (by decide) ?_
        cases h
        exact he 120 _ _ _ dX12_neighbour_120 (by decide) (by decide)
    · have h := ite_f q h
      refine wt_iload_n (pc := 38) 3 dX12_neighbour_38 rfl ?_
      refine wt_iload_n (pc := 39) 1 dX12_neighbour_39 rfl ?_
      refine wt_icmp_eq (pc := 40) (tgt := 100) dX12_neighbour_40 (by decide) (fun q => ?_) (fun q => ?_)
      · have h := ite_t q h
        exact t_X12_neighbour_100 he (fun _ _ _ _ _ h => ih h) h
      · have h := ite_f q h
        refine wt_aload_n (pc := 43) 0 dX12_neighbour_43 rfl ?_
        refine wt_iload_n (pc := 44) 3 dX12_neighbour_44 rfl ?_
        refine wt_cVI (pc := 45) (J' := j_X12_stands) (As := [.int l3]) (st := []) (B' := b_X12_stands) (u' := 0) (w' := 0) dX12_neighbour_45 ml_X12_324 mv_X12_stands (fun v9 M9 e9 => c_X12_stands e9) rfl (by decide) rfl rfl (by decide) (by decide) (by decide) rfl h (fun v45 M45 h => ?_)
        refine wt_if_eq (pc := 48) (tgt := 100) dX12_neighbour_48 (by decide) (fun q => ?_) (fun q => ?_)
        · have h := ite_t q h
          exact t_X12_neighbour_100 he (fun _ _ _ _ _ h => ih h) h
        · have h := ite_f q h
          refine wt_iload_n (pc := 51) 2 dX12_neighbour_51 rfl ?_
          refine wt_if_lt (pc := 52) (tgt := 98) dX12_neighbour_52 (by decide) (fun q => ?_) (fun q => ?_)
          · have h := ite_t q h
            refine wt_sub (ls' := [(0, rf G.1 l0), (1, .int l1), (3, .int l3)]) [0, 1, 3] rfl ?_
            exact t_X12_neighbour_98 he (fun _ _ _ _ _ h => ih h) h
          · have h := ite_f q h
            refine wt_aload_n (pc := 55) 0 dX12_neighbour_55 rfl ?_
            refine wt_getR (pc := 56) dX12_neighbour_56 fl_X12_35 (fun _ _ _ => rfl) h (fun v56 h => ?_)
            refine wt_iconst (pc := 59) (v := 5) dX12_neighbour_59 (by decide) ?_
            refine wt_iload_n (pc := 60) 3 dX12_neighbour_60 rfl ?_
            refine wt_iadd (pc := 61) dX12_neighbour_61 ?_
            refine wt_iaload (pc := 62) (kd := 21) dX12_neighbour_62 rfl rfl h (fun v62 h => ?_)
            refine wt_aload_n (pc := 63) 0 dX12_neighbour_63 rfl ?_
            refine wt_getR (pc := 64) dX12_neighbour_64 fl_X12_35 (fun _ _ _ => rfl) h (fun v64 h => ?_)
            refine wt_iconst (pc := 67) (v := 5) dX12_neighbour_67 (by decide) ?_
            refine wt_iload_n (pc := 68) 1 dX12_neighbour_68 rfl ?_
            refine wt_iadd (pc := 69) dX12_neighbour_69 ?_
            refine wt_iaload (pc := 70) (kd := 21) dX12_neighbour_70 rfl rfl h (fun v70 h => ?_)
            refine wt_isub (pc := 71) dX12_neighbour_71 ?_
            refine wt_mabs (pc := 72) dX12_neighbour_72 bi_X12_327 mw_abs.1 mw_abs.2.1 mw_abs.2.2 (by decide) (by decide) (by decide) (by decide) ?_
            refine wt_aload_n (pc := 75) 0 dX12_neighbour_75 rfl ?_
            refine wt_getR (pc := 76) dX12_neighbour_76 fl_X12_35 (fun _ _ _ => rfl) h (fun v76 h => ?_)
            refine wt_iconst (pc := 79) (v := 5) dX12_neighbour_79 (by decide) ?_
            refine wt_iload_n (pc := 80) 2 dX12_neighbour_80 rfl ?_
            refine wt_iadd (pc := 81) dX12_neighbour_81 ?_
            refine wt_iaload (pc := 82) (kd := 21) dX12_neighbour_82 rfl rfl h (fun v82 h => ?_)
            refine wt_aload_n (pc := 83) 0 dX12_neighbour_83 rfl ?_
            refine wt_getR (pc := 84) dX12_neighbour_84 fl_X12_35 (fun _ _ _ => rfl) h (fun v84 h => ?_)
            refine wt_iconst (pc := 87) (v := 5) dX12_neighbour_87 (by decide) ?_
            refine wt_iload_n (pc := 88) 1 dX12_neighbour_88 rfl ?_
            refine wt_iadd (pc := 89) dX12_neighbour_89 ?_
            refine wt_iaload (pc := 90) (kd := 21) dX12_neighbour_90 rfl rfl h (fun v90 h => ?_)
            refine wt_isub (pc := 91) dX12_neighbour_91 ?_
            refine wt_mabs (pc := 92) dX12_neighbour_92 bi_X12_327 mw_abs.1 mw_abs.2.1 mw_abs.2.2 (by decide) (by decide) (by decide) (by simp [rf_cat, cat_i, cat_l, cat_r]) ?_
            refine wt_icmp_ge (pc := 95) (tgt := 100) dX12_neighbour_95 (by decide) (fun q => ?_) (fun q => ?_)
            · have h := ite_t q h
              exact t_X12_neighbour_100 he (fun _ _ _ _ _ h => ih h) h
            · have h := ite_f q h
              refine wt_sub (ls' := [(0, rf G.1 l0), (1, .int l1), (3, .int l3)]) [0, 1, 3] rfl ?_
              exact t_X12_neighbour_98 he (fun _ _ _ _ _ h => ih h) h
set_option maxHeartbeats 4000000 in
set_option maxRecDepth 100000 in
theorem t_X12_neighbour_e {G : GG} {X : CX} {ans : Int32 × Mm} (he : EndI G X j_X12_neighbour b_X12_neighbour ans) {M : Mm} {l0 : Option Nat} {l1 : Int32} (h : f_X12_neighbour M l0 l1 = some ans) : Wt G X j_X12_neighbour b_X12_neighbour 0 [(0, rf G.1 l0), (1, .int l1)] [] M 0 0 := by
  unfold f_X12_neighbour at h
  refine wt_aload_n (pc := 0) 0 dX12_neighbour_0 rfl ?_
  refine wt_iconst (pc := 1) (v := 0) dX12_neighbour_1 (by decide) ?_
  refine wt_putI (pc := 2) dX12_neighbour_2 fl_X12_68 rfl rfl h (fun M2 h => ?_)
  refine wt_aload_n (pc := 5) 0 dX12_neighbour_5 rfl ?_
  refine wt_iconst (pc := 6) (v := 0) dX12_neighbour_6 (by decide) ?_
  refine wt_putI (pc := 7) dX12_neighbour_7 fl_X12_71 rfl rfl h (fun M7 h => ?_)
  refine wt_aload_n (pc := 10) 0 dX12_neighbour_10 rfl ?_
  refine wt_iload_n (pc := 11) 1 dX12_neighbour_11 rfl ?_
  refine wt_cVI (pc := 12) (J' := j_X12_isHouseAt) (As := [.int l1]) (st := []) (B' := b_X12_isHouseAt) (u' := 0) (w' := 0) dX12_neighbour_12 ml_X12_341 mv_X12_isHouseAt (fun v9 M9 e9 => c_X12_isHouseAt e9) rfl (by decide) rfl rfl (by decide) (by decide) (by decide) rfl h (fun v12 M12 h => ?_)
  refine wt_if_ne (pc := 15) (tgt := 24) dX12_neighbour_15 (by decide) (fun q => ?_) (fun q => ?_)
  · have h := ite_f q h
    refine wt_iconst (pc := 24) (v := (-1)) dX12_neighbour_24 (by decide) ?_
    refine wt_istore_n (pc := 25) (i := 2) (ls' := [(2, .int (-1)), (0, rf G.1 l0), (1, .int l1)]) rfl dX12_neighbour_25 (by decide) rfl ?_
    refine wt_iconst (pc := 26) (v := 0) dX12_neighbour_26 (by decide) ?_
    refine wt_istore_n (pc := 27) (i := 3) (ls' := [(3, .int 0), (2, .int (-1)), (0, rf G.1 l0), (1, .int l1)]) rfl dX12_neighbour_27 (by decide) rfl ?_
    refine wt_sub (ls' := [(0, rf G.1 l0), (1, .int l1), (2, .int (-1)), (3, .int 0)]) [2, 3, 1, 0] rfl ?_
    exact t_X12_neighbour_28 he  fu h
  · have h := ite_t q h
    refine wt_aload_n (pc := 18) 0 dX12_neighbour_18 rfl ?_
    refine wt_iconst (pc := 19) (v := 2) dX12_neighbour_19 (by decide) ?_
    refine wt_cVI (pc := 20) (J' := j_X12_refuse) (As := [.int 2]) (st := []) (B' := b_X12_refuse) (u' := 0) (w' := 0) dX12_neighbour_20 ml_X12_331 mv_X12_refuse (fun v9 M9 e9 => c_X12_refuse e9) rfl (by decide) rfl rfl (by decide) (by decide) (by decide) rfl h (fun v20 M20 h => ?_)
    cases h
    exact he 23 _ _ _ dX12_neighbour_23 (by decide) (by decide)
set_option maxHeartbeats 4000000 in
set_option maxRecDepth 100000 in
theorem c_X12_neighbour {G : GG} {M : Mm} {l0 : Option Nat} {l1 : Int32} {r : Int32 × Mm} (h : f_X12_neighbour M l0 l1 = some r) (l : Launch) : Ct l G j_X12_neighbour b_X12_neighbour [rf G.1 l0, .int l1] M (some (.int r.1)) r.2 := cf_I (by decide +kernel) (by simp [lg_sl, rf_cat, cat_i, cat_l, j_X12_neighbour]) rfl (by simp [lv_args, rf_cat, cat_i, cat_l]) (fun X he => t_X12_neighbour_e he h)
def f_X12_draw (M : Mm) (l0 : Option Nat) (l1 : Int32) : Option (Int32 × Mm) := gfI M l0 12 38 fun v2 => dvI 65536 <| pfI M l0 12 38 (((v2 * 2909) + 10597) - ((v2 * 2909) + 10597) / 65536 * 65536) fun M17 => gfI M17 l0 12 38 fun v21 => dvI 8 <| dvI l1 <| some (((v21 / 8) - (v21 / 8) / l1 * l1), M17)
set_option maxHeartbeats 4000000 in
set_option maxRecDepth 100000 in
theorem t_X12_draw_e {G : GG} {X : CX} {ans : Int32 × Mm} (he : EndI G X j_X12_draw b_X12_draw ans) {M : Mm} {l0 : Option Nat} {l1 : Int32} (h : f_X12_draw M l0 l1 = some ans) : Wt G X j_X12_draw b_X12_draw 0 [(0, rf G.1 l0), (1, .int l1)] [] M 0 0 := by
  unfold f_X12_draw at h
  refine wt_aload_n (pc := 0) 0 dX12_draw_0 rfl ?_
  refine wt_aload_n (pc := 1) 0 dX12_draw_1 rfl ?_
  refine wt_getI (pc := 2) dX12_draw_2 fl_X12_483 (fun _ _ _ => rfl) h (fun v2 h => ?_)
  refine wt_sipush (pc := 5) (v := 2909) dX12_draw_5 (by decide) ?_
  refine wt_imul (pc := 8) dX12_draw_8 ?_
  refine wt_sipush (pc := 9) (v := 10597) dX12_draw_9 (by decide) ?_
  refine wt_iadd (pc := 12) dX12_draw_12 ?_
  refine wt_ldcw (pc := 13) dX12_draw_13 kc_X12_486 ?_
  obtain ⟨qd, h⟩ := dvI_spec h
  refine wt_irem (pc := 16) dX12_draw_16 qd ?_
  refine wt_putI (pc := 17) dX12_draw_17 fl_X12_483 rfl rfl h (fun M17 h => ?_)
  refine wt_aload_n (pc := 20) 0 dX12_draw_20 rfl ?_
  refine wt_getI (pc := 21) dX12_draw_21 fl_X12_483 (fun _ _ _ => rfl) h (fun v21 h => ?_)
  refine wt_bipush (pc := 24) (v := 8) dX12_draw_24 (by decide) ?_
  obtain ⟨qd, h⟩ := dvI_spec h
  refine wt_idiv (pc := 26) dX12_draw_26 qd ?_
  refine wt_iload_n (pc := 27) 1 dX12_draw_27 rfl ?_
  obtain ⟨qd, h⟩ := dvI_spec h
  refine wt_irem (pc := 28) dX12_draw_28 qd ?_
  cases h
  exact he 29 _ _ _ dX12_draw_29 (by decide) (by decide)
set_option maxHeartbeats 4000000 in
set_option maxRecDepth 100000 in
theorem c_X12_draw {G : GG} {M : Mm} {l0 : Option Nat} {l1 : Int32} {r : Int32 × Mm} (h : f_X12_draw M l0 l1 = some r) (l : Launch) : Ct l G j_X12_draw b_X12_draw [rf G.1 l0, .int l1] M (some (.int r.1)) r.2 := cf_I (by decide +kernel) (by simp [lg_sl, rf_cat, cat_i, cat_l, j_X12_draw]) rfl (by simp [lv_args, rf_cat, cat_i, cat_l]) (fun X he => t_X12_draw_e he h)
def f_X12_galeComes_22 : Nat → Mm → Option Nat → Int32 → Int32 → Option (Int32 × Mm)
  | 0, _, _, _, _ => none
  | n + 1, M, l0, l1, l2 => gfR M l0 12 20 fun v24 => alI M v24 21 (167 + l2) fun v32 => if l1 < v32 then (gfI M l0 12 43 fun v57 => gfR M l0 12 20 fun v62 => alI M v62 21 (161 + l2) fun v70 => ck M l0 12 <| bd (f_X12_blows M l0 v70) fun v71 M71 => pfI M71 l0 12 43 (v57 + v71) fun M75 => some (1, M75)) else (gfR M l0 12 20 fun v38 => alI M v38 21 (167 + l2) fun v46 => nmI (l1 - v46) fun x48 => f_X12_galeComes_22 n M l0 x48 (l2 + 1))
def g_X12_galeComes (M : Mm) (l0 : Option Nat) : Option (Int32 × Mm) := gfR M l0 12 20 fun v1 => alI M v1 21 2 fun v5 => if v5 = 0 then (some (0, M)) else (ck M l0 12 <| bd (f_X12_allChances M l0) fun v13 M13 => ck M13 l0 12 <| bd (f_X12_draw M13 l0 v13) fun v16 M16 => f_X12_galeComes_22  fu M16 l0 v16 0)
def f_X12_galeComes (M : Mm) (l0 : Option Nat) : Option (Int32 × Mm) := zc (g_X12_galeComes M l0)
set_option maxHeartbeats 4000000 in
set_option maxRecDepth 100000 in
theorem t_X12_galeComes_22 {G : GG} {X : CX} {ans : Int32 × Mm} (he : EndI G X j_X12_galeComes b_X12_galeComes ans) : ∀ (n : Nat) {M : Mm} {l0 : Option Nat} {l1 : Int32} {l2 : Int32}, f_X12_galeComes_22 n M l0 l1 l2 = some ans → Wt G X j_X12_galeComes b_X12_galeComes 22 [(0, rf G.1 l0), (1, .int l1), (2, .int l2)] [] M 0 0 := by
  intro n
  induction n with
  | zero =>
    intro M l0 l1 l2 h
    rw [f_X12_galeComes_22] at h
    cases h
  | succ n ih =>
    intro M l0 l1 l2 h
    rw [f_X12_galeComes_22] at h
    refine wt_iload_n (pc := 22) 1 dX12_galeComes_22 rfl ?_
    refine wt_aload_n (pc := 23) 0 dX12_galeComes_23 rfl ?_
    refine wt_getR (pc := 24) dX12_galeComes_24 fl_X12_35 (fun _ _ _ => rfl) h (fun v24 h => ?_)
    refine wt_sipush (pc := 27) (v := 167) dX12_galeComes_27 (by decide) ?_
    refine wt_iload_n (pc := 30) 2 dX12_galeComes_30 rfl ?_
    refine wt_iadd (pc := 31) dX12_galeComes_31 ?_
    refine wt_iaload (pc := 32) (kd := 21) dX12_galeComes_32 rfl rfl h (fun v32 h => ?_)
    refine wt_icmp_lt (pc := 33) (tgt := 55) dX12_galeComes_33 (by decide) (fun q => ?_) (fun q => ?_)
    · have h := ite_t q h
      refine wt_aload_n (pc := 55) 0 dX12_galeComes_55 rfl ?_
      refine wt_dup (pc := 56) dX12_galeComes_56 (rf_cat _ _) ?_
      refine wt_getI (pc := 57) dX12_galeComes_57 fl_X12_490 (fun _ _ _ => rfl) h (fun v57 h => ?_)
      refine wt_aload_n (pc := 60) 0 dX12_galeComes_60 rfl ?_
      refine wt_aload_n (pc := 61) 0 dX12_galeComes_61 rfl ?_
      refine wt_getR (pc := 62) dX12_galeComes_62 fl_X12_35 (fun _ _ _ => rfl) h (fun v62 h => ?_)
      refine wt_sipush (pc := 65) (v := 161) dX12_galeComes_65 (by decide) ?_
      refine wt_iload_n (pc := 68) 2 dX12_galeComes_68 rfl ?_
      refine wt_iadd (pc := 69) dX12_galeComes_69 ?_
      refine wt_iaload (pc := 70) (kd := 21) dX12_galeComes_70 rfl rfl h (fun v70 h => ?_)
      refine wt_cVI (pc := 71) (J' := j_X12_blows) (As := [.int v70]) (st := [.int v57, rf G.1 l0]) (B' := b_X12_blows) (u' := 0) (w' := 0) dX12_galeComes_71 ml_X12_406 mv_X12_blows (fun v9 M9 e9 => c_X12_blows e9) rfl (by decide) rfl rfl (by decide) (by decide) (by simp [rf_cat, cat_i, cat_l, cat_r]) rfl h (fun v71 M71 h => ?_)
      refine wt_iadd (pc := 74) dX12_galeComes_74 ?_
      refine wt_putI (pc := 75) dX12_galeComes_75 fl_X12_490 rfl rfl h (fun M75 h => ?_)
      refine wt_iconst (pc := 78) (v := 1) dX12_galeComes_78 (by decide) ?_
      cases h
      exact he 79 _ _ _ dX12_galeComes_79 (by decide) (by decide)
    · have h := ite_f q h
      refine wt_iload_n (pc := 36) 1 dX12_galeComes_36 rfl ?_
      refine wt_aload_n (pc := 37) 0 dX12_galeComes_37 rfl ?_
      refine wt_getR (pc := 38) dX12_galeComes_38 fl_X12_35 (fun _ _ _ => rfl) h (fun v38 h => ?_)
      refine wt_sipush (pc := 41) (v := 167) dX12_galeComes_41 (by decide) ?_
      refine wt_iload_n (pc := 44) 2 dX12_galeComes_44 rfl ?_
      refine wt_iadd (pc := 45) dX12_galeComes_45 ?_
      refine wt_iaload (pc := 46) (kd := 21) dX12_galeComes_46 rfl rfl h (fun v46 h => ?_)
      refine wt_isub (pc := 47) dX12_galeComes_47 ?_
      refine wt_nmI h (fun x48 h => ?_)
      refine wt_istore_n (pc := 48) (i := 1) (ls' := [(1, .int x48), (0, rf G.1 l0), (2, .int l2)]) rfl dX12_galeComes_48 (by decide) (by simp [rf_cat, cat_i, cat_l, cat_r]) ?_
      refine wt_iinc (pc := 49) (d := 1) (ls' := [(2, .int (l2 + 1)), (1, .int x48), (0, rf G.1 l0)]) 2 dX12_galeComes_49 rfl (by decide) (by decide) rfl ?_
      refine wt_goto (pc := 52) (tgt := 22) dX12_galeComes_52 (by decide) ?_
      refine wt_sub (ls' := [(0, rf G.1 l0), (1, .int x48), (2, .int (l2 + 1))]) [2, 1, 0] rfl ?_
      exact ih h
set_option maxHeartbeats 4000000 in
set_option maxRecDepth 100000 in
theorem t_X12_galeComes_e {G : GG} {X : CX} {ans : Int32 × Mm} (he : EndI G X j_X12_galeComes b_X12_galeComes ans) {M : Mm} {l0 : Option Nat} (h : g_X12_galeComes M l0 = some ans) : Wt G X j_X12_galeComes b_X12_galeComes 0 [(0, rf G.1 l0)] [] M 0 0 := by
  unfold g_X12_galeComes at h
  refine wt_aload_n (pc := 0) 0 dX12_galeComes_0 rfl ?_
  refine wt_getR (pc := 1) dX12_galeComes_1 fl_X12_35 (fun _ _ _ => rfl) h (fun v1 h => ?_)
  refine wt_iconst (pc := 4) (v := 2) dX12_galeComes_4 (by decide) ?_
  refine wt_iaload (pc := 5) (kd := 21) dX12_galeComes_5 rfl rfl h (fun v5 h => ?_)
  refine wt_if_ne (pc := 6) (tgt := 11) dX12_galeComes_6 (by decide) (fun q => ?_) (fun q => ?_)
  · have h := ite_f q h
    refine wt_aload_n (pc := 11) 0 dX12_galeComes_11 rfl ?_
    refine wt_aload_n (pc := 12) 0 dX12_galeComes_12 rfl ?_
    refine wt_cVI (pc := 13) (J' := j_X12_allChances) (As := []) (st := [rf G.1 l0]) (B' := b_X12_allChances) (u' := 0) (w' := 0) dX12_galeComes_13 ml_X12_338 mv_X12_allChances (fun v9 M9 e9 => c_X12_allChances e9) rfl (by decide) rfl rfl (by decide) (by decide) (by simp [rf_cat, cat_i, cat_l, cat_r]) rfl h (fun v13 M13 h => ?_)
    refine wt_cVI (pc := 16) (J' := j_X12_draw) (As := [.int v13]) (st := []) (B' := b_X12_draw) (u' := 0) (w' := 0) dX12_galeComes_16 ml_X12_487 mv_X12_draw (fun v9 M9 e9 => c_X12_draw e9) rfl (by decide) rfl rfl (by decide) (by decide) (by decide) rfl h (fun v16 M16 h => ?_)
    refine wt_istore_n (pc := 19) (i := 1) (ls' := [(1, .int v16), (0, rf G.1 l0)]) rfl dX12_galeComes_19 (by decide) (by simp [rf_cat, cat_i, cat_l, cat_r]) ?_
    refine wt_iconst (pc := 20) (v := 0) dX12_galeComes_20 (by decide) ?_
    refine wt_istore_n (pc := 21) (i := 2) (ls' := [(2, .int 0), (1, .int v16), (0, rf G.1 l0)]) rfl dX12_galeComes_21 (by decide) rfl ?_
    refine wt_sub (ls' := [(0, rf G.1 l0), (1, .int v16), (2, .int 0)]) [2, 1, 0] rfl ?_
    exact t_X12_galeComes_22 he  fu h
  · have h := ite_t q h
    refine wt_iconst (pc := 9) (v := 0) dX12_galeComes_9 (by decide) ?_
    cases h
    exact he 10 _ _ _ dX12_galeComes_10 (by decide) (by decide)
set_option maxHeartbeats 4000000 in
set_option maxRecDepth 100000 in
theorem c_X12_galeComes {G : GG} {M : Mm} {l0 : Option Nat} {r : Int32 × Mm} (h : f_X12_galeComes M l0 = some r) (l : Launch) : Ct l G j_X12_galeComes b_X12_galeComes [rf G.1 l0] M (some (.int r.1)) r.2 := cf_Z h (by decide +kernel) (by simp [lg_sl, rf_cat, cat_i, cat_l, j_X12_galeComes]) rfl (by simp [lv_args, rf_cat, cat_i, cat_l]) (fun h X he => t_X12_galeComes_e he h)
def g_X12_does (M : Mm) (l0 : Option Nat) (l1 : Int32) : Option (Int32 × Mm) := gfR M l0 12 20 fun v1 => alI M v1 21 l1 fun v5 => if v5 = 0 then (gfR M l0 12 20 fun v12 => alI M v12 21 4 fun v16 => gfR M l0 12 20 fun v18 => alI M v18 21 (l1 + 1) fun v24 => if (v16 + v24) ≤ 9999 then (gfI M l0 12 42 fun v36 => gfR M l0 12 20 fun v41 => alI M v41 21 (l1 + 1) fun v47 => ck M l0 12 <| bd (f_X12_hours M l0 v47) fun v48 M48 => pfI M48 l0 12 42 (v36 + v48) fun M52 => gfI M52 l0 12 41 fun v57 => gfR M52 l0 12 20 fun v61 => alI M52 v61 21 (l1 + 1) fun v67 => pfI M52 l0 12 41 (v57 + v67) fun M69 => some (1, M69)) else (some (0, M))) else (if v5 = 1 then (ck M l0 12 <| bd (f_X12_galeComes M l0) fun v80 M80 => some (v80, M80)) else (if v5 = 3 then (gfR M l0 12 20 fun v91 => alI M v91 21 (l1 + 2) fun v97 => gfR M l0 12 20 fun v99 => alI M v99 21 (l1 + 1) fun v105 => ck M l0 12 <| bd (f_X12_lifts M l0 v97 v105) fun v106 M106 => some (v106, M106)) else (if v5 = 2 then (ck M l0 12 <| bd (f_X12_dawns M l0) fun v116 M116 => some (1, M116)) else (gfR M l0 12 20 fun v125 => alI M v125 21 (l1 + 1) fun v131 => ck M l0 12 <| bv (f_X12_drops M l0 v131) fun M132 => some (1, M132)))))
def f_X12_does (M : Mm) (l0 : Option Nat) (l1 : Int32) : Option (Int32 × Mm) := zc (g_X12_does M l0 l1)
set_option maxHeartbeats 4000000 in
set_option maxRecDepth 100000 in
theorem t_X12_does_e {G : GG} {X : CX} {ans : Int32 × Mm} (he : EndI G X j_X12_does b_X12_does ans) {M : Mm} {l0 : Option Nat} {l1 : Int32} (h : g_X12_does M l0 l1 = some ans) : Wt G X j_X12_does b_X12_does 0 [(0, rf G.1 l0), (1, .int l1)] [] M 0 0 := by
  unfold g_X12_does at h
  refine wt_aload_n (pc := 0) 0 dX12_does_0 rfl ?_
  refine wt_getR (pc := 1) dX12_does_1 fl_X12_35 (fun _ _ _ => rfl) h (fun v1 h => ?_)
  refine wt_iload_n (pc := 4) 1 dX12_does_4 rfl ?_
  refine wt_iaload (pc := 5) (kd := 21) dX12_does_5 rfl rfl h (fun v5 h => ?_)
  refine wt_istore_n (pc := 6) (i := 2) (ls' := [(2, .int v5), (0, rf G.1 l0), (1, .int l1)]) rfl dX12_does_6 (by decide) rfl ?_
  refine wt_iload_n (pc := 7) 0 dX12_does_7 rfl ?_
  refine wt_if_ne (pc := 8) (tgt := 74) dX12_does_8 (by decide) (fun q => ?_) (fun q => ?_)
  · have h := ite_f q h
    refine wt_iload_n (pc := 74) 0 dX12_does_74 rfl ?_
    refine wt_iconst (pc := 75) (v := 1) dX12_does_75 (by decide) ?_
    refine wt_icmp_ne (pc := 76) (tgt := 84) dX12_does_76 (by decide) (fun q => ?_) (fun q => ?_)
    · have h := ite_f q h
      refine wt_iload_n (pc := 84) 0 dX12_does_84 rfl ?_
      refine wt_iconst (pc := 85) (v := 3) dX12_does_85 (by decide) ?_
      refine wt_icmp_ne (pc := 86) (tgt := 110) dX12_does_86 (by decide) (fun q => ?_) (fun q => ?_)
      · have h := ite_f q h
        refine wt_iload_n (pc := 110) 0 dX12_does_110 rfl ?_
        refine wt_iconst (pc := 111) (v := 2) dX12_does_111 (by decide) ?_
        refine wt_icmp_ne (pc := 112) (tgt := 123) dX12_does_112 (by decide) (fun q => ?_) (fun q => ?_)
        · have h := ite_f q h
          refine wt_aload_n (pc := 123) 1 dX12_does_123 rfl ?_
          refine wt_aload_n (pc := 124) 1 dX12_does_124 rfl ?_
          refine wt_getR (pc := 125) dX12_does_125 fl_X12_35 (fun _ _ _ => rfl) h (fun v125 h => ?_)
          refine wt_iload_n (pc := 128) 2 dX12_does_128 rfl ?_
          refine wt_iconst (pc := 129) (v := 1) dX12_does_129 (by decide) ?_
          refine wt_iadd (pc := 130) dX12_does_130 ?_
          refine wt_iaload (pc := 131) (kd := 21) dX12_does_131 rfl rfl h (fun v131 h => ?_)
          refine wt_cVV (pc := 132) (J' := j_X12_drops) (As := [.int v131]) (st := []) (B' := b_X12_drops) (u' := 0) (w' := 0) dX12_does_132 ml_X12_381 mv_X12_drops (fun M9 e9 => c_X12_drops e9) rfl (by decide) rfl rfl (by decide) (by decide) (by decide) rfl h (fun M132 h => ?_)
          refine wt_iconst (pc := 135) (v := 1) dX12_does_135 (by decide) ?_
          cases h
          exact he 136 _ _ _ dX12_does_136 (by decide) (by decide)
        · have h := ite_t q h
          refine wt_aload_n (pc := 115) 1 dX12_does_115 rfl ?_
          refine wt_cVI (pc := 116) (J' := j_X12_dawns) (As := []) (st := []) (B' := b_X12_dawns) (u' := 0) (w' := 0) dX12_does_116 ml_X12_409 mv_X12_dawns (fun v9 M9 e9 => c_X12_dawns e9) rfl (by decide) rfl rfl (by decide) (by decide) (by decide) rfl h (fun v116 M116 h => ?_)
          refine wt_pop (pc := 119) dX12_does_119 rfl ?_
          refine wt_goto (pc := 120) (tgt := 135) dX12_does_120 (by decide) ?_
          refine wt_iconst (pc := 135) (v := 1) dX12_does_135 (by decide) ?_
          cases h
          exact he 136 _ _ _ dX12_does_136 (by decide) (by decide)
      · have h := ite_t q h
        refine wt_aload_n (pc := 89) 1 dX12_does_89 rfl ?_
        refine wt_aload_n (pc := 90) 1 dX12_does_90 rfl ?_
        refine wt_getR (pc := 91) dX12_does_91 fl_X12_35 (fun _ _ _ => rfl) h (fun v91 h => ?_)
        refine wt_iload_n (pc := 94) 2 dX12_does_94 rfl ?_
        refine wt_iconst (pc := 95) (v := 2) dX12_does_95 (by decide) ?_
        refine wt_iadd (pc := 96) dX12_does_96 ?_
        refine wt_iaload (pc := 97) (kd := 21) dX12_does_97 rfl rfl h (fun v97 h => ?_)
        refine wt_aload_n (pc := 98) 1 dX12_does_98 rfl ?_
        refine wt_getR (pc := 99) dX12_does_99 fl_X12_35 (fun _ _ _ => rfl) h (fun v99 h => ?_)
        refine wt_iload_n (pc := 102) 2 dX12_does_102 rfl ?_
        refine wt_iconst (pc := 103) (v := 1) dX12_does_103 (by decide) ?_
        refine wt_iadd (pc := 104) dX12_does_104 ?_
        refine wt_iaload (pc := 105) (kd := 21) dX12_does_105 rfl rfl h (fun v105 h => ?_)
        refine wt_cVI (pc := 106) (J' := j_X12_lifts) (As := [.int v97, .int v105]) (st := []) (B' := b_X12_lifts) (u' := 0) (w' := 0) dX12_does_106 ml_X12_378 mv_X12_lifts (fun v9 M9 e9 => c_X12_lifts e9) rfl (by decide) rfl rfl (by decide) (by decide) (by decide) rfl h (fun v106 M106 h => ?_)
        cases h
        exact he 109 _ _ _ dX12_does_109 (by decide) (by decide)
    · have h := ite_t q h
      refine wt_aload_n (pc := 79) 1 dX12_does_79 rfl ?_
      refine wt_cVI (pc := 80) (J' := j_X12_galeComes) (As := []) (st := []) (B' := b_X12_galeComes) (u' := 0) (w' := 0) dX12_does_80 ml_X12_499 mv_X12_galeComes (fun v9 M9 e9 => c_X12_galeComes e9) rfl (by decide) rfl rfl (by decide) (by decide) (by decide) rfl h (fun v80 M80 h => ?_)
      cases h
      exact he 83 _ _ _ dX12_does_83 (by decide) (by decide)
  · have h := ite_t q h
    refine wt_aload_n (pc := 11) 1 dX12_does_11 rfl ?_
    refine wt_getR (pc := 12) dX12_does_12 fl_X12_35 (fun _ _ _ => rfl) h (fun v12 h => ?_)
    refine wt_iconst (pc := 15) (v := 4) dX12_does_15 (by decide) ?_
    refine wt_iaload (pc := 16) (kd := 21) dX12_does_16 rfl rfl h (fun v16 h => ?_)
    refine wt_aload_n (pc := 17) 1 dX12_does_17 rfl ?_
    refine wt_getR (pc := 18) dX12_does_18 fl_X12_35 (fun _ _ _ => rfl) h (fun v18 h => ?_)
    refine wt_iload_n (pc := 21) 2 dX12_does_21 rfl ?_
    refine wt_iconst (pc := 22) (v := 1) dX12_does_22 (by decide) ?_
    refine wt_iadd (pc := 23) dX12_does_23 ?_
    refine wt_iaload (pc := 24) (kd := 21) dX12_does_24 rfl rfl h (fun v24 h => ?_)
    refine wt_iadd (pc := 25) dX12_does_25 ?_
    refine wt_sipush (pc := 26) (v := 9999) dX12_does_26 (by decide) ?_
    refine wt_icmp_le (pc := 29) (tgt := 34) dX12_does_29 (by decide) (fun q => ?_) (fun q => ?_)
    · have h := ite_t q h
      refine wt_aload_n (pc := 34) 1 dX12_does_34 rfl ?_
      refine wt_dup (pc := 35) dX12_does_35 (rf_cat _ _) ?_
      refine wt_getI (pc := 36) dX12_does_36 fl_X12_493 (fun _ _ _ => rfl) h (fun v36 h => ?_)
      refine wt_aload_n (pc := 39) 1 dX12_does_39 rfl ?_
      refine wt_aload_n (pc := 40) 1 dX12_does_40 rfl ?_
      refine wt_getR (pc := 41) dX12_does_41 fl_X12_35 (fun _ _ _ => rfl) h (fun v41 h => ?_)
      refine wt_iload_n (pc := 44) 2 dX12_does_44 rfl ?_
      refine wt_iconst (pc := 45) (v := 1) dX12_does_45 (by decide) ?_
      refine wt_iadd (pc := 46) dX12_does_46 ?_
      refine wt_iaload (pc := 47) (kd := 21) dX12_does_47 rfl rfl h (fun v47 h => ?_)
      refine wt_cVI (pc := 48) (J' := j_X12_hours) (As := [.int v47]) (st := [.int v36, rf G.1 l0]) (B' := b_X12_hours) (u' := 0) (w' := 0) dX12_does_48 ml_X12_395 mv_X12_hours (fun v9 M9 e9 => c_X12_hours e9) rfl (by decide) rfl rfl (by decide) (by decide) (by simp [rf_cat, cat_i, cat_l, cat_r]) rfl h (fun v48 M48 h => ?_)
      refine wt_iadd (pc := 51) dX12_does_51 ?_
      refine wt_putI (pc := 52) dX12_does_52 fl_X12_493 rfl rfl h (fun M52 h => ?_)
      refine wt_aload_n (pc := 55) 1 dX12_does_55 rfl ?_
      refine wt_dup (pc := 56) dX12_does_56 (rf_cat _ _) ?_
      refine wt_getI (pc := 57) dX12_does_57 fl_X12_496 (fun _ _ _ => rfl) h (fun v57 h => ?_)
      refine wt_aload_n (pc := 60) 1 dX12_does_60 rfl ?_
      refine wt_getR (pc := 61) dX12_does_61 fl_X12_35 (fun _ _ _ => rfl) h (fun v61 h => ?_)
      refine wt_iload_n (pc := 64) 2 dX12_does_64 rfl ?_
      refine wt_iconst (pc := 65) (v := 1) dX12_does_65 (by decide) ?_
      refine wt_iadd (pc := 66) dX12_does_66 ?_
      refine wt_iaload (pc := 67) (kd := 21) dX12_does_67 rfl rfl h (fun v67 h => ?_)
      refine wt_iadd (pc := 68) dX12_does_68 ?_
      refine wt_putI (pc := 69) dX12_does_69 fl_X12_496 rfl rfl h (fun M69 h => ?_)
      refine wt_iconst (pc := 72) (v := 1) dX12_does_72 (by decide) ?_
      cases h
      exact he 73 _ _ _ dX12_does_73 (by decide) (by decide)
    · have h := ite_f q h
      refine wt_iconst (pc := 32) (v := 0) dX12_does_32 (by decide) ?_
      cases h
      exact he 33 _ _ _ dX12_does_33 (by decide) (by decide)
set_option maxHeartbeats 4000000 in
set_option maxRecDepth 100000 in
theorem c_X12_does {G : GG} {M : Mm} {l0 : Option Nat} {l1 : Int32} {r : Int32 × Mm} (h : f_X12_does M l0 l1 = some r) (l : Launch) : Ct l G j_X12_does b_X12_does [rf G.1 l0, .int l1] M (some (.int r.1)) r.2 := cf_Z h (by decide +kernel) (by simp [lg_sl, rf_cat, cat_i, cat_l, j_X12_does]) rfl (by simp [lv_args, rf_cat, cat_i, cat_l]) (fun h X he => t_X12_does_e he h)
def g_X12_isSo (M : Mm) (l0 : Option Nat) (l1 : Int32) : Option (Int32 × Mm) := gfR M l0 12 20 fun v1 => alI M v1 21 (l1 + 6) fun v8 => gfR M l0 12 20 fun v11 => alI M v11 21 (l1 + 1) fun v17 => if v8 = 0 then (ck M l0 12 <| bd (f_X12_stands M l0 v17) fun v25 M25 => if v25 = 0 then (some (0, M25)) else (gfR M25 l0 12 20 fun v32 => alI M25 v32 21 (53 + v17) fun v39 => if v39 = 0 then (some (1, M25)) else (some (0, M25)))) else (if v8 = 1 then (ck M l0 12 <| bd (f_X12_stands M l0 v17) fun v56 M56 => some (v56, M56)) else (ck M l0 12 <| bd (f_X12_worthOf M l0 1) fun v62 M62 => gfR M62 l0 12 20 fun v68 => alI M62 v68 21 (l1 + 7) fun v75 => if v75 = 60 then (gfR M62 l0 12 20 fun v84 => alI M62 v84 21 (l1 + 2) fun v90 => if v90 ≤ v62 then (some (0, M62)) else (some (1, M62))) else (gfR M62 l0 12 20 fun v103 => alI M62 v103 21 (l1 + 7) fun v110 => if v110 = 62 then (gfR M62 l0 12 20 fun v119 => alI M62 v119 21 (l1 + 2) fun v125 => if v62 ≤ v125 then (some (0, M62)) else (some (1, M62))) else (gfR M62 l0 12 20 fun v140 => alI M62 v140 21 (l1 + 2) fun v146 => if v62 = v146 then (some (1, M62)) else (some (0, M62))))))
def f_X12_isSo (M : Mm) (l0 : Option Nat) (l1 : Int32) : Option (Int32 × Mm) := zc (g_X12_isSo M l0 l1)
set_option maxHeartbeats 4000000 in
set_option maxRecDepth 100000 in
theorem t_X12_isSo_e {G : GG} {X : CX} {ans : Int32 × Mm} (he : EndI G X j_X12_isSo b_X12_isSo ans) {M : Mm} {l0 : Option Nat} {l1 : Int32} (h : g_X12_isSo M l0 l1 = some ans) : Wt G X j_X12_isSo b_X12_isSo 0 [(0, rf G.1 l0), (1, .int l1)] [] M 0 0 := by
  unfold g_X12_isSo at h
  refine wt_aload_n (pc := 0) 0 dX12_isSo_0 rfl ?_
  refine wt_getR (pc := 1) dX12_isSo_1 fl_X12_35 (fun _ _ _ => rfl) h (fun v1 h => ?_)
  refine wt_iload_n (pc := 4) 1 dX12_isSo_4 rfl ?_
  refine wt_bipush (pc := 5) (v := 6) dX12_isSo_5 (by decide) ?_
  refine wt_iadd (pc := 7) dX12_isSo_7 ?_
  refine wt_iaload (pc := 8) (kd := 21) dX12_isSo_8 rfl rfl h (fun v8 h => ?_)
  refine wt_istore_n (pc := 9) (i := 2) (ls' := [(2, .int v8), (0, rf G.1 l0), (1, .int l1)]) rfl dX12_isSo_9 (by decide) rfl ?_
  refine wt_aload_n (pc := 10) 1 dX12_isSo_10 rfl ?_
  refine wt_getR (pc := 11) dX12_isSo_11 fl_X12_35 (fun _ _ _ => rfl) h (fun v11 h => ?_)
  refine wt_iload_n (pc := 14) 2 dX12_isSo_14 rfl ?_
  refine wt_iconst (pc := 15) (v := 1) dX12_isSo_15 (by decide) ?_
  refine wt_iadd (pc := 16) dX12_isSo_16 ?_
  refine wt_iaload (pc := 17) (kd := 21) dX12_isSo_17 rfl rfl h (fun v17 h => ?_)
  refine wt_istore_n (pc := 18) (i := 3) (ls' := [(3, .int v17), (2, .int v8), (0, rf G.1 l0), (1, .int l1)]) rfl dX12_isSo_18 (by decide) rfl ?_
  refine wt_iload_n (pc := 19) 1 dX12_isSo_19 rfl ?_
  refine wt_if_ne (pc := 20) (tgt := 49) dX12_isSo_20 (by decide) (fun q => ?_) (fun q => ?_)
  · have h := ite_f q h
    refine wt_iload_n (pc := 49) 1 dX12_isSo_49 rfl ?_
    refine wt_iconst (pc := 50) (v := 1) dX12_isSo_50 (by decide) ?_
    refine wt_icmp_ne (pc := 51) (tgt := 60) dX12_isSo_51 (by decide) (fun q => ?_) (fun q => ?_)
    · have h := ite_f q h
      refine wt_aload_n (pc := 60) 2 dX12_isSo_60 rfl ?_
      refine wt_iconst (pc := 61) (v := 1) dX12_isSo_61 (by decide) ?_
      refine wt_cVI (pc := 62) (J' := j_X12_worthOf) (As := [.int 1]) (st := []) (B' := b_X12_worthOf) (u' := 0) (w' := 0) dX12_isSo_62 ml_X12_334 mv_X12_worthOf (fun v9 M9 e9 => c_X12_worthOf e9) rfl (by decide) rfl rfl (by decide) (by decide) (by decide) rfl h (fun v62 M62 h => ?_)
      refine wt_istore (pc := 65) (i := 4) (ls' := [(4, .int v62), (3, .int v17), (2, .int v8), (0, rf G.1 l0), (1, .int l1)]) dX12_isSo_65 (by decide) rfl ?_
      refine wt_aload_n (pc := 67) 3 dX12_isSo_67 rfl ?_
      refine wt_getR (pc := 68) dX12_isSo_68 fl_X12_35 (fun _ _ _ => rfl) h (fun v68 h => ?_)
      refine wt_iload_n (pc := 71) 4 dX12_isSo_71 rfl ?_
      refine wt_bipush (pc := 72) (v := 7) dX12_isSo_72 (by decide) ?_
      refine wt_iadd (pc := 74) dX12_isSo_74 ?_
      refine wt_iaload (pc := 75) (kd := 21) dX12_isSo_75 rfl rfl h (fun v75 h => ?_)
      refine wt_bipush (pc := 76) (v := 60) dX12_isSo_76 (by decide) ?_
      refine wt_icmp_ne (pc := 78) (tgt := 102) dX12_isSo_78 (by decide) (fun q => ?_) (fun q => ?_)
      · have h := ite_f q h
        refine wt_aload_n (pc := 102) 3 dX12_isSo_102 rfl ?_
        refine wt_getR (pc := 103) dX12_isSo_103 fl_X12_35 (fun _ _ _ => rfl) h (fun v103 h => ?_)
        refine wt_iload_n (pc := 106) 4 dX12_isSo_106 rfl ?_
        refine wt_bipush (pc := 107) (v := 7) dX12_isSo_107 (by decide) ?_
        refine wt_iadd (pc := 109) dX12_isSo_109 ?_
        refine wt_iaload (pc := 110) (kd := 21) dX12_isSo_110 rfl rfl h (fun v110 h => ?_)
        refine wt_bipush (pc := 111) (v := 62) dX12_isSo_111 (by decide) ?_
        refine wt_icmp_ne (pc := 113) (tgt := 137) dX12_isSo_113 (by decide) (fun q => ?_) (fun q => ?_)
        · have h := ite_f q h
          refine wt_iload (pc := 137) 0 dX12_isSo_137 rfl ?_
          refine wt_aload_n (pc := 139) 3 dX12_isSo_139 rfl ?_
          refine wt_getR (pc := 140) dX12_isSo_140 fl_X12_35 (fun _ _ _ => rfl) h (fun v140 h => ?_)
          refine wt_iload_n (pc := 143) 4 dX12_isSo_143 rfl ?_
          refine wt_iconst (pc := 144) (v := 2) dX12_isSo_144 (by decide) ?_
          refine wt_iadd (pc := 145) dX12_isSo_145 ?_
          refine wt_iaload (pc := 146) (kd := 21) dX12_isSo_146 rfl rfl h (fun v146 h => ?_)
          refine wt_icmp_ne (pc := 147) (tgt := 154) dX12_isSo_147 (by decide) (fun q => ?_) (fun q => ?_)
          · have h := ite_f q h
            refine wt_iconst (pc := 154) (v := 0) dX12_isSo_154 (by decide) ?_
            cases h
            exact he 155 _ _ _ dX12_isSo_155 (by decide) (by decide)
          · have h := ite_t q h
            refine wt_iconst (pc := 150) (v := 1) dX12_isSo_150 (by decide) ?_
            refine wt_goto (pc := 151) (tgt := 155) dX12_isSo_151 (by decide) ?_
            cases h
            exact he 155 _ _ _ dX12_isSo_155 (by decide) (by decide)
        · have h := ite_t q h
          refine wt_iload (pc := 116) 0 dX12_isSo_116 rfl ?_
          refine wt_aload_n (pc := 118) 3 dX12_isSo_118 rfl ?_
          refine wt_getR (pc := 119) dX12_isSo_119 fl_X12_35 (fun _ _ _ => rfl) h (fun v119 h => ?_)
          refine wt_iload_n (pc := 122) 4 dX12_isSo_122 rfl ?_
          refine wt_iconst (pc := 123) (v := 2) dX12_isSo_123 (by decide) ?_
          refine wt_iadd (pc := 124) dX12_isSo_124 ?_
          refine wt_iaload (pc := 125) (kd := 21) dX12_isSo_125 rfl rfl h (fun v125 h => ?_)
          refine wt_icmp_le (pc := 126) (tgt := 133) dX12_isSo_126 (by decide) (fun q => ?_) (fun q => ?_)
          · have h := ite_t q h
            refine wt_iconst (pc := 133) (v := 0) dX12_isSo_133 (by decide) ?_
            refine wt_goto (pc := 134) (tgt := 155) dX12_isSo_134 (by decide) ?_
            cases h
            exact he 155 _ _ _ dX12_isSo_155 (by decide) (by decide)
          · have h := ite_f q h
            refine wt_iconst (pc := 129) (v := 1) dX12_isSo_129 (by decide) ?_
            refine wt_goto (pc := 130) (tgt := 155) dX12_isSo_130 (by decide) ?_
            cases h
            exact he 155 _ _ _ dX12_isSo_155 (by decide) (by decide)
      · have h := ite_t q h
        refine wt_iload (pc := 81) 0 dX12_isSo_81 rfl ?_
        refine wt_aload_n (pc := 83) 3 dX12_isSo_83 rfl ?_
        refine wt_getR (pc := 84) dX12_isSo_84 fl_X12_35 (fun _ _ _ => rfl) h (fun v84 h => ?_)
        refine wt_iload_n (pc := 87) 4 dX12_isSo_87 rfl ?_
        refine wt_iconst (pc := 88) (v := 2) dX12_isSo_88 (by decide) ?_
        refine wt_iadd (pc := 89) dX12_isSo_89 ?_
        refine wt_iaload (pc := 90) (kd := 21) dX12_isSo_90 rfl rfl h (fun v90 h => ?_)
        refine wt_icmp_ge (pc := 91) (tgt := 98) dX12_isSo_91 (by decide) (fun q => ?_) (fun q => ?_)
        · have h := ite_t q h
          refine wt_iconst (pc := 98) (v := 0) dX12_isSo_98 (by decide) ?_
          refine wt_goto (pc := 99) (tgt := 155) dX12_isSo_99 (by decide) ?_
          cases h
          exact he 155 _ _ _ dX12_isSo_155 (by decide) (by decide)
        · have h := ite_f q h
          refine wt_iconst (pc := 94) (v := 1) dX12_isSo_94 (by decide) ?_
          refine wt_goto (pc := 95) (tgt := 155) dX12_isSo_95 (by decide) ?_
          cases h
          exact he 155 _ _ _ dX12_isSo_155 (by decide) (by decide)
    · have h := ite_t q h
      refine wt_aload_n (pc := 54) 2 dX12_isSo_54 rfl ?_
      refine wt_iload_n (pc := 55) 0 dX12_isSo_55 rfl ?_
      refine wt_cVI (pc := 56) (J' := j_X12_stands) (As := [.int v17]) (st := []) (B' := b_X12_stands) (u' := 0) (w' := 0) dX12_isSo_56 ml_X12_324 mv_X12_stands (fun v9 M9 e9 => c_X12_stands e9) rfl (by decide) rfl rfl (by decide) (by decide) (by decide) rfl h (fun v56 M56 h => ?_)
      cases h
      exact he 59 _ _ _ dX12_isSo_59 (by decide) (by decide)
  · have h := ite_t q h
    refine wt_aload_n (pc := 23) 2 dX12_isSo_23 rfl ?_
    refine wt_iload_n (pc := 24) 0 dX12_isSo_24 rfl ?_
    refine wt_cVI (pc := 25) (J' := j_X12_stands) (As := [.int v17]) (st := []) (B' := b_X12_stands) (u' := 0) (w' := 0) dX12_isSo_25 ml_X12_324 mv_X12_stands (fun v9 M9 e9 => c_X12_stands e9) rfl (by decide) rfl rfl (by decide) (by decide) (by decide) rfl h (fun v25 M25 h => ?_)
    refine wt_if_eq (pc := 28) (tgt := 47) dX12_isSo_28 (by decide) (fun q => ?_) (fun q => ?_)
    · have h := ite_t q h
      refine wt_iconst (pc := 47) (v := 0) dX12_isSo_47 (by decide) ?_
      cases h
      exact he 48 _ _ _ dX12_isSo_48 (by decide) (by decide)
    · have h := ite_f q h
      refine wt_aload_n (pc := 31) 2 dX12_isSo_31 rfl ?_
      refine wt_getR (pc := 32) dX12_isSo_32 fl_X12_35 (fun _ _ _ => rfl) h (fun v32 h => ?_)
      refine wt_bipush (pc := 35) (v := 53) dX12_isSo_35 (by decide) ?_
      refine wt_iload_n (pc := 37) 0 dX12_isSo_37 rfl ?_
      refine wt_iadd (pc := 38) dX12_isSo_38 ?_
      refine wt_iaload (pc := 39) (kd := 21) dX12_isSo_39 rfl rfl h (fun v39 h => ?_)
      refine wt_if_ne (pc := 40) (tgt := 47) dX12_isSo_40 (by decide) (fun q => ?_) (fun q => ?_)
      · have h := ite_f q h
        refine wt_iconst (pc := 47) (v := 0) dX12_isSo_47 (by decide) ?_
        cases h
        exact he 48 _ _ _ dX12_isSo_48 (by decide) (by decide)
      · have h := ite_t q h
        refine wt_iconst (pc := 43) (v := 1) dX12_isSo_43 (by decide) ?_
        refine wt_goto (pc := 44) (tgt := 48) dX12_isSo_44 (by decide) ?_
        cases h
        exact he 48 _ _ _ dX12_isSo_48 (by decide) (by decide)
set_option maxHeartbeats 4000000 in
set_option maxRecDepth 100000 in
theorem c_X12_isSo {G : GG} {M : Mm} {l0 : Option Nat} {l1 : Int32} {r : Int32 × Mm} (h : f_X12_isSo M l0 l1 = some r) (l : Launch) : Ct l G j_X12_isSo b_X12_isSo [rf G.1 l0, .int l1] M (some (.int r.1)) r.2 := cf_Z h (by decide +kernel) (by simp [lg_sl, rf_cat, cat_i, cat_l, j_X12_isSo]) rfl (by simp [lv_args, rf_cat, cat_i, cat_l]) (fun h X he => t_X12_isSo_e he h)
def f_X12_doOne_118 (rc : Mm → Option Nat → Int32 → Int32 → Option (Mm)) : Nat → Mm → Option Nat → Int32 → Int32 → Int32 → Option (Mm)
  | 0, _, _, _, _, _ => none
  | n + 1, M, l0, l1, l2, l4 => gfR M l0 12 20 fun v121 => alI M v121 21 (l2 + 1) fun v127 => if v127 ≤ l4 then (some M) else (gfI M l0 12 37 fun v132 => if v132 = 0 then (gfR M l0 12 20 fun v143 => alI M v143 21 (l2 + 8) fun v150 => ck M l0 12 <| bv (rc M l0 (l1 + 1) v150) fun M151 => f_X12_doOne_118 rc n M151 l0 l1 l2 (l4 + 1)) else (some M))
def f_X12_doOne_109 (rc : Mm → Option Nat → Int32 → Int32 → Option (Mm)) (M : Mm) (l0 : Option Nat) (l1 : Int32) (l2 : Int32) (l3 : Int32) : Option (Mm) := if l3 = 6 then (f_X12_doOne_118 rc  fu M l0 l1 l2 0) else (if l3 ≤ 6 then (some M) else (pfZ M l0 12 37 1 fun M171 => some M171))
def f_X12_doOne_70 (rc : Mm → Option Nat → Int32 → Int32 → Option (Mm)) (M : Mm) (s0 : Option Nat) (s1 : Int32) (s2 : Int32) : Option (Mm) := pfI M s0 12 40 (s1 + s2) fun M71 => some M71
def f_X12_doOne (rc : Mm → Option Nat → Int32 → Int32 → Option (Mm)) (M : Mm) (l0 : Option Nat) (l1 : Int32) : Option (Mm) := gfI M l0 12 39 fun v1 => if v1 = 300 then (pfZ M l0 12 37 1 fun M12 => pfI M12 l0 12 44 1 fun M17 => some M17) else (gfI M l0 12 39 fun v23 => pfI M l0 12 39 (v23 + 1) fun M28 => nmI (175 + (9 * l1)) fun x39 => gfR M28 l0 12 20 fun v41 => alI M28 v41 21 x39 fun v45 => if 5 ≤ v45 then (if v45 = 5 then (ck M28 l0 12 <| bd (f_X12_isSo M28 l0 x39) fun v84 M84 => if v84 = 0 then (f_X12_doOne_109 rc  M84 l0 l1 x39 v45) else (gfR M84 l0 12 20 fun v95 => alI M84 v95 21 (x39 + 8) fun v102 => ck M84 l0 12 <| bv (rc M84 l0 (l1 + 1) v102) fun M103 => some M103)) else (f_X12_doOne_109 rc  M28 l0 l1 x39 v45)) else (gfI M28 l0 12 40 fun v54 => ck M28 l0 12 <| bd (f_X12_does M28 l0 x39) fun v59 M59 => if v59 = 0 then (f_X12_doOne_70 rc  M59 l0 v54 1) else (f_X12_doOne_70 rc  M59 l0 v54 0)))
set_option maxHeartbeats 4000000 in
set_option maxRecDepth 100000 in
theorem t_X12_doOne_118 {G : GG} {X : CX} {d : Nat} {ans : Mm} (he : EndV G X j_X12_doOne (b_X12_doOne d) ans) {rc : Mm → Option Nat → Int32 → Int32 → Option (Mm)} (hrc : ∀ {M : Mm} {l0 : Option Nat} {l1 : Int32} {l2 : Int32} {r : Mm}, rc M l0 l1 l2 = some r → ∀ l, Ct l G j_X12_doAll (b_X12_doAll d) [rf G.1 l0, .int l1, .int l2] M none r) : ∀ (n : Nat) {M : Mm} {l0 : Option Nat} {l1 : Int32} {l2 : Int32} {l4 : Int32}, f_X12_doOne_118 rc n M l0 l1 l2 l4 = some ans → Wt G X j_X12_doOne (b_X12_doOne d) 118 [(0, rf G.1 l0), (1, .int l1), (2, .int l2), (4, .int l4)] [] M 0 0 := by
  intro n
  induction n with
  | zero =>
    intro M l0 l1 l2 l4 h
    rw [f_X12_doOne_118] at h
    cases h
  | succ n ih =>
    intro M l0 l1 l2 l4 h
    rw [f_X12_doOne_118] at h
    refine wt_iload (pc := 118) 3 dX12_doOne_118 rfl ?_
    refine wt_aload_n (pc := 120) 0 dX12_doOne_120 rfl ?_
    refine wt_getR (pc := 121) dX12_doOne_121 fl_X12_35 (fun _ _ _ => rfl) h (fun v121 h => ?_)
    refine wt_iload_n (pc := 124) 2 dX12_doOne_124 rfl ?_
    refine wt_iconst (pc := 125) (v := 1) dX12_doOne_125 (by decide) ?_
    refine wt_iadd (pc := 126) dX12_doOne_126 ?_
    refine wt_iaload (pc := 127) (kd := 21) dX12_doOne_127 rfl rfl h (fun v127 h => ?_)
    refine wt_icmp_ge (pc := 128) (tgt := 160) dX12_doOne_128 (by decide) (fun q => ?_) (fun q => ?_)
    · have h := ite_t q h
      refine wt_goto (pc := 160) (tgt := 174) dX12_doOne_160 (by decide) ?_
      cases h
      exact he 174 _ _ _ dX12_doOne_174 (Nat.zero_le _) (Nat.zero_le _)
    · have h := ite_f q h
      refine wt_aload_n (pc := 131) 0 dX12_doOne_131 rfl ?_
      refine wt_getI (pc := 132) dX12_doOne_132 fl_X12_505 (fun _ _ _ => rfl) h (fun v132 h => ?_)
      refine wt_if_ne (pc := 135) (tgt := 160) dX12_doOne_135 (by decide) (fun q => ?_) (fun q => ?_)
      · have h := ite_f q h
        refine wt_goto (pc := 160) (tgt := 174) dX12_doOne_160 (by decide) ?_
        cases h
        exact he 174 _ _ _ dX12_doOne_174 (Nat.zero_le _) (Nat.zero_le _)
      · have h := ite_t q h
        refine wt_aload_n (pc := 138) 0 dX12_doOne_138 rfl ?_
        refine wt_iload_n (pc := 139) 1 dX12_doOne_139 rfl ?_
        refine wt_iconst (pc := 140) (v := 1) dX12_doOne_140 (by decide) ?_
        refine wt_iadd (pc := 141) dX12_doOne_141 ?_
        refine wt_aload_n (pc := 142) 0 dX12_doOne_142 rfl ?_
        refine wt_getR (pc := 143) dX12_doOne_143 fl_X12_35 (fun _ _ _ => rfl) h (fun v143 h => ?_)
        refine wt_iload_n (pc := 146) 2 dX12_doOne_146 rfl ?_
        refine wt_bipush (pc := 147) (v := 8) dX12_doOne_147 (by decide) ?_
        refine wt_iadd (pc := 149) dX12_doOne_149 ?_
        refine wt_iaload (pc := 150) (kd := 21) dX12_doOne_150 rfl rfl h (fun v150 h => ?_)
        refine wt_cVV (pc := 151) (J' := j_X12_doAll) (As := [.int (l1 + 1), .int v150]) (st := []) (B' := (b_X12_doAll d)) (u' := 0) (w' := 0) dX12_doOne_151 ml_X12_520 mv_X12_doAll (fun M9 e9 => hrc e9) rfl (by simp only [b_X12_doOne, b_X12_doAll]; omega) rfl rfl (Nat.zero_le _) (Nat.zero_le _) (by decide) rfl h (fun M151 h => ?_)
        refine wt_iinc (pc := 154) (d := 1) (ls' := [(4, .int (l4 + 1)), (0, rf G.1 l0), (1, .int l1), (2, .int l2)]) 3 dX12_doOne_154 rfl (by decide) (by decide) rfl ?_
        refine wt_goto (pc := 157) (tgt := 118) dX12_doOne_157 (by decide) ?_
        refine wt_sub (ls' := [(0, rf G.1 l0), (1, .int l1), (2, .int l2), (4, .int (l4 + 1))]) [1, 2, 3, 0] rfl ?_
        exact ih h
set_option maxHeartbeats 4000000 in
set_option maxRecDepth 100000 in
theorem t_X12_doOne_109 {G : GG} {X : CX} {d : Nat} {ans : Mm} (he : EndV G X j_X12_doOne (b_X12_doOne d) ans) {rc : Mm → Option Nat → Int32 → Int32 → Option (Mm)} (hrc : ∀ {M : Mm} {l0 : Option Nat} {l1 : Int32} {l2 : Int32} {r : Mm}, rc M l0 l1 l2 = some r → ∀ l, Ct l G j_X12_doAll (b_X12_doAll d) [rf G.1 l0, .int l1, .int l2] M none r) {M : Mm} {l0 : Option Nat} {l1 : Int32} {l2 : Int32} {l3 : Int32} (h : f_X12_doOne_109 rc M l0 l1 l2 l3 = some ans) : Wt G X j_X12_doOne (b_X12_doOne d) 109 [(0, rf G.1 l0), (1, .int l1), (2, .int l2), (3, .int l3)] [] M 0 0 := by
  unfold f_X12_doOne_109 at h
  refine wt_iload_n (pc := 109) 3 dX12_doOne_109 rfl ?_
  refine wt_bipush (pc := 110) (v := 6) dX12_doOne_110 (by decide) ?_
  refine wt_icmp_ne (pc := 112) (tgt := 163) dX12_doOne_112 (by decide) (fun q => ?_) (fun q => ?_)
  · have h := ite_f q h
    refine wt_iload_n (pc := 163) 3 dX12_doOne_163 rfl ?_
    refine wt_bipush (pc := 164) (v := 6) dX12_doOne_164 (by decide) ?_
    refine wt_icmp_le (pc := 166) (tgt := 174) dX12_doOne_166 (by decide) (fun q => ?_) (fun q => ?_)
    · have h := ite_t q h
      cases h
      exact he 174 _ _ _ dX12_doOne_174 (Nat.zero_le _) (Nat.zero_le _)
    · have h := ite_f q h
      refine wt_aload_n (pc := 169) 0 dX12_doOne_169 rfl ?_
      refine wt_iconst (pc := 170) (v := 1) dX12_doOne_170 (by decide) ?_
      refine wt_putZ (pc := 171) dX12_doOne_171 fl_X12_505 rfl rfl h (fun M171 h => ?_)
      cases h
      exact he 174 _ _ _ dX12_doOne_174 (Nat.zero_le _) (Nat.zero_le _)
  · have h := ite_t q h
    refine wt_iconst (pc := 115) (v := 0) dX12_doOne_115 (by decide) ?_
    refine wt_istore (pc := 116) (i := 4) (ls' := [(4, .int 0), (0, rf G.1 l0), (1, .int l1), (2, .int l2), (3, .int l3)]) dX12_doOne_116 (by decide) rfl ?_
    refine wt_sub (ls' := [(0, rf G.1 l0), (1, .int l1), (2, .int l2), (4, .int 0)]) [1, 2, 3, 0] rfl ?_
    exact t_X12_doOne_118 he hrc  fu h
set_option maxHeartbeats 4000000 in
set_option maxRecDepth 100000 in
theorem t_X12_doOne_70 {G : GG} {X : CX} {d : Nat} {ans : Mm} (he : EndV G X j_X12_doOne (b_X12_doOne d) ans) {rc : Mm → Option Nat → Int32 → Int32 → Option (Mm)} (hrc : ∀ {M : Mm} {l0 : Option Nat} {l1 : Int32} {l2 : Int32} {r : Mm}, rc M l0 l1 l2 = some r → ∀ l, Ct l G j_X12_doAll (b_X12_doAll d) [rf G.1 l0, .int l1, .int l2] M none r) {M : Mm} {s0 : Option Nat} {s1 : Int32} {s2 : Int32} (h : f_X12_doOne_70 rc M s0 s1 s2 = some ans) : Wt G X j_X12_doOne (b_X12_doOne d) 70 [] [.int s2, .int s1, rf G.1 s0] M 0 0 := by
  unfold f_X12_doOne_70 at h
  refine wt_iadd (pc := 70) dX12_doOne_70 ?_
  refine wt_putI (pc := 71) dX12_doOne_71 fl_X12_511 rfl rfl h (fun M71 h => ?_)
  refine wt_goto (pc := 74) (tgt := 174) dX12_doOne_74 (by decide) ?_
  cases h
  exact he 174 _ _ _ dX12_doOne_174 (Nat.zero_le _) (Nat.zero_le _)
set_option maxHeartbeats 4000000 in
set_option maxRecDepth 100000 in
theorem t_X12_doOne_e {G : GG} {X : CX} {d : Nat} {ans : Mm} (he : EndV G X j_X12_doOne (b_X12_doOne d) ans) {rc : Mm → Option Nat → Int32 → Int32 → Option (Mm)} (hrc : ∀ {M : Mm} {l0 : Option Nat} {l1 : Int32} {l2 : Int32} {r : Mm}, rc M l0 l1 l2 = some r → ∀ l, Ct l G j_X12_doAll (b_X12_doAll d) [rf G.1 l0, .int l1, .int l2] M none r) {M : Mm} {l0 : Option Nat} {l1 : Int32} (h : f_X12_doOne rc M l0 l1 = some ans) : Wt G X j_X12_doOne (b_X12_doOne d) 0 [(0, rf G.1 l0), (1, .int l1)] [] M 0 0 := by
  unfold f_X12_doOne at h
  refine wt_aload_n (pc := 0) 0 dX12_doOne_0 rfl ?_
  refine wt_getI (pc := 1) dX12_doOne_1 fl_X12_502 (fun _ _ _ => rfl) h (fun v1 h => ?_)
  refine wt_sipush (pc := 4) (v := 300) dX12_doOne_4 (by decide) ?_
  refine wt_icmp_ne (pc := 7) (tgt := 21) dX12_doOne_7 (by decide) (fun q => ?_) (fun q => ?_)
  · have h := ite_f q h
    refine wt_aload_n (pc := 21) 0 dX12_doOne_21 rfl ?_
    refine wt_dup (pc := 22) dX12_doOne_22 (rf_cat _ _) ?_
    refine wt_getI (pc := 23) dX12_doOne_23 fl_X12_502 (fun _ _ _ => rfl) h (fun v23 h => ?_)
    refine wt_iconst (pc := 26) (v := 1) dX12_doOne_26 (by decide) ?_
    refine wt_iadd (pc := 27) dX12_doOne_27 ?_
    refine wt_putI (pc := 28) dX12_doOne_28 fl_X12_502 rfl rfl h (fun M28 h => ?_)
    refine wt_sipush (pc := 31) (v := 175) dX12_doOne_31 (by decide) ?_
    refine wt_bipush (pc := 34) (v := 9) dX12_doOne_34 (by decide) ?_
    refine wt_iload_n (pc := 36) 1 dX12_doOne_36 rfl ?_
    refine wt_imul (pc := 37) dX12_doOne_37 ?_
    refine wt_iadd (pc := 38) dX12_doOne_38 ?_
    refine wt_nmI h (fun x39 h => ?_)
    refine wt_istore_n (pc := 39) (i := 2) (ls' := [(2, .int x39), (0, rf G.1 l0), (1, .int l1)]) rfl dX12_doOne_39 (by decide) rfl ?_
    refine wt_aload_n (pc := 40) 1 dX12_doOne_40 rfl ?_
    refine wt_getR (pc := 41) dX12_doOne_41 fl_X12_35 (fun _ _ _ => rfl) h (fun v41 h => ?_)
    refine wt_iload_n (pc := 44) 0 dX12_doOne_44 rfl ?_
    refine wt_iaload (pc := 45) (kd := 21) dX12_doOne_45 rfl rfl h (fun v45 h => ?_)
    refine wt_istore_n (pc := 46) (i := 3) (ls' := [(3, .int v45), (2, .int x39), (0, rf G.1 l0), (1, .int l1)]) rfl dX12_doOne_46 (by decide) rfl ?_
    refine wt_iload_n (pc := 47) 0 dX12_doOne_47 rfl ?_
    refine wt_iconst (pc := 48) (v := 5) dX12_doOne_48 (by decide) ?_
    refine wt_icmp_ge (pc := 49) (tgt := 77) dX12_doOne_49 (by decide) (fun q => ?_) (fun q => ?_)
    · have h := ite_t q h
      refine wt_iload_n (pc := 77) 0 dX12_doOne_77 rfl ?_
      refine wt_iconst (pc := 78) (v := 5) dX12_doOne_78 (by decide) ?_
      refine wt_icmp_ne (pc := 79) (tgt := 109) dX12_doOne_79 (by decide) (fun q => ?_) (fun q => ?_)
      · have h := ite_f q h
        refine wt_sub (ls' := [(0, rf G.1 l0), (1, .int l1), (2, .int x39), (3, .int v45)]) [2, 3, 1, 0] rfl ?_
        exact t_X12_doOne_109 he hrc  h
      · have h := ite_t q h
        refine wt_aload_n (pc := 82) 2 dX12_doOne_82 rfl ?_
        refine wt_iload_n (pc := 83) 1 dX12_doOne_83 rfl ?_
        refine wt_cVI (pc := 84) (J' := j_X12_isSo) (As := [.int x39]) (st := []) (B' := b_X12_isSo) (u' := 0) (w' := 0) dX12_doOne_84 ml_X12_517 mv_X12_isSo (fun v9 M9 e9 => c_X12_isSo e9) rfl (by simp only [b_X12_doOne, b_X12_isSo]; omega) rfl rfl (Nat.zero_le _) (Nat.zero_le _) (by decide) rfl h (fun v84 M84 h => ?_)
        refine wt_if_eq (pc := 87) (tgt := 109) dX12_doOne_87 (by decide) (fun q => ?_) (fun q => ?_)
        · have h := ite_t q h
          refine wt_sub (ls' := [(0, rf G.1 l0), (1, .int l1), (2, .int x39), (3, .int v45)]) [2, 3, 1, 0] rfl ?_
          exact t_X12_doOne_109 he hrc  h
        · have h := ite_f q h
          refine wt_aload_n (pc := 90) 2 dX12_doOne_90 rfl ?_
          refine wt_iload_n (pc := 91) 3 dX12_doOne_91 rfl ?_
          refine wt_iconst (pc := 92) (v := 1) dX12_doOne_92 (by decide) ?_
          refine wt_iadd (pc := 93) dX12_doOne_93 ?_
          refine wt_aload_n (pc := 94) 2 dX12_doOne_94 rfl ?_
          refine wt_getR (pc := 95) dX12_doOne_95 fl_X12_35 (fun _ _ _ => rfl) h (fun v95 h => ?_)
          refine wt_iload_n (pc := 98) 1 dX12_doOne_98 rfl ?_
          refine wt_bipush (pc := 99) (v := 8) dX12_doOne_99 (by decide) ?_
          refine wt_iadd (pc := 101) dX12_doOne_101 ?_
          refine wt_iaload (pc := 102) (kd := 21) dX12_doOne_102 rfl rfl h (fun v102 h => ?_)
          refine wt_cVV (pc := 103) (J' := j_X12_doAll) (As := [.int (l1 + 1), .int v102]) (st := []) (B' := (b_X12_doAll d)) (u' := 0) (w' := 0) dX12_doOne_103 ml_X12_520 mv_X12_doAll (fun M9 e9 => hrc e9) rfl (by simp only [b_X12_doOne, b_X12_doAll]; omega) rfl rfl (Nat.zero_le _) (Nat.zero_le _) (by decide) rfl h (fun M103 h => ?_)
          refine wt_goto (pc := 106) (tgt := 174) dX12_doOne_106 (by decide) ?_
          cases h
          exact he 174 _ _ _ dX12_doOne_174 (Nat.zero_le _) (Nat.zero_le _)
    · have h := ite_f q h
      refine wt_aload_n (pc := 52) 2 dX12_doOne_52 rfl ?_
      refine wt_dup (pc := 53) dX12_doOne_53 (rf_cat _ _) ?_
      refine wt_getI (pc := 54) dX12_doOne_54 fl_X12_511 (fun _ _ _ => rfl) h (fun v54 h => ?_)
      refine wt_aload_n (pc := 57) 2 dX12_doOne_57 rfl ?_
      refine wt_iload_n (pc := 58) 1 dX12_doOne_58 rfl ?_
      refine wt_cVI (pc := 59) (J' := j_X12_does) (As := [.int x39]) (st := [.int v54, rf G.1 l0]) (B' := b_X12_does) (u' := 0) (w' := 0) dX12_doOne_59 ml_X12_514 mv_X12_does (fun v9 M9 e9 => c_X12_does e9) rfl (by simp only [b_X12_doOne, b_X12_does]; omega) rfl rfl (Nat.zero_le _) (Nat.zero_le _) (by simp [rf_cat, cat_i, cat_l, cat_r]) rfl h (fun v59 M59 h => ?_)
      refine wt_if_eq (pc := 62) (tgt := 69) dX12_doOne_62 (by decide) (fun q => ?_) (fun q => ?_)
      · have h := ite_t q h
        refine wt_iconst (pc := 69) (v := 1) dX12_doOne_69 (by decide) ?_
        refine wt_sub (ls' := []) [] rfl ?_
        exact t_X12_doOne_70 he hrc  h
      · have h := ite_f q h
        refine wt_iconst (pc := 65) (v := 0) dX12_doOne_65 (by decide) ?_
        refine wt_goto (pc := 66) (tgt := 70) dX12_doOne_66 (by decide) ?_
        refine wt_sub (ls' := []) [] rfl ?_
        exact t_X12_doOne_70 he hrc  h
  · have h := ite_t q h
    refine wt_aload_n (pc := 10) 0 dX12_doOne_10 rfl ?_
    refine wt_iconst (pc := 11) (v := 1) dX12_doOne_11 (by decide) ?_
    refine wt_putZ (pc := 12) dX12_doOne_12 fl_X12_505 rfl rfl h (fun M12 h => ?_)
    refine wt_aload_n (pc := 15) 0 dX12_doOne_15 rfl ?_
    refine wt_iconst (pc := 16) (v := 1) dX12_doOne_16 (by decide) ?_
    refine wt_putI (pc := 17) dX12_doOne_17 fl_X12_508 rfl rfl h (fun M17 h => ?_)
    cases h
    exact he 20 _ _ _ dX12_doOne_20 (Nat.zero_le _) (Nat.zero_le _)
set_option maxHeartbeats 4000000 in
set_option maxRecDepth 100000 in
theorem c_X12_doOne {G : GG} {d : Nat} {rc : Mm → Option Nat → Int32 → Int32 → Option (Mm)} (hrc : ∀ {M : Mm} {l0 : Option Nat} {l1 : Int32} {l2 : Int32} {r : Mm}, rc M l0 l1 l2 = some r → ∀ l, Ct l G j_X12_doAll (b_X12_doAll d) [rf G.1 l0, .int l1, .int l2] M none r) {M : Mm} {l0 : Option Nat} {l1 : Int32} {r : Mm} (h : f_X12_doOne rc M l0 l1 = some r) (l : Launch) : Ct l G j_X12_doOne (b_X12_doOne d) [rf G.1 l0, .int l1] M none r := cf_V (by decide +kernel) (by simp [lg_sl, rf_cat, cat_i, cat_l, j_X12_doOne]) rfl (by simp [lv_args, rf_cat, cat_i, cat_l]) (fun X he => t_X12_doOne_e he hrc h)
def f_X12_doAll_2 (rc : Mm → Option Nat → Int32 → Option (Mm)) : Nat → Mm → Option Nat → Int32 → Int32 → Option (Mm)
  | 0, _, _, _, _ => none
  | n + 1, M, l0, l2, l3 => if l2 ≤ l3 then (some M) else (gfI M l0 12 37 fun v8 => if v8 = 0 then (ck M l0 12 <| bv (rc M l0 l3) fun M16 => gfR M16 l0 12 20 fun v20 => alI M16 v20 21 ((175 + (9 * l3)) + 8) fun v34 => f_X12_doAll_2 rc n M16 l0 l2 v34) else (some M))
def g_X12_doAll (rc : Mm → Option Nat → Int32 → Option (Mm)) (M : Mm) (l0 : Option Nat) (l1 : Int32) (l2 : Int32) : Option (Mm) := f_X12_doAll_2 rc  fu M l0 l2 l1
def f_X12_doAll : Nat → Mm → Option Nat → Int32 → Int32 → Option (Mm)
  | 0, _, _, _, _ => none
  | d + 1, M, l0, l1, l2 => g_X12_doAll (f_X12_doOne (f_X12_doAll d)) M l0 l1 l2
set_option maxHeartbeats 4000000 in
set_option maxRecDepth 100000 in
theorem t_X12_doAll_2 {G : GG} {X : CX} {d : Nat} {ans : Mm} (he : EndV G X j_X12_doAll (b_X12_doAll (d + 1)) ans) {rc : Mm → Option Nat → Int32 → Option (Mm)} (hrc : ∀ {M : Mm} {l0 : Option Nat} {l1 : Int32} {r : Mm}, rc M l0 l1 = some r → ∀ l, Ct l G j_X12_doOne (b_X12_doOne d) [rf G.1 l0, .int l1] M none r) : ∀ (n : Nat) {M : Mm} {l0 : Option Nat} {l2 : Int32} {l3 : Int32}, f_X12_doAll_2 rc n M l0 l2 l3 = some ans → Wt G X j_X12_doAll (b_X12_doAll (d + 1)) 2 [(0, rf G.1 l0), (2, .int l2), (3, .int l3)] [] M 0 0 := by
  intro n
  induction n with
  | zero =>
    intro M l0 l2 l3 h
    rw [f_X12_doAll_2] at h
    cases h
  | succ n ih =>
    intro M l0 l2 l3 h
    rw [f_X12_doAll_2] at h
    refine wt_iload_n (pc := 2) 2 dX12_doAll_2 rfl ?_
    refine wt_iload_n (pc := 3) 1 dX12_doAll_3 rfl ?_
    refine wt_icmp_ge (pc := 4) (tgt := 39) dX12_doAll_4 (by decide) (fun q => ?_) (fun q => ?_)
    · have h := ite_t q h
      cases h
      exact he 39 _ _ _ dX12_doAll_39 (Nat.zero_le _) (Nat.zero_le _)
    · have h := ite_f q h
      refine wt_aload_n (pc := 7) 0 dX12_doAll_7 rfl ?_
      refine wt_getI (pc := 8) dX12_doAll_8 fl_X12_505 (fun _ _ _ => rfl) h (fun v8 h => ?_)
      refine wt_if_ne (pc := 11) (tgt := 39) dX12_doAll_11 (by decide) (fun q => ?_) (fun q => ?_)
      · have h := ite_f q h
        cases h
        exact he 39 _ _ _ dX12_doAll_39 (Nat.zero_le _) (Nat.zero_le _)
      · have h := ite_t q h
        refine wt_aload_n (pc := 14) 0 dX12_doAll_14 rfl ?_
        refine wt_iload_n (pc := 15) 2 dX12_doAll_15 rfl ?_
        refine wt_cVV (pc := 16) (J' := j_X12_doOne) (As := [.int l3]) (st := []) (B' := (b_X12_doOne d)) (u' := 0) (w' := 0) dX12_doAll_16 ml_X12_523 mv_X12_doOne (fun M9 e9 => hrc e9) rfl (by simp only [b_X12_doAll, b_X12_doOne]; omega) rfl rfl (Nat.zero_le _) (Nat.zero_le _) (by decide) rfl h (fun M16 h => ?_)
        refine wt_aload_n (pc := 19) 0 dX12_doAll_19 rfl ?_
        refine wt_getR (pc := 20) dX12_doAll_20 fl_X12_35 (fun _ _ _ => rfl) h (fun v20 h => ?_)
        refine wt_sipush (pc := 23) (v := 175) dX12_doAll_23 (by decide) ?_
        refine wt_bipush (pc := 26) (v := 9) dX12_doAll_26 (by decide) ?_
        refine wt_iload_n (pc := 28) 2 dX12_doAll_28 rfl ?_
        refine wt_imul (pc := 29) dX12_doAll_29 ?_
        refine wt_iadd (pc := 30) dX12_doAll_30 ?_
        refine wt_bipush (pc := 31) (v := 8) dX12_doAll_31 (by decide) ?_
        refine wt_iadd (pc := 33) dX12_doAll_33 ?_
        refine wt_iaload (pc := 34) (kd := 21) dX12_doAll_34 rfl rfl h (fun v34 h => ?_)
        refine wt_istore_n (pc := 35) (i := 3) (ls' := [(3, .int v34), (0, rf G.1 l0), (2, .int l2)]) rfl dX12_doAll_35 (by decide) rfl ?_
        refine wt_goto (pc := 36) (tgt := 2) dX12_doAll_36 (by decide) ?_
        refine wt_sub (ls' := [(0, rf G.1 l0), (2, .int l2), (3, .int v34)]) [1, 2, 0] rfl ?_
        exact ih h
set_option maxHeartbeats 4000000 in
set_option maxRecDepth 100000 in
theorem t_X12_doAll_e {G : GG} {X : CX} {d : Nat} {ans : Mm} (he : EndV G X j_X12_doAll (b_X12_doAll (d + 1)) ans) {rc : Mm → Option Nat → Int32 → Option (Mm)} (hrc : ∀ {M : Mm} {l0 : Option Nat} {l1 : Int32} {r : Mm}, rc M l0 l1 = some r → ∀ l, Ct l G j_X12_doOne (b_X12_doOne d) [rf G.1 l0, .int l1] M none r) {M : Mm} {l0 : Option Nat} {l1 : Int32} {l2 : Int32} (h : g_X12_doAll rc M l0 l1 l2 = some ans) : Wt G X j_X12_doAll (b_X12_doAll (d + 1)) 0 [(0, rf G.1 l0), (1, .int l1), (2, .int l2)] [] M 0 0 := by
  unfold g_X12_doAll at h
  refine wt_iload_n (pc := 0) 1 dX12_doAll_0 rfl ?_
  refine wt_istore_n (pc := 1) (i := 3) (ls' := [(3, .int l1), (0, rf G.1 l0), (1, .int l1), (2, .int l2)]) rfl dX12_doAll_1 (by decide) rfl ?_
  refine wt_sub (ls' := [(0, rf G.1 l0), (2, .int l2), (3, .int l1)]) [1, 3, 0] rfl ?_
  exact t_X12_doAll_2 he hrc  fu h
set_option maxHeartbeats 4000000 in
set_option maxRecDepth 100000 in
theorem c_X12_doAll {G : GG} : ∀ {d : Nat} {M : Mm} {l0 : Option Nat} {l1 : Int32} {l2 : Int32} {r : Mm}, f_X12_doAll d M l0 l1 l2 = some r → ∀ l : Launch, Ct l G j_X12_doAll (b_X12_doAll d) [rf G.1 l0, .int l1, .int l2] M none r := by
  intro d
  induction d with
  | zero =>
    intro M l0 l1 l2 r h
    rw [f_X12_doAll] at h
    cases h
  | succ d ih =>
    intro M l0 l1 l2 r h l
    rw [f_X12_doAll] at h
    exact cf_V (by decide +kernel) (by simp [lg_sl, rf_cat, cat_i, cat_l, j_X12_doAll]) rfl (by simp [lv_args, rf_cat, cat_i, cat_l]) (fun X he => t_X12_doAll_e he (fun h => c_X12_doOne (fun h => ih h) h) h)
def f_X12_runs (M : Mm) (l0 : Option Nat) (l1 : Int32) : Option (Mm) := pfI M l0 12 38 l1 fun M2 => pfI M2 l0 12 39 0 fun M7 => pfI M7 l0 12 40 0 fun M12 => pfI M12 l0 12 41 0 fun M17 => pfI M17 l0 12 42 0 fun M22 => pfI M22 l0 12 43 0 fun M27 => pfI M27 l0 12 44 0 fun M32 => pfZ M32 l0 12 37 0 fun M37 => gfR M37 l0 12 20 fun v43 => alI M37 v43 21 174 fun v49 => ck M37 l0 12 <| bv (f_X12_doAll 6 M37 l0 0 v49) fun M50 => some M50
set_option maxHeartbeats 4000000 in
set_option maxRecDepth 100000 in
theorem t_X12_runs_e {G : GG} {X : CX} {ans : Mm} (he : EndV G X j_X12_runs b_X12_runs ans) {M : Mm} {l0 : Option Nat} {l1 : Int32} (h : f_X12_runs M l0 l1 = some ans) : Wt G X j_X12_runs b_X12_runs 0 [(0, rf G.1 l0), (1, .int l1)] [] M 0 0 := by
  unfold f_X12_runs at h
  refine wt_aload_n (pc := 0) 0 dX12_runs_0 rfl ?_
  refine wt_iload_n (pc := 1) 1 dX12_runs_1 rfl ?_
  refine wt_putI (pc := 2) dX12_runs_2 fl_X12_483 rfl rfl h (fun M2 h => ?_)
  refine wt_aload_n (pc := 5) 0 dX12_runs_5 rfl ?_
  refine wt_iconst (pc := 6) (v := 0) dX12_runs_6 (by decide) ?_
  refine wt_putI (pc := 7) dX12_runs_7 fl_X12_502 rfl rfl h (fun M7 h => ?_)
  refine wt_aload_n (pc := 10) 0 dX12_runs_10 rfl ?_
  refine wt_iconst (pc := 11) (v := 0) dX12_runs_11 (by decide) ?_
  refine wt_putI (pc := 12) dX12_runs_12 fl_X12_511 rfl rfl h (fun M12 h => ?_)
  refine wt_aload_n (pc := 15) 0 dX12_runs_15 rfl ?_
  refine wt_iconst (pc := 16) (v := 0) dX12_runs_16 (by decide) ?_
  refine wt_putI (pc := 17) dX12_runs_17 fl_X12_496 rfl rfl h (fun M17 h => ?_)
  refine wt_aload_n (pc := 20) 0 dX12_runs_20 rfl ?_
  refine wt_iconst (pc := 21) (v := 0) dX12_runs_21 (by decide) ?_
  refine wt_putI (pc := 22) dX12_runs_22 fl_X12_493 rfl rfl h (fun M22 h => ?_)
  refine wt_aload_n (pc := 25) 0 dX12_runs_25 rfl ?_
  refine wt_iconst (pc := 26) (v := 0) dX12_runs_26 (by decide) ?_
  refine wt_putI (pc := 27) dX12_runs_27 fl_X12_490 rfl rfl h (fun M27 h => ?_)
  refine wt_aload_n (pc := 30) 0 dX12_runs_30 rfl ?_
  refine wt_iconst (pc := 31) (v := 0) dX12_runs_31 (by decide) ?_
  refine wt_putI (pc := 32) dX12_runs_32 fl_X12_508 rfl rfl h (fun M32 h => ?_)
  refine wt_aload_n (pc := 35) 0 dX12_runs_35 rfl ?_
  refine wt_iconst (pc := 36) (v := 0) dX12_runs_36 (by decide) ?_
  refine wt_putZ (pc := 37) dX12_runs_37 fl_X12_505 rfl rfl h (fun M37 h => ?_)
  refine wt_aload_n (pc := 40) 0 dX12_runs_40 rfl ?_
  refine wt_iconst (pc := 41) (v := 0) dX12_runs_41 (by decide) ?_
  refine wt_aload_n (pc := 42) 0 dX12_runs_42 rfl ?_
  refine wt_getR (pc := 43) dX12_runs_43 fl_X12_35 (fun _ _ _ => rfl) h (fun v43 h => ?_)
  refine wt_sipush (pc := 46) (v := 174) dX12_runs_46 (by decide) ?_
  refine wt_iaload (pc := 49) (kd := 21) dX12_runs_49 rfl rfl h (fun v49 h => ?_)
  refine wt_cVV (pc := 50) (J' := j_X12_doAll) (As := [.int 0, .int v49]) (st := []) (B' := (b_X12_doAll 6)) (u' := 0) (w' := 0) dX12_runs_50 ml_X12_520 mv_X12_doAll (fun M9 e9 => c_X12_doAll e9) rfl (by decide) rfl rfl (by decide) (by decide) (by decide) rfl h (fun M50 h => ?_)
  cases h
  exact he 53 _ _ _ dX12_runs_53 (by decide) (by decide)
set_option maxHeartbeats 4000000 in
set_option maxRecDepth 100000 in
theorem c_X12_runs {G : GG} {M : Mm} {l0 : Option Nat} {l1 : Int32} {r : Mm} (h : f_X12_runs M l0 l1 = some r) (l : Launch) : Ct l G j_X12_runs b_X12_runs [rf G.1 l0, .int l1] M none r := cf_V (by decide +kernel) (by simp [lg_sl, rf_cat, cat_i, cat_l, j_X12_runs]) rfl (by simp [lv_args, rf_cat, cat_i, cat_l]) (fun X he => t_X12_runs_e he h)
def f_X12_live (M : Mm) (l0 : Option Nat) (l1 : Int32) : Option (Int32 × Mm) := pfI M l0 12 1 0 fun M2 => pfI M2 l0 12 0 0 fun M7 => bd (f_X12_isIn M7 (Int32.toInt64 l1) 0 9999) fun v16 M16 => if v16 = 0 then (ck M16 l0 12 <| bd (f_X12_refuse M16 l0 5) fun v24 M24 => some (v24, M24)) else (gfR M16 l0 12 20 fun v29 => alI M16 v29 21 173 fun v35 => if v35 = 0 then (ck M16 l0 12 <| bd (f_X12_refuse M16 l0 8) fun v42 M42 => some (v42, M42)) else (ck M16 l0 12 <| bv (f_X12_runs M16 l0 l1) fun M48 => gfR M48 l0 12 35 fun v52 => gfI M48 l0 12 40 fun v57 => asI M48 v52 21 0 v57 fun M60 => gfR M60 l0 12 35 fun v62 => gfI M60 l0 12 41 fun v67 => asI M60 v62 21 1 v67 fun M70 => gfR M70 l0 12 35 fun v72 => gfI M70 l0 12 42 fun v77 => asI M70 v72 21 2 v77 fun M80 => gfR M80 l0 12 35 fun v82 => gfI M80 l0 12 43 fun v87 => asI M80 v82 21 3 v87 fun M90 => gfR M90 l0 12 35 fun v92 => gfI M90 l0 12 44 fun v97 => asI M90 v92 21 4 v97 fun M100 => pfZ M100 l0 12 36 1 fun M103 => gfI M103 l0 12 39 fun v107 => some (v107, M103)))
set_option maxHeartbeats 4000000 in
set_option maxRecDepth 100000 in
theorem t_X12_live_e {G : GG} {X : CX} {ans : Int32 × Mm} (he : EndI G X j_X12_live b_X12_live ans) {M : Mm} {l0 : Option Nat} {l1 : Int32} (h : f_X12_live M l0 l1 = some ans) : Wt G X j_X12_live b_X12_live 0 [(0, rf G.1 l0), (1, .int l1)] [] M 0 0 := by
  unfold f_X12_live at h
  refine wt_aload_n (pc := 0) 0 dX12_live_0 rfl ?_
  refine wt_iconst (pc := 1) (v := 0) dX12_live_1 (by decide) ?_
  refine wt_putI (pc := 2) dX12_live_2 fl_X12_68 rfl rfl h (fun M2 h => ?_)
  refine wt_aload_n (pc := 5) 0 dX12_live_5 rfl ?_
  refine wt_iconst (pc := 6) (v := 0) dX12_live_6 (by decide) ?_
  refine wt_putI (pc := 7) dX12_live_7 fl_X12_71 rfl rfl h (fun M7 h => ?_)
  refine wt_iload_n (pc := 10) 1 dX12_live_10 rfl ?_
  refine wt_i2l (pc := 11) dX12_live_11 ?_
  refine wt_lconst (pc := 12) (v := 0) dX12_live_12 (by decide) ?_
  refine wt_ldc2 (pc := 13) dX12_live_13 kc_X12_526 ?_
  refine wt_cSI (pc := 16) (J' := j_X12_isIn) (As := [.long (Int32.toInt64 l1), .long 0, .long 9999]) (st := []) (B' := b_X12_isIn) (u' := 0) (w' := 0) dX12_live_16 ml_X12_103 ms_X12_isIn (fun v9 M9 e9 => c_X12_isIn e9) rfl (by decide) rfl rfl (by decide) (by decide) (by decide) rfl h (fun v16 M16 h => ?_)
  refine wt_if_ne (pc := 19) (tgt := 28) dX12_live_19 (by decide) (fun q => ?_) (fun q => ?_)
  · have h := ite_f q h
    refine wt_aload_n (pc := 28) 0 dX12_live_28 rfl ?_
    refine wt_getR (pc := 29) dX12_live_29 fl_X12_35 (fun _ _ _ => rfl) h (fun v29 h => ?_)
    refine wt_sipush (pc := 32) (v := 173) dX12_live_32 (by decide) ?_
    refine wt_iaload (pc := 35) (kd := 21) dX12_live_35 rfl rfl h (fun v35 h => ?_)
    refine wt_if_ne (pc := 36) (tgt := 46) dX12_live_36 (by decide) (fun q => ?_) (fun q => ?_)
    · have h := ite_f q h
      refine wt_aload_n (pc := 46) 0 dX12_live_46 rfl ?_
      refine wt_iload_n (pc := 47) 1 dX12_live_47 rfl ?_
      refine wt_cVV (pc := 48) (J' := j_X12_runs) (As := [.int l1]) (st := []) (B' := b_X12_runs) (u' := 0) (w' := 0) dX12_live_48 ml_X12_528 mv_X12_runs (fun M9 e9 => c_X12_runs e9) rfl (by decide) rfl rfl (by decide) (by decide) (by decide) rfl h (fun M48 h => ?_)
      refine wt_aload_n (pc := 51) 0 dX12_live_51 rfl ?_
      refine wt_getR (pc := 52) dX12_live_52 fl_X12_65 (fun _ _ _ => rfl) h (fun v52 h => ?_)
      refine wt_iconst (pc := 55) (v := 0) dX12_live_55 (by decide) ?_
      refine wt_aload_n (pc := 56) 0 dX12_live_56 rfl ?_
      refine wt_getI (pc := 57) dX12_live_57 fl_X12_511 (fun _ _ _ => rfl) h (fun v57 h => ?_)
      refine wt_iastore (pc := 60) (kd := 21) dX12_live_60 rfl rfl h (fun M60 h => ?_)
      refine wt_aload_n (pc := 61) 0 dX12_live_61 rfl ?_
      refine wt_getR (pc := 62) dX12_live_62 fl_X12_65 (fun _ _ _ => rfl) h (fun v62 h => ?_)
      refine wt_iconst (pc := 65) (v := 1) dX12_live_65 (by decide) ?_
      refine wt_aload_n (pc := 66) 0 dX12_live_66 rfl ?_
      refine wt_getI (pc := 67) dX12_live_67 fl_X12_496 (fun _ _ _ => rfl) h (fun v67 h => ?_)
      refine wt_iastore (pc := 70) (kd := 21) dX12_live_70 rfl rfl h (fun M70 h => ?_)
      refine wt_aload_n (pc := 71) 0 dX12_live_71 rfl ?_
      refine wt_getR (pc := 72) dX12_live_72 fl_X12_65 (fun _ _ _ => rfl) h (fun v72 h => ?_)
      refine wt_iconst (pc := 75) (v := 2) dX12_live_75 (by decide) ?_
      refine wt_aload_n (pc := 76) 0 dX12_live_76 rfl ?_
      refine wt_getI (pc := 77) dX12_live_77 fl_X12_493 (fun _ _ _ => rfl) h (fun v77 h => ?_)
      refine wt_iastore (pc := 80) (kd := 21) dX12_live_80 rfl rfl h (fun M80 h => ?_)
      refine wt_aload_n (pc := 81) 0 dX12_live_81 rfl ?_
      refine wt_getR (pc := 82) dX12_live_82 fl_X12_65 (fun _ _ _ => rfl) h (fun v82 h => ?_)
      refine wt_iconst (pc := 85) (v := 3) dX12_live_85 (by decide) ?_
      refine wt_aload_n (pc := 86) 0 dX12_live_86 rfl ?_
      refine wt_getI (pc := 87) dX12_live_87 fl_X12_490 (fun _ _ _ => rfl) h (fun v87 h => ?_)
      refine wt_iastore (pc := 90) (kd := 21) dX12_live_90 rfl rfl h (fun M90 h => ?_)
      refine wt_aload_n (pc := 91) 0 dX12_live_91 rfl ?_
      refine wt_getR (pc := 92) dX12_live_92 fl_X12_65 (fun _ _ _ => rfl) h (fun v92 h => ?_)
      refine wt_iconst (pc := 95) (v := 4) dX12_live_95 (by decide) ?_
      refine wt_aload_n (pc := 96) 0 dX12_live_96 rfl ?_
      refine wt_getI (pc := 97) dX12_live_97 fl_X12_508 (fun _ _ _ => rfl) h (fun v97 h => ?_)
      refine wt_iastore (pc := 100) (kd := 21) dX12_live_100 rfl rfl h (fun M100 h => ?_)
      refine wt_aload_n (pc := 101) 0 dX12_live_101 rfl ?_
      refine wt_iconst (pc := 102) (v := 1) dX12_live_102 (by decide) ?_
      refine wt_putZ (pc := 103) dX12_live_103 fl_X12_531 rfl rfl h (fun M103 h => ?_)
      refine wt_aload_n (pc := 106) 0 dX12_live_106 rfl ?_
      refine wt_getI (pc := 107) dX12_live_107 fl_X12_502 (fun _ _ _ => rfl) h (fun v107 h => ?_)
      cases h
      exact he 110 _ _ _ dX12_live_110 (by decide) (by decide)
    · have h := ite_t q h
      refine wt_aload_n (pc := 39) 0 dX12_live_39 rfl ?_
      refine wt_bipush (pc := 40) (v := 8) dX12_live_40 (by decide) ?_
      refine wt_cVI (pc := 42) (J' := j_X12_refuse) (As := [.int 8]) (st := []) (B' := b_X12_refuse) (u' := 0) (w' := 0) dX12_live_42 ml_X12_331 mv_X12_refuse (fun v9 M9 e9 => c_X12_refuse e9) rfl (by decide) rfl rfl (by decide) (by decide) (by decide) rfl h (fun v42 M42 h => ?_)
      cases h
      exact he 45 _ _ _ dX12_live_45 (by decide) (by decide)
  · have h := ite_t q h
    refine wt_aload_n (pc := 22) 0 dX12_live_22 rfl ?_
    refine wt_iconst (pc := 23) (v := 5) dX12_live_23 (by decide) ?_
    refine wt_cVI (pc := 24) (J' := j_X12_refuse) (As := [.int 5]) (st := []) (B' := b_X12_refuse) (u' := 0) (w' := 0) dX12_live_24 ml_X12_331 mv_X12_refuse (fun v9 M9 e9 => c_X12_refuse e9) rfl (by decide) rfl rfl (by decide) (by decide) (by decide) rfl h (fun v24 M24 h => ?_)
    cases h
    exact he 27 _ _ _ dX12_live_27 (by decide) (by decide)
set_option maxHeartbeats 4000000 in
set_option maxRecDepth 100000 in
theorem c_X12_live {G : GG} {M : Mm} {l0 : Option Nat} {l1 : Int32} {r : Int32 × Mm} (h : f_X12_live M l0 l1 = some r) (l : Launch) : Ct l G j_X12_live b_X12_live [rf G.1 l0, .int l1] M (some (.int r.1)) r.2 := cf_I (by decide +kernel) (by simp [lg_sl, rf_cat, cat_i, cat_l, j_X12_live]) rfl (by simp [lv_args, rf_cat, cat_i, cat_l]) (fun X he => t_X12_live_e he h)
def f_X12_lived (M : Mm) (l0 : Option Nat) (l1 : Int32) : Option (Int32 × Mm) := pfI M l0 12 1 0 fun M2 => pfI M2 l0 12 0 0 fun M7 => bd (f_X12_isIn M7 (Int32.toInt64 l1) 0 4) fun v16 M16 => if v16 = 0 then (ck M16 l0 12 <| bd (f_X12_refuse M16 l0 5) fun v24 M24 => some (v24, M24)) else (gfI M16 l0 12 36 fun v29 => if v29 = 0 then (ck M16 l0 12 <| bd (f_X12_refuse M16 l0 8) fun v47 M47 => some (v47, M47)) else (gfR M16 l0 12 35 fun v36 => alI M16 v36 21 l1 fun v40 => some (v40, M16)))
set_option maxHeartbeats 4000000 in
set_option maxRecDepth 100000 in
theorem t_X12_lived_e {G : GG} {X : CX} {ans : Int32 × Mm} (he : EndI G X j_X12_lived b_X12_lived ans) {M : Mm} {l0 : Option Nat} {l1 : Int32} (h : f_X12_lived M l0 l1 = some ans) : Wt G X j_X12_lived b_X12_lived 0 [(0, rf G.1 l0), (1, .int l1)] [] M 0 0 := by
  unfold f_X12_lived at h
  refine wt_aload_n (pc := 0) 0 dX12_lived_0 rfl ?_
  refine wt_iconst (pc := 1) (v := 0) dX12_lived_1 (by decide) ?_
  refine wt_putI (pc := 2) dX12_lived_2 fl_X12_68 rfl rfl h (fun M2 h => ?_)
  refine wt_aload_n (pc := 5) 0 dX12_lived_5 rfl ?_
  refine wt_iconst (pc := 6) (v := 0) dX12_lived_6 (by decide) ?_
  refine wt_putI (pc := 7) dX12_lived_7 fl_X12_71 rfl rfl h (fun M7 h => ?_)
  refine wt_iload_n (pc := 10) 1 dX12_lived_10 rfl ?_
  refine wt_i2l (pc := 11) dX12_lived_11 ?_
  refine wt_lconst (pc := 12) (v := 0) dX12_lived_12 (by decide) ?_
  refine wt_ldc2 (pc := 13) dX12_lived_13 kc_X12_534 ?_
  refine wt_cSI (pc := 16) (J' := j_X12_isIn) (As := [.long (Int32.toInt64 l1), .long 0, .long 4]) (st := []) (B' := b_X12_isIn) (u' := 0) (w' := 0) dX12_lived_16 ml_X12_103 ms_X12_isIn (fun v9 M9 e9 => c_X12_isIn e9) rfl (by decide) rfl rfl (by decide) (by decide) (by decide) rfl h (fun v16 M16 h => ?_)
  refine wt_if_ne (pc := 19) (tgt := 28) dX12_lived_19 (by decide) (fun q => ?_) (fun q => ?_)
  · have h := ite_f q h
    refine wt_aload_n (pc := 28) 0 dX12_lived_28 rfl ?_
    refine wt_getI (pc := 29) dX12_lived_29 fl_X12_531 (fun _ _ _ => rfl) h (fun v29 h => ?_)
    refine wt_if_eq (pc := 32) (tgt := 44) dX12_lived_32 (by decide) (fun q => ?_) (fun q => ?_)
    · have h := ite_t q h
      refine wt_aload_n (pc := 44) 0 dX12_lived_44 rfl ?_
      refine wt_bipush (pc := 45) (v := 8) dX12_lived_45 (by decide) ?_
      refine wt_cVI (pc := 47) (J' := j_X12_refuse) (As := [.int 8]) (st := []) (B' := b_X12_refuse) (u' := 0) (w' := 0) dX12_lived_47 ml_X12_331 mv_X12_refuse (fun v9 M9 e9 => c_X12_refuse e9) rfl (by decide) rfl rfl (by decide) (by decide) (by decide) rfl h (fun v47 M47 h => ?_)
      cases h
      exact he 50 _ _ _ dX12_lived_50 (by decide) (by decide)
    · have h := ite_f q h
      refine wt_aload_n (pc := 35) 0 dX12_lived_35 rfl ?_
      refine wt_getR (pc := 36) dX12_lived_36 fl_X12_65 (fun _ _ _ => rfl) h (fun v36 h => ?_)
      refine wt_iload_n (pc := 39) 1 dX12_lived_39 rfl ?_
      refine wt_iaload (pc := 40) (kd := 21) dX12_lived_40 rfl rfl h (fun v40 h => ?_)
      refine wt_goto (pc := 41) (tgt := 50) dX12_lived_41 (by decide) ?_
      cases h
      exact he 50 _ _ _ dX12_lived_50 (by decide) (by decide)
  · have h := ite_t q h
    refine wt_aload_n (pc := 22) 0 dX12_lived_22 rfl ?_
    refine wt_iconst (pc := 23) (v := 5) dX12_lived_23 (by decide) ?_
    refine wt_cVI (pc := 24) (J' := j_X12_refuse) (As := [.int 5]) (st := []) (B' := b_X12_refuse) (u' := 0) (w' := 0) dX12_lived_24 ml_X12_331 mv_X12_refuse (fun v9 M9 e9 => c_X12_refuse e9) rfl (by decide) rfl rfl (by decide) (by decide) (by decide) rfl h (fun v24 M24 h => ?_)
    cases h
    exact he 27 _ _ _ dX12_lived_27 (by decide) (by decide)
set_option maxHeartbeats 4000000 in
set_option maxRecDepth 100000 in
theorem c_X12_lived {G : GG} {M : Mm} {l0 : Option Nat} {l1 : Int32} {r : Int32 × Mm} (h : f_X12_lived M l0 l1 = some r) (l : Launch) : Ct l G j_X12_lived b_X12_lived [rf G.1 l0, .int l1] M (some (.int r.1)) r.2 := cf_I (by decide +kernel) (by simp [lg_sl, rf_cat, cat_i, cat_l, j_X12_lived]) rfl (by simp [lv_args, rf_cat, cat_i, cat_l]) (fun X he => t_X12_lived_e he h)
def f_X12_mean_37 (M : Mm) (l0 : Option Nat) : Option (Int32 × Mm) := ck M l0 12 <| bd (f_X12_no M l0 5) fun v39 M39 => some (v39, M39)
def f_X12_mean_70 : Nat → Mm → Option Nat → Int32 → Int32 → Int64 → Int32 → Option (Int32 × Mm)
  | 0, _, _, _, _, _, _ => none
  | n + 1, M, l0, l1, l2, l3, l5 => if l2 ≤ l5 then (ck M l0 12 <| bd (f_X12_fraction M l0 l3 (Int32.toInt64 l2)) fun v107 M107 => some (v107, M107)) else (ck M l0 12 <| bv (f_X12_runs M l0 (l1 + l5)) fun M81 => ck M81 l0 12 <| bd (f_X12_worthOf M81 l0 1) fun v87 M87 => nmL (l3 + (Int32.toInt64 v87)) fun x92 => ck M87 l0 12 <| bv (f_X12_gives M87 l0) fun M94 => f_X12_mean_70 n M94 l0 l1 l2 x92 (l5 + 1))
def g_X12_mean (M : Mm) (l0 : Option Nat) (l1 : Int32) (l2 : Int32) : Option (Int32 × Mm) := pfI M l0 12 1 0 fun M2 => pfI M2 l0 12 0 0 fun M7 => bd (f_X12_isIn M7 (Int32.toInt64 l2) 1 20) fun v16 M16 => if v16 = 0 then (f_X12_mean_37  M16 l0) else (bd (f_X12_isIn M16 (Int32.toInt64 l1) 0 (Int32.toInt64 (10000 - l2))) fun v31 M31 => if v31 = 0 then (f_X12_mean_37  M31 l0) else (gfR M31 l0 12 20 fun v44 => alI M31 v44 21 173 fun v50 => if v50 = 0 then (ck M31 l0 12 <| bd (f_X12_no M31 l0 8) fun v57 M57 => some (v57, M57)) else (ck M31 l0 12 <| bv (f_X12_keeps M31 l0) fun M62 => f_X12_mean_70  fu M62 l0 l1 l2 0 0)))
def f_X12_mean (M : Mm) (l0 : Option Nat) (l1 : Int32) (l2 : Int32) : Option (Int32 × Mm) := zc (g_X12_mean M l0 l1 l2)
set_option maxHeartbeats 4000000 in
set_option maxRecDepth 100000 in
theorem t_X12_mean_37 {G : GG} {X : CX} {ans : Int32 × Mm} (he : EndI G X j_X12_mean b_X12_mean ans) {M : Mm} {l0 : Option Nat} (h : f_X12_mean_37 M l0 = some ans) : Wt G X j_X12_mean b_X12_mean 37 [(0, rf G.1 l0)] [] M 0 0 := by
  unfold f_X12_mean_37 at h
  refine wt_aload_n (pc := 37) 0 dX12_mean_37 rfl ?_
  refine wt_iconst (pc := 38) (v := 5) dX12_mean_38 (by decide) ?_
  refine wt_cVI (pc := 39) (J' := j_X12_no) (As := [.int 5]) (st := []) (B' := b_X12_no) (u' := 0) (w' := 0) dX12_mean_39 ml_X12_83 mv_X12_no (fun v9 M9 e9 => c_X12_no e9) rfl (by decide) rfl rfl (by decide) (by decide) (by decide) rfl h (fun v39 M39 h => ?_)
  cases h
  exact he 42 _ _ _ dX12_mean_42 (by decide) (by decide)
set_option maxHeartbeats 4000000 in
set_option maxRecDepth 100000 in
theorem t_X12_mean_70 {G : GG} {X : CX} {ans : Int32 × Mm} (he : EndI G X j_X12_mean b_X12_mean ans) : ∀ (n : Nat) {M : Mm} {l0 : Option Nat} {l1 : Int32} {l2 : Int32} {l3 : Int64} {l5 : Int32}, f_X12_mean_70 n M l0 l1 l2 l3 l5 = some ans → Wt G X j_X12_mean b_X12_mean 70 [(0, rf G.1 l0), (1, .int l1), (2, .int l2), (3, .long l3), (5, .int l5)] [] M 0 0 := by
  intro n
  induction n with
  | zero =>
    intro M l0 l1 l2 l3 l5 h
    rw [f_X12_mean_70] at h
    cases h
  | succ n ih =>
    intro M l0 l1 l2 l3 l5 h
    rw [f_X12_mean_70] at h
    refine wt_iload (pc := 70) 4 dX12_mean_70 rfl ?_
    refine wt_iload_n (pc := 72) 2 dX12_mean_72 rfl ?_
    refine wt_icmp_ge (pc := 73) (tgt := 103) dX12_mean_73 (by decide) (fun q => ?_) (fun q => ?_)
    · have h := ite_t q h
      refine wt_aload_n (pc := 103) 0 dX12_mean_103 rfl ?_
      refine wt_lload_n (pc := 104) 3 dX12_mean_104 rfl ?_
      refine wt_iload_n (pc := 105) 2 dX12_mean_105 rfl ?_
      refine wt_i2l (pc := 106) dX12_mean_106 ?_
      refine wt_cVI (pc := 107) (J' := j_X12_fraction) (As := [.long l3, .long (Int32.toInt64 l2)]) (st := []) (B' := b_X12_fraction) (u' := 0) (w' := 0) dX12_mean_107 ml_X12_415 mv_X12_fraction (fun v9 M9 e9 => c_X12_fraction e9) rfl (by decide) rfl rfl (by decide) (by decide) (by decide) rfl h (fun v107 M107 h => ?_)
      cases h
      exact he 110 _ _ _ dX12_mean_110 (by decide) (by decide)
    · have h := ite_f q h
      refine wt_aload_n (pc := 76) 0 dX12_mean_76 rfl ?_
      refine wt_iload_n (pc := 77) 1 dX12_mean_77 rfl ?_
      refine wt_iload (pc := 78) 4 dX12_mean_78 rfl ?_
      refine wt_iadd (pc := 80) dX12_mean_80 ?_
      refine wt_cVV (pc := 81) (J' := j_X12_runs) (As := [.int (l1 + l5)]) (st := []) (B' := b_X12_runs) (u' := 0) (w' := 0) dX12_mean_81 ml_X12_528 mv_X12_runs (fun M9 e9 => c_X12_runs e9) rfl (by decide) rfl rfl (by decide) (by decide) (by decide) rfl h (fun M81 h => ?_)
      refine wt_lload_n (pc := 84) 3 dX12_mean_84 rfl ?_
      refine wt_aload_n (pc := 85) 0 dX12_mean_85 rfl ?_
      refine wt_iconst (pc := 86) (v := 1) dX12_mean_86 (by decide) ?_
      refine wt_cVI (pc := 87) (J' := j_X12_worthOf) (As := [.int 1]) (st := [.long l3]) (B' := b_X12_worthOf) (u' := 0) (w' := 0) dX12_mean_87 ml_X12_334 mv_X12_worthOf (fun v9 M9 e9 => c_X12_worthOf e9) rfl (by decide) rfl rfl (by decide) (by decide) (by simp [rf_cat, cat_i, cat_l, cat_r]) rfl h (fun v87 M87 h => ?_)
      refine wt_i2l (pc := 90) dX12_mean_90 ?_
      refine wt_ladd (pc := 91) dX12_mean_91 ?_
      refine wt_nmL h (fun x92 h => ?_)
      refine wt_lstore_n (pc := 92) (i := 3) (ls' := [(3, .long x92), (0, rf G.1 l0), (1, .int l1), (2, .int l2), (5, .int l5)]) rfl dX12_mean_92 (by decide) rfl ?_
      refine wt_aload_n (pc := 93) 1 dX12_mean_93 rfl ?_
      refine wt_cVV (pc := 94) (J' := j_X12_gives) (As := []) (st := []) (B' := b_X12_gives) (u' := 0) (w' := 0) dX12_mean_94 ml_X12_425 mv_X12_gives (fun M9 e9 => c_X12_gives e9) rfl (by decide) rfl rfl (by decide) (by decide) (by decide) rfl h (fun M94 h => ?_)
      refine wt_iinc (pc := 97) (d := 1) (ls' := [(5, .int (l5 + 1)), (3, .long x92), (0, rf G.1 l0), (1, .int l1), (2, .int l2)]) 4 dX12_mean_97 rfl (by decide) (by decide) rfl ?_
      refine wt_goto (pc := 100) (tgt := 70) dX12_mean_100 (by decide) ?_
      refine wt_sub (ls' := [(0, rf G.1 l0), (1, .int l1), (2, .int l2), (3, .long x92), (5, .int (l5 + 1))]) [2, 3, 4, 1, 0] rfl ?_
      exact ih h
set_option maxHeartbeats 4000000 in
set_option maxRecDepth 100000 in
theorem t_X12_mean_e {G : GG} {X : CX} {ans : Int32 × Mm} (he : EndI G X j_X12_mean b_X12_mean ans) {M : Mm} {l0 : Option Nat} {l1 : Int32} {l2 : Int32} (h : g_X12_mean M l0 l1 l2 = some ans) : Wt G X j_X12_mean b_X12_mean 0 [(0, rf G.1 l0), (1, .int l1), (2, .int l2)] [] M 0 0 := by
  unfold g_X12_mean at h
  refine wt_aload_n (pc := 0) 0 dX12_mean_0 rfl ?_
  refine wt_iconst (pc := 1) (v := 0) dX12_mean_1 (by decide) ?_
  refine wt_putI (pc := 2) dX12_mean_2 fl_X12_68 rfl rfl h (fun M2 h => ?_)
  refine wt_aload_n (pc := 5) 0 dX12_mean_5 rfl ?_
  refine wt_iconst (pc := 6) (v := 0) dX12_mean_6 (by decide) ?_
  refine wt_putI (pc := 7) dX12_mean_7 fl_X12_71 rfl rfl h (fun M7 h => ?_)
  refine wt_iload_n (pc := 10) 2 dX12_mean_10 rfl ?_
  refine wt_i2l (pc := 11) dX12_mean_11 ?_
  refine wt_lconst (pc := 12) (v := 1) dX12_mean_12 (by decide) ?_
  refine wt_ldc2 (pc := 13) dX12_mean_13 kc_X12_536 ?_
  refine wt_cSI (pc := 16) (J' := j_X12_isIn) (As := [.long (Int32.toInt64 l2), .long 1, .long 20]) (st := []) (B' := b_X12_isIn) (u' := 0) (w' := 0) dX12_mean_16 ml_X12_103 ms_X12_isIn (fun v9 M9 e9 => c_X12_isIn e9) rfl (by decide) rfl rfl (by decide) (by decide) (by decide) rfl h (fun v16 M16 h => ?_)
  refine wt_if_eq (pc := 19) (tgt := 37) dX12_mean_19 (by decide) (fun q => ?_) (fun q => ?_)
  · have h := ite_t q h
    refine wt_sub (ls' := [(0, rf G.1 l0)]) [0] rfl ?_
    exact t_X12_mean_37 he  h
  · have h := ite_f q h
    refine wt_iload_n (pc := 22) 1 dX12_mean_22 rfl ?_
    refine wt_i2l (pc := 23) dX12_mean_23 ?_
    refine wt_lconst (pc := 24) (v := 0) dX12_mean_24 (by decide) ?_
    refine wt_sipush (pc := 25) (v := 10000) dX12_mean_25 (by decide) ?_
    refine wt_iload_n (pc := 28) 2 dX12_mean_28 rfl ?_
    refine wt_isub (pc := 29) dX12_mean_29 ?_
    refine wt_i2l (pc := 30) dX12_mean_30 ?_
    refine wt_cSI (pc := 31) (J' := j_X12_isIn) (As := [.long (Int32.toInt64 l1), .long 0, .long (Int32.toInt64 (10000 - l2))]) (st := []) (B' := b_X12_isIn) (u' := 0) (w' := 0) dX12_mean_31 ml_X12_103 ms_X12_isIn (fun v9 M9 e9 => c_X12_isIn e9) rfl (by decide) rfl rfl (by decide) (by decide) (by decide) rfl h (fun v31 M31 h => ?_)
    refine wt_if_ne (pc := 34) (tgt := 43) dX12_mean_34 (by decide) (fun q => ?_) (fun q => ?_)
    · have h := ite_f q h
      refine wt_aload_n (pc := 43) 0 dX12_mean_43 rfl ?_
      refine wt_getR (pc := 44) dX12_mean_44 fl_X12_35 (fun _ _ _ => rfl) h (fun v44 h => ?_)
      refine wt_sipush (pc := 47) (v := 173) dX12_mean_47 (by decide) ?_
      refine wt_iaload (pc := 50) (kd := 21) dX12_mean_50 rfl rfl h (fun v50 h => ?_)
      refine wt_if_ne (pc := 51) (tgt := 61) dX12_mean_51 (by decide) (fun q => ?_) (fun q => ?_)
      · have h := ite_f q h
        refine wt_aload_n (pc := 61) 0 dX12_mean_61 rfl ?_
        refine wt_cVV (pc := 62) (J' := j_X12_keeps) (As := []) (st := []) (B' := b_X12_keeps) (u' := 0) (w' := 0) dX12_mean_62 ml_X12_422 mv_X12_keeps (fun M9 e9 => c_X12_keeps e9) rfl (by decide) rfl rfl (by decide) (by decide) (by decide) rfl h (fun M62 h => ?_)
        refine wt_lconst (pc := 65) (v := 0) dX12_mean_65 (by decide) ?_
        refine wt_lstore_n (pc := 66) (i := 3) (ls' := [(3, .long 0), (0, rf G.1 l0), (1, .int l1), (2, .int l2)]) rfl dX12_mean_66 (by decide) rfl ?_
        refine wt_iconst (pc := 67) (v := 0) dX12_mean_67 (by decide) ?_
        refine wt_istore (pc := 68) (i := 5) (ls' := [(5, .int 0), (3, .long 0), (0, rf G.1 l0), (1, .int l1), (2, .int l2)]) dX12_mean_68 (by decide) rfl ?_
        refine wt_sub (ls' := [(0, rf G.1 l0), (1, .int l1), (2, .int l2), (3, .long 0), (5, .int 0)]) [2, 3, 4, 1, 0] rfl ?_
        exact t_X12_mean_70 he  fu h
      · have h := ite_t q h
        refine wt_aload_n (pc := 54) 0 dX12_mean_54 rfl ?_
        refine wt_bipush (pc := 55) (v := 8) dX12_mean_55 (by decide) ?_
        refine wt_cVI (pc := 57) (J' := j_X12_no) (As := [.int 8]) (st := []) (B' := b_X12_no) (u' := 0) (w' := 0) dX12_mean_57 ml_X12_83 mv_X12_no (fun v9 M9 e9 => c_X12_no e9) rfl (by decide) rfl rfl (by decide) (by decide) (by decide) rfl h (fun v57 M57 h => ?_)
        cases h
        exact he 60 _ _ _ dX12_mean_60 (by decide) (by decide)
    · have h := ite_t q h
      refine wt_sub (ls' := [(0, rf G.1 l0)]) [0] rfl ?_
      exact t_X12_mean_37 he  h
set_option maxHeartbeats 4000000 in
set_option maxRecDepth 100000 in
theorem c_X12_mean {G : GG} {M : Mm} {l0 : Option Nat} {l1 : Int32} {l2 : Int32} {r : Int32 × Mm} (h : f_X12_mean M l0 l1 l2 = some r) (l : Launch) : Ct l G j_X12_mean b_X12_mean [rf G.1 l0, .int l1, .int l2] M (some (.int r.1)) r.2 := cf_Z h (by decide +kernel) (by simp [lg_sl, rf_cat, cat_i, cat_l, j_X12_mean]) rfl (by simp [lv_args, rf_cat, cat_i, cat_l]) (fun h X he => t_X12_mean_e he h)
def f_X12_mark (M : Mm) (l0 : Option Nat) : Option (Int32 × Mm) := pfI M l0 12 1 0 fun M2 => pfI M2 l0 12 0 0 fun M7 => gfI M7 l0 12 23 fun v11 => if v11 = 3 then (ck M7 l0 12 <| bd (f_X12_refuse M7 l0 7) fun v21 M21 => some (v21, M21)) else (gfI M7 l0 12 23 fun v27 => pfI M7 l0 12 23 (v27 + 1) fun M32 => gfI M32 l0 12 23 fun v38 => ck M32 l0 12 <| bv (f_X12_copy M32 l0 0 v38) fun M41 => gfI M41 l0 12 23 fun v45 => some (v45, M41))
set_option maxHeartbeats 4000000 in
set_option maxRecDepth 100000 in
theorem t_X12_mark_e {G : GG} {X : CX} {ans : Int32 × Mm} (he : EndI G X j_X12_mark b_X12_mark ans) {M : Mm} {l0 : Option Nat} (h : f_X12_mark M l0 = some ans) : Wt G X j_X12_mark b_X12_mark 0 [(0, rf G.1 l0)] [] M 0 0 := by
  unfold f_X12_mark at h
  refine wt_aload_n (pc := 0) 0 dX12_mark_0 rfl ?_
  refine wt_iconst (pc := 1) (v := 0) dX12_mark_1 (by decide) ?_
  refine wt_putI (pc := 2) dX12_mark_2 fl_X12_68 rfl rfl h (fun M2 h => ?_)
  refine wt_aload_n (pc := 5) 0 dX12_mark_5 rfl ?_
  refine wt_iconst (pc := 6) (v := 0) dX12_mark_6 (by decide) ?_
  refine wt_putI (pc := 7) dX12_mark_7 fl_X12_71 rfl rfl h (fun M7 h => ?_)
  refine wt_aload_n (pc := 10) 0 dX12_mark_10 rfl ?_
  refine wt_getI (pc := 11) dX12_mark_11 fl_X12_538 (fun _ _ _ => rfl) h (fun v11 h => ?_)
  refine wt_iconst (pc := 14) (v := 3) dX12_mark_14 (by decide) ?_
  refine wt_icmp_ne (pc := 15) (tgt := 25) dX12_mark_15 (by decide) (fun q => ?_) (fun q => ?_)
  · have h := ite_f q h
    refine wt_aload_n (pc := 25) 0 dX12_mark_25 rfl ?_
    refine wt_dup (pc := 26) dX12_mark_26 (rf_cat _ _) ?_
    refine wt_getI (pc := 27) dX12_mark_27 fl_X12_538 (fun _ _ _ => rfl) h (fun v27 h => ?_)
    refine wt_iconst (pc := 30) (v := 1) dX12_mark_30 (by decide) ?_
    refine wt_iadd (pc := 31) dX12_mark_31 ?_
    refine wt_putI (pc := 32) dX12_mark_32 fl_X12_538 rfl rfl h (fun M32 h => ?_)
    refine wt_aload_n (pc := 35) 0 dX12_mark_35 rfl ?_
    refine wt_iconst (pc := 36) (v := 0) dX12_mark_36 (by decide) ?_
    refine wt_aload_n (pc := 37) 0 dX12_mark_37 rfl ?_
    refine wt_getI (pc := 38) dX12_mark_38 fl_X12_538 (fun _ _ _ => rfl) h (fun v38 h => ?_)
    refine wt_cVV (pc := 41) (J' := j_X12_copy) (As := [.int 0, .int v38]) (st := []) (B' := b_X12_copy) (u' := 0) (w' := 0) dX12_mark_41 ml_X12_309 mv_X12_copy (fun M9 e9 => c_X12_copy e9) rfl (by decide) rfl rfl (by decide) (by decide) (by decide) rfl h (fun M41 h => ?_)
    refine wt_aload_n (pc := 44) 0 dX12_mark_44 rfl ?_
    refine wt_getI (pc := 45) dX12_mark_45 fl_X12_538 (fun _ _ _ => rfl) h (fun v45 h => ?_)
    cases h
    exact he 48 _ _ _ dX12_mark_48 (by decide) (by decide)
  · have h := ite_t q h
    refine wt_aload_n (pc := 18) 0 dX12_mark_18 rfl ?_
    refine wt_bipush (pc := 19) (v := 7) dX12_mark_19 (by decide) ?_
    refine wt_cVI (pc := 21) (J' := j_X12_refuse) (As := [.int 7]) (st := []) (B' := b_X12_refuse) (u' := 0) (w' := 0) dX12_mark_21 ml_X12_331 mv_X12_refuse (fun v9 M9 e9 => c_X12_refuse e9) rfl (by decide) rfl rfl (by decide) (by decide) (by decide) rfl h (fun v21 M21 h => ?_)
    cases h
    exact he 24 _ _ _ dX12_mark_24 (by decide) (by decide)
set_option maxHeartbeats 4000000 in
set_option maxRecDepth 100000 in
theorem c_X12_mark {G : GG} {M : Mm} {l0 : Option Nat} {r : Int32 × Mm} (h : f_X12_mark M l0 = some r) (l : Launch) : Ct l G j_X12_mark b_X12_mark [rf G.1 l0] M (some (.int r.1)) r.2 := cf_I (by decide +kernel) (by simp [lg_sl, rf_cat, cat_i, cat_l, j_X12_mark]) rfl (by simp [lv_args, rf_cat, cat_i, cat_l]) (fun X he => t_X12_mark_e he h)
def f_X12_back (M : Mm) (l0 : Option Nat) : Option (Int32 × Mm) := pfI M l0 12 1 0 fun M2 => pfI M2 l0 12 0 0 fun M7 => gfI M7 l0 12 23 fun v11 => if v11 = 0 then (ck M7 l0 12 <| bd (f_X12_refuse M7 l0 8) fun v20 M20 => some (v20, M20)) else (gfI M7 l0 12 23 fun v26 => ck M7 l0 12 <| bv (f_X12_copy M7 l0 v26 0) fun M30 => gfI M30 l0 12 23 fun v35 => pfI M30 l0 12 23 (v35 - 1) fun M40 => gfI M40 l0 12 23 fun v44 => some (v44, M40))
set_option maxHeartbeats 4000000 in
set_option maxRecDepth 100000 in
theorem t_X12_back_e {G : GG} {X : CX} {ans : Int32 × Mm} (he : EndI G X j_X12_back b_X12_back ans) {M : Mm} {l0 : Option Nat} (h : f_X12_back M l0 = some ans) : Wt G X j_X12_back b_X12_back 0 [(0, rf G.1 l0)] [] M 0 0 := by
  unfold f_X12_back at h
  refine wt_aload_n (pc := 0) 0 dX12_back_0 rfl ?_
  refine wt_iconst (pc := 1) (v := 0) dX12_back_1 (by decide) ?_
  refine wt_putI (pc := 2) dX12_back_2 fl_X12_68 rfl rfl h (fun M2 h => ?_)
  refine wt_aload_n (pc := 5) 0 dX12_back_5 rfl ?_
  refine wt_iconst (pc := 6) (v := 0) dX12_back_6 (by decide) ?_
  refine wt_putI (pc := 7) dX12_back_7 fl_X12_71 rfl rfl h (fun M7 h => ?_)
  refine wt_aload_n (pc := 10) 0 dX12_back_10 rfl ?_
  refine wt_getI (pc := 11) dX12_back_11 fl_X12_538 (fun _ _ _ => rfl) h (fun v11 h => ?_)
  refine wt_if_ne (pc := 14) (tgt := 24) dX12_back_14 (by decide) (fun q => ?_) (fun q => ?_)
  · have h := ite_f q h
    refine wt_aload_n (pc := 24) 0 dX12_back_24 rfl ?_
    refine wt_aload_n (pc := 25) 0 dX12_back_25 rfl ?_
    refine wt_getI (pc := 26) dX12_back_26 fl_X12_538 (fun _ _ _ => rfl) h (fun v26 h => ?_)
    refine wt_iconst (pc := 29) (v := 0) dX12_back_29 (by decide) ?_
    refine wt_cVV (pc := 30) (J' := j_X12_copy) (As := [.int v26, .int 0]) (st := []) (B' := b_X12_copy) (u' := 0) (w' := 0) dX12_back_30 ml_X12_309 mv_X12_copy (fun M9 e9 => c_X12_copy e9) rfl (by decide) rfl rfl (by decide) (by decide) (by decide) rfl h (fun M30 h => ?_)
    refine wt_aload_n (pc := 33) 0 dX12_back_33 rfl ?_
    refine wt_dup (pc := 34) dX12_back_34 (rf_cat _ _) ?_
    refine wt_getI (pc := 35) dX12_back_35 fl_X12_538 (fun _ _ _ => rfl) h (fun v35 h => ?_)
    refine wt_iconst (pc := 38) (v := 1) dX12_back_38 (by decide) ?_
    refine wt_isub (pc := 39) dX12_back_39 ?_
    refine wt_putI (pc := 40) dX12_back_40 fl_X12_538 rfl rfl h (fun M40 h => ?_)
    refine wt_aload_n (pc := 43) 0 dX12_back_43 rfl ?_
    refine wt_getI (pc := 44) dX12_back_44 fl_X12_538 (fun _ _ _ => rfl) h (fun v44 h => ?_)
    cases h
    exact he 47 _ _ _ dX12_back_47 (by decide) (by decide)
  · have h := ite_t q h
    refine wt_aload_n (pc := 17) 0 dX12_back_17 rfl ?_
    refine wt_bipush (pc := 18) (v := 8) dX12_back_18 (by decide) ?_
    refine wt_cVI (pc := 20) (J' := j_X12_refuse) (As := [.int 8]) (st := []) (B' := b_X12_refuse) (u' := 0) (w' := 0) dX12_back_20 ml_X12_331 mv_X12_refuse (fun v9 M9 e9 => c_X12_refuse e9) rfl (by decide) rfl rfl (by decide) (by decide) (by decide) rfl h (fun v20 M20 h => ?_)
    cases h
    exact he 23 _ _ _ dX12_back_23 (by decide) (by decide)
set_option maxHeartbeats 4000000 in
set_option maxRecDepth 100000 in
theorem c_X12_back {G : GG} {M : Mm} {l0 : Option Nat} {r : Int32 × Mm} (h : f_X12_back M l0 = some r) (l : Launch) : Ct l G j_X12_back b_X12_back [rf G.1 l0] M (some (.int r.1)) r.2 := cf_I (by decide +kernel) (by simp [lg_sl, rf_cat, cat_i, cat_l, j_X12_back]) rfl (by simp [lv_args, rf_cat, cat_i, cat_l]) (fun X he => t_X12_back_e he h)

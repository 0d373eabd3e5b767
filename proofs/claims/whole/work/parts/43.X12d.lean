theorem dX12_readTest_0 : decode cX12_readTest 0 = .ok (.aload_n 0, 1) := by decide +kernel
theorem dX12_readTest_1 : decode cX12_readTest 1 = .ok (.invokevirtual 212, 3) := by decide +kernel
theorem dX12_readTest_4 : decode cX12_readTest 4 = .ok (.istore_n 2, 1) := by decide +kernel
theorem dX12_readTest_5 : decode cX12_readTest 5 = .ok (.aload_n 0, 1) := by decide +kernel
theorem dX12_readTest_6 : decode cX12_readTest 6 = .ok (.iload_n 2, 1) := by decide +kernel
theorem dX12_readTest_7 : decode cX12_readTest 7 = .ok (.ifCond .lt 7, 3) := by decide +kernel
theorem dX12_readTest_10 : decode cX12_readTest 10 = .ok (.iconst 1, 1) := by decide +kernel
theorem dX12_readTest_11 : decode cX12_readTest 11 = .ok (.goto 4, 3) := by decide +kernel
theorem dX12_readTest_14 : decode cX12_readTest 14 = .ok (.iconst 0, 1) := by decide +kernel
theorem dX12_readTest_15 : decode cX12_readTest 15 = .ok (.invokevirtual 237, 3) := by decide +kernel
theorem dX12_readTest_18 : decode cX12_readTest 18 = .ok (.aload_n 0, 1) := by decide +kernel
theorem dX12_readTest_19 : decode cX12_readTest 19 = .ok (.getfield 35, 3) := by decide +kernel
theorem dX12_readTest_22 : decode cX12_readTest 22 = .ok (.iload_n 1, 1) := by decide +kernel
theorem dX12_readTest_23 : decode cX12_readTest 23 = .ok (.bipush 6, 2) := by decide +kernel
theorem dX12_readTest_25 : decode cX12_readTest 25 = .ok (.iadd, 1) := by decide +kernel
theorem dX12_readTest_26 : decode cX12_readTest 26 = .ok (.iload_n 2, 1) := by decide +kernel
theorem dX12_readTest_27 : decode cX12_readTest 27 = .ok (.iastore, 1) := by decide +kernel
theorem dX12_readTest_28 : decode cX12_readTest 28 = .ok (.iload_n 2, 1) := by decide +kernel
theorem dX12_readTest_29 : decode cX12_readTest 29 = .ok (.iconst 2, 1) := by decide +kernel
theorem dX12_readTest_30 : decode cX12_readTest 30 = .ok (.if_icmp .ge 17, 3) := by decide +kernel
theorem dX12_readTest_33 : decode cX12_readTest 33 = .ok (.aload_n 0, 1) := by decide +kernel
theorem dX12_readTest_34 : decode cX12_readTest 34 = .ok (.getfield 35, 3) := by decide +kernel
theorem dX12_readTest_37 : decode cX12_readTest 37 = .ok (.iload_n 1, 1) := by decide +kernel
theorem dX12_readTest_38 : decode cX12_readTest 38 = .ok (.iconst 1, 1) := by decide +kernel
theorem dX12_readTest_39 : decode cX12_readTest 39 = .ok (.iadd, 1) := by decide +kernel
theorem dX12_readTest_40 : decode cX12_readTest 40 = .ok (.aload_n 0, 1) := by decide +kernel
theorem dX12_readTest_41 : decode cX12_readTest 41 = .ok (.iconst 0, 1) := by decide +kernel
theorem dX12_readTest_42 : decode cX12_readTest 42 = .ok (.iconst 0, 1) := by decide +kernel
theorem dX12_readTest_43 : decode cX12_readTest 43 = .ok (.invokevirtual 278, 3) := by decide +kernel
theorem dX12_readTest_46 : decode cX12_readTest 46 = .ok (.iastore, 1) := by decide +kernel
theorem dX12_readTest_47 : decode cX12_readTest 47 = .ok (.aload_n 0, 1) := by decide +kernel
theorem dX12_readTest_48 : decode cX12_readTest 48 = .ok (.getfield 221, 3) := by decide +kernel
theorem dX12_readTest_51 : decode cX12_readTest 51 = .ok (.ifCond .gt 8, 3) := by decide +kernel
theorem dX12_readTest_54 : decode cX12_readTest 54 = .ok (.iload_n 2, 1) := by decide +kernel
theorem dX12_readTest_55 : decode cX12_readTest 55 = .ok (.iconst 2, 1) := by decide +kernel
theorem dX12_readTest_56 : decode cX12_readTest 56 = .ok (.if_icmp .ge 4, 3) := by decide +kernel
theorem dX12_readTest_59 : decode cX12_readTest 59 = .ok (.return_, 1) := by decide +kernel
theorem dX12_readTest_60 : decode cX12_readTest 60 = .ok (.aload_n 0, 1) := by decide +kernel
theorem dX12_readTest_61 : decode cX12_readTest 61 = .ok (.getfield 35, 3) := by decide +kernel
theorem dX12_readTest_64 : decode cX12_readTest 64 = .ok (.iload_n 1, 1) := by decide +kernel
theorem dX12_readTest_65 : decode cX12_readTest 65 = .ok (.bipush 7, 2) := by decide +kernel
theorem dX12_readTest_67 : decode cX12_readTest 67 = .ok (.iadd, 1) := by decide +kernel
theorem dX12_readTest_68 : decode cX12_readTest 68 = .ok (.aload_n 0, 1) := by decide +kernel
theorem dX12_readTest_69 : decode cX12_readTest 69 = .ok (.getfield 123, 3) := by decide +kernel
theorem dX12_readTest_72 : decode cX12_readTest 72 = .ok (.iconst 3, 1) := by decide +kernel
theorem dX12_readTest_73 : decode cX12_readTest 73 = .ok (.if_icmp .ne 10, 3) := by decide +kernel
theorem dX12_readTest_76 : decode cX12_readTest 76 = .ok (.aload_n 0, 1) := by decide +kernel
theorem dX12_readTest_77 : decode cX12_readTest 77 = .ok (.getfield 142, 3) := by decide +kernel
theorem dX12_readTest_80 : decode cX12_readTest 80 = .ok (.goto 4, 3) := by decide +kernel
theorem dX12_readTest_83 : decode cX12_readTest 83 = .ok (.iconst 0, 1) := by decide +kernel
theorem dX12_readTest_84 : decode cX12_readTest 84 = .ok (.iastore, 1) := by decide +kernel
theorem dX12_readTest_85 : decode cX12_readTest 85 = .ok (.aload_n 0, 1) := by decide +kernel
theorem dX12_readTest_86 : decode cX12_readTest 86 = .ok (.aload_n 0, 1) := by decide +kernel
theorem dX12_readTest_87 : decode cX12_readTest 87 = .ok (.bipush 60, 2) := by decide +kernel
theorem dX12_readTest_89 : decode cX12_readTest 89 = .ok (.invokevirtual 303, 3) := by decide +kernel
theorem dX12_readTest_92 : decode cX12_readTest 92 = .ok (.ifCond .ne 21, 3) := by decide +kernel
theorem dX12_readTest_95 : decode cX12_readTest 95 = .ok (.aload_n 0, 1) := by decide +kernel
theorem dX12_readTest_96 : decode cX12_readTest 96 = .ok (.bipush 62, 2) := by decide +kernel
theorem dX12_readTest_98 : decode cX12_readTest 98 = .ok (.invokevirtual 303, 3) := by decide +kernel
theorem dX12_readTest_101 : decode cX12_readTest 101 = .ok (.ifCond .ne 12, 3) := by decide +kernel
theorem dX12_readTest_104 : decode cX12_readTest 104 = .ok (.aload_n 0, 1) := by decide +kernel
theorem dX12_readTest_105 : decode cX12_readTest 105 = .ok (.bipush 61, 2) := by decide +kernel
theorem dX12_readTest_107 : decode cX12_readTest 107 = .ok (.invokevirtual 303, 3) := by decide +kernel
theorem dX12_readTest_110 : decode cX12_readTest 110 = .ok (.ifCond .eq 7, 3) := by decide +kernel
theorem dX12_readTest_113 : decode cX12_readTest 113 = .ok (.iconst 1, 1) := by decide +kernel
theorem dX12_readTest_114 : decode cX12_readTest 114 = .ok (.goto 4, 3) := by decide +kernel
theorem dX12_readTest_117 : decode cX12_readTest 117 = .ok (.iconst 0, 1) := by decide +kernel
theorem dX12_readTest_118 : decode cX12_readTest 118 = .ok (.invokevirtual 237, 3) := by decide +kernel
theorem dX12_readTest_121 : decode cX12_readTest 121 = .ok (.aload_n 0, 1) := by decide +kernel
theorem dX12_readTest_122 : decode cX12_readTest 122 = .ok (.getfield 35, 3) := by decide +kernel
theorem dX12_readTest_125 : decode cX12_readTest 125 = .ok (.iload_n 1, 1) := by decide +kernel
theorem dX12_readTest_126 : decode cX12_readTest 126 = .ok (.iconst 2, 1) := by decide +kernel
theorem dX12_readTest_127 : decode cX12_readTest 127 = .ok (.iadd, 1) := by decide +kernel
theorem dX12_readTest_128 : decode cX12_readTest 128 = .ok (.aload_n 0, 1) := by decide +kernel
theorem dX12_readTest_129 : decode cX12_readTest 129 = .ok (.iconst 0, 1) := by decide +kernel
theorem dX12_readTest_130 : decode cX12_readTest 130 = .ok (.sipush 9999, 3) := by decide +kernel
theorem dX12_readTest_133 : decode cX12_readTest 133 = .ok (.invokevirtual 241, 3) := by decide +kernel
theorem dX12_readTest_136 : decode cX12_readTest 136 = .ok (.iastore, 1) := by decide +kernel
theorem dX12_readTest_137 : decode cX12_readTest 137 = .ok (.return_, 1) := by decide +kernel
def j_X12_readTest : JD := (yX12_readTest, cX12_readTest, 3, none)
def b_X12_readTest : BD := (7, 0, 0)
theorem dX12_readRest_0 : decode cX12_readRest 0 = .ok (.aload_n 0, 1) := by decide +kernel
theorem dX12_readRest_1 : decode cX12_readRest 1 = .ok (.getfield 35, 3) := by decide +kernel
theorem dX12_readRest_4 : decode cX12_readRest 4 = .ok (.iload_n 1, 1) := by decide +kernel
theorem dX12_readRest_5 : decode cX12_readRest 5 = .ok (.iaload, 1) := by decide +kernel
theorem dX12_readRest_6 : decode cX12_readRest 6 = .ok (.istore_n 2, 1) := by decide +kernel
theorem dX12_readRest_7 : decode cX12_readRest 7 = .ok (.iload_n 2, 1) := by decide +kernel
theorem dX12_readRest_8 : decode cX12_readRest 8 = .ok (.ifCond .ne 22, 3) := by decide +kernel
theorem dX12_readRest_11 : decode cX12_readRest 11 = .ok (.aload_n 0, 1) := by decide +kernel
theorem dX12_readRest_12 : decode cX12_readRest 12 = .ok (.getfield 35, 3) := by decide +kernel
theorem dX12_readRest_15 : decode cX12_readRest 15 = .ok (.iload_n 1, 1) := by decide +kernel
theorem dX12_readRest_16 : decode cX12_readRest 16 = .ok (.iconst 1, 1) := by decide +kernel
theorem dX12_readRest_17 : decode cX12_readRest 17 = .ok (.iadd, 1) := by decide +kernel
theorem dX12_readRest_18 : decode cX12_readRest 18 = .ok (.aload_n 0, 1) := by decide +kernel
theorem dX12_readRest_19 : decode cX12_readRest 19 = .ok (.iconst 1, 1) := by decide +kernel
theorem dX12_readRest_20 : decode cX12_readRest 20 = .ok (.sipush 240, 3) := by decide +kernel
theorem dX12_readRest_23 : decode cX12_readRest 23 = .ok (.invokevirtual 241, 3) := by decide +kernel
theorem dX12_readRest_26 : decode cX12_readRest 26 = .ok (.iastore, 1) := by decide +kernel
theorem dX12_readRest_27 : decode cX12_readRest 27 = .ok (.goto 103, 3) := by decide +kernel
theorem dX12_readRest_30 : decode cX12_readRest 30 = .ok (.iload_n 2, 1) := by decide +kernel
theorem dX12_readRest_31 : decode cX12_readRest 31 = .ok (.iconst 3, 1) := by decide +kernel
theorem dX12_readRest_32 : decode cX12_readRest 32 = .ok (.if_icmp .ne 42, 3) := by decide +kernel
theorem dX12_readRest_35 : decode cX12_readRest 35 = .ok (.aload_n 0, 1) := by decide +kernel
theorem dX12_readRest_36 : decode cX12_readRest 36 = .ok (.getfield 35, 3) := by decide +kernel
theorem dX12_readRest_39 : decode cX12_readRest 39 = .ok (.iload_n 1, 1) := by decide +kernel
theorem dX12_readRest_40 : decode cX12_readRest 40 = .ok (.iconst 1, 1) := by decide +kernel
theorem dX12_readRest_41 : decode cX12_readRest 41 = .ok (.iadd, 1) := by decide +kernel
theorem dX12_readRest_42 : decode cX12_readRest 42 = .ok (.aload_n 0, 1) := by decide +kernel
theorem dX12_readRest_43 : decode cX12_readRest 43 = .ok (.iconst 0, 1) := by decide +kernel
theorem dX12_readRest_44 : decode cX12_readRest 44 = .ok (.iconst 0, 1) := by decide +kernel
theorem dX12_readRest_45 : decode cX12_readRest 45 = .ok (.invokevirtual 278, 3) := by decide +kernel
theorem dX12_readRest_48 : decode cX12_readRest 48 = .ok (.iastore, 1) := by decide +kernel
theorem dX12_readRest_49 : decode cX12_readRest 49 = .ok (.aload_n 0, 1) := by decide +kernel
theorem dX12_readRest_50 : decode cX12_readRest 50 = .ok (.aload_n 0, 1) := by decide +kernel
theorem dX12_readRest_51 : decode cX12_readRest 51 = .ok (.invokevirtual 202, 3) := by decide +kernel
theorem dX12_readRest_54 : decode cX12_readRest 54 = .ok (.invokevirtual 237, 3) := by decide +kernel
theorem dX12_readRest_57 : decode cX12_readRest 57 = .ok (.aload_n 0, 1) := by decide +kernel
theorem dX12_readRest_58 : decode cX12_readRest 58 = .ok (.getfield 35, 3) := by decide +kernel
theorem dX12_readRest_61 : decode cX12_readRest 61 = .ok (.iload_n 1, 1) := by decide +kernel
theorem dX12_readRest_62 : decode cX12_readRest 62 = .ok (.iconst 2, 1) := by decide +kernel
theorem dX12_readRest_63 : decode cX12_readRest 63 = .ok (.iadd, 1) := by decide +kernel
theorem dX12_readRest_64 : decode cX12_readRest 64 = .ok (.aload_n 0, 1) := by decide +kernel
theorem dX12_readRest_65 : decode cX12_readRest 65 = .ok (.iconst 0, 1) := by decide +kernel
theorem dX12_readRest_66 : decode cX12_readRest 66 = .ok (.iconst 1, 1) := by decide +kernel
theorem dX12_readRest_67 : decode cX12_readRest 67 = .ok (.invokevirtual 278, 3) := by decide +kernel
theorem dX12_readRest_70 : decode cX12_readRest 70 = .ok (.iastore, 1) := by decide +kernel
theorem dX12_readRest_71 : decode cX12_readRest 71 = .ok (.goto 59, 3) := by decide +kernel
theorem dX12_readRest_74 : decode cX12_readRest 74 = .ok (.iload_n 2, 1) := by decide +kernel
theorem dX12_readRest_75 : decode cX12_readRest 75 = .ok (.iconst 4, 1) := by decide +kernel
theorem dX12_readRest_76 : decode cX12_readRest 76 = .ok (.if_icmp .ne 20, 3) := by decide +kernel
theorem dX12_readRest_79 : decode cX12_readRest 79 = .ok (.aload_n 0, 1) := by decide +kernel
theorem dX12_readRest_80 : decode cX12_readRest 80 = .ok (.getfield 35, 3) := by decide +kernel
theorem dX12_readRest_83 : decode cX12_readRest 83 = .ok (.iload_n 1, 1) := by decide +kernel
theorem dX12_readRest_84 : decode cX12_readRest 84 = .ok (.iconst 1, 1) := by decide +kernel
theorem dX12_readRest_85 : decode cX12_readRest 85 = .ok (.iadd, 1) := by decide +kernel
theorem dX12_readRest_86 : decode cX12_readRest 86 = .ok (.aload_n 0, 1) := by decide +kernel
theorem dX12_readRest_87 : decode cX12_readRest 87 = .ok (.iconst 0, 1) := by decide +kernel
theorem dX12_readRest_88 : decode cX12_readRest 88 = .ok (.iconst 1, 1) := by decide +kernel
theorem dX12_readRest_89 : decode cX12_readRest 89 = .ok (.invokevirtual 278, 3) := by decide +kernel
theorem dX12_readRest_92 : decode cX12_readRest 92 = .ok (.iastore, 1) := by decide +kernel
theorem dX12_readRest_93 : decode cX12_readRest 93 = .ok (.goto 37, 3) := by decide +kernel
theorem dX12_readRest_96 : decode cX12_readRest 96 = .ok (.iload_n 2, 1) := by decide +kernel
theorem dX12_readRest_97 : decode cX12_readRest 97 = .ok (.iconst 5, 1) := by decide +kernel
theorem dX12_readRest_98 : decode cX12_readRest 98 = .ok (.if_icmp .ne 11, 3) := by decide +kernel
theorem dX12_readRest_101 : decode cX12_readRest 101 = .ok (.aload_n 0, 1) := by decide +kernel
theorem dX12_readRest_102 : decode cX12_readRest 102 = .ok (.iload_n 1, 1) := by decide +kernel
theorem dX12_readRest_103 : decode cX12_readRest 103 = .ok (.invokevirtual 312, 3) := by decide +kernel
theorem dX12_readRest_106 : decode cX12_readRest 106 = .ok (.goto 24, 3) := by decide +kernel
theorem dX12_readRest_109 : decode cX12_readRest 109 = .ok (.iload_n 2, 1) := by decide +kernel
theorem dX12_readRest_110 : decode cX12_readRest 110 = .ok (.bipush 6, 2) := by decide +kernel
theorem dX12_readRest_112 : decode cX12_readRest 112 = .ok (.if_icmp .ne 18, 3) := by decide +kernel
theorem dX12_readRest_115 : decode cX12_readRest 115 = .ok (.aload_n 0, 1) := by decide +kernel
theorem dX12_readRest_116 : decode cX12_readRest 116 = .ok (.getfield 35, 3) := by decide +kernel
theorem dX12_readRest_119 : decode cX12_readRest 119 = .ok (.iload_n 1, 1) := by decide +kernel
theorem dX12_readRest_120 : decode cX12_readRest 120 = .ok (.iconst 1, 1) := by decide +kernel
theorem dX12_readRest_121 : decode cX12_readRest 121 = .ok (.iadd, 1) := by decide +kernel
theorem dX12_readRest_122 : decode cX12_readRest 122 = .ok (.aload_n 0, 1) := by decide +kernel
theorem dX12_readRest_123 : decode cX12_readRest 123 = .ok (.iconst 1, 1) := by decide +kernel
theorem dX12_readRest_124 : decode cX12_readRest 124 = .ok (.bipush 99, 2) := by decide +kernel
theorem dX12_readRest_126 : decode cX12_readRest 126 = .ok (.invokevirtual 241, 3) := by decide +kernel
theorem dX12_readRest_129 : decode cX12_readRest 129 = .ok (.iastore, 1) := by decide +kernel
theorem dX12_readRest_130 : decode cX12_readRest 130 = .ok (.return_, 1) := by decide +kernel
def j_X12_readRest : JD := (yX12_readRest, cX12_readRest, 3, none)
def b_X12_readRest : BD := (8, 0, 0)
theorem dX12_readStep_0 : decode cX12_readStep 0 = .ok (.aload_n 0, 1) := by decide +kernel
theorem dX12_readStep_1 : decode cX12_readStep 1 = .ok (.invokevirtual 209, 3) := by decide +kernel
theorem dX12_readStep_4 : decode cX12_readStep 4 = .ok (.istore_n 2, 1) := by decide +kernel
theorem dX12_readStep_5 : decode cX12_readStep 5 = .ok (.iload_n 2, 1) := by decide +kernel
theorem dX12_readStep_6 : decode cX12_readStep 6 = .ok (.iconst 5, 1) := by decide +kernel
theorem dX12_readStep_7 : decode cX12_readStep 7 = .ok (.if_icmp .eq 9, 3) := by decide +kernel
theorem dX12_readStep_10 : decode cX12_readStep 10 = .ok (.iload_n 2, 1) := by decide +kernel
theorem dX12_readStep_11 : decode cX12_readStep 11 = .ok (.bipush 6, 2) := by decide +kernel
theorem dX12_readStep_13 : decode cX12_readStep 13 = .ok (.if_icmp .ne 7, 3) := by decide +kernel
theorem dX12_readStep_16 : decode cX12_readStep 16 = .ok (.iconst 1, 1) := by decide +kernel
theorem dX12_readStep_17 : decode cX12_readStep 17 = .ok (.goto 4, 3) := by decide +kernel
theorem dX12_readStep_20 : decode cX12_readStep 20 = .ok (.iconst 0, 1) := by decide +kernel
theorem dX12_readStep_21 : decode cX12_readStep 21 = .ok (.istore_n 3, 1) := by decide +kernel
theorem dX12_readStep_22 : decode cX12_readStep 22 = .ok (.iload_n 2, 1) := by decide +kernel
theorem dX12_readStep_23 : decode cX12_readStep 23 = .ok (.ifCond .ge 7, 3) := by decide +kernel
theorem dX12_readStep_26 : decode cX12_readStep 26 = .ok (.aload_n 0, 1) := by decide +kernel
theorem dX12_readStep_27 : decode cX12_readStep 27 = .ok (.invokevirtual 234, 3) := by decide +kernel
theorem dX12_readStep_30 : decode cX12_readStep 30 = .ok (.aload_n 0, 1) := by decide +kernel
theorem dX12_readStep_31 : decode cX12_readStep 31 = .ok (.getfield 221, 3) := by decide +kernel
theorem dX12_readStep_34 : decode cX12_readStep 34 = .ok (.ifCond .ne 22, 3) := by decide +kernel
theorem dX12_readStep_37 : decode cX12_readStep 37 = .ok (.aload_n 0, 1) := by decide +kernel
theorem dX12_readStep_38 : decode cX12_readStep 38 = .ok (.getfield 315, 3) := by decide +kernel
theorem dX12_readStep_41 : decode cX12_readStep 41 = .ok (.bipush 30, 2) := by decide +kernel
theorem dX12_readStep_43 : decode cX12_readStep 43 = .ok (.if_icmp .ne 13, 3) := by decide +kernel
theorem dX12_readStep_46 : decode cX12_readStep 46 = .ok (.aload_n 0, 1) := by decide +kernel
theorem dX12_readStep_47 : decode cX12_readStep 47 = .ok (.bipush 6, 2) := by decide +kernel
theorem dX12_readStep_49 : decode cX12_readStep 49 = .ok (.aload_n 0, 1) := by decide +kernel
theorem dX12_readStep_50 : decode cX12_readStep 50 = .ok (.getfield 117, 3) := by decide +kernel
theorem dX12_readStep_53 : decode cX12_readStep 53 = .ok (.invokevirtual 227, 3) := by decide +kernel
theorem dX12_readStep_56 : decode cX12_readStep 56 = .ok (.aload_n 0, 1) := by decide +kernel
theorem dX12_readStep_57 : decode cX12_readStep 57 = .ok (.getfield 221, 3) := by decide +kernel
theorem dX12_readStep_60 : decode cX12_readStep 60 = .ok (.ifCond .ne 22, 3) := by decide +kernel
theorem dX12_readStep_63 : decode cX12_readStep 63 = .ok (.iload_n 3, 1) := by decide +kernel
theorem dX12_readStep_64 : decode cX12_readStep 64 = .ok (.ifCond .eq 18, 3) := by decide +kernel
theorem dX12_readStep_67 : decode cX12_readStep 67 = .ok (.iload_n 1, 1) := by decide +kernel
theorem dX12_readStep_68 : decode cX12_readStep 68 = .ok (.iconst 3, 1) := by decide +kernel
theorem dX12_readStep_69 : decode cX12_readStep 69 = .ok (.if_icmp .ne 13, 3) := by decide +kernel
theorem dX12_readStep_72 : decode cX12_readStep 72 = .ok (.aload_n 0, 1) := by decide +kernel
theorem dX12_readStep_73 : decode cX12_readStep 73 = .ok (.bipush 7, 2) := by decide +kernel
theorem dX12_readStep_75 : decode cX12_readStep 75 = .ok (.aload_n 0, 1) := by decide +kernel
theorem dX12_readStep_76 : decode cX12_readStep 76 = .ok (.getfield 117, 3) := by decide +kernel
theorem dX12_readStep_79 : decode cX12_readStep 79 = .ok (.invokevirtual 227, 3) := by decide +kernel
theorem dX12_readStep_82 : decode cX12_readStep 82 = .ok (.aload_n 0, 1) := by decide +kernel
theorem dX12_readStep_83 : decode cX12_readStep 83 = .ok (.getfield 221, 3) := by decide +kernel
theorem dX12_readStep_86 : decode cX12_readStep 86 = .ok (.ifCond .le 4, 3) := by decide +kernel
theorem dX12_readStep_89 : decode cX12_readStep 89 = .ok (.return_, 1) := by decide +kernel
theorem dX12_readStep_90 : decode cX12_readStep 90 = .ok (.sipush 1975, 3) := by decide +kernel
theorem dX12_readStep_93 : decode cX12_readStep 93 = .ok (.bipush 9, 2) := by decide +kernel
theorem dX12_readStep_95 : decode cX12_readStep 95 = .ok (.aload_n 0, 1) := by decide +kernel
theorem dX12_readStep_96 : decode cX12_readStep 96 = .ok (.getfield 315, 3) := by decide +kernel
theorem dX12_readStep_99 : decode cX12_readStep 99 = .ok (.imul, 1) := by decide +kernel
theorem dX12_readStep_100 : decode cX12_readStep 100 = .ok (.iadd, 1) := by decide +kernel
theorem dX12_readStep_101 : decode cX12_readStep 101 = .ok (.istore 4, 2) := by decide +kernel
theorem dX12_readStep_103 : decode cX12_readStep 103 = .ok (.aload_n 0, 1) := by decide +kernel
theorem dX12_readStep_104 : decode cX12_readStep 104 = .ok (.dup, 1) := by decide +kernel
theorem dX12_readStep_105 : decode cX12_readStep 105 = .ok (.getfield 315, 3) := by decide +kernel
theorem dX12_readStep_108 : decode cX12_readStep 108 = .ok (.iconst 1, 1) := by decide +kernel
theorem dX12_readStep_109 : decode cX12_readStep 109 = .ok (.iadd, 1) := by decide +kernel
theorem dX12_readStep_110 : decode cX12_readStep 110 = .ok (.putfield 315, 3) := by decide +kernel
theorem dX12_readStep_113 : decode cX12_readStep 113 = .ok (.aload_n 0, 1) := by decide +kernel
theorem dX12_readStep_114 : decode cX12_readStep 114 = .ok (.invokevirtual 231, 3) := by decide +kernel
theorem dX12_readStep_117 : decode cX12_readStep 117 = .ok (.aload_n 0, 1) := by decide +kernel
theorem dX12_readStep_118 : decode cX12_readStep 118 = .ok (.getfield 35, 3) := by decide +kernel
theorem dX12_readStep_121 : decode cX12_readStep 121 = .ok (.iload 4, 2) := by decide +kernel
theorem dX12_readStep_123 : decode cX12_readStep 123 = .ok (.iload_n 2, 1) := by decide +kernel
theorem dX12_readStep_124 : decode cX12_readStep 124 = .ok (.iastore, 1) := by decide +kernel
theorem dX12_readStep_125 : decode cX12_readStep 125 = .ok (.aload_n 0, 1) := by decide +kernel
theorem dX12_readStep_126 : decode cX12_readStep 126 = .ok (.iload 4, 2) := by decide +kernel
theorem dX12_readStep_128 : decode cX12_readStep 128 = .ok (.invokevirtual 318, 3) := by decide +kernel
theorem dX12_readStep_131 : decode cX12_readStep 131 = .ok (.aload_n 0, 1) := by decide +kernel
theorem dX12_readStep_132 : decode cX12_readStep 132 = .ok (.aload_n 0, 1) := by decide +kernel
theorem dX12_readStep_133 : decode cX12_readStep 133 = .ok (.bipush 59, 2) := by decide +kernel
theorem dX12_readStep_135 : decode cX12_readStep 135 = .ok (.invokevirtual 303, 3) := by decide +kernel
theorem dX12_readStep_138 : decode cX12_readStep 138 = .ok (.invokevirtual 237, 3) := by decide +kernel
theorem dX12_readStep_141 : decode cX12_readStep 141 = .ok (.iload_n 3, 1) := by decide +kernel
theorem dX12_readStep_142 : decode cX12_readStep 142 = .ok (.ifCond .eq 27, 3) := by decide +kernel
theorem dX12_readStep_145 : decode cX12_readStep 145 = .ok (.aload_n 0, 1) := by decide +kernel
theorem dX12_readStep_146 : decode cX12_readStep 146 = .ok (.getfield 221, 3) := by decide +kernel
theorem dX12_readStep_149 : decode cX12_readStep 149 = .ok (.ifCond .ne 20, 3) := by decide +kernel
theorem dX12_readStep_152 : decode cX12_readStep 152 = .ok (.aload_n 0, 1) := by decide +kernel
theorem dX12_readStep_153 : decode cX12_readStep 153 = .ok (.invokevirtual 215, 3) := by decide +kernel
theorem dX12_readStep_156 : decode cX12_readStep 156 = .ok (.ifCond .ne 13, 3) := by decide +kernel
theorem dX12_readStep_159 : decode cX12_readStep 159 = .ok (.aload_n 0, 1) := by decide +kernel
theorem dX12_readStep_160 : decode cX12_readStep 160 = .ok (.iload_n 1, 1) := by decide +kernel
theorem dX12_readStep_161 : decode cX12_readStep 161 = .ok (.iconst 1, 1) := by decide +kernel
theorem dX12_readStep_162 : decode cX12_readStep 162 = .ok (.iadd, 1) := by decide +kernel
theorem dX12_readStep_163 : decode cX12_readStep 163 = .ok (.invokevirtual 321, 3) := by decide +kernel
theorem dX12_readStep_166 : decode cX12_readStep 166 = .ok (.goto (-25), 3) := by decide +kernel
theorem dX12_readStep_169 : decode cX12_readStep 169 = .ok (.iload_n 3, 1) := by decide +kernel
theorem dX12_readStep_170 : decode cX12_readStep 170 = .ok (.ifCond .eq 21, 3) := by decide +kernel
theorem dX12_readStep_173 : decode cX12_readStep 173 = .ok (.aload_n 0, 1) := by decide +kernel
theorem dX12_readStep_174 : decode cX12_readStep 174 = .ok (.aload_n 0, 1) := by decide +kernel
theorem dX12_readStep_175 : decode cX12_readStep 175 = .ok (.invokevirtual 215, 3) := by decide +kernel
theorem dX12_readStep_178 : decode cX12_readStep 178 = .ok (.invokevirtual 237, 3) := by decide +kernel
theorem dX12_readStep_181 : decode cX12_readStep 181 = .ok (.aload_n 0, 1) := by decide +kernel
theorem dX12_readStep_182 : decode cX12_readStep 182 = .ok (.aload_n 0, 1) := by decide +kernel
theorem dX12_readStep_183 : decode cX12_readStep 183 = .ok (.bipush 59, 2) := by decide +kernel
theorem dX12_readStep_185 : decode cX12_readStep 185 = .ok (.invokevirtual 303, 3) := by decide +kernel
theorem dX12_readStep_188 : decode cX12_readStep 188 = .ok (.invokevirtual 237, 3) := by decide +kernel
theorem dX12_readStep_191 : decode cX12_readStep 191 = .ok (.aload_n 0, 1) := by decide +kernel
theorem dX12_readStep_192 : decode cX12_readStep 192 = .ok (.getfield 35, 3) := by decide +kernel
theorem dX12_readStep_195 : decode cX12_readStep 195 = .ok (.iload 4, 2) := by decide +kernel
theorem dX12_readStep_197 : decode cX12_readStep 197 = .ok (.bipush 8, 2) := by decide +kernel
theorem dX12_readStep_199 : decode cX12_readStep 199 = .ok (.iadd, 1) := by decide +kernel
theorem dX12_readStep_200 : decode cX12_readStep 200 = .ok (.aload_n 0, 1) := by decide +kernel
theorem dX12_readStep_201 : decode cX12_readStep 201 = .ok (.getfield 315, 3) := by decide +kernel
theorem dX12_readStep_204 : decode cX12_readStep 204 = .ok (.iastore, 1) := by decide +kernel
theorem dX12_readStep_205 : decode cX12_readStep 205 = .ok (.return_, 1) := by decide +kernel
def j_X12_readStep : JD := (yX12_readStep, cX12_readStep, 5, none)
def b_X12_readStep (d : Nat) : BD := (9 + 1 * d, 0, 0)
theorem dX12_years_0 : decode cX12_years 0 = .ok (.aload_n 0, 1) := by decide +kernel
theorem dX12_years_1 : decode cX12_years 1 = .ok (.iconst 0, 1) := by decide +kernel
theorem dX12_years_2 : decode cX12_years 2 = .ok (.putfield 68, 3) := by decide +kernel
theorem dX12_years_5 : decode cX12_years 5 = .ok (.aload_n 0, 1) := by decide +kernel
theorem dX12_years_6 : decode cX12_years 6 = .ok (.iconst 0, 1) := by decide +kernel
theorem dX12_years_7 : decode cX12_years 7 = .ok (.putfield 71, 3) := by decide +kernel
theorem dX12_years_10 : decode cX12_years 10 = .ok (.aload_n 0, 1) := by decide +kernel
theorem dX12_years_11 : decode cX12_years 11 = .ok (.iload_n 1, 1) := by decide +kernel
theorem dX12_years_12 : decode cX12_years 12 = .ok (.sipush 300, 3) := by decide +kernel
theorem dX12_years_15 : decode cX12_years 15 = .ok (.invokevirtual 285, 3) := by decide +kernel
theorem dX12_years_18 : decode cX12_years 18 = .ok (.ifCond .ne 5, 3) := by decide +kernel
theorem dX12_years_21 : decode cX12_years 21 = .ok (.iconst (-1), 1) := by decide +kernel
theorem dX12_years_22 : decode cX12_years 22 = .ok (.ireturn, 1) := by decide +kernel
theorem dX12_years_23 : decode cX12_years 23 = .ok (.aload_n 0, 1) := by decide +kernel
theorem dX12_years_24 : decode cX12_years 24 = .ok (.iconst 0, 1) := by decide +kernel
theorem dX12_years_25 : decode cX12_years 25 = .ok (.putfield 315, 3) := by decide +kernel
theorem dX12_years_28 : decode cX12_years 28 = .ok (.aload_n 0, 1) := by decide +kernel
theorem dX12_years_29 : decode cX12_years 29 = .ok (.getfield 221, 3) := by decide +kernel
theorem dX12_years_32 : decode cX12_years 32 = .ok (.ifCond .ne 18, 3) := by decide +kernel
theorem dX12_years_35 : decode cX12_years 35 = .ok (.aload_n 0, 1) := by decide +kernel
theorem dX12_years_36 : decode cX12_years 36 = .ok (.getfield 123, 3) := by decide +kernel
theorem dX12_years_39 : decode cX12_years 39 = .ok (.ifCond .eq 11, 3) := by decide +kernel
theorem dX12_years_42 : decode cX12_years 42 = .ok (.aload_n 0, 1) := by decide +kernel
theorem dX12_years_43 : decode cX12_years 43 = .ok (.iconst 0, 1) := by decide +kernel
theorem dX12_years_44 : decode cX12_years 44 = .ok (.invokevirtual 321, 3) := by decide +kernel
theorem dX12_years_47 : decode cX12_years 47 = .ok (.goto (-19), 3) := by decide +kernel
theorem dX12_years_50 : decode cX12_years 50 = .ok (.aload_n 0, 1) := by decide +kernel
theorem dX12_years_51 : decode cX12_years 51 = .ok (.invokevirtual 306, 3) := by decide +kernel
theorem dX12_years_54 : decode cX12_years 54 = .ok (.ifCond .ne 5, 3) := by decide +kernel
theorem dX12_years_57 : decode cX12_years 57 = .ok (.iconst (-1), 1) := by decide +kernel
theorem dX12_years_58 : decode cX12_years 58 = .ok (.ireturn, 1) := by decide +kernel
theorem dX12_years_59 : decode cX12_years 59 = .ok (.aload_n 0, 1) := by decide +kernel
theorem dX12_years_60 : decode cX12_years 60 = .ok (.getfield 35, 3) := by decide +kernel
theorem dX12_years_63 : decode cX12_years 63 = .ok (.sipush 173, 3) := by decide +kernel
theorem dX12_years_66 : decode cX12_years 66 = .ok (.iconst 1, 1) := by decide +kernel
theorem dX12_years_67 : decode cX12_years 67 = .ok (.iastore, 1) := by decide +kernel
theorem dX12_years_68 : decode cX12_years 68 = .ok (.aload_n 0, 1) := by decide +kernel
theorem dX12_years_69 : decode cX12_years 69 = .ok (.getfield 35, 3) := by decide +kernel
theorem dX12_years_72 : decode cX12_years 72 = .ok (.sipush 174, 3) := by decide +kernel
theorem dX12_years_75 : decode cX12_years 75 = .ok (.aload_n 0, 1) := by decide +kernel
theorem dX12_years_76 : decode cX12_years 76 = .ok (.getfield 315, 3) := by decide +kernel
theorem dX12_years_79 : decode cX12_years 79 = .ok (.iastore, 1) := by decide +kernel
theorem dX12_years_80 : decode cX12_years 80 = .ok (.iconst 0, 1) := by decide +kernel
theorem dX12_years_81 : decode cX12_years 81 = .ok (.istore_n 2, 1) := by decide +kernel
theorem dX12_years_82 : decode cX12_years 82 = .ok (.iload_n 2, 1) := by decide +kernel
theorem dX12_years_83 : decode cX12_years 83 = .ok (.bipush 9, 2) := by decide +kernel
theorem dX12_years_85 : decode cX12_years 85 = .ok (.aload_n 0, 1) := by decide +kernel
theorem dX12_years_86 : decode cX12_years 86 = .ok (.getfield 315, 3) := by decide +kernel
theorem dX12_years_89 : decode cX12_years 89 = .ok (.imul, 1) := by decide +kernel
theorem dX12_years_90 : decode cX12_years 90 = .ok (.if_icmp .ge 29, 3) := by decide +kernel
theorem dX12_years_93 : decode cX12_years 93 = .ok (.aload_n 0, 1) := by decide +kernel
theorem dX12_years_94 : decode cX12_years 94 = .ok (.getfield 35, 3) := by decide +kernel
theorem dX12_years_97 : decode cX12_years 97 = .ok (.sipush 175, 3) := by decide +kernel
theorem dX12_years_100 : decode cX12_years 100 = .ok (.iload_n 2, 1) := by decide +kernel
theorem dX12_years_101 : decode cX12_years 101 = .ok (.iadd, 1) := by decide +kernel
theorem dX12_years_102 : decode cX12_years 102 = .ok (.aload_n 0, 1) := by decide +kernel
theorem dX12_years_103 : decode cX12_years 103 = .ok (.getfield 35, 3) := by decide +kernel
theorem dX12_years_106 : decode cX12_years 106 = .ok (.sipush 1975, 3) := by decide +kernel
theorem dX12_years_109 : decode cX12_years 109 = .ok (.iload_n 2, 1) := by decide +kernel
theorem dX12_years_110 : decode cX12_years 110 = .ok (.iadd, 1) := by decide +kernel
theorem dX12_years_111 : decode cX12_years 111 = .ok (.iaload, 1) := by decide +kernel
theorem dX12_years_112 : decode cX12_years 112 = .ok (.iastore, 1) := by decide +kernel
theorem dX12_years_113 : decode cX12_years 113 = .ok (.iinc 2 1, 3) := by decide +kernel
theorem dX12_years_116 : decode cX12_years 116 = .ok (.goto (-34), 3) := by decide +kernel
theorem dX12_years_119 : decode cX12_years 119 = .ok (.aload_n 0, 1) := by decide +kernel
theorem dX12_years_120 : decode cX12_years 120 = .ok (.getfield 315, 3) := by decide +kernel
theorem dX12_years_123 : decode cX12_years 123 = .ok (.ireturn, 1) := by decide +kernel
def j_X12_years : JD := (yX12_years, cX12_years, 3, (some .int))
def b_X12_years : BD := (18, 0, 0)
theorem dX12_isHouseAt_0 : decode cX12_isHouseAt 0 = .ok (.iload_n 1, 1) := by decide +kernel
theorem dX12_isHouseAt_1 : decode cX12_isHouseAt 1 = .ok (.i2l, 1) := by decide +kernel
theorem dX12_isHouseAt_2 : decode cX12_isHouseAt 2 = .ok (.lconst 0, 1) := by decide +kernel
theorem dX12_isHouseAt_3 : decode cX12_isHouseAt 3 = .ok (.aload_n 0, 1) := by decide +kernel
theorem dX12_isHouseAt_4 : decode cX12_isHouseAt 4 = .ok (.getfield 35, 3) := by decide +kernel
theorem dX12_isHouseAt_7 : decode cX12_isHouseAt 7 = .ok (.iconst 0, 1) := by decide +kernel
theorem dX12_isHouseAt_8 : decode cX12_isHouseAt 8 = .ok (.iaload, 1) := by decide +kernel
theorem dX12_isHouseAt_9 : decode cX12_isHouseAt 9 = .ok (.iconst 1, 1) := by decide +kernel
theorem dX12_isHouseAt_10 : decode cX12_isHouseAt 10 = .ok (.isub, 1) := by decide +kernel
theorem dX12_isHouseAt_11 : decode cX12_isHouseAt 11 = .ok (.i2l, 1) := by decide +kernel
theorem dX12_isHouseAt_12 : decode cX12_isHouseAt 12 = .ok (.invokestatic 103, 3) := by decide +kernel
theorem dX12_isHouseAt_15 : decode cX12_isHouseAt 15 = .ok (.ireturn, 1) := by decide +kernel
def j_X12_isHouseAt : JD := (yX12_isHouseAt, cX12_isHouseAt, 2, (some .boolean))
def b_X12_isHouseAt : BD := (1, 0, 0)
theorem dX12_isGangAt_0 : decode cX12_isGangAt 0 = .ok (.iload_n 1, 1) := by decide +kernel
theorem dX12_isGangAt_1 : decode cX12_isGangAt 1 = .ok (.i2l, 1) := by decide +kernel
theorem dX12_isGangAt_2 : decode cX12_isGangAt 2 = .ok (.lconst 0, 1) := by decide +kernel
theorem dX12_isGangAt_3 : decode cX12_isGangAt 3 = .ok (.aload_n 0, 1) := by decide +kernel
theorem dX12_isGangAt_4 : decode cX12_isGangAt 4 = .ok (.getfield 35, 3) := by decide +kernel
theorem dX12_isGangAt_7 : decode cX12_isGangAt 7 = .ok (.iconst 1, 1) := by decide +kernel
theorem dX12_isGangAt_8 : decode cX12_isGangAt 8 = .ok (.iaload, 1) := by decide +kernel
theorem dX12_isGangAt_9 : decode cX12_isGangAt 9 = .ok (.iconst 1, 1) := by decide +kernel
theorem dX12_isGangAt_10 : decode cX12_isGangAt 10 = .ok (.isub, 1) := by decide +kernel
theorem dX12_isGangAt_11 : decode cX12_isGangAt 11 = .ok (.i2l, 1) := by decide +kernel
theorem dX12_isGangAt_12 : decode cX12_isGangAt 12 = .ok (.invokestatic 103, 3) := by decide +kernel
theorem dX12_isGangAt_15 : decode cX12_isGangAt 15 = .ok (.ireturn, 1) := by decide +kernel
def j_X12_isGangAt : JD := (yX12_isGangAt, cX12_isGangAt, 2, (some .boolean))
def b_X12_isGangAt : BD := (1, 0, 0)
theorem dX12_stands_0 : decode cX12_stands 0 = .ok (.aload_n 0, 1) := by decide +kernel
theorem dX12_stands_1 : decode cX12_stands 1 = .ok (.getfield 35, 3) := by decide +kernel
theorem dX12_stands_4 : decode cX12_stands 4 = .ok (.bipush 61, 2) := by decide +kernel
theorem dX12_stands_6 : decode cX12_stands 6 = .ok (.iload_n 1, 1) := by decide +kernel
theorem dX12_stands_7 : decode cX12_stands 7 = .ok (.iadd, 1) := by decide +kernel
theorem dX12_stands_8 : decode cX12_stands 8 = .ok (.iaload, 1) := by decide +kernel
theorem dX12_stands_9 : decode cX12_stands 9 = .ok (.iconst 1, 1) := by decide +kernel
theorem dX12_stands_10 : decode cX12_stands 10 = .ok (.if_icmp .ne 7, 3) := by decide +kernel
theorem dX12_stands_13 : decode cX12_stands 13 = .ok (.iconst 1, 1) := by decide +kernel
theorem dX12_stands_14 : decode cX12_stands 14 = .ok (.goto 4, 3) := by decide +kernel
theorem dX12_stands_17 : decode cX12_stands 17 = .ok (.iconst 0, 1) := by decide +kernel
theorem dX12_stands_18 : decode cX12_stands 18 = .ok (.ireturn, 1) := by decide +kernel
def j_X12_stands : JD := (yX12_stands, cX12_stands, 2, (some .boolean))
def b_X12_stands : BD := (0, 0, 0)
theorem dX12_isOn_0 : decode cX12_isOn 0 = .ok (.aload_n 0, 1) := by decide +kernel
theorem dX12_isOn_1 : decode cX12_isOn 1 = .ok (.iload_n 1, 1) := by decide +kernel
theorem dX12_isOn_2 : decode cX12_isOn 2 = .ok (.invokevirtual 324, 3) := by decide +kernel
theorem dX12_isOn_5 : decode cX12_isOn 5 = .ok (.ifCond .eq 19, 3) := by decide +kernel
theorem dX12_isOn_8 : decode cX12_isOn 8 = .ok (.aload_n 0, 1) := by decide +kernel
theorem dX12_isOn_9 : decode cX12_isOn 9 = .ok (.getfield 35, 3) := by decide +kernel
theorem dX12_isOn_12 : decode cX12_isOn 12 = .ok (.bipush 53, 2) := by decide +kernel
theorem dX12_isOn_14 : decode cX12_isOn 14 = .ok (.iload_n 1, 1) := by decide +kernel
theorem dX12_isOn_15 : decode cX12_isOn 15 = .ok (.iadd, 1) := by decide +kernel
theorem dX12_isOn_16 : decode cX12_isOn 16 = .ok (.iaload, 1) := by decide +kernel
theorem dX12_isOn_17 : decode cX12_isOn 17 = .ok (.ifCond .le 7, 3) := by decide +kernel
theorem dX12_isOn_20 : decode cX12_isOn 20 = .ok (.iconst 1, 1) := by decide +kernel
theorem dX12_isOn_21 : decode cX12_isOn 21 = .ok (.goto 4, 3) := by decide +kernel
theorem dX12_isOn_24 : decode cX12_isOn 24 = .ok (.iconst 0, 1) := by decide +kernel
theorem dX12_isOn_25 : decode cX12_isOn 25 = .ok (.ireturn, 1) := by decide +kernel
def j_X12_isOn : JD := (yX12_isOn, cX12_isOn, 2, (some .boolean))
def b_X12_isOn : BD := (1, 0, 0)
theorem dX12_dueOf_0 : decode cX12_dueOf 0 = .ok (.iconst 0, 1) := by decide +kernel
theorem dX12_dueOf_1 : decode cX12_dueOf 1 = .ok (.istore_n 2, 1) := by decide +kernel
theorem dX12_dueOf_2 : decode cX12_dueOf 2 = .ok (.iconst 0, 1) := by decide +kernel
theorem dX12_dueOf_3 : decode cX12_dueOf 3 = .ok (.istore_n 3, 1) := by decide +kernel
theorem dX12_dueOf_4 : decode cX12_dueOf 4 = .ok (.iload_n 3, 1) := by decide +kernel
theorem dX12_dueOf_5 : decode cX12_dueOf 5 = .ok (.aload_n 0, 1) := by decide +kernel
theorem dX12_dueOf_6 : decode cX12_dueOf 6 = .ok (.getfield 35, 3) := by decide +kernel
theorem dX12_dueOf_9 : decode cX12_dueOf 9 = .ok (.iconst 0, 1) := by decide +kernel
theorem dX12_dueOf_10 : decode cX12_dueOf 10 = .ok (.iaload, 1) := by decide +kernel
theorem dX12_dueOf_11 : decode cX12_dueOf 11 = .ok (.if_icmp .ge 41, 3) := by decide +kernel
theorem dX12_dueOf_14 : decode cX12_dueOf 14 = .ok (.iload_n 2, 1) := by decide +kernel
theorem dX12_dueOf_15 : decode cX12_dueOf 15 = .ok (.aload_n 0, 1) := by decide +kernel
theorem dX12_dueOf_16 : decode cX12_dueOf 16 = .ok (.getfield 35, 3) := by decide +kernel
theorem dX12_dueOf_19 : decode cX12_dueOf 19 = .ok (.bipush 69, 2) := by decide +kernel
theorem dX12_dueOf_21 : decode cX12_dueOf 21 = .ok (.bipush 8, 2) := by decide +kernel
theorem dX12_dueOf_23 : decode cX12_dueOf 23 = .ok (.iload_n 3, 1) := by decide +kernel
theorem dX12_dueOf_24 : decode cX12_dueOf 24 = .ok (.imul, 1) := by decide +kernel
theorem dX12_dueOf_25 : decode cX12_dueOf 25 = .ok (.iadd, 1) := by decide +kernel
theorem dX12_dueOf_26 : decode cX12_dueOf 26 = .ok (.iload_n 1, 1) := by decide +kernel
theorem dX12_dueOf_27 : decode cX12_dueOf 27 = .ok (.iadd, 1) := by decide +kernel
theorem dX12_dueOf_28 : decode cX12_dueOf 28 = .ok (.iaload, 1) := by decide +kernel
theorem dX12_dueOf_29 : decode cX12_dueOf 29 = .ok (.aload_n 0, 1) := by decide +kernel
theorem dX12_dueOf_30 : decode cX12_dueOf 30 = .ok (.getfield 35, 3) := by decide +kernel
theorem dX12_dueOf_33 : decode cX12_dueOf 33 = .ok (.bipush 69, 2) := by decide +kernel
theorem dX12_dueOf_35 : decode cX12_dueOf 35 = .ok (.bipush 8, 2) := by decide +kernel
theorem dX12_dueOf_37 : decode cX12_dueOf 37 = .ok (.iload_n 1, 1) := by decide +kernel
theorem dX12_dueOf_38 : decode cX12_dueOf 38 = .ok (.imul, 1) := by decide +kernel
theorem dX12_dueOf_39 : decode cX12_dueOf 39 = .ok (.iadd, 1) := by decide +kernel
theorem dX12_dueOf_40 : decode cX12_dueOf 40 = .ok (.iload_n 3, 1) := by decide +kernel
theorem dX12_dueOf_41 : decode cX12_dueOf 41 = .ok (.iadd, 1) := by decide +kernel
theorem dX12_dueOf_42 : decode cX12_dueOf 42 = .ok (.iaload, 1) := by decide +kernel
theorem dX12_dueOf_43 : decode cX12_dueOf 43 = .ok (.isub, 1) := by decide +kernel
theorem dX12_dueOf_44 : decode cX12_dueOf 44 = .ok (.iadd, 1) := by decide +kernel
theorem dX12_dueOf_45 : decode cX12_dueOf 45 = .ok (.istore_n 2, 1) := by decide +kernel
theorem dX12_dueOf_46 : decode cX12_dueOf 46 = .ok (.iinc 3 1, 3) := by decide +kernel
theorem dX12_dueOf_49 : decode cX12_dueOf 49 = .ok (.goto (-45), 3) := by decide +kernel
theorem dX12_dueOf_52 : decode cX12_dueOf 52 = .ok (.iload_n 2, 1) := by decide +kernel
theorem dX12_dueOf_53 : decode cX12_dueOf 53 = .ok (.ireturn, 1) := by decide +kernel
def j_X12_dueOf : JD := (yX12_dueOf, cX12_dueOf, 4, (some .int))
def b_X12_dueOf : BD := (0, 0, 0)
theorem dX12_takesOf_0 : decode cX12_takesOf 0 = .ok (.iconst 1, 1) := by decide +kernel
theorem dX12_takesOf_1 : decode cX12_takesOf 1 = .ok (.iconst 4, 1) := by decide +kernel
theorem dX12_takesOf_2 : decode cX12_takesOf 2 = .ok (.aload_n 0, 1) := by decide +kernel
theorem dX12_takesOf_3 : decode cX12_takesOf 3 = .ok (.getfield 35, 3) := by decide +kernel
theorem dX12_takesOf_6 : decode cX12_takesOf 6 = .ok (.bipush 29, 2) := by decide +kernel
theorem dX12_takesOf_8 : decode cX12_takesOf 8 = .ok (.iload_n 2, 1) := by decide +kernel
theorem dX12_takesOf_9 : decode cX12_takesOf 9 = .ok (.iadd, 1) := by decide +kernel
theorem dX12_takesOf_10 : decode cX12_takesOf 10 = .ok (.iaload, 1) := by decide +kernel
theorem dX12_takesOf_11 : decode cX12_takesOf 11 = .ok (.aload_n 0, 1) := by decide +kernel
theorem dX12_takesOf_12 : decode cX12_takesOf 12 = .ok (.getfield 35, 3) := by decide +kernel
theorem dX12_takesOf_15 : decode cX12_takesOf 15 = .ok (.bipush 45, 2) := by decide +kernel
theorem dX12_takesOf_17 : decode cX12_takesOf 17 = .ok (.iload_n 2, 1) := by decide +kernel
theorem dX12_takesOf_18 : decode cX12_takesOf 18 = .ok (.iadd, 1) := by decide +kernel
theorem dX12_takesOf_19 : decode cX12_takesOf 19 = .ok (.iaload, 1) := by decide +kernel
theorem dX12_takesOf_20 : decode cX12_takesOf 20 = .ok (.iadd, 1) := by decide +kernel
theorem dX12_takesOf_21 : decode cX12_takesOf 21 = .ok (.imul, 1) := by decide +kernel
theorem dX12_takesOf_22 : decode cX12_takesOf 22 = .ok (.aload_n 0, 1) := by decide +kernel
theorem dX12_takesOf_23 : decode cX12_takesOf 23 = .ok (.getfield 35, 3) := by decide +kernel
theorem dX12_takesOf_26 : decode cX12_takesOf 26 = .ok (.sipush 137, 3) := by decide +kernel
theorem dX12_takesOf_29 : decode cX12_takesOf 29 = .ok (.iload_n 1, 1) := by decide +kernel
theorem dX12_takesOf_30 : decode cX12_takesOf 30 = .ok (.iadd, 1) := by decide +kernel
theorem dX12_takesOf_31 : decode cX12_takesOf 31 = .ok (.iaload, 1) := by decide +kernel
theorem dX12_takesOf_32 : decode cX12_takesOf 32 = .ok (.iadd, 1) := by decide +kernel
theorem dX12_takesOf_33 : decode cX12_takesOf 33 = .ok (.iconst 1, 1) := by decide +kernel
theorem dX12_takesOf_34 : decode cX12_takesOf 34 = .ok (.isub, 1) := by decide +kernel
theorem dX12_takesOf_35 : decode cX12_takesOf 35 = .ok (.aload_n 0, 1) := by decide +kernel
theorem dX12_takesOf_36 : decode cX12_takesOf 36 = .ok (.getfield 35, 3) := by decide +kernel
theorem dX12_takesOf_39 : decode cX12_takesOf 39 = .ok (.sipush 137, 3) := by decide +kernel
theorem dX12_takesOf_42 : decode cX12_takesOf 42 = .ok (.iload_n 1, 1) := by decide +kernel
theorem dX12_takesOf_43 : decode cX12_takesOf 43 = .ok (.iadd, 1) := by decide +kernel
theorem dX12_takesOf_44 : decode cX12_takesOf 44 = .ok (.iaload, 1) := by decide +kernel
theorem dX12_takesOf_45 : decode cX12_takesOf 45 = .ok (.idiv, 1) := by decide +kernel
theorem dX12_takesOf_46 : decode cX12_takesOf 46 = .ok (.invokestatic 264, 3) := by decide +kernel
theorem dX12_takesOf_49 : decode cX12_takesOf 49 = .ok (.ireturn, 1) := by decide +kernel
def j_X12_takesOf : JD := (yX12_takesOf, cX12_takesOf, 3, (some .int))
def b_X12_takesOf : BD := (1, 0, 0)
theorem dX12_walkOf_0 : decode cX12_walkOf 0 = .ok (.aload_n 0, 1) := by decide +kernel
theorem dX12_walkOf_1 : decode cX12_walkOf 1 = .ok (.getfield 35, 3) := by decide +kernel
theorem dX12_walkOf_4 : decode cX12_walkOf 4 = .ok (.sipush 141, 3) := by decide +kernel
theorem dX12_walkOf_7 : decode cX12_walkOf 7 = .ok (.iload_n 1, 1) := by decide +kernel
theorem dX12_walkOf_8 : decode cX12_walkOf 8 = .ok (.iadd, 1) := by decide +kernel
theorem dX12_walkOf_9 : decode cX12_walkOf 9 = .ok (.iaload, 1) := by decide +kernel
theorem dX12_walkOf_10 : decode cX12_walkOf 10 = .ok (.aload_n 0, 1) := by decide +kernel
theorem dX12_walkOf_11 : decode cX12_walkOf 11 = .ok (.getfield 35, 3) := by decide +kernel
theorem dX12_walkOf_14 : decode cX12_walkOf 14 = .ok (.sipush 145, 3) := by decide +kernel
theorem dX12_walkOf_17 : decode cX12_walkOf 17 = .ok (.iload_n 1, 1) := by decide +kernel
theorem dX12_walkOf_18 : decode cX12_walkOf 18 = .ok (.iadd, 1) := by decide +kernel
theorem dX12_walkOf_19 : decode cX12_walkOf 19 = .ok (.iaload, 1) := by decide +kernel
theorem dX12_walkOf_20 : decode cX12_walkOf 20 = .ok (.aload_n 0, 1) := by decide +kernel
theorem dX12_walkOf_21 : decode cX12_walkOf 21 = .ok (.getfield 35, 3) := by decide +kernel
theorem dX12_walkOf_24 : decode cX12_walkOf 24 = .ok (.iconst 5, 1) := by decide +kernel
theorem dX12_walkOf_25 : decode cX12_walkOf 25 = .ok (.iload_n 2, 1) := by decide +kernel
theorem dX12_walkOf_26 : decode cX12_walkOf 26 = .ok (.iadd, 1) := by decide +kernel
theorem dX12_walkOf_27 : decode cX12_walkOf 27 = .ok (.iaload, 1) := by decide +kernel
theorem dX12_walkOf_28 : decode cX12_walkOf 28 = .ok (.isub, 1) := by decide +kernel
theorem dX12_walkOf_29 : decode cX12_walkOf 29 = .ok (.invokestatic 327, 3) := by decide +kernel
theorem dX12_walkOf_32 : decode cX12_walkOf 32 = .ok (.imul, 1) := by decide +kernel
theorem dX12_walkOf_33 : decode cX12_walkOf 33 = .ok (.ireturn, 1) := by decide +kernel
def j_X12_walkOf : JD := (yX12_walkOf, cX12_walkOf, 3, (some .int))
def b_X12_walkOf : BD := (1, 0, 0)
theorem dX12_worthOf_0 : decode cX12_worthOf 0 = .ok (.iconst 0, 1) := by decide +kernel
theorem dX12_worthOf_1 : decode cX12_worthOf 1 = .ok (.istore_n 2, 1) := by decide +kernel
theorem dX12_worthOf_2 : decode cX12_worthOf 2 = .ok (.iconst 0, 1) := by decide +kernel
theorem dX12_worthOf_3 : decode cX12_worthOf 3 = .ok (.istore_n 3, 1) := by decide +kernel
theorem dX12_worthOf_4 : decode cX12_worthOf 4 = .ok (.iload_n 3, 1) := by decide +kernel
theorem dX12_worthOf_5 : decode cX12_worthOf 5 = .ok (.aload_n 0, 1) := by decide +kernel
theorem dX12_worthOf_6 : decode cX12_worthOf 6 = .ok (.getfield 35, 3) := by decide +kernel
theorem dX12_worthOf_9 : decode cX12_worthOf 9 = .ok (.iconst 0, 1) := by decide +kernel
theorem dX12_worthOf_10 : decode cX12_worthOf 10 = .ok (.iaload, 1) := by decide +kernel
theorem dX12_worthOf_11 : decode cX12_worthOf 11 = .ok (.if_icmp .ge 34, 3) := by decide +kernel
theorem dX12_worthOf_14 : decode cX12_worthOf 14 = .ok (.iload_n 2, 1) := by decide +kernel
theorem dX12_worthOf_15 : decode cX12_worthOf 15 = .ok (.aload_n 0, 1) := by decide +kernel
theorem dX12_worthOf_16 : decode cX12_worthOf 16 = .ok (.iload_n 3, 1) := by decide +kernel
theorem dX12_worthOf_17 : decode cX12_worthOf 17 = .ok (.invokevirtual 324, 3) := by decide +kernel
theorem dX12_worthOf_20 : decode cX12_worthOf 20 = .ok (.iload_n 1, 1) := by decide +kernel
theorem dX12_worthOf_21 : decode cX12_worthOf 21 = .ok (.if_icmp .ne 15, 3) := by decide +kernel
theorem dX12_worthOf_24 : decode cX12_worthOf 24 = .ok (.aload_n 0, 1) := by decide +kernel
theorem dX12_worthOf_25 : decode cX12_worthOf 25 = .ok (.getfield 35, 3) := by decide +kernel
theorem dX12_worthOf_28 : decode cX12_worthOf 28 = .ok (.bipush 13, 2) := by decide +kernel
theorem dX12_worthOf_30 : decode cX12_worthOf 30 = .ok (.iload_n 3, 1) := by decide +kernel
theorem dX12_worthOf_31 : decode cX12_worthOf 31 = .ok (.iadd, 1) := by decide +kernel
theorem dX12_worthOf_32 : decode cX12_worthOf 32 = .ok (.iaload, 1) := by decide +kernel
theorem dX12_worthOf_33 : decode cX12_worthOf 33 = .ok (.goto 4, 3) := by decide +kernel
theorem dX12_worthOf_36 : decode cX12_worthOf 36 = .ok (.iconst 0, 1) := by decide +kernel
theorem dX12_worthOf_37 : decode cX12_worthOf 37 = .ok (.iadd, 1) := by decide +kernel
theorem dX12_worthOf_38 : decode cX12_worthOf 38 = .ok (.istore_n 2, 1) := by decide +kernel
theorem dX12_worthOf_39 : decode cX12_worthOf 39 = .ok (.iinc 3 1, 3) := by decide +kernel
theorem dX12_worthOf_42 : decode cX12_worthOf 42 = .ok (.goto (-38), 3) := by decide +kernel
theorem dX12_worthOf_45 : decode cX12_worthOf 45 = .ok (.iload_n 2, 1) := by decide +kernel
theorem dX12_worthOf_46 : decode cX12_worthOf 46 = .ok (.ireturn, 1) := by decide +kernel
def j_X12_worthOf : JD := (yX12_worthOf, cX12_worthOf, 4, (some .int))
def b_X12_worthOf : BD := (1, 0, 0)
theorem dX12_allChances_0 : decode cX12_allChances 0 = .ok (.iconst 0, 1) := by decide +kernel
theorem dX12_allChances_1 : decode cX12_allChances 1 = .ok (.istore_n 1, 1) := by decide +kernel
theorem dX12_allChances_2 : decode cX12_allChances 2 = .ok (.iconst 0, 1) := by decide +kernel
theorem dX12_allChances_3 : decode cX12_allChances 3 = .ok (.istore_n 2, 1) := by decide +kernel
theorem dX12_allChances_4 : decode cX12_allChances 4 = .ok (.iload_n 2, 1) := by decide +kernel
theorem dX12_allChances_5 : decode cX12_allChances 5 = .ok (.aload_n 0, 1) := by decide +kernel
theorem dX12_allChances_6 : decode cX12_allChances 6 = .ok (.getfield 35, 3) := by decide +kernel
theorem dX12_allChances_9 : decode cX12_allChances 9 = .ok (.iconst 2, 1) := by decide +kernel
theorem dX12_allChances_10 : decode cX12_allChances 10 = .ok (.iaload, 1) := by decide +kernel
theorem dX12_allChances_11 : decode cX12_allChances 11 = .ok (.if_icmp .ge 22, 3) := by decide +kernel
theorem dX12_allChances_14 : decode cX12_allChances 14 = .ok (.iload_n 1, 1) := by decide +kernel
theorem dX12_allChances_15 : decode cX12_allChances 15 = .ok (.aload_n 0, 1) := by decide +kernel
theorem dX12_allChances_16 : decode cX12_allChances 16 = .ok (.getfield 35, 3) := by decide +kernel
theorem dX12_allChances_19 : decode cX12_allChances 19 = .ok (.sipush 167, 3) := by decide +kernel
theorem dX12_allChances_22 : decode cX12_allChances 22 = .ok (.iload_n 2, 1) := by decide +kernel
theorem dX12_allChances_23 : decode cX12_allChances 23 = .ok (.iadd, 1) := by decide +kernel
theorem dX12_allChances_24 : decode cX12_allChances 24 = .ok (.iaload, 1) := by decide +kernel
theorem dX12_allChances_25 : decode cX12_allChances 25 = .ok (.iadd, 1) := by decide +kernel
theorem dX12_allChances_26 : decode cX12_allChances 26 = .ok (.istore_n 1, 1) := by decide +kernel
theorem dX12_allChances_27 : decode cX12_allChances 27 = .ok (.iinc 2 1, 3) := by decide +kernel
theorem dX12_allChances_30 : decode cX12_allChances 30 = .ok (.goto (-26), 3) := by decide +kernel
theorem dX12_allChances_33 : decode cX12_allChances 33 = .ok (.iload_n 1, 1) := by decide +kernel
theorem dX12_allChances_34 : decode cX12_allChances 34 = .ok (.ireturn, 1) := by decide +kernel
def j_X12_allChances : JD := (yX12_allChances, cX12_allChances, 3, (some .int))
def b_X12_allChances : BD := (0, 0, 0)
theorem dX12_many_0 : decode cX12_many 0 = .ok (.aload_n 0, 1) := by decide +kernel
theorem dX12_many_1 : decode cX12_many 1 = .ok (.iconst 0, 1) := by decide +kernel
theorem dX12_many_2 : decode cX12_many 2 = .ok (.putfield 68, 3) := by decide +kernel
theorem dX12_many_5 : decode cX12_many 5 = .ok (.aload_n 0, 1) := by decide +kernel
theorem dX12_many_6 : decode cX12_many 6 = .ok (.iconst 0, 1) := by decide +kernel
theorem dX12_many_7 : decode cX12_many 7 = .ok (.putfield 71, 3) := by decide +kernel
theorem dX12_many_10 : decode cX12_many 10 = .ok (.iload_n 1, 1) := by decide +kernel
theorem dX12_many_11 : decode cX12_many 11 = .ok (.i2l, 1) := by decide +kernel
theorem dX12_many_12 : decode cX12_many 12 = .ok (.lconst 0, 1) := by decide +kernel
theorem dX12_many_13 : decode cX12_many 13 = .ok (.ldc2_w 329, 3) := by decide +kernel
theorem dX12_many_16 : decode cX12_many 16 = .ok (.invokestatic 103, 3) := by decide +kernel
theorem dX12_many_19 : decode cX12_many 19 = .ok (.ifCond .ne 9, 3) := by decide +kernel
theorem dX12_many_22 : decode cX12_many 22 = .ok (.aload_n 0, 1) := by decide +kernel
theorem dX12_many_23 : decode cX12_many 23 = .ok (.iconst 5, 1) := by decide +kernel
theorem dX12_many_24 : decode cX12_many 24 = .ok (.invokevirtual 331, 3) := by decide +kernel
theorem dX12_many_27 : decode cX12_many 27 = .ok (.ireturn, 1) := by decide +kernel
theorem dX12_many_28 : decode cX12_many 28 = .ok (.iload_n 1, 1) := by decide +kernel
theorem dX12_many_29 : decode cX12_many 29 = .ok (.iconst 5, 1) := by decide +kernel
theorem dX12_many_30 : decode cX12_many 30 = .ok (.if_icmp .ge 10, 3) := by decide +kernel
theorem dX12_many_33 : decode cX12_many 33 = .ok (.aload_n 0, 1) := by decide +kernel
theorem dX12_many_34 : decode cX12_many 34 = .ok (.getfield 35, 3) := by decide +kernel
theorem dX12_many_37 : decode cX12_many 37 = .ok (.iload_n 1, 1) := by decide +kernel
theorem dX12_many_38 : decode cX12_many 38 = .ok (.iaload, 1) := by decide +kernel
theorem dX12_many_39 : decode cX12_many 39 = .ok (.ireturn, 1) := by decide +kernel
theorem dX12_many_40 : decode cX12_many 40 = .ok (.iload_n 1, 1) := by decide +kernel
theorem dX12_many_41 : decode cX12_many 41 = .ok (.bipush 7, 2) := by decide +kernel
theorem dX12_many_43 : decode cX12_many 43 = .ok (.if_icmp .eq 9, 3) := by decide +kernel
theorem dX12_many_46 : decode cX12_many 46 = .ok (.iload_n 1, 1) := by decide +kernel
theorem dX12_many_47 : decode cX12_many 47 = .ok (.bipush 8, 2) := by decide +kernel
theorem dX12_many_49 : decode cX12_many 49 = .ok (.if_icmp .ne 19, 3) := by decide +kernel
theorem dX12_many_52 : decode cX12_many 52 = .ok (.aload_n 0, 1) := by decide +kernel
theorem dX12_many_53 : decode cX12_many 53 = .ok (.iload_n 1, 1) := by decide +kernel
theorem dX12_many_54 : decode cX12_many 54 = .ok (.bipush 7, 2) := by decide +kernel
theorem dX12_many_56 : decode cX12_many 56 = .ok (.if_icmp .ne 7, 3) := by decide +kernel
theorem dX12_many_59 : decode cX12_many 59 = .ok (.iconst 1, 1) := by decide +kernel
theorem dX12_many_60 : decode cX12_many 60 = .ok (.goto 4, 3) := by decide +kernel
theorem dX12_many_63 : decode cX12_many 63 = .ok (.iconst 0, 1) := by decide +kernel
theorem dX12_many_64 : decode cX12_many 64 = .ok (.invokevirtual 334, 3) := by decide +kernel
theorem dX12_many_67 : decode cX12_many 67 = .ok (.ireturn, 1) := by decide +kernel
theorem dX12_many_68 : decode cX12_many 68 = .ok (.iload_n 1, 1) := by decide +kernel
theorem dX12_many_69 : decode cX12_many 69 = .ok (.bipush 9, 2) := by decide +kernel
theorem dX12_many_71 : decode cX12_many 71 = .ok (.if_icmp .ne 8, 3) := by decide +kernel
theorem dX12_many_74 : decode cX12_many 74 = .ok (.aload_n 0, 1) := by decide +kernel
theorem dX12_many_75 : decode cX12_many 75 = .ok (.invokevirtual 338, 3) := by decide +kernel
theorem dX12_many_78 : decode cX12_many 78 = .ok (.ireturn, 1) := by decide +kernel
theorem dX12_many_79 : decode cX12_many 79 = .ok (.iconst 0, 1) := by decide +kernel
theorem dX12_many_80 : decode cX12_many 80 = .ok (.istore_n 2, 1) := by decide +kernel
theorem dX12_many_81 : decode cX12_many 81 = .ok (.iconst 0, 1) := by decide +kernel
theorem dX12_many_82 : decode cX12_many 82 = .ok (.istore_n 3, 1) := by decide +kernel
theorem dX12_many_83 : decode cX12_many 83 = .ok (.iload_n 3, 1) := by decide +kernel
theorem dX12_many_84 : decode cX12_many 84 = .ok (.aload_n 0, 1) := by decide +kernel
theorem dX12_many_85 : decode cX12_many 85 = .ok (.getfield 35, 3) := by decide +kernel
theorem dX12_many_88 : decode cX12_many 88 = .ok (.iconst 0, 1) := by decide +kernel
theorem dX12_many_89 : decode cX12_many 89 = .ok (.iaload, 1) := by decide +kernel
theorem dX12_many_90 : decode cX12_many 90 = .ok (.if_icmp .ge 44, 3) := by decide +kernel
theorem dX12_many_93 : decode cX12_many 93 = .ok (.iload_n 2, 1) := by decide +kernel
theorem dX12_many_94 : decode cX12_many 94 = .ok (.aload_n 0, 1) := by decide +kernel
theorem dX12_many_95 : decode cX12_many 95 = .ok (.iload_n 3, 1) := by decide +kernel
theorem dX12_many_96 : decode cX12_many 96 = .ok (.invokevirtual 324, 3) := by decide +kernel
theorem dX12_many_99 : decode cX12_many 99 = .ok (.ifCond .eq 26, 3) := by decide +kernel
theorem dX12_many_102 : decode cX12_many 102 = .ok (.iload_n 1, 1) := by decide +kernel
theorem dX12_many_103 : decode cX12_many 103 = .ok (.iconst 5, 1) := by decide +kernel
theorem dX12_many_104 : decode cX12_many 104 = .ok (.if_icmp .eq 15, 3) := by decide +kernel
theorem dX12_many_107 : decode cX12_many 107 = .ok (.aload_n 0, 1) := by decide +kernel
theorem dX12_many_108 : decode cX12_many 108 = .ok (.getfield 35, 3) := by decide +kernel
theorem dX12_many_111 : decode cX12_many 111 = .ok (.bipush 53, 2) := by decide +kernel
theorem dX12_many_113 : decode cX12_many 113 = .ok (.iload_n 3, 1) := by decide +kernel
theorem dX12_many_114 : decode cX12_many 114 = .ok (.iadd, 1) := by decide +kernel
theorem dX12_many_115 : decode cX12_many 115 = .ok (.iaload, 1) := by decide +kernel
theorem dX12_many_116 : decode cX12_many 116 = .ok (.ifCond .ne 9, 3) := by decide +kernel
theorem dX12_many_119 : decode cX12_many 119 = .ok (.iconst 1, 1) := by decide +kernel
theorem dX12_many_120 : decode cX12_many 120 = .ok (.iload_n 3, 1) := by decide +kernel
theorem dX12_many_121 : decode cX12_many 121 = .ok (.ishl, 1) := by decide +kernel
theorem dX12_many_122 : decode cX12_many 122 = .ok (.goto 4, 3) := by decide +kernel
theorem dX12_many_125 : decode cX12_many 125 = .ok (.iconst 0, 1) := by decide +kernel
theorem dX12_many_126 : decode cX12_many 126 = .ok (.ior, 1) := by decide +kernel
theorem dX12_many_127 : decode cX12_many 127 = .ok (.istore_n 2, 1) := by decide +kernel
theorem dX12_many_128 : decode cX12_many 128 = .ok (.iinc 3 1, 3) := by decide +kernel
theorem dX12_many_131 : decode cX12_many 131 = .ok (.goto (-48), 3) := by decide +kernel
theorem dX12_many_134 : decode cX12_many 134 = .ok (.iload_n 2, 1) := by decide +kernel
theorem dX12_many_135 : decode cX12_many 135 = .ok (.ireturn, 1) := by decide +kernel
def j_X12_many : JD := (yX12_many, cX12_many, 4, (some .int))
def b_X12_many : BD := (2, 0, 0)
theorem dX12_holds_0 : decode cX12_holds 0 = .ok (.bipush 10, 2) := by decide +kernel
theorem dX12_holds_2 : decode cX12_holds 2 = .ok (.aload_n 0, 1) := by decide +kernel
theorem dX12_holds_3 : decode cX12_holds 3 = .ok (.getfield 35, 3) := by decide +kernel
theorem dX12_holds_6 : decode cX12_holds 6 = .ok (.bipush 29, 2) := by decide +kernel
theorem dX12_holds_8 : decode cX12_holds 8 = .ok (.iload_n 1, 1) := by decide +kernel
theorem dX12_holds_9 : decode cX12_holds 9 = .ok (.iadd, 1) := by decide +kernel
theorem dX12_holds_10 : decode cX12_holds 10 = .ok (.iaload, 1) := by decide +kernel
theorem dX12_holds_11 : decode cX12_holds 11 = .ok (.iadd, 1) := by decide +kernel
theorem dX12_holds_12 : decode cX12_holds 12 = .ok (.iconst 3, 1) := by decide +kernel
theorem dX12_holds_13 : decode cX12_holds 13 = .ok (.aload_n 0, 1) := by decide +kernel
theorem dX12_holds_14 : decode cX12_holds 14 = .ok (.getfield 35, 3) := by decide +kernel
theorem dX12_holds_17 : decode cX12_holds 17 = .ok (.bipush 45, 2) := by decide +kernel
theorem dX12_holds_19 : decode cX12_holds 19 = .ok (.iload_n 1, 1) := by decide +kernel
theorem dX12_holds_20 : decode cX12_holds 20 = .ok (.iadd, 1) := by decide +kernel
theorem dX12_holds_21 : decode cX12_holds 21 = .ok (.iaload, 1) := by decide +kernel
theorem dX12_holds_22 : decode cX12_holds 22 = .ok (.imul, 1) := by decide +kernel
theorem dX12_holds_23 : decode cX12_holds 23 = .ok (.iadd, 1) := by decide +kernel
theorem dX12_holds_24 : decode cX12_holds 24 = .ok (.ireturn, 1) := by decide +kernel
def j_X12_holds : JD := (yX12_holds, cX12_holds, 2, (some .int))
def b_X12_holds : BD := (0, 0, 0)
theorem dX12_house_0 : decode cX12_house 0 = .ok (.aload_n 0, 1) := by decide +kernel
theorem dX12_house_1 : decode cX12_house 1 = .ok (.iconst 0, 1) := by decide +kernel
theorem dX12_house_2 : decode cX12_house 2 = .ok (.putfield 68, 3) := by decide +kernel
theorem dX12_house_5 : decode cX12_house 5 = .ok (.aload_n 0, 1) := by decide +kernel
theorem dX12_house_6 : decode cX12_house 6 = .ok (.iconst 0, 1) := by decide +kernel
theorem dX12_house_7 : decode cX12_house 7 = .ok (.putfield 71, 3) := by decide +kernel
theorem dX12_house_10 : decode cX12_house 10 = .ok (.aload_n 0, 1) := by decide +kernel
theorem dX12_house_11 : decode cX12_house 11 = .ok (.iload_n 1, 1) := by decide +kernel
theorem dX12_house_12 : decode cX12_house 12 = .ok (.invokevirtual 341, 3) := by decide +kernel
theorem dX12_house_15 : decode cX12_house 15 = .ok (.ifCond .ne 9, 3) := by decide +kernel
theorem dX12_house_18 : decode cX12_house 18 = .ok (.aload_n 0, 1) := by decide +kernel
theorem dX12_house_19 : decode cX12_house 19 = .ok (.iconst 2, 1) := by decide +kernel
theorem dX12_house_20 : decode cX12_house 20 = .ok (.invokevirtual 331, 3) := by decide +kernel
theorem dX12_house_23 : decode cX12_house 23 = .ok (.ireturn, 1) := by decide +kernel
theorem dX12_house_24 : decode cX12_house 24 = .ok (.iload_n 2, 1) := by decide +kernel
theorem dX12_house_25 : decode cX12_house 25 = .ok (.i2l, 1) := by decide +kernel
theorem dX12_house_26 : decode cX12_house 26 = .ok (.lconst 0, 1) := by decide +kernel
theorem dX12_house_27 : decode cX12_house 27 = .ok (.ldc2_w 344, 3) := by decide +kernel
theorem dX12_house_30 : decode cX12_house 30 = .ok (.invokestatic 103, 3) := by decide +kernel
theorem dX12_house_33 : decode cX12_house 33 = .ok (.ifCond .ne 9, 3) := by decide +kernel
theorem dX12_house_36 : decode cX12_house 36 = .ok (.aload_n 0, 1) := by decide +kernel
theorem dX12_house_37 : decode cX12_house 37 = .ok (.iconst 5, 1) := by decide +kernel
theorem dX12_house_38 : decode cX12_house 38 = .ok (.invokevirtual 331, 3) := by decide +kernel
theorem dX12_house_41 : decode cX12_house 41 = .ok (.ireturn, 1) := by decide +kernel
theorem dX12_house_42 : decode cX12_house 42 = .ok (.iload_n 2, 1) := by decide +kernel
theorem dX12_house_43 : decode cX12_house 43 = .ok (.bipush 8, 2) := by decide +kernel
theorem dX12_house_45 : decode cX12_house 45 = .ok (.if_icmp .ne 11, 3) := by decide +kernel
theorem dX12_house_48 : decode cX12_house 48 = .ok (.aload_n 0, 1) := by decide +kernel
theorem dX12_house_49 : decode cX12_house 49 = .ok (.iload_n 1, 1) := by decide +kernel
theorem dX12_house_50 : decode cX12_house 50 = .ok (.invokevirtual 346, 3) := by decide +kernel
theorem dX12_house_53 : decode cX12_house 53 = .ok (.goto 32, 3) := by decide +kernel
theorem dX12_house_56 : decode cX12_house 56 = .ok (.iload_n 2, 1) := by decide +kernel
theorem dX12_house_57 : decode cX12_house 57 = .ok (.bipush 7, 2) := by decide +kernel
theorem dX12_house_59 : decode cX12_house 59 = .ok (.if_icmp .ne 13, 3) := by decide +kernel
theorem dX12_house_62 : decode cX12_house 62 = .ok (.aload_n 0, 1) := by decide +kernel
theorem dX12_house_63 : decode cX12_house 63 = .ok (.iload_n 1, 1) := by decide +kernel
theorem dX12_house_64 : decode cX12_house 64 = .ok (.invokevirtual 349, 3) := by decide +kernel
theorem dX12_house_67 : decode cX12_house 67 = .ok (.iconst 1, 1) := by decide +kernel
theorem dX12_house_68 : decode cX12_house 68 = .ok (.iadd, 1) := by decide +kernel
theorem dX12_house_69 : decode cX12_house 69 = .ok (.goto 16, 3) := by decide +kernel
theorem dX12_house_72 : decode cX12_house 72 = .ok (.aload_n 0, 1) := by decide +kernel
theorem dX12_house_73 : decode cX12_house 73 = .ok (.getfield 35, 3) := by decide +kernel
theorem dX12_house_76 : decode cX12_house 76 = .ok (.iconst 5, 1) := by decide +kernel
theorem dX12_house_77 : decode cX12_house 77 = .ok (.bipush 8, 2) := by decide +kernel
theorem dX12_house_79 : decode cX12_house 79 = .ok (.iload_n 2, 1) := by decide +kernel
theorem dX12_house_80 : decode cX12_house 80 = .ok (.imul, 1) := by decide +kernel
theorem dX12_house_81 : decode cX12_house 81 = .ok (.iadd, 1) := by decide +kernel
theorem dX12_house_82 : decode cX12_house 82 = .ok (.iload_n 1, 1) := by decide +kernel
theorem dX12_house_83 : decode cX12_house 83 = .ok (.iadd, 1) := by decide +kernel
theorem dX12_house_84 : decode cX12_house 84 = .ok (.iaload, 1) := by decide +kernel
theorem dX12_house_85 : decode cX12_house 85 = .ok (.ireturn, 1) := by decide +kernel
def j_X12_house : JD := (yX12_house, cX12_house, 3, (some .int))
def b_X12_house : BD := (2, 0, 0)
theorem dX12_gang_0 : decode cX12_gang 0 = .ok (.aload_n 0, 1) := by decide +kernel
theorem dX12_gang_1 : decode cX12_gang 1 = .ok (.iconst 0, 1) := by decide +kernel
theorem dX12_gang_2 : decode cX12_gang 2 = .ok (.putfield 68, 3) := by decide +kernel
theorem dX12_gang_5 : decode cX12_gang 5 = .ok (.aload_n 0, 1) := by decide +kernel
theorem dX12_gang_6 : decode cX12_gang 6 = .ok (.iconst 0, 1) := by decide +kernel
theorem dX12_gang_7 : decode cX12_gang 7 = .ok (.putfield 71, 3) := by decide +kernel
theorem dX12_gang_10 : decode cX12_gang 10 = .ok (.aload_n 0, 1) := by decide +kernel
theorem dX12_gang_11 : decode cX12_gang 11 = .ok (.iload_n 1, 1) := by decide +kernel
theorem dX12_gang_12 : decode cX12_gang 12 = .ok (.invokevirtual 352, 3) := by decide +kernel
theorem dX12_gang_15 : decode cX12_gang 15 = .ok (.ifCond .ne 9, 3) := by decide +kernel
theorem dX12_gang_18 : decode cX12_gang 18 = .ok (.aload_n 0, 1) := by decide +kernel
theorem dX12_gang_19 : decode cX12_gang 19 = .ok (.iconst 2, 1) := by decide +kernel
theorem dX12_gang_20 : decode cX12_gang 20 = .ok (.invokevirtual 331, 3) := by decide +kernel
theorem dX12_gang_23 : decode cX12_gang 23 = .ok (.ireturn, 1) := by decide +kernel
theorem dX12_gang_24 : decode cX12_gang 24 = .ok (.iload_n 2, 1) := by decide +kernel
theorem dX12_gang_25 : decode cX12_gang 25 = .ok (.i2l, 1) := by decide +kernel
theorem dX12_gang_26 : decode cX12_gang 26 = .ok (.lconst 0, 1) := by decide +kernel
theorem dX12_gang_27 : decode cX12_gang 27 = .ok (.ldc2_w 355, 3) := by decide +kernel
theorem dX12_gang_30 : decode cX12_gang 30 = .ok (.invokestatic 103, 3) := by decide +kernel
theorem dX12_gang_33 : decode cX12_gang 33 = .ok (.ifCond .ne 9, 3) := by decide +kernel
theorem dX12_gang_36 : decode cX12_gang 36 = .ok (.aload_n 0, 1) := by decide +kernel
theorem dX12_gang_37 : decode cX12_gang 37 = .ok (.iconst 5, 1) := by decide +kernel
theorem dX12_gang_38 : decode cX12_gang 38 = .ok (.invokevirtual 331, 3) := by decide +kernel
theorem dX12_gang_41 : decode cX12_gang 41 = .ok (.ireturn, 1) := by decide +kernel
theorem dX12_gang_42 : decode cX12_gang 42 = .ok (.iload_n 2, 1) := by decide +kernel
theorem dX12_gang_43 : decode cX12_gang 43 = .ok (.iconst 4, 1) := by decide +kernel
theorem dX12_gang_44 : decode cX12_gang 44 = .ok (.if_icmp .ne 23, 3) := by decide +kernel
theorem dX12_gang_47 : decode cX12_gang 47 = .ok (.aload_n 0, 1) := by decide +kernel
theorem dX12_gang_48 : decode cX12_gang 48 = .ok (.getfield 35, 3) := by decide +kernel
theorem dX12_gang_51 : decode cX12_gang 51 = .ok (.sipush 149, 3) := by decide +kernel
theorem dX12_gang_54 : decode cX12_gang 54 = .ok (.iload_n 1, 1) := by decide +kernel
theorem dX12_gang_55 : decode cX12_gang 55 = .ok (.iadd, 1) := by decide +kernel
theorem dX12_gang_56 : decode cX12_gang 56 = .ok (.iaload, 1) := by decide +kernel
theorem dX12_gang_57 : decode cX12_gang 57 = .ok (.ifCond .ge 10, 3) := by decide +kernel
theorem dX12_gang_60 : decode cX12_gang 60 = .ok (.aload_n 0, 1) := by decide +kernel
theorem dX12_gang_61 : decode cX12_gang 61 = .ok (.bipush 8, 2) := by decide +kernel
theorem dX12_gang_63 : decode cX12_gang 63 = .ok (.invokevirtual 331, 3) := by decide +kernel
theorem dX12_gang_66 : decode cX12_gang 66 = .ok (.ireturn, 1) := by decide +kernel
theorem dX12_gang_67 : decode cX12_gang 67 = .ok (.iload_n 2, 1) := by decide +kernel
theorem dX12_gang_68 : decode cX12_gang 68 = .ok (.iconst 5, 1) := by decide +kernel
theorem dX12_gang_69 : decode cX12_gang 69 = .ok (.if_icmp .ne 73, 3) := by decide +kernel
theorem dX12_gang_72 : decode cX12_gang 72 = .ok (.aload_n 0, 1) := by decide +kernel
theorem dX12_gang_73 : decode cX12_gang 73 = .ok (.getfield 35, 3) := by decide +kernel
theorem dX12_gang_76 : decode cX12_gang 76 = .ok (.sipush 149, 3) := by decide +kernel
theorem dX12_gang_79 : decode cX12_gang 79 = .ok (.iload_n 1, 1) := by decide +kernel
theorem dX12_gang_80 : decode cX12_gang 80 = .ok (.iadd, 1) := by decide +kernel
theorem dX12_gang_81 : decode cX12_gang 81 = .ok (.iaload, 1) := by decide +kernel
theorem dX12_gang_82 : decode cX12_gang 82 = .ok (.ifCond .ge 7, 3) := by decide +kernel
theorem dX12_gang_85 : decode cX12_gang 85 = .ok (.iconst 0, 1) := by decide +kernel
theorem dX12_gang_86 : decode cX12_gang 86 = .ok (.goto 55, 3) := by decide +kernel
theorem dX12_gang_89 : decode cX12_gang 89 = .ok (.aload_n 0, 1) := by decide +kernel
theorem dX12_gang_90 : decode cX12_gang 90 = .ok (.getfield 35, 3) := by decide +kernel
theorem dX12_gang_93 : decode cX12_gang 93 = .ok (.sipush 153, 3) := by decide +kernel
theorem dX12_gang_96 : decode cX12_gang 96 = .ok (.iload_n 1, 1) := by decide +kernel
theorem dX12_gang_97 : decode cX12_gang 97 = .ok (.iadd, 1) := by decide +kernel
theorem dX12_gang_98 : decode cX12_gang 98 = .ok (.iaload, 1) := by decide +kernel
theorem dX12_gang_99 : decode cX12_gang 99 = .ok (.aload_n 0, 1) := by decide +kernel
theorem dX12_gang_100 : decode cX12_gang 100 = .ok (.getfield 35, 3) := by decide +kernel
theorem dX12_gang_103 : decode cX12_gang 103 = .ok (.sipush 157, 3) := by decide +kernel
theorem dX12_gang_106 : decode cX12_gang 106 = .ok (.iload_n 1, 1) := by decide +kernel
theorem dX12_gang_107 : decode cX12_gang 107 = .ok (.iadd, 1) := by decide +kernel
theorem dX12_gang_108 : decode cX12_gang 108 = .ok (.iaload, 1) := by decide +kernel
theorem dX12_gang_109 : decode cX12_gang 109 = .ok (.ifCond .le 16, 3) := by decide +kernel
theorem dX12_gang_112 : decode cX12_gang 112 = .ok (.aload_n 0, 1) := by decide +kernel
theorem dX12_gang_113 : decode cX12_gang 113 = .ok (.getfield 35, 3) := by decide +kernel
theorem dX12_gang_116 : decode cX12_gang 116 = .ok (.sipush 157, 3) := by decide +kernel
theorem dX12_gang_119 : decode cX12_gang 119 = .ok (.iload_n 1, 1) := by decide +kernel
theorem dX12_gang_120 : decode cX12_gang 120 = .ok (.iadd, 1) := by decide +kernel
theorem dX12_gang_121 : decode cX12_gang 121 = .ok (.iaload, 1) := by decide +kernel
theorem dX12_gang_122 : decode cX12_gang 122 = .ok (.goto 18, 3) := by decide +kernel
theorem dX12_gang_125 : decode cX12_gang 125 = .ok (.aload_n 0, 1) := by decide +kernel
theorem dX12_gang_126 : decode cX12_gang 126 = .ok (.iload_n 1, 1) := by decide +kernel
theorem dX12_gang_127 : decode cX12_gang 127 = .ok (.aload_n 0, 1) := by decide +kernel
theorem dX12_gang_128 : decode cX12_gang 128 = .ok (.getfield 35, 3) := by decide +kernel
theorem dX12_gang_131 : decode cX12_gang 131 = .ok (.sipush 149, 3) := by decide +kernel
theorem dX12_gang_134 : decode cX12_gang 134 = .ok (.iload_n 1, 1) := by decide +kernel
theorem dX12_gang_135 : decode cX12_gang 135 = .ok (.iadd, 1) := by decide +kernel
theorem dX12_gang_136 : decode cX12_gang 136 = .ok (.iaload, 1) := by decide +kernel
theorem dX12_gang_137 : decode cX12_gang 137 = .ok (.invokevirtual 357, 3) := by decide +kernel
theorem dX12_gang_140 : decode cX12_gang 140 = .ok (.iadd, 1) := by decide +kernel
theorem dX12_gang_141 : decode cX12_gang 141 = .ok (.ireturn, 1) := by decide +kernel
theorem dX12_gang_142 : decode cX12_gang 142 = .ok (.aload_n 0, 1) := by decide +kernel
theorem dX12_gang_143 : decode cX12_gang 143 = .ok (.getfield 35, 3) := by decide +kernel
theorem dX12_gang_146 : decode cX12_gang 146 = .ok (.sipush 133, 3) := by decide +kernel
theorem dX12_gang_149 : decode cX12_gang 149 = .ok (.iconst 4, 1) := by decide +kernel
theorem dX12_gang_150 : decode cX12_gang 150 = .ok (.iload_n 2, 1) := by decide +kernel
theorem dX12_gang_151 : decode cX12_gang 151 = .ok (.imul, 1) := by decide +kernel
theorem dX12_gang_152 : decode cX12_gang 152 = .ok (.iadd, 1) := by decide +kernel
theorem dX12_gang_153 : decode cX12_gang 153 = .ok (.iload_n 1, 1) := by decide +kernel
theorem dX12_gang_154 : decode cX12_gang 154 = .ok (.iadd, 1) := by decide +kernel
theorem dX12_gang_155 : decode cX12_gang 155 = .ok (.iaload, 1) := by decide +kernel
theorem dX12_gang_156 : decode cX12_gang 156 = .ok (.ireturn, 1) := by decide +kernel
def j_X12_gang : JD := (yX12_gang, cX12_gang, 3, (some .int))
def b_X12_gang : BD := (2, 0, 0)
theorem dX12_wind_0 : decode cX12_wind 0 = .ok (.aload_n 0, 1) := by decide +kernel
theorem dX12_wind_1 : decode cX12_wind 1 = .ok (.iconst 0, 1) := by decide +kernel
theorem dX12_wind_2 : decode cX12_wind 2 = .ok (.putfield 68, 3) := by decide +kernel
theorem dX12_wind_5 : decode cX12_wind 5 = .ok (.aload_n 0, 1) := by decide +kernel
theorem dX12_wind_6 : decode cX12_wind 6 = .ok (.iconst 0, 1) := by decide +kernel
theorem dX12_wind_7 : decode cX12_wind 7 = .ok (.putfield 71, 3) := by decide +kernel
theorem dX12_wind_10 : decode cX12_wind 10 = .ok (.iload_n 1, 1) := by decide +kernel
theorem dX12_wind_11 : decode cX12_wind 11 = .ok (.i2l, 1) := by decide +kernel
theorem dX12_wind_12 : decode cX12_wind 12 = .ok (.lconst 0, 1) := by decide +kernel
theorem dX12_wind_13 : decode cX12_wind 13 = .ok (.aload_n 0, 1) := by decide +kernel
theorem dX12_wind_14 : decode cX12_wind 14 = .ok (.getfield 35, 3) := by decide +kernel
theorem dX12_wind_17 : decode cX12_wind 17 = .ok (.iconst 2, 1) := by decide +kernel
theorem dX12_wind_18 : decode cX12_wind 18 = .ok (.iaload, 1) := by decide +kernel
theorem dX12_wind_19 : decode cX12_wind 19 = .ok (.iconst 1, 1) := by decide +kernel
theorem dX12_wind_20 : decode cX12_wind 20 = .ok (.isub, 1) := by decide +kernel
theorem dX12_wind_21 : decode cX12_wind 21 = .ok (.i2l, 1) := by decide +kernel
theorem dX12_wind_22 : decode cX12_wind 22 = .ok (.invokestatic 103, 3) := by decide +kernel
theorem dX12_wind_25 : decode cX12_wind 25 = .ok (.ifCond .ne 9, 3) := by decide +kernel
theorem dX12_wind_28 : decode cX12_wind 28 = .ok (.aload_n 0, 1) := by decide +kernel
theorem dX12_wind_29 : decode cX12_wind 29 = .ok (.iconst 2, 1) := by decide +kernel
theorem dX12_wind_30 : decode cX12_wind 30 = .ok (.invokevirtual 331, 3) := by decide +kernel
theorem dX12_wind_33 : decode cX12_wind 33 = .ok (.ireturn, 1) := by decide +kernel
theorem dX12_wind_34 : decode cX12_wind 34 = .ok (.iload_n 2, 1) := by decide +kernel
theorem dX12_wind_35 : decode cX12_wind 35 = .ok (.i2l, 1) := by decide +kernel
theorem dX12_wind_36 : decode cX12_wind 36 = .ok (.lconst 0, 1) := by decide +kernel
theorem dX12_wind_37 : decode cX12_wind 37 = .ok (.lconst 1, 1) := by decide +kernel
theorem dX12_wind_38 : decode cX12_wind 38 = .ok (.invokestatic 103, 3) := by decide +kernel
theorem dX12_wind_41 : decode cX12_wind 41 = .ok (.ifCond .eq 21, 3) := by decide +kernel
theorem dX12_wind_44 : decode cX12_wind 44 = .ok (.aload_n 0, 1) := by decide +kernel
theorem dX12_wind_45 : decode cX12_wind 45 = .ok (.getfield 35, 3) := by decide +kernel
theorem dX12_wind_48 : decode cX12_wind 48 = .ok (.sipush 161, 3) := by decide +kernel
theorem dX12_wind_51 : decode cX12_wind 51 = .ok (.bipush 6, 2) := by decide +kernel
theorem dX12_wind_53 : decode cX12_wind 53 = .ok (.iload_n 2, 1) := by decide +kernel
theorem dX12_wind_54 : decode cX12_wind 54 = .ok (.imul, 1) := by decide +kernel
theorem dX12_wind_55 : decode cX12_wind 55 = .ok (.iadd, 1) := by decide +kernel
theorem dX12_wind_56 : decode cX12_wind 56 = .ok (.iload_n 1, 1) := by decide +kernel
theorem dX12_wind_57 : decode cX12_wind 57 = .ok (.iadd, 1) := by decide +kernel
theorem dX12_wind_58 : decode cX12_wind 58 = .ok (.iaload, 1) := by decide +kernel
theorem dX12_wind_59 : decode cX12_wind 59 = .ok (.goto 8, 3) := by decide +kernel
theorem dX12_wind_62 : decode cX12_wind 62 = .ok (.aload_n 0, 1) := by decide +kernel
theorem dX12_wind_63 : decode cX12_wind 63 = .ok (.iconst 5, 1) := by decide +kernel
theorem dX12_wind_64 : decode cX12_wind 64 = .ok (.invokevirtual 331, 3) := by decide +kernel
theorem dX12_wind_67 : decode cX12_wind 67 = .ok (.ireturn, 1) := by decide +kernel
def j_X12_wind : JD := (yX12_wind, cX12_wind, 3, (some .int))
def b_X12_wind : BD := (1, 0, 0)
theorem dX12_helped_0 : decode cX12_helped 0 = .ok (.aload_n 0, 1) := by decide +kernel
theorem dX12_helped_1 : decode cX12_helped 1 = .ok (.iconst 0, 1) := by decide +kernel
theorem dX12_helped_2 : decode cX12_helped 2 = .ok (.putfield 68, 3) := by decide +kernel
theorem dX12_helped_5 : decode cX12_helped 5 = .ok (.aload_n 0, 1) := by decide +kernel
theorem dX12_helped_6 : decode cX12_helped 6 = .ok (.iconst 0, 1) := by decide +kernel
theorem dX12_helped_7 : decode cX12_helped 7 = .ok (.putfield 71, 3) := by decide +kernel
theorem dX12_helped_10 : decode cX12_helped 10 = .ok (.aload_n 0, 1) := by decide +kernel
theorem dX12_helped_11 : decode cX12_helped 11 = .ok (.iload_n 1, 1) := by decide +kernel
theorem dX12_helped_12 : decode cX12_helped 12 = .ok (.invokevirtual 341, 3) := by decide +kernel
theorem dX12_helped_15 : decode cX12_helped 15 = .ok (.ifCond .eq 11, 3) := by decide +kernel
theorem dX12_helped_18 : decode cX12_helped 18 = .ok (.aload_n 0, 1) := by decide +kernel
theorem dX12_helped_19 : decode cX12_helped 19 = .ok (.iload_n 2, 1) := by decide +kernel
theorem dX12_helped_20 : decode cX12_helped 20 = .ok (.invokevirtual 341, 3) := by decide +kernel
theorem dX12_helped_23 : decode cX12_helped 23 = .ok (.ifCond .ne 9, 3) := by decide +kernel
theorem dX12_helped_26 : decode cX12_helped 26 = .ok (.aload_n 0, 1) := by decide +kernel
theorem dX12_helped_27 : decode cX12_helped 27 = .ok (.iconst 2, 1) := by decide +kernel
theorem dX12_helped_28 : decode cX12_helped 28 = .ok (.invokevirtual 331, 3) := by decide +kernel
theorem dX12_helped_31 : decode cX12_helped 31 = .ok (.ireturn, 1) := by decide +kernel
theorem dX12_helped_32 : decode cX12_helped 32 = .ok (.iload_n 1, 1) := by decide +kernel
theorem dX12_helped_33 : decode cX12_helped 33 = .ok (.iload_n 2, 1) := by decide +kernel
theorem dX12_helped_34 : decode cX12_helped 34 = .ok (.if_icmp .ne 11, 3) := by decide +kernel
theorem dX12_helped_37 : decode cX12_helped 37 = .ok (.aload_n 0, 1) := by decide +kernel
theorem dX12_helped_38 : decode cX12_helped 38 = .ok (.iconst 5, 1) := by decide +kernel
theorem dX12_helped_39 : decode cX12_helped 39 = .ok (.invokevirtual 331, 3) := by decide +kernel
theorem dX12_helped_42 : decode cX12_helped 42 = .ok (.goto 17, 3) := by decide +kernel
theorem dX12_helped_45 : decode cX12_helped 45 = .ok (.aload_n 0, 1) := by decide +kernel
theorem dX12_helped_46 : decode cX12_helped 46 = .ok (.getfield 35, 3) := by decide +kernel
theorem dX12_helped_49 : decode cX12_helped 49 = .ok (.bipush 69, 2) := by decide +kernel
theorem dX12_helped_51 : decode cX12_helped 51 = .ok (.bipush 8, 2) := by decide +kernel
theorem dX12_helped_53 : decode cX12_helped 53 = .ok (.iload_n 1, 1) := by decide +kernel
theorem dX12_helped_54 : decode cX12_helped 54 = .ok (.imul, 1) := by decide +kernel
theorem dX12_helped_55 : decode cX12_helped 55 = .ok (.iadd, 1) := by decide +kernel
theorem dX12_helped_56 : decode cX12_helped 56 = .ok (.iload_n 2, 1) := by decide +kernel
theorem dX12_helped_57 : decode cX12_helped 57 = .ok (.iadd, 1) := by decide +kernel
theorem dX12_helped_58 : decode cX12_helped 58 = .ok (.iaload, 1) := by decide +kernel
theorem dX12_helped_59 : decode cX12_helped 59 = .ok (.ireturn, 1) := by decide +kernel
def j_X12_helped : JD := (yX12_helped, cX12_helped, 3, (some .int))
def b_X12_helped : BD := (2, 0, 0)
theorem dX12_takes_0 : decode cX12_takes 0 = .ok (.aload_n 0, 1) := by decide +kernel
theorem dX12_takes_1 : decode cX12_takes 1 = .ok (.iconst 0, 1) := by decide +kernel
theorem dX12_takes_2 : decode cX12_takes 2 = .ok (.putfield 68, 3) := by decide +kernel
theorem dX12_takes_5 : decode cX12_takes 5 = .ok (.aload_n 0, 1) := by decide +kernel
theorem dX12_takes_6 : decode cX12_takes 6 = .ok (.iconst 0, 1) := by decide +kernel
theorem dX12_takes_7 : decode cX12_takes 7 = .ok (.putfield 71, 3) := by decide +kernel
theorem dX12_takes_10 : decode cX12_takes 10 = .ok (.aload_n 0, 1) := by decide +kernel
theorem dX12_takes_11 : decode cX12_takes 11 = .ok (.iload_n 1, 1) := by decide +kernel
theorem dX12_takes_12 : decode cX12_takes 12 = .ok (.invokevirtual 352, 3) := by decide +kernel
theorem dX12_takes_15 : decode cX12_takes 15 = .ok (.ifCond .eq 20, 3) := by decide +kernel
theorem dX12_takes_18 : decode cX12_takes 18 = .ok (.aload_n 0, 1) := by decide +kernel
theorem dX12_takes_19 : decode cX12_takes 19 = .ok (.iload_n 2, 1) := by decide +kernel
theorem dX12_takes_20 : decode cX12_takes 20 = .ok (.invokevirtual 341, 3) := by decide +kernel
theorem dX12_takes_23 : decode cX12_takes 23 = .ok (.ifCond .eq 12, 3) := by decide +kernel
theorem dX12_takes_26 : decode cX12_takes 26 = .ok (.aload_n 0, 1) := by decide +kernel
theorem dX12_takes_27 : decode cX12_takes 27 = .ok (.iload_n 1, 1) := by decide +kernel
theorem dX12_takes_28 : decode cX12_takes 28 = .ok (.iload_n 2, 1) := by decide +kernel
theorem dX12_takes_29 : decode cX12_takes 29 = .ok (.invokevirtual 357, 3) := by decide +kernel
theorem dX12_takes_32 : decode cX12_takes 32 = .ok (.goto 8, 3) := by decide +kernel
theorem dX12_takes_35 : decode cX12_takes 35 = .ok (.aload_n 0, 1) := by decide +kernel
theorem dX12_takes_36 : decode cX12_takes 36 = .ok (.iconst 2, 1) := by decide +kernel
theorem dX12_takes_37 : decode cX12_takes 37 = .ok (.invokevirtual 331, 3) := by decide +kernel
theorem dX12_takes_40 : decode cX12_takes 40 = .ok (.ireturn, 1) := by decide +kernel
def j_X12_takes : JD := (yX12_takes, cX12_takes, 3, (some .int))
def b_X12_takes : BD := (2, 0, 0)
theorem dX12_walk_0 : decode cX12_walk 0 = .ok (.aload_n 0, 1) := by decide +kernel
theorem dX12_walk_1 : decode cX12_walk 1 = .ok (.iconst 0, 1) := by decide +kernel
theorem dX12_walk_2 : decode cX12_walk 2 = .ok (.putfield 68, 3) := by decide +kernel
theorem dX12_walk_5 : decode cX12_walk 5 = .ok (.aload_n 0, 1) := by decide +kernel
theorem dX12_walk_6 : decode cX12_walk 6 = .ok (.iconst 0, 1) := by decide +kernel
theorem dX12_walk_7 : decode cX12_walk 7 = .ok (.putfield 71, 3) := by decide +kernel
theorem dX12_walk_10 : decode cX12_walk 10 = .ok (.aload_n 0, 1) := by decide +kernel
theorem dX12_walk_11 : decode cX12_walk 11 = .ok (.iload_n 1, 1) := by decide +kernel
theorem dX12_walk_12 : decode cX12_walk 12 = .ok (.invokevirtual 352, 3) := by decide +kernel
theorem dX12_walk_15 : decode cX12_walk 15 = .ok (.ifCond .eq 20, 3) := by decide +kernel
theorem dX12_walk_18 : decode cX12_walk 18 = .ok (.aload_n 0, 1) := by decide +kernel
theorem dX12_walk_19 : decode cX12_walk 19 = .ok (.iload_n 2, 1) := by decide +kernel
theorem dX12_walk_20 : decode cX12_walk 20 = .ok (.invokevirtual 341, 3) := by decide +kernel
theorem dX12_walk_23 : decode cX12_walk 23 = .ok (.ifCond .eq 12, 3) := by decide +kernel
theorem dX12_walk_26 : decode cX12_walk 26 = .ok (.aload_n 0, 1) := by decide +kernel
theorem dX12_walk_27 : decode cX12_walk 27 = .ok (.iload_n 1, 1) := by decide +kernel
theorem dX12_walk_28 : decode cX12_walk 28 = .ok (.iload_n 2, 1) := by decide +kernel
theorem dX12_walk_29 : decode cX12_walk 29 = .ok (.invokevirtual 360, 3) := by decide +kernel
theorem dX12_walk_32 : decode cX12_walk 32 = .ok (.goto 8, 3) := by decide +kernel
theorem dX12_walk_35 : decode cX12_walk 35 = .ok (.aload_n 0, 1) := by decide +kernel
theorem dX12_walk_36 : decode cX12_walk 36 = .ok (.iconst 2, 1) := by decide +kernel
theorem dX12_walk_37 : decode cX12_walk 37 = .ok (.invokevirtual 331, 3) := by decide +kernel
theorem dX12_walk_40 : decode cX12_walk 40 = .ok (.ireturn, 1) := by decide +kernel
def j_X12_walk : JD := (yX12_walk, cX12_walk, 3, (some .int))
def b_X12_walk : BD := (2, 0, 0)
theorem dX12_isTaken_0 : decode cX12_isTaken 0 = .ok (.iconst 0, 1) := by decide +kernel
theorem dX12_isTaken_1 : decode cX12_isTaken 1 = .ok (.istore_n 3, 1) := by decide +kernel
theorem dX12_isTaken_2 : decode cX12_isTaken 2 = .ok (.iload_n 3, 1) := by decide +kernel
theorem dX12_isTaken_3 : decode cX12_isTaken 3 = .ok (.aload_n 0, 1) := by decide +kernel
theorem dX12_isTaken_4 : decode cX12_isTaken 4 = .ok (.getfield 35, 3) := by decide +kernel
theorem dX12_isTaken_7 : decode cX12_isTaken 7 = .ok (.iconst 1, 1) := by decide +kernel
theorem dX12_isTaken_8 : decode cX12_isTaken 8 = .ok (.iaload, 1) := by decide +kernel
theorem dX12_isTaken_9 : decode cX12_isTaken 9 = .ok (.if_icmp .ge 30, 3) := by decide +kernel
theorem dX12_isTaken_12 : decode cX12_isTaken 12 = .ok (.iload_n 3, 1) := by decide +kernel
theorem dX12_isTaken_13 : decode cX12_isTaken 13 = .ok (.iload_n 2, 1) := by decide +kernel
theorem dX12_isTaken_14 : decode cX12_isTaken 14 = .ok (.if_icmp .eq 19, 3) := by decide +kernel
theorem dX12_isTaken_17 : decode cX12_isTaken 17 = .ok (.aload_n 0, 1) := by decide +kernel
theorem dX12_isTaken_18 : decode cX12_isTaken 18 = .ok (.getfield 35, 3) := by decide +kernel
theorem dX12_isTaken_21 : decode cX12_isTaken 21 = .ok (.sipush 149, 3) := by decide +kernel
theorem dX12_isTaken_24 : decode cX12_isTaken 24 = .ok (.iload_n 3, 1) := by decide +kernel
theorem dX12_isTaken_25 : decode cX12_isTaken 25 = .ok (.iadd, 1) := by decide +kernel
theorem dX12_isTaken_26 : decode cX12_isTaken 26 = .ok (.iaload, 1) := by decide +kernel
theorem dX12_isTaken_27 : decode cX12_isTaken 27 = .ok (.iload_n 1, 1) := by decide +kernel
theorem dX12_isTaken_28 : decode cX12_isTaken 28 = .ok (.if_icmp .ne 5, 3) := by decide +kernel
theorem dX12_isTaken_31 : decode cX12_isTaken 31 = .ok (.iconst 1, 1) := by decide +kernel
theorem dX12_isTaken_32 : decode cX12_isTaken 32 = .ok (.ireturn, 1) := by decide +kernel
theorem dX12_isTaken_33 : decode cX12_isTaken 33 = .ok (.iinc 3 1, 3) := by decide +kernel
theorem dX12_isTaken_36 : decode cX12_isTaken 36 = .ok (.goto (-34), 3) := by decide +kernel
theorem dX12_isTaken_39 : decode cX12_isTaken 39 = .ok (.iconst 0, 1) := by decide +kernel
theorem dX12_isTaken_40 : decode cX12_isTaken 40 = .ok (.ireturn, 1) := by decide +kernel
def j_X12_isTaken : JD := (yX12_isTaken, cX12_isTaken, 4, (some .boolean))
def b_X12_isTaken : BD := (0, 0, 0)
theorem dX12_lateness_0 : decode cX12_lateness 0 = .ok (.aload_n 0, 1) := by decide +kernel
theorem dX12_lateness_1 : decode cX12_lateness 1 = .ok (.getfield 35, 3) := by decide +kernel
theorem dX12_lateness_4 : decode cX12_lateness 4 = .ok (.iconst 3, 1) := by decide +kernel
theorem dX12_lateness_5 : decode cX12_lateness 5 = .ok (.iaload, 1) := by decide +kernel
theorem dX12_lateness_6 : decode cX12_lateness 6 = .ok (.ifCond .ne 14, 3) := by decide +kernel
theorem dX12_lateness_9 : decode cX12_lateness 9 = .ok (.aload_n 0, 1) := by decide +kernel
theorem dX12_lateness_10 : decode cX12_lateness 10 = .ok (.getfield 35, 3) := by decide +kernel
theorem dX12_lateness_13 : decode cX12_lateness 13 = .ok (.bipush 13, 2) := by decide +kernel
theorem dX12_lateness_15 : decode cX12_lateness 15 = .ok (.iload_n 2, 1) := by decide +kernel
theorem dX12_lateness_16 : decode cX12_lateness 16 = .ok (.iadd, 1) := by decide +kernel
theorem dX12_lateness_17 : decode cX12_lateness 17 = .ok (.iaload, 1) := by decide +kernel
theorem dX12_lateness_18 : decode cX12_lateness 18 = .ok (.ineg, 1) := by decide +kernel
theorem dX12_lateness_19 : decode cX12_lateness 19 = .ok (.ireturn, 1) := by decide +kernel
theorem dX12_lateness_20 : decode cX12_lateness 20 = .ok (.aload_n 0, 1) := by decide +kernel
theorem dX12_lateness_21 : decode cX12_lateness 21 = .ok (.getfield 35, 3) := by decide +kernel
theorem dX12_lateness_24 : decode cX12_lateness 24 = .ok (.iconst 3, 1) := by decide +kernel
theorem dX12_lateness_25 : decode cX12_lateness 25 = .ok (.iaload, 1) := by decide +kernel
theorem dX12_lateness_26 : decode cX12_lateness 26 = .ok (.iconst 1, 1) := by decide +kernel
theorem dX12_lateness_27 : decode cX12_lateness 27 = .ok (.if_icmp .ne 10, 3) := by decide +kernel
theorem dX12_lateness_30 : decode cX12_lateness 30 = .ok (.aload_n 0, 1) := by decide +kernel
theorem dX12_lateness_31 : decode cX12_lateness 31 = .ok (.iload_n 2, 1) := by decide +kernel
theorem dX12_lateness_32 : decode cX12_lateness 32 = .ok (.invokevirtual 346, 3) := by decide +kernel
theorem dX12_lateness_35 : decode cX12_lateness 35 = .ok (.ineg, 1) := by decide +kernel
theorem dX12_lateness_36 : decode cX12_lateness 36 = .ok (.ireturn, 1) := by decide +kernel
theorem dX12_lateness_37 : decode cX12_lateness 37 = .ok (.aload_n 0, 1) := by decide +kernel
theorem dX12_lateness_38 : decode cX12_lateness 38 = .ok (.getfield 35, 3) := by decide +kernel
theorem dX12_lateness_41 : decode cX12_lateness 41 = .ok (.iconst 3, 1) := by decide +kernel
theorem dX12_lateness_42 : decode cX12_lateness 42 = .ok (.iaload, 1) := by decide +kernel
theorem dX12_lateness_43 : decode cX12_lateness 43 = .ok (.iconst 2, 1) := by decide +kernel
theorem dX12_lateness_44 : decode cX12_lateness 44 = .ok (.if_icmp .ne 28, 3) := by decide +kernel
theorem dX12_lateness_47 : decode cX12_lateness 47 = .ok (.aload_n 0, 1) := by decide +kernel
theorem dX12_lateness_48 : decode cX12_lateness 48 = .ok (.getfield 35, 3) := by decide +kernel
theorem dX12_lateness_51 : decode cX12_lateness 51 = .ok (.sipush 145, 3) := by decide +kernel
theorem dX12_lateness_54 : decode cX12_lateness 54 = .ok (.iload_n 1, 1) := by decide +kernel
theorem dX12_lateness_55 : decode cX12_lateness 55 = .ok (.iadd, 1) := by decide +kernel
theorem dX12_lateness_56 : decode cX12_lateness 56 = .ok (.iaload, 1) := by decide +kernel
theorem dX12_lateness_57 : decode cX12_lateness 57 = .ok (.aload_n 0, 1) := by decide +kernel
theorem dX12_lateness_58 : decode cX12_lateness 58 = .ok (.getfield 35, 3) := by decide +kernel
theorem dX12_lateness_61 : decode cX12_lateness 61 = .ok (.iconst 5, 1) := by decide +kernel
theorem dX12_lateness_62 : decode cX12_lateness 62 = .ok (.iload_n 2, 1) := by decide +kernel
theorem dX12_lateness_63 : decode cX12_lateness 63 = .ok (.iadd, 1) := by decide +kernel
theorem dX12_lateness_64 : decode cX12_lateness 64 = .ok (.iaload, 1) := by decide +kernel
theorem dX12_lateness_65 : decode cX12_lateness 65 = .ok (.isub, 1) := by decide +kernel
theorem dX12_lateness_66 : decode cX12_lateness 66 = .ok (.invokestatic 327, 3) := by decide +kernel
theorem dX12_lateness_69 : decode cX12_lateness 69 = .ok (.goto 4, 3) := by decide +kernel
theorem dX12_lateness_72 : decode cX12_lateness 72 = .ok (.iconst 0, 1) := by decide +kernel
theorem dX12_lateness_73 : decode cX12_lateness 73 = .ok (.ireturn, 1) := by decide +kernel
def j_X12_lateness : JD := (yX12_lateness, cX12_lateness, 3, (some .int))
def b_X12_lateness : BD := (1, 0, 0)
theorem dX12_chosenBy_0 : decode cX12_chosenBy 0 = .ok (.iconst (-1), 1) := by decide +kernel
theorem dX12_chosenBy_1 : decode cX12_chosenBy 1 = .ok (.istore_n 2, 1) := by decide +kernel
theorem dX12_chosenBy_2 : decode cX12_chosenBy 2 = .ok (.iconst 0, 1) := by decide +kernel
theorem dX12_chosenBy_3 : decode cX12_chosenBy 3 = .ok (.istore_n 3, 1) := by decide +kernel
theorem dX12_chosenBy_4 : decode cX12_chosenBy 4 = .ok (.iload_n 3, 1) := by decide +kernel
theorem dX12_chosenBy_5 : decode cX12_chosenBy 5 = .ok (.aload_n 0, 1) := by decide +kernel
theorem dX12_chosenBy_6 : decode cX12_chosenBy 6 = .ok (.getfield 35, 3) := by decide +kernel
theorem dX12_chosenBy_9 : decode cX12_chosenBy 9 = .ok (.iconst 0, 1) := by decide +kernel
theorem dX12_chosenBy_10 : decode cX12_chosenBy 10 = .ok (.iaload, 1) := by decide +kernel
theorem dX12_chosenBy_11 : decode cX12_chosenBy 11 = .ok (.if_icmp .ge 47, 3) := by decide +kernel
theorem dX12_chosenBy_14 : decode cX12_chosenBy 14 = .ok (.aload_n 0, 1) := by decide +kernel
theorem dX12_chosenBy_15 : decode cX12_chosenBy 15 = .ok (.iload_n 3, 1) := by decide +kernel
theorem dX12_chosenBy_16 : decode cX12_chosenBy 16 = .ok (.invokevirtual 363, 3) := by decide +kernel
theorem dX12_chosenBy_19 : decode cX12_chosenBy 19 = .ok (.ifCond .eq 33, 3) := by decide +kernel
theorem dX12_chosenBy_22 : decode cX12_chosenBy 22 = .ok (.aload_n 0, 1) := by decide +kernel
theorem dX12_chosenBy_23 : decode cX12_chosenBy 23 = .ok (.iload_n 3, 1) := by decide +kernel
theorem dX12_chosenBy_24 : decode cX12_chosenBy 24 = .ok (.iload_n 1, 1) := by decide +kernel
theorem dX12_chosenBy_25 : decode cX12_chosenBy 25 = .ok (.invokevirtual 366, 3) := by decide +kernel
theorem dX12_chosenBy_28 : decode cX12_chosenBy 28 = .ok (.ifCond .ne 24, 3) := by decide +kernel
theorem dX12_chosenBy_31 : decode cX12_chosenBy 31 = .ok (.iload_n 2, 1) := by decide +kernel
theorem dX12_chosenBy_32 : decode cX12_chosenBy 32 = .ok (.ifCond .lt 18, 3) := by decide +kernel
theorem dX12_chosenBy_35 : decode cX12_chosenBy 35 = .ok (.aload_n 0, 1) := by decide +kernel
theorem dX12_chosenBy_36 : decode cX12_chosenBy 36 = .ok (.iload_n 1, 1) := by decide +kernel
theorem dX12_chosenBy_37 : decode cX12_chosenBy 37 = .ok (.iload_n 3, 1) := by decide +kernel
theorem dX12_chosenBy_38 : decode cX12_chosenBy 38 = .ok (.invokevirtual 369, 3) := by decide +kernel
theorem dX12_chosenBy_41 : decode cX12_chosenBy 41 = .ok (.aload_n 0, 1) := by decide +kernel
theorem dX12_chosenBy_42 : decode cX12_chosenBy 42 = .ok (.iload_n 1, 1) := by decide +kernel
theorem dX12_chosenBy_43 : decode cX12_chosenBy 43 = .ok (.iload_n 2, 1) := by decide +kernel
theorem dX12_chosenBy_44 : decode cX12_chosenBy 44 = .ok (.invokevirtual 369, 3) := by decide +kernel
theorem dX12_chosenBy_47 : decode cX12_chosenBy 47 = .ok (.if_icmp .ge 5, 3) := by decide +kernel
theorem dX12_chosenBy_50 : decode cX12_chosenBy 50 = .ok (.iload_n 3, 1) := by decide +kernel
theorem dX12_chosenBy_51 : decode cX12_chosenBy 51 = .ok (.istore_n 2, 1) := by decide +kernel
theorem dX12_chosenBy_52 : decode cX12_chosenBy 52 = .ok (.iinc 3 1, 3) := by decide +kernel
theorem dX12_chosenBy_55 : decode cX12_chosenBy 55 = .ok (.goto (-51), 3) := by decide +kernel
theorem dX12_chosenBy_58 : decode cX12_chosenBy 58 = .ok (.iload_n 2, 1) := by decide +kernel
theorem dX12_chosenBy_59 : decode cX12_chosenBy 59 = .ok (.ireturn, 1) := by decide +kernel
def j_X12_chosenBy : JD := (yX12_chosenBy, cX12_chosenBy, 4, (some .int))
def b_X12_chosenBy : BD := (2, 0, 0)
theorem mv_X12_readTest : MV j_X12_readTest 12 1 := ⟨⟨gw_at 1924 (by decide +kernel) rfl, gw_at 221 (by decide +kernel) rfl, ⟨by decide +kernel, by decide +kernel⟩, by decide +kernel, by decide, by decide +kernel⟩, ⟨_, rfl, rfl⟩, gw_at 1923 (by decide +kernel) rfl, gw_at 157 (by decide +kernel) rfl⟩
theorem mv_X12_readRest : MV j_X12_readRest 12 1 := ⟨⟨gw_at 1920 (by decide +kernel) rfl, gw_at 221 (by decide +kernel) rfl, ⟨by decide +kernel, by decide +kernel⟩, by decide +kernel, by decide, by decide +kernel⟩, ⟨_, rfl, rfl⟩, gw_at 1919 (by decide +kernel) rfl, gw_at 156 (by decide +kernel) rfl⟩
theorem mv_X12_readStep : MV j_X12_readStep 12 1 := ⟨⟨gw_at 1916 (by decide +kernel) rfl, gw_at 221 (by decide +kernel) rfl, ⟨by decide +kernel, by decide +kernel⟩, by decide +kernel, by decide, by decide +kernel⟩, ⟨_, rfl, rfl⟩, gw_at 1915 (by decide +kernel) rfl, gw_at 155 (by decide +kernel) rfl⟩
theorem mv_X12_isHouseAt : MV j_X12_isHouseAt 12 1 := ⟨⟨gw_at 1953 (by decide +kernel) rfl, gw_at 221 (by decide +kernel) rfl, ⟨by decide +kernel, by decide +kernel⟩, by decide +kernel, by decide, by decide +kernel⟩, ⟨_, rfl, rfl⟩, gw_at 1952 (by decide +kernel) rfl, gw_at 162 (by decide +kernel) rfl⟩
theorem mv_X12_isGangAt : MV j_X12_isGangAt 12 1 := ⟨⟨gw_at 1970 (by decide +kernel) rfl, gw_at 221 (by decide +kernel) rfl, ⟨by decide +kernel, by decide +kernel⟩, by decide +kernel, by decide, by decide +kernel⟩, ⟨_, rfl, rfl⟩, gw_at 1969 (by decide +kernel) rfl, gw_at 165 (by decide +kernel) rfl⟩
theorem mv_X12_stands : MV j_X12_stands 12 1 := ⟨⟨gw_at 1941 (by decide +kernel) rfl, gw_at 221 (by decide +kernel) rfl, ⟨by decide +kernel, by decide +kernel⟩, by decide +kernel, by decide, by decide +kernel⟩, ⟨_, rfl, rfl⟩, gw_at 1940 (by decide +kernel) rfl, gw_at 160 (by decide +kernel) rfl⟩
theorem mv_X12_isOn : MV j_X12_isOn 12 1 := ⟨⟨gw_at 2008 (by decide +kernel) rfl, gw_at 221 (by decide +kernel) rfl, ⟨by decide +kernel, by decide +kernel⟩, by decide +kernel, by decide, by decide +kernel⟩, ⟨_, rfl, rfl⟩, gw_at 2007 (by decide +kernel) rfl, gw_at 169 (by decide +kernel) rfl⟩
theorem mv_X12_dueOf : MV j_X12_dueOf 12 1 := ⟨⟨gw_at 1958 (by decide +kernel) rfl, gw_at 221 (by decide +kernel) rfl, ⟨by decide +kernel, by decide +kernel⟩, by decide +kernel, by decide, by decide +kernel⟩, ⟨_, rfl, rfl⟩, gw_at 1957 (by decide +kernel) rfl, gw_at 163 (by decide +kernel) rfl⟩
theorem mv_X12_takesOf : MV j_X12_takesOf 12 2 := ⟨⟨gw_at 1975 (by decide +kernel) rfl, gw_at 221 (by decide +kernel) rfl, ⟨by decide +kernel, by decide +kernel⟩, by decide +kernel, by decide, by decide +kernel⟩, ⟨_, rfl, rfl⟩, gw_at 1974 (by decide +kernel) rfl, gw_at 166 (by decide +kernel) rfl⟩
theorem mv_X12_walkOf : MV j_X12_walkOf 12 2 := ⟨⟨gw_at 1995 (by decide +kernel) rfl, gw_at 221 (by decide +kernel) rfl, ⟨by decide +kernel, by decide +kernel⟩, by decide +kernel, by decide, by decide +kernel⟩, ⟨_, rfl, rfl⟩, gw_at 1994 (by decide +kernel) rfl, gw_at 167 (by decide +kernel) rfl⟩
theorem mv_X12_worthOf : MV j_X12_worthOf 12 1 := ⟨⟨gw_at 1937 (by decide +kernel) rfl, gw_at 221 (by decide +kernel) rfl, ⟨by decide +kernel, by decide +kernel⟩, by decide +kernel, by decide, by decide +kernel⟩, ⟨_, rfl, rfl⟩, gw_at 1936 (by decide +kernel) rfl, gw_at 159 (by decide +kernel) rfl⟩
theorem mv_X12_allChances : MV j_X12_allChances 12 0 := ⟨⟨gw_at 1945 (by decide +kernel) rfl, gw_at 221 (by decide +kernel) rfl, ⟨by decide +kernel, by decide +kernel⟩, by decide +kernel, by decide, by decide +kernel⟩, ⟨_, rfl, rfl⟩, gw_at 1944 (by decide +kernel) rfl, gw_at 161 (by decide +kernel) rfl⟩
theorem mv_X12_holds : MV j_X12_holds 12 1 := ⟨⟨gw_at 1962 (by decide +kernel) rfl, gw_at 221 (by decide +kernel) rfl, ⟨by decide +kernel, by decide +kernel⟩, by decide +kernel, by decide, by decide +kernel⟩, ⟨_, rfl, rfl⟩, gw_at 1961 (by decide +kernel) rfl, gw_at 164 (by decide +kernel) rfl⟩
theorem mv_X12_isTaken : MV j_X12_isTaken 12 2 := ⟨⟨gw_at 2012 (by decide +kernel) rfl, gw_at 221 (by decide +kernel) rfl, ⟨by decide +kernel, by decide +kernel⟩, by decide +kernel, by decide, by decide +kernel⟩, ⟨_, rfl, rfl⟩, gw_at 2011 (by decide +kernel) rfl, gw_at 170 (by decide +kernel) rfl⟩
theorem mv_X12_lateness : MV j_X12_lateness 12 2 := ⟨⟨gw_at 2016 (by decide +kernel) rfl, gw_at 221 (by decide +kernel) rfl, ⟨by decide +kernel, by decide +kernel⟩, by decide +kernel, by decide, by decide +kernel⟩, ⟨_, rfl, rfl⟩, gw_at 2015 (by decide +kernel) rfl, gw_at 171 (by decide +kernel) rfl⟩
theorem mv_X12_chosenBy : MV j_X12_chosenBy 12 1 := ⟨⟨gw_at 2004 (by decide +kernel) rfl, gw_at 221 (by decide +kernel) rfl, ⟨by decide +kernel, by decide +kernel⟩, by decide +kernel, by decide, by decide +kernel⟩, ⟨_, rfl, rfl⟩, gw_at 2003 (by decide +kernel) rfl, gw_at 168 (by decide +kernel) rfl⟩
theorem ml_X12_312 : MLk RX12 312 j_X12_readTest.1 := Or.inl (gw_at 1921 (by decide +kernel) rfl)
theorem ml_X12_318 : MLk RX12 318 j_X12_readRest.1 := Or.inl (gw_at 1917 (by decide +kernel) rfl)
theorem ml_X12_321 : MLk RX12 321 j_X12_readStep.1 := Or.inl (gw_at 1913 (by decide +kernel) rfl)
theorem ml_X12_324 : MLk RX12 324 j_X12_stands.1 := Or.inl (gw_at 1938 (by decide +kernel) rfl)
theorem ml_X12_331 : MLk RX12 331 j_X12_refuse.1 := Or.inl (gw_at 1930 (by decide +kernel) rfl)
theorem ml_X12_334 : MLk RX12 334 j_X12_worthOf.1 := Or.inl (gw_at 1934 (by decide +kernel) rfl)
theorem ml_X12_338 : MLk RX12 338 j_X12_allChances.1 := Or.inl (gw_at 1942 (by decide +kernel) rfl)
theorem ml_X12_341 : MLk RX12 341 j_X12_isHouseAt.1 := Or.inl (gw_at 1950 (by decide +kernel) rfl)
theorem ml_X12_346 : MLk RX12 346 j_X12_dueOf.1 := Or.inl (gw_at 1955 (by decide +kernel) rfl)
theorem ml_X12_349 : MLk RX12 349 j_X12_holds.1 := Or.inl (gw_at 1959 (by decide +kernel) rfl)
theorem ml_X12_352 : MLk RX12 352 j_X12_isGangAt.1 := Or.inl (gw_at 1967 (by decide +kernel) rfl)
theorem ml_X12_357 : MLk RX12 357 j_X12_takesOf.1 := Or.inl (gw_at 1972 (by decide +kernel) rfl)
theorem ml_X12_360 : MLk RX12 360 j_X12_walkOf.1 := Or.inl (gw_at 1992 (by decide +kernel) rfl)
theorem ml_X12_363 : MLk RX12 363 j_X12_isOn.1 := Or.inl (gw_at 2005 (by decide +kernel) rfl)
theorem ml_X12_366 : MLk RX12 366 j_X12_isTaken.1 := Or.inl (gw_at 2009 (by decide +kernel) rfl)
theorem ml_X12_369 : MLk RX12 369 j_X12_lateness.1 := Or.inl (gw_at 2013 (by decide +kernel) rfl)
def f_X12_readTest_118 (M : Mm) (l0 : Option Nat) (l1 : Int32) (s0 : Option Nat) (s1 : Int32) : Option (Mm) := ck M s0 12 <| bv (f_X12_must M s0 s1) fun M118 => gfR M118 l0 12 20 fun v122 => ck M118 l0 12 <| bd (f_X12_count M118 l0 0 9999) fun v133 M133 => asI M133 v122 21 (l1 + 2) v133 fun M136 => some M136
def f_X12_readTest_113 (M : Mm) (l0 : Option Nat) (l1 : Int32) (s0 : Option Nat) : Option (Mm) := f_X12_readTest_118  M l0 l1 s0 1
def f_X12_readTest_84 (M : Mm) (l0 : Option Nat) (l1 : Int32) (s0 : Option Nat) (s1 : Int32) (s2 : Int32) : Option (Mm) := asI M s0 21 s1 s2 fun M84 => ck M84 l0 12 <| bd (f_X12_isSign M84 l0 60) fun v89 M89 => if v89 = 0 then (ck M89 l0 12 <| bd (f_X12_isSign M89 l0 62) fun v98 M98 => if v98 = 0 then (ck M98 l0 12 <| bd (f_X12_isSign M98 l0 61) fun v107 M107 => if v107 = 0 then (f_X12_readTest_118  M107 l0 l1 l0 0) else (f_X12_readTest_113  M107 l0 l1 l0)) else (f_X12_readTest_113  M98 l0 l1 l0)) else (f_X12_readTest_113  M89 l0 l1 l0)
def f_X12_readTest_47 (M : Mm) (l0 : Option Nat) (l1 : Int32) (l2 : Int32) : Option (Mm) := gfI M l0 12 12 fun v48 => if 0 < v48 then (some M) else (if 2 ≤ l2 then (gfR M l0 12 20 fun v61 => gfI M l0 12 14 fun v69 => if v69 = 3 then (gfI M l0 12 17 fun v77 => f_X12_readTest_84  M l0 l1 v61 (l1 + 7) v77) else (f_X12_readTest_84  M l0 l1 v61 (l1 + 7) 0)) else (some M))
def f_X12_readTest_15 (M : Mm) (l0 : Option Nat) (l1 : Int32) (l2 : Int32) (s0 : Option Nat) (s1 : Int32) : Option (Mm) := ck M s0 12 <| bv (f_X12_must M s0 s1) fun M15 => gfR M15 l0 12 20 fun v19 => asI M15 v19 21 (l1 + 6) l2 fun M27 => if 2 ≤ l2 then (f_X12_readTest_47  M27 l0 l1 l2) else (gfR M27 l0 12 20 fun v34 => ck M27 l0 12 <| bd (f_X12_readTold M27 l0 0 0) fun v43 M43 => asI M43 v34 21 (l1 + 1) v43 fun M46 => f_X12_readTest_47  M46 l0 l1 l2)
def f_X12_readTest (M : Mm) (l0 : Option Nat) (l1 : Int32) : Option (Mm) := ck M l0 12 <| bd (f_X12_testWord M l0) fun v1 M1 => if v1 < 0 then (f_X12_readTest_15  M1 l0 l1 v1 l0 0) else (f_X12_readTest_15  M1 l0 l1 v1 l0 1)
set_option maxHeartbeats 4000000 in
set_option maxRecDepth 100000 in
theorem t_X12_readTest_118 {G : GG} {X : CX} {ans : Mm} (he : EndV G X j_X12_readTest b_X12_readTest ans) {M : Mm} {l0 : Option Nat} {l1 : Int32} {s0 : Option Nat} {s1 : Int32} (h : f_X12_readTest_118 M l0 l1 s0 s1 = some ans) : Wt G X j_X12_readTest b_X12_readTest 118 [(0, rf G.1 l0), (1, .int l1)] [.int s1, rf G.1 s0] M 0 0 := by
  unfold f_X12_readTest_118 at h
  refine wt_cVV (pc := 118) (J' := j_X12_must) (As := [.int s1]) (st := []) (B' := b_X12_must) (u' := 0) (w' := 0) dX12_readTest_118 ml_X12_237 mv_X12_must (fun M9 e9 => c_X12_must e9) rfl (by decide) rfl rfl (by decide) (by decide) (by decide) rfl h (fun M118 h => ?_)
  refine wt_aload_n (pc := 121) 0 dX12_readTest_121 rfl ?_
  refine wt_getR (pc := 122) dX12_readTest_122 fl_X12_35 (fun _ _ _ => rfl) h (fun v122 h => ?_)
  refine wt_iload_n (pc := 125) 1 dX12_readTest_125 rfl ?_
  refine wt_iconst (pc := 126) (v := 2) dX12_readTest_126 (by decide) ?_
  refine wt_iadd (pc := 127) dX12_readTest_127 ?_
  refine wt_aload_n (pc := 128) 0 dX12_readTest_128 rfl ?_
  refine wt_iconst (pc := 129) (v := 0) dX12_readTest_129 (by decide) ?_
  refine wt_sipush (pc := 130) (v := 9999) dX12_readTest_130 (by decide) ?_
  refine wt_cVI (pc := 133) (J' := j_X12_count) (As := [.int 0, .int 9999]) (st := [.int (l1 + 2), rf G.1 v122]) (B' := b_X12_count) (u' := 0) (w' := 0) dX12_readTest_133 ml_X12_241 mv_X12_count (fun v9 M9 e9 => c_X12_count e9) rfl (by decide) rfl rfl (by decide) (by decide) (by simp [rf_cat, cat_i, cat_l, cat_r]) rfl h (fun v133 M133 h => ?_)
  refine wt_iastore (pc := 136) (kd := 21) dX12_readTest_136 rfl rfl h (fun M136 h => ?_)
  cases h
  exact he 137 _ _ _ dX12_readTest_137 (by decide) (by decide)
set_option maxHeartbeats 4000000 in
set_option maxRecDepth 100000 in
theorem t_X12_readTest_113 {G : GG} {X : CX} {ans : Mm} (he : EndV G X j_X12_readTest b_X12_readTest ans) {M : Mm} {l0 : Option Nat} {l1 : Int32} {s0 : Option Nat} (h : f_X12_readTest_113 M l0 l1 s0 = some ans) : Wt G X j_X12_readTest b_X12_readTest 113 [(0, rf G.1 l0), (1, .int l1)] [rf G.1 s0] M 0 0 := by
  unfold f_X12_readTest_113 at h
  refine wt_iconst (pc := 113) (v := 1) dX12_readTest_113 (by decide) ?_
  refine wt_goto (pc := 114) (tgt := 118) dX12_readTest_114 (by decide) ?_
  exact t_X12_readTest_118 he  h
set_option maxHeartbeats 4000000 in
set_option maxRecDepth 100000 in
theorem t_X12_readTest_84 {G : GG} {X : CX} {ans : Mm} (he : EndV G X j_X12_readTest b_X12_readTest ans) {M : Mm} {l0 : Option Nat} {l1 : Int32} {s0 : Option Nat} {s1 : Int32} {s2 : Int32} (h : f_X12_readTest_84 M l0 l1 s0 s1 s2 = some ans) : Wt G X j_X12_readTest b_X12_readTest 84 [(0, rf G.1 l0), (1, .int l1)] [.int s2, .int s1, rf G.1 s0] M 0 0 := by
  unfold f_X12_readTest_84 at h
  refine wt_iastore (pc := 84) (kd := 21) dX12_readTest_84 rfl rfl h (fun M84 h => ?_)
  refine wt_aload_n (pc := 85) 0 dX12_readTest_85 rfl ?_
  refine wt_aload_n (pc := 86) 0 dX12_readTest_86 rfl ?_
  refine wt_bipush (pc := 87) (v := 60) dX12_readTest_87 (by decide) ?_
  refine wt_cVI (pc := 89) (J' := j_X12_isSign) (As := [.int 60]) (st := [rf G.1 l0]) (B' := b_X12_isSign) (u' := 0) (w' := 0) dX12_readTest_89 ml_X12_303 mv_X12_isSign (fun v9 M9 e9 => c_X12_isSign e9) rfl (by decide) rfl rfl (by decide) (by decide) (by simp [rf_cat, cat_i, cat_l, cat_r]) rfl h (fun v89 M89 h => ?_)
  refine wt_if_ne (pc := 92) (tgt := 113) dX12_readTest_92 (by decide) (fun q => ?_) (fun q => ?_)
  · have h := ite_f q h
    exact t_X12_readTest_113 he  h
  · have h := ite_t q h
    refine wt_aload_n (pc := 95) 0 dX12_readTest_95 rfl ?_
    refine wt_bipush (pc := 96) (v := 62) dX12_readTest_96 (by decide) ?_
    refine wt_cVI (pc := 98) (J' := j_X12_isSign) (As := [.int 62]) (st := [rf G.1 l0]) (B' := b_X12_isSign) (u' := 0) (w' := 0) dX12_readTest_98 ml_X12_303 mv_X12_isSign (fun v9 M9 e9 => c_X12_isSign e9) rfl (by decide) rfl rfl (by decide) (by decide) (by simp [rf_cat, cat_i, cat_l, cat_r]) rfl h (fun v98 M98 h => ?_)
    refine wt_if_ne (pc := 101) (tgt := 113) dX12_readTest_101 (by decide) (fun q => ?_) (fun q => ?_)
    · have h := ite_f q h
      exact t_X12_readTest_113 he  h
    · have h := ite_t q h
      refine wt_aload_n (pc := 104) 0 dX12_readTest_104 rfl ?_
      refine wt_bipush (pc := 105) (v := 61) dX12_readTest_105 (by decide) ?_
      refine wt_cVI (pc := 107) (J' := j_X12_isSign) (As := [.int 61]) (st := [rf G.1 l0]) (B' := b_X12_isSign) (u' := 0) (w' := 0) dX12_readTest_107 ml_X12_303 mv_X12_isSign (fun v9 M9 e9 => c_X12_isSign e9) rfl (by decide) rfl rfl (by decide) (by decide) (by simp [rf_cat, cat_i, cat_l, cat_r]) rfl h (fun v107 M107 h => ?_)
      refine wt_if_eq (pc := 110) (tgt := 117) dX12_readTest_110 (by decide) (fun q => ?_) (fun q => ?_)
      · have h := ite_t q h
        refine wt_iconst (pc := 117) (v := 0) dX12_readTest_117 (by decide) ?_
        exact t_X12_readTest_118 he  h
      · have h := ite_f q h
        exact t_X12_readTest_113 he  h
set_option maxHeartbeats 4000000 in
set_option maxRecDepth 100000 in
theorem t_X12_readTest_47 {G : GG} {X : CX} {ans : Mm} (he : EndV G X j_X12_readTest b_X12_readTest ans) {M : Mm} {l0 : Option Nat} {l1 : Int32} {l2 : Int32} (h : f_X12_readTest_47 M l0 l1 l2 = some ans) : Wt G X j_X12_readTest b_X12_readTest 47 [(0, rf G.1 l0), (1, .int l1), (2, .int l2)] [] M 0 0 := by
  unfold f_X12_readTest_47 at h
  refine wt_aload_n (pc := 47) 0 dX12_readTest_47 rfl ?_
  refine wt_getI (pc := 48) dX12_readTest_48 fl_X12_221 (fun _ _ _ => rfl) h (fun v48 h => ?_)
  refine wt_if_gt (pc := 51) (tgt := 59) dX12_readTest_51 (by decide) (fun q => ?_) (fun q => ?_)
  · have h := ite_t q h
    cases h
    exact he 59 _ _ _ dX12_readTest_59 (by decide) (by decide)
  · have h := ite_f q h
    refine wt_iload_n (pc := 54) 2 dX12_readTest_54 rfl ?_
    refine wt_iconst (pc := 55) (v := 2) dX12_readTest_55 (by decide) ?_
    refine wt_icmp_ge (pc := 56) (tgt := 60) dX12_readTest_56 (by decide) (fun q => ?_) (fun q => ?_)
    · have h := ite_t q h
      refine wt_aload_n (pc := 60) 0 dX12_readTest_60 rfl ?_
      refine wt_getR (pc := 61) dX12_readTest_61 fl_X12_35 (fun _ _ _ => rfl) h (fun v61 h => ?_)
      refine wt_iload_n (pc := 64) 1 dX12_readTest_64 rfl ?_
      refine wt_bipush (pc := 65) (v := 7) dX12_readTest_65 (by decide) ?_
      refine wt_iadd (pc := 67) dX12_readTest_67 ?_
      refine wt_aload_n (pc := 68) 0 dX12_readTest_68 rfl ?_
      refine wt_getI (pc := 69) dX12_readTest_69 fl_X12_123 (fun _ _ _ => rfl) h (fun v69 h => ?_)
      refine wt_iconst (pc := 72) (v := 3) dX12_readTest_72 (by decide) ?_
      refine wt_icmp_ne (pc := 73) (tgt := 83) dX12_readTest_73 (by decide) (fun q => ?_) (fun q => ?_)
      · have h := ite_f q h
        refine wt_iconst (pc := 83) (v := 0) dX12_readTest_83 (by decide) ?_
        refine wt_sub (ls' := [(0, rf G.1 l0), (1, .int l1)]) [0, 1] rfl ?_
        exact t_X12_readTest_84 he  h
      · have h := ite_t q h
        refine wt_aload_n (pc := 76) 0 dX12_readTest_76 rfl ?_
        refine wt_getI (pc := 77) dX12_readTest_77 fl_X12_142 (fun _ _ _ => rfl) h (fun v77 h => ?_)
        refine wt_goto (pc := 80) (tgt := 84) dX12_readTest_80 (by decide) ?_
        refine wt_sub (ls' := [(0, rf G.1 l0), (1, .int l1)]) [0, 1] rfl ?_
        exact t_X12_readTest_84 he  h
    · have h := ite_f q h
      cases h
      exact he 59 _ _ _ dX12_readTest_59 (by decide) (by decide)
set_option maxHeartbeats 4000000 in
set_option maxRecDepth 100000 in
theorem t_X12_readTest_15 {G : GG} {X : CX} {ans : Mm} (he : EndV G X j_X12_readTest b_X12_readTest ans) {M : Mm} {l0 : Option Nat} {l1 : Int32} {l2 : Int32} {s0 : Option Nat} {s1 : Int32} (h : f_X12_readTest_15 M l0 l1 l2 s0 s1 = some ans) : Wt G X j_X12_readTest b_X12_readTest 15 [(0, rf G.1 l0), (1, .int l1), (2, .int l2)] [.int s1, rf G.1 s0] M 0 0 := by
  unfold f_X12_readTest_15 at h
  refine wt_cVV (pc := 15) (J' := j_X12_must) (As := [.int s1]) (st := []) (B' := b_X12_must) (u' := 0) (w' := 0) dX12_readTest_15 ml_X12_237 mv_X12_must (fun M9 e9 => c_X12_must e9) rfl (by decide) rfl rfl (by decide) (by decide) (by decide) rfl h (fun M15 h => ?_)
  refine wt_aload_n (pc := 18) 0 dX12_readTest_18 rfl ?_
  refine wt_getR (pc := 19) dX12_readTest_19 fl_X12_35 (fun _ _ _ => rfl) h (fun v19 h => ?_)
  refine wt_iload_n (pc := 22) 1 dX12_readTest_22 rfl ?_
  refine wt_bipush (pc := 23) (v := 6) dX12_readTest_23 (by decide) ?_
  refine wt_iadd (pc := 25) dX12_readTest_25 ?_
  refine wt_iload_n (pc := 26) 2 dX12_readTest_26 rfl ?_
  refine wt_iastore (pc := 27) (kd := 21) dX12_readTest_27 rfl rfl h (fun M27 h => ?_)
  refine wt_iload_n (pc := 28) 2 dX12_readTest_28 rfl ?_
  refine wt_iconst (pc := 29) (v := 2) dX12_readTest_29 (by decide) ?_
  refine wt_icmp_ge (pc := 30) (tgt := 47) dX12_readTest_30 (by decide) (fun q => ?_) (fun q => ?_)
  · have h := ite_t q h
    exact t_X12_readTest_47 he  h
  · have h := ite_f q h
    refine wt_aload_n (pc := 33) 0 dX12_readTest_33 rfl ?_
    refine wt_getR (pc := 34) dX12_readTest_34 fl_X12_35 (fun _ _ _ => rfl) h (fun v34 h => ?_)
    refine wt_iload_n (pc := 37) 1 dX12_readTest_37 rfl ?_
    refine wt_iconst (pc := 38) (v := 1) dX12_readTest_38 (by decide) ?_
    refine wt_iadd (pc := 39) dX12_readTest_39 ?_
    refine wt_aload_n (pc := 40) 0 dX12_readTest_40 rfl ?_
    refine wt_iconst (pc := 41) (v := 0) dX12_readTest_41 (by decide) ?_
    refine wt_iconst (pc := 42) (v := 0) dX12_readTest_42 (by decide) ?_
    refine wt_cVI (pc := 43) (J' := j_X12_readTold) (As := [.int 0, .int 0]) (st := [.int (l1 + 1), rf G.1 v34]) (B' := b_X12_readTold) (u' := 0) (w' := 0) dX12_readTest_43 ml_X12_278 mv_X12_readTold (fun v9 M9 e9 => c_X12_readTold e9) rfl (by decide) rfl rfl (by decide) (by decide) (by simp [rf_cat, cat_i, cat_l, cat_r]) rfl h (fun v43 M43 h => ?_)
    refine wt_iastore (pc := 46) (kd := 21) dX12_readTest_46 rfl rfl h (fun M46 h => ?_)
    exact t_X12_readTest_47 he  h
set_option maxHeartbeats 4000000 in
set_option maxRecDepth 100000 in
theorem t_X12_readTest_e {G : GG} {X : CX} {ans : Mm} (he : EndV G X j_X12_readTest b_X12_readTest ans) {M : Mm} {l0 : Option Nat} {l1 : Int32} (h : f_X12_readTest M l0 l1 = some ans) : Wt G X j_X12_readTest b_X12_readTest 0 [(0, rf G.1 l0), (1, .int l1)] [] M 0 0 := by
  unfold f_X12_readTest at h
  refine wt_aload_n (pc := 0) 0 dX12_readTest_0 rfl ?_
  refine wt_cVI (pc := 1) (J' := j_X12_testWord) (As := []) (st := []) (B' := b_X12_testWord) (u' := 0) (w' := 0) dX12_readTest_1 ml_X12_212 mv_X12_testWord (fun v9 M9 e9 => c_X12_testWord e9) rfl (by decide) rfl rfl (by decide) (by decide) (by decide) rfl h (fun v1 M1 h => ?_)
  refine wt_istore_n (pc := 4) (i := 2) (ls' := [(2, .int v1), (0, rf G.1 l0), (1, .int l1)]) rfl dX12_readTest_4 (by decide) rfl ?_
  refine wt_aload_n (pc := 5) 1 dX12_readTest_5 rfl ?_
  refine wt_iload_n (pc := 6) 0 dX12_readTest_6 rfl ?_
  refine wt_if_lt (pc := 7) (tgt := 14) dX12_readTest_7 (by decide) (fun q => ?_) (fun q => ?_)
  · have h := ite_t q h
    refine wt_iconst (pc := 14) (v := 0) dX12_readTest_14 (by decide) ?_
    refine wt_sub (ls' := [(0, rf G.1 l0), (1, .int l1), (2, .int v1)]) [1, 2, 0] rfl ?_
    exact t_X12_readTest_15 he  h
  · have h := ite_f q h
    refine wt_iconst (pc := 10) (v := 1) dX12_readTest_10 (by decide) ?_
    refine wt_goto (pc := 11) (tgt := 15) dX12_readTest_11 (by decide) ?_
    refine wt_sub (ls' := [(0, rf G.1 l0), (1, .int l1), (2, .int v1)]) [1, 2, 0] rfl ?_
    exact t_X12_readTest_15 he  h
set_option maxHeartbeats 4000000 in
set_option maxRecDepth 100000 in
theorem c_X12_readTest {G : GG} {M : Mm} {l0 : Option Nat} {l1 : Int32} {r : Mm} (h : f_X12_readTest M l0 l1 = some r) (l : Launch) : Ct l G j_X12_readTest b_X12_readTest [rf G.1 l0, .int l1] M none r := cf_V (by decide +kernel) (by simp [lg_sl, rf_cat, cat_i, cat_l, j_X12_readTest]) rfl (by simp [lv_args, rf_cat, cat_i, cat_l]) (fun X he => t_X12_readTest_e he h)
def f_X12_readRest (M : Mm) (l0 : Option Nat) (l1 : Int32) : Option (Mm) := gfR M l0 12 20 fun v1 => alI M v1 21 l1 fun v5 => if v5 = 0 then (gfR M l0 12 20 fun v12 => ck M l0 12 <| bd (f_X12_count M l0 1 240) fun v23 M23 => asI M23 v12 21 (l1 + 1) v23 fun M26 => some M26) else (if v5 = 3 then (gfR M l0 12 20 fun v36 => ck M l0 12 <| bd (f_X12_readTold M l0 0 0) fun v45 M45 => asI M45 v36 21 (l1 + 1) v45 fun M48 => ck M48 l0 12 <| bd (f_X12_isWith M48 l0) fun v51 M51 => ck M51 l0 12 <| bv (f_X12_must M51 l0 v51) fun M54 => gfR M54 l0 12 20 fun v58 => ck M54 l0 12 <| bd (f_X12_readTold M54 l0 0 1) fun v67 M67 => asI M67 v58 21 (l1 + 2) v67 fun M70 => some M70) else (if v5 = 4 then (gfR M l0 12 20 fun v80 => ck M l0 12 <| bd (f_X12_readTold M l0 0 1) fun v89 M89 => asI M89 v80 21 (l1 + 1) v89 fun M92 => some M92) else (if v5 = 5 then (ck M l0 12 <| bv (f_X12_readTest M l0 l1) fun M103 => some M103) else (if v5 = 6 then (gfR M l0 12 20 fun v116 => ck M l0 12 <| bd (f_X12_count M l0 1 99) fun v126 M126 => asI M126 v116 21 (l1 + 1) v126 fun M129 => some M129) else (some M)))))
set_option maxHeartbeats 4000000 in
set_option maxRecDepth 100000 in
theorem t_X12_readRest_e {G : GG} {X : CX} {ans : Mm} (he : EndV G X j_X12_readRest b_X12_readRest ans) {M : Mm} {l0 : Option Nat} {l1 : Int32} (h : f_X12_readRest M l0 l1 = some ans) : Wt G X j_X12_readRest b_X12_readRest 0 [(0, rf G.1 l0), (1, .int l1)] [] M 0 0 := by
  unfold f_X12_readRest at h
  refine wt_aload_n (pc := 0) 0 dX12_readRest_0 rfl ?_
  refine wt_getR (pc := 1) dX12_readRest_1 fl_X12_35 (fun _ _ _ => rfl) h (fun v1 h => ?_)
  refine wt_iload_n (pc := 4) 1 dX12_readRest_4 rfl ?_
  refine wt_iaload (pc := 5) (kd := 21) dX12_readRest_5 rfl rfl h (fun v5 h => ?_)
  refine wt_istore_n (pc := 6) (i := 2) (ls' := [(2, .int v5), (0, rf G.1 l0), (1, .int l1)]) rfl dX12_readRest_6 (by decide) rfl ?_
  refine wt_iload_n (pc := 7) 0 dX12_readRest_7 rfl ?_
  refine wt_if_ne (pc := 8) (tgt := 30) dX12_readRest_8 (by decide) (fun q => ?_) (fun q => ?_)
  · have h := ite_f q h
    refine wt_iload_n (pc := 30) 0 dX12_readRest_30 rfl ?_
    refine wt_iconst (pc := 31) (v := 3) dX12_readRest_31 (by decide) ?_
    refine wt_icmp_ne (pc := 32) (tgt := 74) dX12_readRest_32 (by decide) (fun q => ?_) (fun q => ?_)
    · have h := ite_f q h
      refine wt_iload_n (pc := 74) 0 dX12_readRest_74 rfl ?_
      refine wt_iconst (pc := 75) (v := 4) dX12_readRest_75 (by decide) ?_
      refine wt_icmp_ne (pc := 76) (tgt := 96) dX12_readRest_76 (by decide) (fun q => ?_) (fun q => ?_)
      · have h := ite_f q h
        refine wt_iload_n (pc := 96) 0 dX12_readRest_96 rfl ?_
        refine wt_iconst (pc := 97) (v := 5) dX12_readRest_97 (by decide) ?_
        refine wt_icmp_ne (pc := 98) (tgt := 109) dX12_readRest_98 (by decide) (fun q => ?_) (fun q => ?_)
        · have h := ite_f q h
          refine wt_iload_n (pc := 109) 0 dX12_readRest_109 rfl ?_
          refine wt_bipush (pc := 110) (v := 6) dX12_readRest_110 (by decide) ?_
          refine wt_icmp_ne (pc := 112) (tgt := 130) dX12_readRest_112 (by decide) (fun q => ?_) (fun q => ?_)
          · have h := ite_f q h
            cases h
            exact he 130 _ _ _ dX12_readRest_130 (by decide) (by decide)
          · have h := ite_t q h
            refine wt_aload_n (pc := 115) 1 dX12_readRest_115 rfl ?_
            refine wt_getR (pc := 116) dX12_readRest_116 fl_X12_35 (fun _ _ _ => rfl) h (fun v116 h => ?_)
            refine wt_iload_n (pc := 119) 2 dX12_readRest_119 rfl ?_
            refine wt_iconst (pc := 120) (v := 1) dX12_readRest_120 (by decide) ?_
            refine wt_iadd (pc := 121) dX12_readRest_121 ?_
            refine wt_aload_n (pc := 122) 1 dX12_readRest_122 rfl ?_
            refine wt_iconst (pc := 123) (v := 1) dX12_readRest_123 (by decide) ?_
            refine wt_bipush (pc := 124) (v := 99) dX12_readRest_124 (by decide) ?_
            refine wt_cVI (pc := 126) (J' := j_X12_count) (As := [.int 1, .int 99]) (st := [.int (l1 + 1), rf G.1 v116]) (B' := b_X12_count) (u' := 0) (w' := 0) dX12_readRest_126 ml_X12_241 mv_X12_count (fun v9 M9 e9 => c_X12_count e9) rfl (by decide) rfl rfl (by decide) (by decide) (by simp [rf_cat, cat_i, cat_l, cat_r]) rfl h (fun v126 M126 h => ?_)
            refine wt_iastore (pc := 129) (kd := 21) dX12_readRest_129 rfl rfl h (fun M129 h => ?_)
            cases h
            exact he 130 _ _ _ dX12_readRest_130 (by decide) (by decide)
        · have h := ite_t q h
          refine wt_aload_n (pc := 101) 1 dX12_readRest_101 rfl ?_
          refine wt_iload_n (pc := 102) 2 dX12_readRest_102 rfl ?_
          refine wt_cVV (pc := 103) (J' := j_X12_readTest) (As := [.int l1]) (st := []) (B' := b_X12_readTest) (u' := 0) (w' := 0) dX12_readRest_103 ml_X12_312 mv_X12_readTest (fun M9 e9 => c_X12_readTest e9) rfl (by decide) rfl rfl (by decide) (by decide) (by decide) rfl h (fun M103 h => ?_)
          refine wt_goto (pc := 106) (tgt := 130) dX12_readRest_106 (by decide) ?_
          cases h
          exact he 130 _ _ _ dX12_readRest_130 (by decide) (by decide)
      · have h := ite_t q h
        refine wt_aload_n (pc := 79) 1 dX12_readRest_79 rfl ?_
        refine wt_getR (pc := 80) dX12_readRest_80 fl_X12_35 (fun _ _ _ => rfl) h (fun v80 h => ?_)
        refine wt_iload_n (pc := 83) 2 dX12_readRest_83 rfl ?_
        refine wt_iconst (pc := 84) (v := 1) dX12_readRest_84 (by decide) ?_
        refine wt_iadd (pc := 85) dX12_readRest_85 ?_
        refine wt_aload_n (pc := 86) 1 dX12_readRest_86 rfl ?_
        refine wt_iconst (pc := 87) (v := 0) dX12_readRest_87 (by decide) ?_
        refine wt_iconst (pc := 88) (v := 1) dX12_readRest_88 (by decide) ?_
        refine wt_cVI (pc := 89) (J' := j_X12_readTold) (As := [.int 0, .int 1]) (st := [.int (l1 + 1), rf G.1 v80]) (B' := b_X12_readTold) (u' := 0) (w' := 0) dX12_readRest_89 ml_X12_278 mv_X12_readTold (fun v9 M9 e9 => c_X12_readTold e9) rfl (by decide) rfl rfl (by decide) (by decide) (by simp [rf_cat, cat_i, cat_l, cat_r]) rfl h (fun v89 M89 h => ?_)
        refine wt_iastore (pc := 92) (kd := 21) dX12_readRest_92 rfl rfl h (fun M92 h => ?_)
        refine wt_goto (pc := 93) (tgt := 130) dX12_readRest_93 (by decide) ?_
        cases h
        exact he 130 _ _ _ dX12_readRest_130 (by decide) (by decide)
    · have h := ite_t q h
      refine wt_aload_n (pc := 35) 1 dX12_readRest_35 rfl ?_
      refine wt_getR (pc := 36) dX12_readRest_36 fl_X12_35 (fun _ _ _ => rfl) h (fun v36 h => ?_)
      refine wt_iload_n (pc := 39) 2 dX12_readRest_39 rfl ?_
      refine wt_iconst (pc := 40) (v := 1) dX12_readRest_40 (by decide) ?_
      refine wt_iadd (pc := 41) dX12_readRest_41 ?_
      refine wt_aload_n (pc := 42) 1 dX12_readRest_42 rfl ?_
      refine wt_iconst (pc := 43) (v := 0) dX12_readRest_43 (by decide) ?_
      refine wt_iconst (pc := 44) (v := 0) dX12_readRest_44 (by decide) ?_
      refine wt_cVI (pc := 45) (J' := j_X12_readTold) (As := [.int 0, .int 0]) (st := [.int (l1 + 1), rf G.1 v36]) (B' := b_X12_readTold) (u' := 0) (w' := 0) dX12_readRest_45 ml_X12_278 mv_X12_readTold (fun v9 M9 e9 => c_X12_readTold e9) rfl (by decide) rfl rfl (by decide) (by decide) (by simp [rf_cat, cat_i, cat_l, cat_r]) rfl h (fun v45 M45 h => ?_)
      refine wt_iastore (pc := 48) (kd := 21) dX12_readRest_48 rfl rfl h (fun M48 h => ?_)
      refine wt_aload_n (pc := 49) 1 dX12_readRest_49 rfl ?_
      refine wt_aload_n (pc := 50) 1 dX12_readRest_50 rfl ?_
      refine wt_cVI (pc := 51) (J' := j_X12_isWith) (As := []) (st := [rf G.1 l0]) (B' := b_X12_isWith) (u' := 0) (w' := 0) dX12_readRest_51 ml_X12_202 mv_X12_isWith (fun v9 M9 e9 => c_X12_isWith e9) rfl (by decide) rfl rfl (by decide) (by decide) (by simp [rf_cat, cat_i, cat_l, cat_r]) rfl h (fun v51 M51 h => ?_)
      refine wt_cVV (pc := 54) (J' := j_X12_must) (As := [.int v51]) (st := []) (B' := b_X12_must) (u' := 0) (w' := 0) dX12_readRest_54 ml_X12_237 mv_X12_must (fun M9 e9 => c_X12_must e9) rfl (by decide) rfl rfl (by decide) (by decide) (by decide) rfl h (fun M54 h => ?_)
      refine wt_aload_n (pc := 57) 1 dX12_readRest_57 rfl ?_
      refine wt_getR (pc := 58) dX12_readRest_58 fl_X12_35 (fun _ _ _ => rfl) h (fun v58 h => ?_)
      refine wt_iload_n (pc := 61) 2 dX12_readRest_61 rfl ?_
      refine wt_iconst (pc := 62) (v := 2) dX12_readRest_62 (by decide) ?_
      refine wt_iadd (pc := 63) dX12_readRest_63 ?_
      refine wt_aload_n (pc := 64) 1 dX12_readRest_64 rfl ?_
      refine wt_iconst (pc := 65) (v := 0) dX12_readRest_65 (by decide) ?_
      refine wt_iconst (pc := 66) (v := 1) dX12_readRest_66 (by decide) ?_
      refine wt_cVI (pc := 67) (J' := j_X12_readTold) (As := [.int 0, .int 1]) (st := [.int (l1 + 2), rf G.1 v58]) (B' := b_X12_readTold) (u' := 0) (w' := 0) dX12_readRest_67 ml_X12_278 mv_X12_readTold (fun v9 M9 e9 => c_X12_readTold e9) rfl (by decide) rfl rfl (by decide) (by decide) (by simp [rf_cat, cat_i, cat_l, cat_r]) rfl h (fun v67 M67 h => ?_)
      refine wt_iastore (pc := 70) (kd := 21) dX12_readRest_70 rfl rfl h (fun M70 h => ?_)
      refine wt_goto (pc := 71) (tgt := 130) dX12_readRest_71 (by decide) ?_
      cases h
      exact he 130 _ _ _ dX12_readRest_130 (by decide) (by decide)
  · have h := ite_t q h
    refine wt_aload_n (pc := 11) 1 dX12_readRest_11 rfl ?_
    refine wt_getR (pc := 12) dX12_readRest_12 fl_X12_35 (fun _ _ _ => rfl) h (fun v12 h => ?_)
    refine wt_iload_n (pc := 15) 2 dX12_readRest_15 rfl ?_
    refine wt_iconst (pc := 16) (v := 1) dX12_readRest_16 (by decide) ?_
    refine wt_iadd (pc := 17) dX12_readRest_17 ?_
    refine wt_aload_n (pc := 18) 1 dX12_readRest_18 rfl ?_
    refine wt_iconst (pc := 19) (v := 1) dX12_readRest_19 (by decide) ?_
    refine wt_sipush (pc := 20) (v := 240) dX12_readRest_20 (by decide) ?_
    refine wt_cVI (pc := 23) (J' := j_X12_count) (As := [.int 1, .int 240]) (st := [.int (l1 + 1), rf G.1 v12]) (B' := b_X12_count) (u' := 0) (w' := 0) dX12_readRest_23 ml_X12_241 mv_X12_count (fun v9 M9 e9 => c_X12_count e9) rfl (by decide) rfl rfl (by decide) (by decide) (by simp [rf_cat, cat_i, cat_l, cat_r]) rfl h (fun v23 M23 h => ?_)
    refine wt_iastore (pc := 26) (kd := 21) dX12_readRest_26 rfl rfl h (fun M26 h => ?_)
    refine wt_goto (pc := 27) (tgt := 130) dX12_readRest_27 (by decide) ?_
    cases h
    exact he 130 _ _ _ dX12_readRest_130 (by decide) (by decide)
set_option maxHeartbeats 4000000 in
set_option maxRecDepth 100000 in
theorem c_X12_readRest {G : GG} {M : Mm} {l0 : Option Nat} {l1 : Int32} {r : Mm} (h : f_X12_readRest M l0 l1 = some r) (l : Launch) : Ct l G j_X12_readRest b_X12_readRest [rf G.1 l0, .int l1] M none r := cf_V (by decide +kernel) (by simp [lg_sl, rf_cat, cat_i, cat_l, j_X12_readRest]) rfl (by simp [lv_args, rf_cat, cat_i, cat_l]) (fun X he => t_X12_readRest_e he h)
def f_X12_readStep_191 (rc : Mm → Option Nat → Int32 → Option (Mm)) (M : Mm) (l0 : Option Nat) (l4 : Int32) : Option (Mm) := gfR M l0 12 20 fun v192 => gfI M l0 12 25 fun v201 => asI M v192 21 (l4 + 8) v201 fun M204 => some M204
def f_X12_readStep_169 (rc : Mm → Option Nat → Int32 → Option (Mm)) (M : Mm) (l0 : Option Nat) (l3 : Int32) (l4 : Int32) : Option (Mm) := if l3 = 0 then (f_X12_readStep_191 rc  M l0 l4) else (ck M l0 12 <| bd (f_X12_isEnd M l0) fun v175 M175 => ck M175 l0 12 <| bv (f_X12_must M175 l0 v175) fun M178 => ck M178 l0 12 <| bd (f_X12_isSign M178 l0 59) fun v185 M185 => ck M185 l0 12 <| bv (f_X12_must M185 l0 v185) fun M188 => f_X12_readStep_191 rc  M188 l0 l4)
def f_X12_readStep_141 (rc : Mm → Option Nat → Int32 → Option (Mm)) : Nat → Mm → Option Nat → Int32 → Int32 → Int32 → Option (Mm)
  | 0, _, _, _, _, _ => none
  | n + 1, M, l0, l1, l3, l4 => if l3 = 0 then (f_X12_readStep_169 rc  M l0 l3 l4) else (gfI M l0 12 12 fun v146 => if v146 = 0 then (ck M l0 12 <| bd (f_X12_isEnd M l0) fun v153 M153 => if v153 = 0 then (ck M153 l0 12 <| bv (rc M153 l0 (l1 + 1)) fun M163 => f_X12_readStep_141 rc n M163 l0 l1 l3 l4) else (f_X12_readStep_169 rc  M153 l0 l3 l4)) else (f_X12_readStep_169 rc  M l0 l3 l4))
def f_X12_readStep_82 (rc : Mm → Option Nat → Int32 → Option (Mm)) (M : Mm) (l0 : Option Nat) (l1 : Int32) (l2 : Int32) (l3 : Int32) : Option (Mm) := gfI M l0 12 12 fun v83 => if v83 ≤ 0 then (gfI M l0 12 25 fun v96 => nmI (1975 + (9 * v96)) fun x101 => gfI M l0 12 25 fun v105 => pfI M l0 12 25 (v105 + 1) fun M110 => ck M110 l0 12 <| bv (f_X12_next M110 l0) fun M114 => gfR M114 l0 12 20 fun v118 => asI M114 v118 21 x101 l2 fun M124 => ck M124 l0 12 <| bv (f_X12_readRest M124 l0 x101) fun M128 => ck M128 l0 12 <| bd (f_X12_isSign M128 l0 59) fun v135 M135 => ck M135 l0 12 <| bv (f_X12_must M135 l0 v135) fun M138 => f_X12_readStep_141 rc  fu M138 l0 l1 l3 x101) else (some M)
def f_X12_readStep_56 (rc : Mm → Option Nat → Int32 → Option (Mm)) (M : Mm) (l0 : Option Nat) (l1 : Int32) (l2 : Int32) (l3 : Int32) : Option (Mm) := gfI M l0 12 12 fun v57 => if v57 = 0 then (if l3 = 0 then (f_X12_readStep_82 rc  M l0 l1 l2 l3) else (if l1 = 3 then (gfI M l0 12 15 fun v76 => ck M l0 12 <| bv (f_X12_fail M l0 7 v76) fun M79 => f_X12_readStep_82 rc  M79 l0 l1 l2 l3) else (f_X12_readStep_82 rc  M l0 l1 l2 l3))) else (f_X12_readStep_82 rc  M l0 l1 l2 l3)
def f_X12_readStep_30 (rc : Mm → Option Nat → Int32 → Option (Mm)) (M : Mm) (l0 : Option Nat) (l1 : Int32) (l2 : Int32) (l3 : Int32) : Option (Mm) := gfI M l0 12 12 fun v31 => if v31 = 0 then (gfI M l0 12 25 fun v38 => if v38 = 30 then (gfI M l0 12 15 fun v50 => ck M l0 12 <| bv (f_X12_fail M l0 6 v50) fun M53 => f_X12_readStep_56 rc  M53 l0 l1 l2 l3) else (f_X12_readStep_56 rc  M l0 l1 l2 l3)) else (f_X12_readStep_56 rc  M l0 l1 l2 l3)
def f_X12_readStep_21 (rc : Mm → Option Nat → Int32 → Option (Mm)) (M : Mm) (l0 : Option Nat) (l1 : Int32) (l2 : Int32) (s0 : Int32) : Option (Mm) := if 0 ≤ l2 then (f_X12_readStep_30 rc  M l0 l1 l2 s0) else (ck M l0 12 <| bv (f_X12_wrong M l0) fun M27 => f_X12_readStep_30 rc  M27 l0 l1 l2 s0)
def f_X12_readStep_16 (rc : Mm → Option Nat → Int32 → Option (Mm)) (M : Mm) (l0 : Option Nat) (l1 : Int32) (l2 : Int32) : Option (Mm) := f_X12_readStep_21 rc  M l0 l1 l2 1
def g_X12_readStep (rc : Mm → Option Nat → Int32 → Option (Mm)) (M : Mm) (l0 : Option Nat) (l1 : Int32) : Option (Mm) := ck M l0 12 <| bd (f_X12_stepWord M l0) fun v1 M1 => if v1 = 5 then (f_X12_readStep_16 rc  M1 l0 l1 v1) else (if v1 = 6 then (f_X12_readStep_16 rc  M1 l0 l1 v1) else (f_X12_readStep_21 rc  M1 l0 l1 v1 0))
def f_X12_readStep : Nat → Mm → Option Nat → Int32 → Option (Mm)
  | 0, _, _, _ => none
  | d + 1, M, l0, l1 => g_X12_readStep (f_X12_readStep d) M l0 l1
set_option maxHeartbeats 4000000 in
set_option maxRecDepth 100000 in
theorem t_X12_readStep_191 {G : GG} {X : CX} {d : Nat} {ans : Mm} (he : EndV G X j_X12_readStep (b_X12_readStep (d + 1)) ans) {rc : Mm → Option Nat → Int32 → Option (Mm)} (hrc : ∀ {M : Mm} {l0 : Option Nat} {l1 : Int32} {r : Mm}, rc M l0 l1 = some r → ∀ l, Ct l G j_X12_readStep (b_X12_readStep d) [rf G.1 l0, .int l1] M none r) {M : Mm} {l0 : Option Nat} {l4 : Int32} (h : f_X12_readStep_191 rc M l0 l4 = some ans) : Wt G X j_X12_readStep (b_X12_readStep (d + 1)) 191 [(0, rf G.1 l0), (4, .int l4)] [] M 0 0 := by
  unfold f_X12_readStep_191 at h
  refine wt_aload_n (pc := 191) 0 dX12_readStep_191 rfl ?_
  refine wt_getR (pc := 192) dX12_readStep_192 fl_X12_35 (fun _ _ _ => rfl) h (fun v192 h => ?_)
  refine wt_iload (pc := 195) 1 dX12_readStep_195 rfl ?_
  refine wt_bipush (pc := 197) (v := 8) dX12_readStep_197 (by decide) ?_
  refine wt_iadd (pc := 199) dX12_readStep_199 ?_
  refine wt_aload_n (pc := 200) 0 dX12_readStep_200 rfl ?_
  refine wt_getI (pc := 201) dX12_readStep_201 fl_X12_315 (fun _ _ _ => rfl) h (fun v201 h => ?_)
  refine wt_iastore (pc := 204) (kd := 21) dX12_readStep_204 rfl rfl h (fun M204 h => ?_)
  cases h
  exact he 205 _ _ _ dX12_readStep_205 (Nat.zero_le _) (Nat.zero_le _)
set_option maxHeartbeats 4000000 in
set_option maxRecDepth 100000 in
theorem t_X12_readStep_169 {G : GG} {X : CX} {d : Nat} {ans : Mm} (he : EndV G X j_X12_readStep (b_X12_readStep (d + 1)) ans) {rc : Mm → Option Nat → Int32 → Option (Mm)} (hrc : ∀ {M : Mm} {l0 : Option Nat} {l1 : Int32} {r : Mm}, rc M l0 l1 = some r → ∀ l, Ct l G j_X12_readStep (b_X12_readStep d) [rf G.1 l0, .int l1] M none r) {M : Mm} {l0 : Option Nat} {l3 : Int32} {l4 : Int32} (h : f_X12_readStep_169 rc M l0 l3 l4 = some ans) : Wt G X j_X12_readStep (b_X12_readStep (d + 1)) 169 [(0, rf G.1 l0), (3, .int l3), (4, .int l4)] [] M 0 0 := by
  unfold f_X12_readStep_169 at h
  refine wt_iload_n (pc := 169) 1 dX12_readStep_169 rfl ?_
  refine wt_if_eq (pc := 170) (tgt := 191) dX12_readStep_170 (by decide) (fun q => ?_) (fun q => ?_)
  · have h := ite_t q h
    refine wt_sub (ls' := [(0, rf G.1 l0), (4, .int l4)]) [0, 2] rfl ?_
    exact t_X12_readStep_191 he hrc  h
  · have h := ite_f q h
    refine wt_aload_n (pc := 173) 0 dX12_readStep_173 rfl ?_
    refine wt_aload_n (pc := 174) 0 dX12_readStep_174 rfl ?_
    refine wt_cVI (pc := 175) (J' := j_X12_isEnd) (As := []) (st := [rf G.1 l0]) (B' := b_X12_isEnd) (u' := 0) (w' := 0) dX12_readStep_175 ml_X12_215 mv_X12_isEnd (fun v9 M9 e9 => c_X12_isEnd e9) rfl (by simp only [b_X12_readStep, b_X12_isEnd]; omega) rfl rfl (Nat.zero_le _) (Nat.zero_le _) (by simp [rf_cat, cat_i, cat_l, cat_r]) rfl h (fun v175 M175 h => ?_)
    refine wt_cVV (pc := 178) (J' := j_X12_must) (As := [.int v175]) (st := []) (B' := b_X12_must) (u' := 0) (w' := 0) dX12_readStep_178 ml_X12_237 mv_X12_must (fun M9 e9 => c_X12_must e9) rfl (by simp only [b_X12_readStep, b_X12_must]; omega) rfl rfl (Nat.zero_le _) (Nat.zero_le _) (by decide) rfl h (fun M178 h => ?_)
    refine wt_aload_n (pc := 181) 0 dX12_readStep_181 rfl ?_
    refine wt_aload_n (pc := 182) 0 dX12_readStep_182 rfl ?_
    refine wt_bipush (pc := 183) (v := 59) dX12_readStep_183 (by decide) ?_
    refine wt_cVI (pc := 185) (J' := j_X12_isSign) (As := [.int 59]) (st := [rf G.1 l0]) (B' := b_X12_isSign) (u' := 0) (w' := 0) dX12_readStep_185 ml_X12_303 mv_X12_isSign (fun v9 M9 e9 => c_X12_isSign e9) rfl (by simp only [b_X12_readStep, b_X12_isSign]; omega) rfl rfl (Nat.zero_le _) (Nat.zero_le _) (by simp [rf_cat, cat_i, cat_l, cat_r]) rfl h (fun v185 M185 h => ?_)
    refine wt_cVV (pc := 188) (J' := j_X12_must) (As := [.int v185]) (st := []) (B' := b_X12_must) (u' := 0) (w' := 0) dX12_readStep_188 ml_X12_237 mv_X12_must (fun M9 e9 => c_X12_must e9) rfl (by simp only [b_X12_readStep, b_X12_must]; omega) rfl rfl (Nat.zero_le _) (Nat.zero_le _) (by decide) rfl h (fun M188 h => ?_)
    refine wt_sub (ls' := [(0, rf G.1 l0), (4, .int l4)]) [0, 2] rfl ?_
    exact t_X12_readStep_191 he hrc  h
set_option maxHeartbeats 4000000 in
set_option maxRecDepth 100000 in
theorem t_X12_readStep_141 {G : GG} {X : CX} {d : Nat} {ans : Mm} (he : EndV G X j_X12_readStep (b_X12_readStep (d + 1)) ans) {rc : Mm → Option Nat → Int32 → Option (Mm)} (hrc : ∀ {M : Mm} {l0 : Option Nat} {l1 : Int32} {r : Mm}, rc M l0 l1 = some r → ∀ l, Ct l G j_X12_readStep (b_X12_readStep d) [rf G.1 l0, .int l1] M none r) : ∀ (n : Nat) {M : Mm} {l0 : Option Nat} {l1 : Int32} {l3 : Int32} {l4 : Int32}, f_X12_readStep_141 rc n M l0 l1 l3 l4 = some ans → Wt G X j_X12_readStep (b_X12_readStep (d + 1)) 141 [(0, rf G.1 l0), (1, .int l1), (3, .int l3), (4, .int l4)] [] M 0 0 := by
  intro n
  induction n with
  | zero =>
    intro M l0 l1 l3 l4 h
    rw [f_X12_readStep_141] at h
    cases h
  | succ n ih =>
    intro M l0 l1 l3 l4 h
    rw [f_X12_readStep_141] at h
    refine wt_iload_n (pc := 141) 2 dX12_readStep_141 rfl ?_
    refine wt_if_eq (pc := 142) (tgt := 169) dX12_readStep_142 (by decide) (fun q => ?_) (fun q => ?_)
    · have h := ite_t q h
      refine wt_sub (ls' := [(0, rf G.1 l0), (3, .int l3), (4, .int l4)]) [0, 2, 3] rfl ?_
      exact t_X12_readStep_169 he hrc  h
    · have h := ite_f q h
      refine wt_aload_n (pc := 145) 0 dX12_readStep_145 rfl ?_
      refine wt_getI (pc := 146) dX12_readStep_146 fl_X12_221 (fun _ _ _ => rfl) h (fun v146 h => ?_)
      refine wt_if_ne (pc := 149) (tgt := 169) dX12_readStep_149 (by decide) (fun q => ?_) (fun q => ?_)
      · have h := ite_f q h
        refine wt_sub (ls' := [(0, rf G.1 l0), (3, .int l3), (4, .int l4)]) [0, 2, 3] rfl ?_
        exact t_X12_readStep_169 he hrc  h
      · have h := ite_t q h
        refine wt_aload_n (pc := 152) 0 dX12_readStep_152 rfl ?_
        refine wt_cVI (pc := 153) (J' := j_X12_isEnd) (As := []) (st := []) (B' := b_X12_isEnd) (u' := 0) (w' := 0) dX12_readStep_153 ml_X12_215 mv_X12_isEnd (fun v9 M9 e9 => c_X12_isEnd e9) rfl (by simp only [b_X12_readStep, b_X12_isEnd]; omega) rfl rfl (Nat.zero_le _) (Nat.zero_le _) (by decide) rfl h (fun v153 M153 h => ?_)
        refine wt_if_ne (pc := 156) (tgt := 169) dX12_readStep_156 (by decide) (fun q => ?_) (fun q => ?_)
        · have h := ite_f q h
          refine wt_sub (ls' := [(0, rf G.1 l0), (3, .int l3), (4, .int l4)]) [0, 2, 3] rfl ?_
          exact t_X12_readStep_169 he hrc  h
        · have h := ite_t q h
          refine wt_aload_n (pc := 159) 0 dX12_readStep_159 rfl ?_
          refine wt_iload_n (pc := 160) 1 dX12_readStep_160 rfl ?_
          refine wt_iconst (pc := 161) (v := 1) dX12_readStep_161 (by decide) ?_
          refine wt_iadd (pc := 162) dX12_readStep_162 ?_
          refine wt_cVV (pc := 163) (J' := j_X12_readStep) (As := [.int (l1 + 1)]) (st := []) (B' := (b_X12_readStep d)) (u' := 0) (w' := 0) dX12_readStep_163 ml_X12_321 mv_X12_readStep (fun M9 e9 => hrc e9) rfl (by simp only [b_X12_readStep]; omega) rfl rfl (Nat.zero_le _) (Nat.zero_le _) (by decide) rfl h (fun M163 h => ?_)
          refine wt_goto (pc := 166) (tgt := 141) dX12_readStep_166 (by decide) ?_
          exact ih h
set_option maxHeartbeats 4000000 in
set_option maxRecDepth 100000 in
theorem t_X12_readStep_82 {G : GG} {X : CX} {d : Nat} {ans : Mm} (he : EndV G X j_X12_readStep (b_X12_readStep (d + 1)) ans) {rc : Mm → Option Nat → Int32 → Option (Mm)} (hrc : ∀ {M : Mm} {l0 : Option Nat} {l1 : Int32} {r : Mm}, rc M l0 l1 = some r → ∀ l, Ct l G j_X12_readStep (b_X12_readStep d) [rf G.1 l0, .int l1] M none r) {M : Mm} {l0 : Option Nat} {l1 : Int32} {l2 : Int32} {l3 : Int32} (h : f_X12_readStep_82 rc M l0 l1 l2 l3 = some ans) : Wt G X j_X12_readStep (b_X12_readStep (d + 1)) 82 [(0, rf G.1 l0), (1, .int l1), (2, .int l2), (3, .int l3)] [] M 0 0 := by
  unfold f_X12_readStep_82 at h
  refine wt_aload_n (pc := 82) 0 dX12_readStep_82 rfl ?_
  refine wt_getI (pc := 83) dX12_readStep_83 fl_X12_221 (fun _ _ _ => rfl) h (fun v83 h => ?_)
  refine wt_if_le (pc := 86) (tgt := 90) dX12_readStep_86 (by decide) (fun q => ?_) (fun q => ?_)
  · have h := ite_t q h
    refine wt_sipush (pc := 90) (v := 1975) dX12_readStep_90 (by decide) ?_
    refine wt_bipush (pc := 93) (v := 9) dX12_readStep_93 (by decide) ?_
    refine wt_aload_n (pc := 95) 0 dX12_readStep_95 rfl ?_
    refine wt_getI (pc := 96) dX12_readStep_96 fl_X12_315 (fun _ _ _ => rfl) h (fun v96 h => ?_)
    refine wt_imul (pc := 99) dX12_readStep_99 ?_
    refine wt_iadd (pc := 100) dX12_readStep_100 ?_
    refine wt_nmI h (fun x101 h => ?_)
    refine wt_istore (pc := 101) (i := 4) (ls' := [(4, .int x101), (0, rf G.1 l0), (1, .int l1), (2, .int l2), (3, .int l3)]) dX12_readStep_101 (by decide) rfl ?_
    refine wt_aload_n (pc := 103) 1 dX12_readStep_103 rfl ?_
    refine wt_dup (pc := 104) dX12_readStep_104 (rf_cat _ _) ?_
    refine wt_getI (pc := 105) dX12_readStep_105 fl_X12_315 (fun _ _ _ => rfl) h (fun v105 h => ?_)
    refine wt_iconst (pc := 108) (v := 1) dX12_readStep_108 (by decide) ?_
    refine wt_iadd (pc := 109) dX12_readStep_109 ?_
    refine wt_putI (pc := 110) dX12_readStep_110 fl_X12_315 rfl rfl h (fun M110 h => ?_)
    refine wt_aload_n (pc := 113) 1 dX12_readStep_113 rfl ?_
    refine wt_cVV (pc := 114) (J' := j_X12_next) (As := []) (st := []) (B' := b_X12_next) (u' := 0) (w' := 0) dX12_readStep_114 ml_X12_231 mv_X12_next (fun M9 e9 => c_X12_next e9) rfl (by simp only [b_X12_readStep, b_X12_next]; omega) rfl rfl (Nat.zero_le _) (Nat.zero_le _) (by decide) rfl h (fun M114 h => ?_)
    refine wt_aload_n (pc := 117) 1 dX12_readStep_117 rfl ?_
    refine wt_getR (pc := 118) dX12_readStep_118 fl_X12_35 (fun _ _ _ => rfl) h (fun v118 h => ?_)
    refine wt_iload (pc := 121) 0 dX12_readStep_121 rfl ?_
    refine wt_iload_n (pc := 123) 3 dX12_readStep_123 rfl ?_
    refine wt_iastore (pc := 124) (kd := 21) dX12_readStep_124 rfl rfl h (fun M124 h => ?_)
    refine wt_aload_n (pc := 125) 1 dX12_readStep_125 rfl ?_
    refine wt_iload (pc := 126) 0 dX12_readStep_126 rfl ?_
    refine wt_cVV (pc := 128) (J' := j_X12_readRest) (As := [.int x101]) (st := []) (B' := b_X12_readRest) (u' := 0) (w' := 0) dX12_readStep_128 ml_X12_318 mv_X12_readRest (fun M9 e9 => c_X12_readRest e9) rfl (by simp only [b_X12_readStep, b_X12_readRest]; omega) rfl rfl (Nat.zero_le _) (Nat.zero_le _) (by decide) rfl h (fun M128 h => ?_)
    refine wt_aload_n (pc := 131) 1 dX12_readStep_131 rfl ?_
    refine wt_aload_n (pc := 132) 1 dX12_readStep_132 rfl ?_
    refine wt_bipush (pc := 133) (v := 59) dX12_readStep_133 (by decide) ?_
    refine wt_cVI (pc := 135) (J' := j_X12_isSign) (As := [.int 59]) (st := [rf G.1 l0]) (B' := b_X12_isSign) (u' := 0) (w' := 0) dX12_readStep_135 ml_X12_303 mv_X12_isSign (fun v9 M9 e9 => c_X12_isSign e9) rfl (by simp only [b_X12_readStep, b_X12_isSign]; omega) rfl rfl (Nat.zero_le _) (Nat.zero_le _) (by simp [rf_cat, cat_i, cat_l, cat_r]) rfl h (fun v135 M135 h => ?_)
    refine wt_cVV (pc := 138) (J' := j_X12_must) (As := [.int v135]) (st := []) (B' := b_X12_must) (u' := 0) (w' := 0) dX12_readStep_138 ml_X12_237 mv_X12_must (fun M9 e9 => c_X12_must e9) rfl (by simp only [b_X12_readStep, b_X12_must]; omega) rfl rfl (Nat.zero_le _) (Nat.zero_le _) (by decide) rfl h (fun M138 h => ?_)
    refine wt_sub (ls' := [(0, rf G.1 l0), (1, .int l1), (3, .int l3), (4, .int x101)]) [1, 2, 4, 0] rfl ?_
    exact t_X12_readStep_141 he hrc  fu h
  · have h := ite_f q h
    cases h
    exact he 89 _ _ _ dX12_readStep_89 (Nat.zero_le _) (Nat.zero_le _)
set_option maxHeartbeats 4000000 in
set_option maxRecDepth 100000 in
theorem t_X12_readStep_56 {G : GG} {X : CX} {d : Nat} {ans : Mm} (he : EndV G X j_X12_readStep (b_X12_readStep (d + 1)) ans) {rc : Mm → Option Nat → Int32 → Option (Mm)} (hrc : ∀ {M : Mm} {l0 : Option Nat} {l1 : Int32} {r : Mm}, rc M l0 l1 = some r → ∀ l, Ct l G j_X12_readStep (b_X12_readStep d) [rf G.1 l0, .int l1] M none r) {M : Mm} {l0 : Option Nat} {l1 : Int32} {l2 : Int32} {l3 : Int32} (h : f_X12_readStep_56 rc M l0 l1 l2 l3 = some ans) : Wt G X j_X12_readStep (b_X12_readStep (d + 1)) 56 [(0, rf G.1 l0), (1, .int l1), (2, .int l2), (3, .int l3)] [] M 0 0 := by
  unfold f_X12_readStep_56 at h
  refine wt_aload_n (pc := 56) 0 dX12_readStep_56 rfl ?_
  refine wt_getI (pc := 57) dX12_readStep_57 fl_X12_221 (fun _ _ _ => rfl) h (fun v57 h => ?_)
  refine wt_if_ne (pc := 60) (tgt := 82) dX12_readStep_60 (by decide) (fun q => ?_) (fun q => ?_)
  · have h := ite_f q h
    exact t_X12_readStep_82 he hrc  h
  · have h := ite_t q h
    refine wt_iload_n (pc := 63) 3 dX12_readStep_63 rfl ?_
    refine wt_if_eq (pc := 64) (tgt := 82) dX12_readStep_64 (by decide) (fun q => ?_) (fun q => ?_)
    · have h := ite_t q h
      exact t_X12_readStep_82 he hrc  h
    · have h := ite_f q h
      refine wt_iload_n (pc := 67) 1 dX12_readStep_67 rfl ?_
      refine wt_iconst (pc := 68) (v := 3) dX12_readStep_68 (by decide) ?_
      refine wt_icmp_ne (pc := 69) (tgt := 82) dX12_readStep_69 (by decide) (fun q => ?_) (fun q => ?_)
      · have h := ite_f q h
        exact t_X12_readStep_82 he hrc  h
      · have h := ite_t q h
        refine wt_aload_n (pc := 72) 0 dX12_readStep_72 rfl ?_
        refine wt_bipush (pc := 73) (v := 7) dX12_readStep_73 (by decide) ?_
        refine wt_aload_n (pc := 75) 0 dX12_readStep_75 rfl ?_
        refine wt_getI (pc := 76) dX12_readStep_76 fl_X12_117 (fun _ _ _ => rfl) h (fun v76 h => ?_)
        refine wt_cVV (pc := 79) (J' := j_X12_fail) (As := [.int 7, .int v76]) (st := []) (B' := b_X12_fail) (u' := 0) (w' := 0) dX12_readStep_79 ml_X12_227 mv_X12_fail (fun M9 e9 => c_X12_fail e9) rfl (by simp only [b_X12_readStep, b_X12_fail]; omega) rfl rfl (Nat.zero_le _) (Nat.zero_le _) (by decide) rfl h (fun M79 h => ?_)
        exact t_X12_readStep_82 he hrc  h
set_option maxHeartbeats 4000000 in
set_option maxRecDepth 100000 in
theorem t_X12_readStep_30 {G : GG} {X : CX} {d : Nat} {ans : Mm} (he : EndV G X j_X12_readStep (b_X12_readStep (d + 1)) ans) {rc : Mm → Option Nat → Int32 → Option (Mm)} (hrc : ∀ {M : Mm} {l0 : Option Nat} {l1 : Int32} {r : Mm}, rc M l0 l1 = some r → ∀ l, Ct l G j_X12_readStep (b_X12_readStep d) [rf G.1 l0, .int l1] M none r) {M : Mm} {l0 : Option Nat} {l1 : Int32} {l2 : Int32} {l3 : Int32} (h : f_X12_readStep_30 rc M l0 l1 l2 l3 = some ans) : Wt G X j_X12_readStep (b_X12_readStep (d + 1)) 30 [(0, rf G.1 l0), (1, .int l1), (2, .int l2), (3, .int l3)] [] M 0 0 := by
  unfold f_X12_readStep_30 at h
  refine wt_aload_n (pc := 30) 0 dX12_readStep_30 rfl ?_
  refine wt_getI (pc := 31) dX12_readStep_31 fl_X12_221 (fun _ _ _ => rfl) h (fun v31 h => ?_)
  refine wt_if_ne (pc := 34) (tgt := 56) dX12_readStep_34 (by decide) (fun q => ?_) (fun q => ?_)
  · have h := ite_f q h
    exact t_X12_readStep_56 he hrc  h
  · have h := ite_t q h
    refine wt_aload_n (pc := 37) 0 dX12_readStep_37 rfl ?_
    refine wt_getI (pc := 38) dX12_readStep_38 fl_X12_315 (fun _ _ _ => rfl) h (fun v38 h => ?_)
    refine wt_bipush (pc := 41) (v := 30) dX12_readStep_41 (by decide) ?_
    refine wt_icmp_ne (pc := 43) (tgt := 56) dX12_readStep_43 (by decide) (fun q => ?_) (fun q => ?_)
    · have h := ite_f q h
      exact t_X12_readStep_56 he hrc  h
    · have h := ite_t q h
      refine wt_aload_n (pc := 46) 0 dX12_readStep_46 rfl ?_
      refine wt_bipush (pc := 47) (v := 6) dX12_readStep_47 (by decide) ?_
      refine wt_aload_n (pc := 49) 0 dX12_readStep_49 rfl ?_
      refine wt_getI (pc := 50) dX12_readStep_50 fl_X12_117 (fun _ _ _ => rfl) h (fun v50 h => ?_)
      refine wt_cVV (pc := 53) (J' := j_X12_fail) (As := [.int 6, .int v50]) (st := []) (B' := b_X12_fail) (u' := 0) (w' := 0) dX12_readStep_53 ml_X12_227 mv_X12_fail (fun M9 e9 => c_X12_fail e9) rfl (by simp only [b_X12_readStep, b_X12_fail]; omega) rfl rfl (Nat.zero_le _) (Nat.zero_le _) (by decide) rfl h (fun M53 h => ?_)
      exact t_X12_readStep_56 he hrc  h
set_option maxHeartbeats 4000000 in
set_option maxRecDepth 100000 in
theorem t_X12_readStep_21 {G : GG} {X : CX} {d : Nat} {ans : Mm} (he : EndV G X j_X12_readStep (b_X12_readStep (d + 1)) ans) {rc : Mm → Option Nat → Int32 → Option (Mm)} (hrc : ∀ {M : Mm} {l0 : Option Nat} {l1 : Int32} {r : Mm}, rc M l0 l1 = some r → ∀ l, Ct l G j_X12_readStep (b_X12_readStep d) [rf G.1 l0, .int l1] M none r) {M : Mm} {l0 : Option Nat} {l1 : Int32} {l2 : Int32} {s0 : Int32} (h : f_X12_readStep_21 rc M l0 l1 l2 s0 = some ans) : Wt G X j_X12_readStep (b_X12_readStep (d + 1)) 21 [(0, rf G.1 l0), (1, .int l1), (2, .int l2)] [.int s0] M 0 0 := by
  unfold f_X12_readStep_21 at h
  refine wt_istore_n (pc := 21) (i := 3) (ls' := [(3, .int s0), (0, rf G.1 l0), (1, .int l1), (2, .int l2)]) rfl dX12_readStep_21 (by decide) rfl ?_
  refine wt_iload_n (pc := 22) 3 dX12_readStep_22 rfl ?_
  refine wt_if_ge (pc := 23) (tgt := 30) dX12_readStep_23 (by decide) (fun q => ?_) (fun q => ?_)
  · have h := ite_t q h
    refine wt_sub (ls' := [(0, rf G.1 l0), (1, .int l1), (2, .int l2), (3, .int s0)]) [1, 2, 3, 0] rfl ?_
    exact t_X12_readStep_30 he hrc  h
  · have h := ite_f q h
    refine wt_aload_n (pc := 26) 1 dX12_readStep_26 rfl ?_
    refine wt_cVV (pc := 27) (J' := j_X12_wrong) (As := []) (st := []) (B' := b_X12_wrong) (u' := 0) (w' := 0) dX12_readStep_27 ml_X12_234 mv_X12_wrong (fun M9 e9 => c_X12_wrong e9) rfl (by simp only [b_X12_readStep, b_X12_wrong]; omega) rfl rfl (Nat.zero_le _) (Nat.zero_le _) (by decide) rfl h (fun M27 h => ?_)
    refine wt_sub (ls' := [(0, rf G.1 l0), (1, .int l1), (2, .int l2), (3, .int s0)]) [1, 2, 3, 0] rfl ?_
    exact t_X12_readStep_30 he hrc  h
set_option maxHeartbeats 4000000 in
set_option maxRecDepth 100000 in
theorem t_X12_readStep_16 {G : GG} {X : CX} {d : Nat} {ans : Mm} (he : EndV G X j_X12_readStep (b_X12_readStep (d + 1)) ans) {rc : Mm → Option Nat → Int32 → Option (Mm)} (hrc : ∀ {M : Mm} {l0 : Option Nat} {l1 : Int32} {r : Mm}, rc M l0 l1 = some r → ∀ l, Ct l G j_X12_readStep (b_X12_readStep d) [rf G.1 l0, .int l1] M none r) {M : Mm} {l0 : Option Nat} {l1 : Int32} {l2 : Int32} (h : f_X12_readStep_16 rc M l0 l1 l2 = some ans) : Wt G X j_X12_readStep (b_X12_readStep (d + 1)) 16 [(0, rf G.1 l0), (1, .int l1), (2, .int l2)] [] M 0 0 := by
  unfold f_X12_readStep_16 at h
  refine wt_iconst (pc := 16) (v := 1) dX12_readStep_16 (by decide) ?_
  refine wt_goto (pc := 17) (tgt := 21) dX12_readStep_17 (by decide) ?_
  exact t_X12_readStep_21 he hrc  h
set_option maxHeartbeats 4000000 in
set_option maxRecDepth 100000 in
theorem t_X12_readStep_e {G : GG} {X : CX} {d : Nat} {ans : Mm} (he : EndV G X j_X12_readStep (b_X12_readStep (d + 1)) ans) {rc : Mm → Option Nat → Int32 → Option (Mm)} (hrc : ∀ {M : Mm} {l0 : Option Nat} {l1 : Int32} {r : Mm}, rc M l0 l1 = some r → ∀ l, Ct l G j_X12_readStep (b_X12_readStep d) [rf G.1 l0, .int l1] M none r) {M : Mm} {l0 : Option Nat} {l1 : Int32} (h : g_X12_readStep rc M l0 l1 = some ans) : Wt G X j_X12_readStep (b_X12_readStep (d + 1)) 0 [(0, rf G.1 l0), (1, .int l1)] [] M 0 0 := by
  unfold g_X12_readStep at h
  refine wt_aload_n (pc := 0) 0 dX12_readStep_0 rfl ?_
  refine wt_cVI (pc := 1) (J' := j_X12_stepWord) (As := []) (st := []) (B' := b_X12_stepWord) (u' := 0) (w' := 0) dX12_readStep_1 ml_X12_209 mv_X12_stepWord (fun v9 M9 e9 => c_X12_stepWord e9) rfl (by simp only [b_X12_readStep, b_X12_stepWord]; omega) rfl rfl (Nat.zero_le _) (Nat.zero_le _) (by decide) rfl h (fun v1 M1 h => ?_)
  refine wt_istore_n (pc := 4) (i := 2) (ls' := [(2, .int v1), (0, rf G.1 l0), (1, .int l1)]) rfl dX12_readStep_4 (by decide) rfl ?_
  refine wt_iload_n (pc := 5) 0 dX12_readStep_5 rfl ?_
  refine wt_iconst (pc := 6) (v := 5) dX12_readStep_6 (by decide) ?_
  refine wt_icmp_eq (pc := 7) (tgt := 16) dX12_readStep_7 (by decide) (fun q => ?_) (fun q => ?_)
  · have h := ite_t q h
    refine wt_sub (ls' := [(0, rf G.1 l0), (1, .int l1), (2, .int v1)]) [1, 2, 0] rfl ?_
    exact t_X12_readStep_16 he hrc  h
  · have h := ite_f q h
    refine wt_iload_n (pc := 10) 0 dX12_readStep_10 rfl ?_
    refine wt_bipush (pc := 11) (v := 6) dX12_readStep_11 (by decide) ?_
    refine wt_icmp_ne (pc := 13) (tgt := 20) dX12_readStep_13 (by decide) (fun q => ?_) (fun q => ?_)
    · have h := ite_f q h
      refine wt_iconst (pc := 20) (v := 0) dX12_readStep_20 (by decide) ?_
      refine wt_sub (ls' := [(0, rf G.1 l0), (1, .int l1), (2, .int v1)]) [1, 2, 0] rfl ?_
      exact t_X12_readStep_21 he hrc  h
    · have h := ite_t q h
      refine wt_sub (ls' := [(0, rf G.1 l0), (1, .int l1), (2, .int v1)]) [1, 2, 0] rfl ?_
      exact t_X12_readStep_16 he hrc  h
set_option maxHeartbeats 4000000 in
set_option maxRecDepth 100000 in
theorem c_X12_readStep {G : GG} : ∀ {d : Nat} {M : Mm} {l0 : Option Nat} {l1 : Int32} {r : Mm}, f_X12_readStep d M l0 l1 = some r → ∀ l : Launch, Ct l G j_X12_readStep (b_X12_readStep d) [rf G.1 l0, .int l1] M none r := by
  intro d
  induction d with
  | zero =>
    intro M l0 l1 r h
    rw [f_X12_readStep] at h
    cases h
  | succ d ih =>
    intro M l0 l1 r h l
    rw [f_X12_readStep] at h
    exact cf_V (by decide +kernel) (by simp [lg_sl, rf_cat, cat_i, cat_l, j_X12_readStep]) rfl (by simp [lv_args, rf_cat, cat_i, cat_l]) (fun X he => t_X12_readStep_e he (fun h => ih h) h)
def f_X12_years_82 : Nat → Mm → Option Nat → Int32 → Option (Int32 × Mm)
  | 0, _, _, _ => none
  | n + 1, M, l0, l2 => gfI M l0 12 25 fun v86 => if (9 * v86) ≤ l2 then (gfI M l0 12 25 fun v120 => some (v120, M)) else (gfR M l0 12 20 fun v94 => gfR M l0 12 20 fun v103 => alI M v103 21 (1975 + l2) fun v111 => asI M v94 21 (175 + l2) v111 fun M112 => f_X12_years_82 n M112 l0 (l2 + 1))
def f_X12_years_50 (M : Mm) (l0 : Option Nat) : Option (Int32 × Mm) := ck M l0 12 <| bd (f_X12_isWell M l0) fun v51 M51 => if v51 = 0 then (some ((-1), M51)) else (gfR M51 l0 12 20 fun v60 => asI M51 v60 21 173 1 fun M67 => gfR M67 l0 12 20 fun v69 => gfI M67 l0 12 25 fun v76 => asI M67 v69 21 174 v76 fun M79 => f_X12_years_82  fu M79 l0 0)
def f_X12_years_28 : Nat → Mm → Option Nat → Option (Int32 × Mm)
  | 0, _, _ => none
  | n + 1, M, l0 => gfI M l0 12 12 fun v29 => if v29 = 0 then (gfI M l0 12 14 fun v36 => if v36 = 0 then (f_X12_years_50  M l0) else (ck M l0 12 <| bv (f_X12_readStep 8 M l0 0) fun M44 => f_X12_years_28 n M44 l0)) else (f_X12_years_50  M l0)
def f_X12_years (M : Mm) (l0 : Option Nat) (l1 : Int32) : Option (Int32 × Mm) := pfI M l0 12 1 0 fun M2 => pfI M2 l0 12 0 0 fun M7 => ck M7 l0 12 <| bd (f_X12_starts M7 l0 l1 300) fun v15 M15 => if v15 = 0 then (some ((-1), M15)) else (pfI M15 l0 12 25 0 fun M25 => f_X12_years_28  fu M25 l0)
set_option maxHeartbeats 4000000 in
set_option maxRecDepth 100000 in
theorem t_X12_years_82 {G : GG} {X : CX} {ans : Int32 × Mm} (he : EndI G X j_X12_years b_X12_years ans) : ∀ (n : Nat) {M : Mm} {l0 : Option Nat} {l2 : Int32}, f_X12_years_82 n M l0 l2 = some ans → Wt G X j_X12_years b_X12_years 82 [(0, rf G.1 l0), (2, .int l2)] [] M 0 0 := by
  intro n
  induction n with
  | zero =>
    intro M l0 l2 h
    rw [f_X12_years_82] at h
    cases h
  | succ n ih =>
    intro M l0 l2 h
    rw [f_X12_years_82] at h
    refine wt_iload_n (pc := 82) 1 dX12_years_82 rfl ?_
    refine wt_bipush (pc := 83) (v := 9) dX12_years_83 (by decide) ?_
    refine wt_aload_n (pc := 85) 0 dX12_years_85 rfl ?_
    refine wt_getI (pc := 86) dX12_years_86 fl_X12_315 (fun _ _ _ => rfl) h (fun v86 h => ?_)
    refine wt_imul (pc := 89) dX12_years_89 ?_
    refine wt_icmp_ge (pc := 90) (tgt := 119) dX12_years_90 (by decide) (fun q => ?_) (fun q => ?_)
    · have h := ite_t q h
      refine wt_aload_n (pc := 119) 0 dX12_years_119 rfl ?_
      refine wt_getI (pc := 120) dX12_years_120 fl_X12_315 (fun _ _ _ => rfl) h (fun v120 h => ?_)
      cases h
      exact he 123 _ _ _ dX12_years_123 (by decide) (by decide)
    · have h := ite_f q h
      refine wt_aload_n (pc := 93) 0 dX12_years_93 rfl ?_
      refine wt_getR (pc := 94) dX12_years_94 fl_X12_35 (fun _ _ _ => rfl) h (fun v94 h => ?_)
      refine wt_sipush (pc := 97) (v := 175) dX12_years_97 (by decide) ?_
      refine wt_iload_n (pc := 100) 1 dX12_years_100 rfl ?_
      refine wt_iadd (pc := 101) dX12_years_101 ?_
      refine wt_aload_n (pc := 102) 0 dX12_years_102 rfl ?_
      refine wt_getR (pc := 103) dX12_years_103 fl_X12_35 (fun _ _ _ => rfl) h (fun v103 h => ?_)
      refine wt_sipush (pc := 106) (v := 1975) dX12_years_106 (by decide) ?_
      refine wt_iload_n (pc := 109) 1 dX12_years_109 rfl ?_
      refine wt_iadd (pc := 110) dX12_years_110 ?_
      refine wt_iaload (pc := 111) (kd := 21) dX12_years_111 rfl rfl h (fun v111 h => ?_)
      refine wt_iastore (pc := 112) (kd := 21) dX12_years_112 rfl rfl h (fun M112 h => ?_)
      refine wt_iinc (pc := 113) (d := 1) (ls' := [(2, .int (l2 + 1)), (0, rf G.1 l0)]) 1 dX12_years_113 rfl (by decide) (by decide) rfl ?_
      refine wt_goto (pc := 116) (tgt := 82) dX12_years_116 (by decide) ?_
      refine wt_sub (ls' := [(0, rf G.1 l0), (2, .int (l2 + 1))]) [1, 0] rfl ?_
      exact ih h
set_option maxHeartbeats 4000000 in
set_option maxRecDepth 100000 in
theorem t_X12_years_50 {G : GG} {X : CX} {ans : Int32 × Mm} (he : EndI G X j_X12_years b_X12_years ans) {M : Mm} {l0 : Option Nat} (h : f_X12_years_50 M l0 = some ans) : Wt G X j_X12_years b_X12_years 50 [(0, rf G.1 l0)] [] M 0 0 := by
  unfold f_X12_years_50 at h
  refine wt_aload_n (pc := 50) 0 dX12_years_50 rfl ?_
  refine wt_cVI (pc := 51) (J' := j_X12_isWell) (As := []) (st := []) (B' := b_X12_isWell) (u' := 0) (w' := 0) dX12_years_51 ml_X12_306 mv_X12_isWell (fun v9 M9 e9 => c_X12_isWell e9) rfl (by decide) rfl rfl (by decide) (by decide) (by decide) rfl h (fun v51 M51 h => ?_)
  refine wt_if_ne (pc := 54) (tgt := 59) dX12_years_54 (by decide) (fun q => ?_) (fun q => ?_)
  · have h := ite_f q h
    refine wt_aload_n (pc := 59) 0 dX12_years_59 rfl ?_
    refine wt_getR (pc := 60) dX12_years_60 fl_X12_35 (fun _ _ _ => rfl) h (fun v60 h => ?_)
    refine wt_sipush (pc := 63) (v := 173) dX12_years_63 (by decide) ?_
    refine wt_iconst (pc := 66) (v := 1) dX12_years_66 (by decide) ?_
    refine wt_iastore (pc := 67) (kd := 21) dX12_years_67 rfl rfl h (fun M67 h => ?_)
    refine wt_aload_n (pc := 68) 0 dX12_years_68 rfl ?_
    refine wt_getR (pc := 69) dX12_years_69 fl_X12_35 (fun _ _ _ => rfl) h (fun v69 h => ?_)
    refine wt_sipush (pc := 72) (v := 174) dX12_years_72 (by decide) ?_
    refine wt_aload_n (pc := 75) 0 dX12_years_75 rfl ?_
    refine wt_getI (pc := 76) dX12_years_76 fl_X12_315 (fun _ _ _ => rfl) h (fun v76 h => ?_)
    refine wt_iastore (pc := 79) (kd := 21) dX12_years_79 rfl rfl h (fun M79 h => ?_)
    refine wt_iconst (pc := 80) (v := 0) dX12_years_80 (by decide) ?_
    refine wt_istore_n (pc := 81) (i := 2) (ls' := [(2, .int 0), (0, rf G.1 l0)]) rfl dX12_years_81 (by decide) rfl ?_
    refine wt_sub (ls' := [(0, rf G.1 l0), (2, .int 0)]) [1, 0] rfl ?_
    exact t_X12_years_82 he  fu h
  · have h := ite_t q h
    refine wt_iconst (pc := 57) (v := (-1)) dX12_years_57 (by decide) ?_
    cases h
    exact he 58 _ _ _ dX12_years_58 (by decide) (by decide)
set_option maxHeartbeats 4000000 in
set_option maxRecDepth 100000 in
theorem t_X12_years_28 {G : GG} {X : CX} {ans : Int32 × Mm} (he : EndI G X j_X12_years b_X12_years ans) : ∀ (n : Nat) {M : Mm} {l0 : Option Nat}, f_X12_years_28 n M l0 = some ans → Wt G X j_X12_years b_X12_years 28 [(0, rf G.1 l0)] [] M 0 0 := by
  intro n
  induction n with
  | zero =>
    intro M l0 h
    rw [f_X12_years_28] at h
    cases h
  | succ n ih =>
    intro M l0 h
    rw [f_X12_years_28] at h
    refine wt_aload_n (pc := 28) 0 dX12_years_28 rfl ?_
    refine wt_getI (pc := 29) dX12_years_29 fl_X12_221 (fun _ _ _ => rfl) h (fun v29 h => ?_)
    refine wt_if_ne (pc := 32) (tgt := 50) dX12_years_32 (by decide) (fun q => ?_) (fun q => ?_)
    · have h := ite_f q h
      exact t_X12_years_50 he  h
    · have h := ite_t q h
      refine wt_aload_n (pc := 35) 0 dX12_years_35 rfl ?_
      refine wt_getI (pc := 36) dX12_years_36 fl_X12_123 (fun _ _ _ => rfl) h (fun v36 h => ?_)
      refine wt_if_eq (pc := 39) (tgt := 50) dX12_years_39 (by decide) (fun q => ?_) (fun q => ?_)
      · have h := ite_t q h
        exact t_X12_years_50 he  h
      · have h := ite_f q h
        refine wt_aload_n (pc := 42) 0 dX12_years_42 rfl ?_
        refine wt_iconst (pc := 43) (v := 0) dX12_years_43 (by decide) ?_
        refine wt_cVV (pc := 44) (J' := j_X12_readStep) (As := [.int 0]) (st := []) (B' := (b_X12_readStep 8)) (u' := 0) (w' := 0) dX12_years_44 ml_X12_321 mv_X12_readStep (fun M9 e9 => c_X12_readStep e9) rfl (by decide) rfl rfl (by decide) (by decide) (by decide) rfl h (fun M44 h => ?_)
        refine wt_goto (pc := 47) (tgt := 28) dX12_years_47 (by decide) ?_
        exact ih h
set_option maxHeartbeats 4000000 in
set_option maxRecDepth 100000 in
theorem t_X12_years_e {G : GG} {X : CX} {ans : Int32 × Mm} (he : EndI G X j_X12_years b_X12_years ans) {M : Mm} {l0 : Option Nat} {l1 : Int32} (h : f_X12_years M l0 l1 = some ans) : Wt G X j_X12_years b_X12_years 0 [(0, rf G.1 l0), (1, .int l1)] [] M 0 0 := by
  unfold f_X12_years at h
  refine wt_aload_n (pc := 0) 0 dX12_years_0 rfl ?_
  refine wt_iconst (pc := 1) (v := 0) dX12_years_1 (by decide) ?_
  refine wt_putI (pc := 2) dX12_years_2 fl_X12_68 rfl rfl h (fun M2 h => ?_)
  refine wt_aload_n (pc := 5) 0 dX12_years_5 rfl ?_
  refine wt_iconst (pc := 6) (v := 0) dX12_years_6 (by decide) ?_
  refine wt_putI (pc := 7) dX12_years_7 fl_X12_71 rfl rfl h (fun M7 h => ?_)
  refine wt_aload_n (pc := 10) 0 dX12_years_10 rfl ?_
  refine wt_iload_n (pc := 11) 1 dX12_years_11 rfl ?_
  refine wt_sipush (pc := 12) (v := 300) dX12_years_12 (by decide) ?_
  refine wt_cVI (pc := 15) (J' := j_X12_starts) (As := [.int l1, .int 300]) (st := []) (B' := b_X12_starts) (u' := 0) (w' := 0) dX12_years_15 ml_X12_285 mv_X12_starts (fun v9 M9 e9 => c_X12_starts e9) rfl (by decide) rfl rfl (by decide) (by decide) (by decide) rfl h (fun v15 M15 h => ?_)
  refine wt_if_ne (pc := 18) (tgt := 23) dX12_years_18 (by decide) (fun q => ?_) (fun q => ?_)
  · have h := ite_f q h
    refine wt_aload_n (pc := 23) 0 dX12_years_23 rfl ?_
    refine wt_iconst (pc := 24) (v := 0) dX12_years_24 (by decide) ?_
    refine wt_putI (pc := 25) dX12_years_25 fl_X12_315 rfl rfl h (fun M25 h => ?_)
    refine wt_sub (ls' := [(0, rf G.1 l0)]) [0] rfl ?_
    exact t_X12_years_28 he  fu h
  · have h := ite_t q h
    refine wt_iconst (pc := 21) (v := (-1)) dX12_years_21 (by decide) ?_
    cases h
    exact he 22 _ _ _ dX12_years_22 (by decide) (by decide)
set_option maxHeartbeats 4000000 in
set_option maxRecDepth 100000 in
theorem c_X12_years {G : GG} {M : Mm} {l0 : Option Nat} {l1 : Int32} {r : Int32 × Mm} (h : f_X12_years M l0 l1 = some r) (l : Launch) : Ct l G j_X12_years b_X12_years [rf G.1 l0, .int l1] M (some (.int r.1)) r.2 := cf_I (by decide +kernel) (by simp [lg_sl, rf_cat, cat_i, cat_l, j_X12_years]) rfl (by simp [lv_args, rf_cat, cat_i, cat_l]) (fun X he => t_X12_years_e he h)
def g_X12_isHouseAt (M : Mm) (l0 : Option Nat) (l1 : Int32) : Option (Int32 × Mm) := gfR M l0 12 20 fun v4 => alI M v4 21 0 fun v8 => bd (f_X12_isIn M (Int32.toInt64 l1) 0 (Int32.toInt64 (v8 - 1))) fun v12 M12 => some (v12, M12)
def f_X12_isHouseAt (M : Mm) (l0 : Option Nat) (l1 : Int32) : Option (Int32 × Mm) := zc (g_X12_isHouseAt M l0 l1)
set_option maxHeartbeats 4000000 in
set_option maxRecDepth 100000 in
theorem t_X12_isHouseAt_e {G : GG} {X : CX} {ans : Int32 × Mm} (he : EndI G X j_X12_isHouseAt b_X12_isHouseAt ans) {M : Mm} {l0 : Option Nat} {l1 : Int32} (h : g_X12_isHouseAt M l0 l1 = some ans) : Wt G X j_X12_isHouseAt b_X12_isHouseAt 0 [(0, rf G.1 l0), (1, .int l1)] [] M 0 0 := by
  unfold g_X12_isHouseAt at h
  refine wt_iload_n (pc := 0) 1 dX12_isHouseAt_0 rfl ?_
  refine wt_i2l (pc := 1) dX12_isHouseAt_1 ?_
  refine wt_lconst (pc := 2) (v := 0) dX12_isHouseAt_2 (by decide) ?_
  refine wt_aload_n (pc := 3) 0 dX12_isHouseAt_3 rfl ?_
  refine wt_getR (pc := 4) dX12_isHouseAt_4 fl_X12_35 (fun _ _ _ => rfl) h (fun v4 h => ?_)
  refine wt_iconst (pc := 7) (v := 0) dX12_isHouseAt_7 (by decide) ?_
  refine wt_iaload (pc := 8) (kd := 21) dX12_isHouseAt_8 rfl rfl h (fun v8 h => ?_)
  refine wt_iconst (pc := 9) (v := 1) dX12_isHouseAt_9 (by decide) ?_
  refine wt_isub (pc := 10) dX12_isHouseAt_10 ?_
  refine wt_i2l (pc := 11) dX12_isHouseAt_11 ?_
  refine wt_cSI (pc := 12) (J' := j_X12_isIn) (As := [.long (Int32.toInt64 l1), .long 0, .long (Int32.toInt64 (v8 - 1))]) (st := []) (B' := b_X12_isIn) (u' := 0) (w' := 0) dX12_isHouseAt_12 ml_X12_103 ms_X12_isIn (fun v9 M9 e9 => c_X12_isIn e9) rfl (by decide) rfl rfl (by decide) (by decide) (by decide) rfl h (fun v12 M12 h => ?_)
  cases h
  exact he 15 _ _ _ dX12_isHouseAt_15 (by decide) (by decide)
set_option maxHeartbeats 4000000 in
set_option maxRecDepth 100000 in
theorem c_X12_isHouseAt {G : GG} {M : Mm} {l0 : Option Nat} {l1 : Int32} {r : Int32 × Mm} (h : f_X12_isHouseAt M l0 l1 = some r) (l : Launch) : Ct l G j_X12_isHouseAt b_X12_isHouseAt [rf G.1 l0, .int l1] M (some (.int r.1)) r.2 := cf_Z h (by decide +kernel) (by simp [lg_sl, rf_cat, cat_i, cat_l, j_X12_isHouseAt]) rfl (by simp [lv_args, rf_cat, cat_i, cat_l]) (fun h X he => t_X12_isHouseAt_e he h)
def g_X12_isGangAt (M : Mm) (l0 : Option Nat) (l1 : Int32) : Option (Int32 × Mm) := gfR M l0 12 20 fun v4 => alI M v4 21 1 fun v8 => bd (f_X12_isIn M (Int32.toInt64 l1) 0 (Int32.toInt64 (v8 - 1))) fun v12 M12 => some (v12, M12)
def f_X12_isGangAt (M : Mm) (l0 : Option Nat) (l1 : Int32) : Option (Int32 × Mm) := zc (g_X12_isGangAt M l0 l1)
set_option maxHeartbeats 4000000 in
set_option maxRecDepth 100000 in
theorem t_X12_isGangAt_e {G : GG} {X : CX} {ans : Int32 × Mm} (he : EndI G X j_X12_isGangAt b_X12_isGangAt ans) {M : Mm} {l0 : Option Nat} {l1 : Int32} (h : g_X12_isGangAt M l0 l1 = some ans) : Wt G X j_X12_isGangAt b_X12_isGangAt 0 [(0, rf G.1 l0), (1, .int l1)] [] M 0 0 := by
  unfold g_X12_isGangAt at h
  refine wt_iload_n (pc := 0) 1 dX12_isGangAt_0 rfl ?_
  refine wt_i2l (pc := 1) dX12_isGangAt_1 ?_
  refine wt_lconst (pc := 2) (v := 0) dX12_isGangAt_2 (by decide) ?_
  refine wt_aload_n (pc := 3) 0 dX12_isGangAt_3 rfl ?_
  refine wt_getR (pc := 4) dX12_isGangAt_4 fl_X12_35 (fun _ _ _ => rfl) h (fun v4 h => ?_)
  refine wt_iconst (pc := 7) (v := 1) dX12_isGangAt_7 (by decide) ?_
  refine wt_iaload (pc := 8) (kd := 21) dX12_isGangAt_8 rfl rfl h (fun v8 h => ?_)
  refine wt_iconst (pc := 9) (v := 1) dX12_isGangAt_9 (by decide) ?_
  refine wt_isub (pc := 10) dX12_isGangAt_10 ?_
  refine wt_i2l (pc := 11) dX12_isGangAt_11 ?_
  refine wt_cSI (pc := 12) (J' := j_X12_isIn) (As := [.long (Int32.toInt64 l1), .long 0, .long (Int32.toInt64 (v8 - 1))]) (st := []) (B' := b_X12_isIn) (u' := 0) (w' := 0) dX12_isGangAt_12 ml_X12_103 ms_X12_isIn (fun v9 M9 e9 => c_X12_isIn e9) rfl (by decide) rfl rfl (by decide) (by decide) (by decide) rfl h (fun v12 M12 h => ?_)
  cases h
  exact he 15 _ _ _ dX12_isGangAt_15 (by decide) (by decide)
set_option maxHeartbeats 4000000 in
set_option maxRecDepth 100000 in
theorem c_X12_isGangAt {G : GG} {M : Mm} {l0 : Option Nat} {l1 : Int32} {r : Int32 × Mm} (h : f_X12_isGangAt M l0 l1 = some r) (l : Launch) : Ct l G j_X12_isGangAt b_X12_isGangAt [rf G.1 l0, .int l1] M (some (.int r.1)) r.2 := cf_Z h (by decide +kernel) (by simp [lg_sl, rf_cat, cat_i, cat_l, j_X12_isGangAt]) rfl (by simp [lv_args, rf_cat, cat_i, cat_l]) (fun h X he => t_X12_isGangAt_e he h)
def g_X12_stands (M : Mm) (l0 : Option Nat) (l1 : Int32) : Option (Int32 × Mm) := gfR M l0 12 20 fun v1 => alI M v1 21 (61 + l1) fun v8 => if v8 = 1 then (some (1, M)) else (some (0, M))
def f_X12_stands (M : Mm) (l0 : Option Nat) (l1 : Int32) : Option (Int32 × Mm) := zc (g_X12_stands M l0 l1)
set_option maxHeartbeats 4000000 in
set_option maxRecDepth 100000 in
theorem t_X12_stands_e {G : GG} {X : CX} {ans : Int32 × Mm} (he : EndI G X j_X12_stands b_X12_stands ans) {M : Mm} {l0 : Option Nat} {l1 : Int32} (h : g_X12_stands M l0 l1 = some ans) : Wt G X j_X12_stands b_X12_stands 0 [(0, rf G.1 l0), (1, .int l1)] [] M 0 0 := by
  unfold g_X12_stands at h
  refine wt_aload_n (pc := 0) 0 dX12_stands_0 rfl ?_
  refine wt_getR (pc := 1) dX12_stands_1 fl_X12_35 (fun _ _ _ => rfl) h (fun v1 h => ?_)
  refine wt_bipush (pc := 4) (v := 61) dX12_stands_4 (by decide) ?_
  refine wt_iload_n (pc := 6) 1 dX12_stands_6 rfl ?_
  refine wt_iadd (pc := 7) dX12_stands_7 ?_
  refine wt_iaload (pc := 8) (kd := 21) dX12_stands_8 rfl rfl h (fun v8 h => ?_)
  refine wt_iconst (pc := 9) (v := 1) dX12_stands_9 (by decide) ?_
  refine wt_icmp_ne (pc := 10) (tgt := 17) dX12_stands_10 (by decide) (fun q => ?_) (fun q => ?_)
  · have h := ite_f q h
    refine wt_iconst (pc := 17) (v := 0) dX12_stands_17 (by decide) ?_
    cases h
    exact he 18 _ _ _ dX12_stands_18 (by decide) (by decide)
  · have h := ite_t q h
    refine wt_iconst (pc := 13) (v := 1) dX12_stands_13 (by decide) ?_
    refine wt_goto (pc := 14) (tgt := 18) dX12_stands_14 (by decide) ?_
    cases h
    exact he 18 _ _ _ dX12_stands_18 (by decide) (by decide)
set_option maxHeartbeats 4000000 in
set_option maxRecDepth 100000 in
theorem c_X12_stands {G : GG} {M : Mm} {l0 : Option Nat} {l1 : Int32} {r : Int32 × Mm} (h : f_X12_stands M l0 l1 = some r) (l : Launch) : Ct l G j_X12_stands b_X12_stands [rf G.1 l0, .int l1] M (some (.int r.1)) r.2 := cf_Z h (by decide +kernel) (by simp [lg_sl, rf_cat, cat_i, cat_l, j_X12_stands]) rfl (by simp [lv_args, rf_cat, cat_i, cat_l]) (fun h X he => t_X12_stands_e he h)
def g_X12_isOn (M : Mm) (l0 : Option Nat) (l1 : Int32) : Option (Int32 × Mm) := ck M l0 12 <| bd (f_X12_stands M l0 l1) fun v2 M2 => if v2 = 0 then (some (0, M2)) else (gfR M2 l0 12 20 fun v9 => alI M2 v9 21 (53 + l1) fun v16 => if v16 ≤ 0 then (some (0, M2)) else (some (1, M2)))
def f_X12_isOn (M : Mm) (l0 : Option Nat) (l1 : Int32) : Option (Int32 × Mm) := zc (g_X12_isOn M l0 l1)
set_option maxHeartbeats 4000000 in
set_option maxRecDepth 100000 in
theorem t_X12_isOn_e {G : GG} {X : CX} {ans : Int32 × Mm} (he : EndI G X j_X12_isOn b_X12_isOn ans) {M : Mm} {l0 : Option Nat} {l1 : Int32} (h : g_X12_isOn M l0 l1 = some ans) : Wt G X j_X12_isOn b_X12_isOn 0 [(0, rf G.1 l0), (1, .int l1)] [] M 0 0 := by
  unfold g_X12_isOn at h
  refine wt_aload_n (pc := 0) 0 dX12_isOn_0 rfl ?_
  refine wt_iload_n (pc := 1) 1 dX12_isOn_1 rfl ?_
  refine wt_cVI (pc := 2) (J' := j_X12_stands) (As := [.int l1]) (st := []) (B' := b_X12_stands) (u' := 0) (w' := 0) dX12_isOn_2 ml_X12_324 mv_X12_stands (fun v9 M9 e9 => c_X12_stands e9) rfl (by decide) rfl rfl (by decide) (by decide) (by decide) rfl h (fun v2 M2 h => ?_)
  refine wt_if_eq (pc := 5) (tgt := 24) dX12_isOn_5 (by decide) (fun q => ?_) (fun q => ?_)
  · have h := ite_t q h
    refine wt_iconst (pc := 24) (v := 0) dX12_isOn_24 (by decide) ?_
    cases h
    exact he 25 _ _ _ dX12_isOn_25 (by decide) (by decide)
  · have h := ite_f q h
    refine wt_aload_n (pc := 8) 0 dX12_isOn_8 rfl ?_
    refine wt_getR (pc := 9) dX12_isOn_9 fl_X12_35 (fun _ _ _ => rfl) h (fun v9 h => ?_)
    refine wt_bipush (pc := 12) (v := 53) dX12_isOn_12 (by decide) ?_
    refine wt_iload_n (pc := 14) 1 dX12_isOn_14 rfl ?_
    refine wt_iadd (pc := 15) dX12_isOn_15 ?_
    refine wt_iaload (pc := 16) (kd := 21) dX12_isOn_16 rfl rfl h (fun v16 h => ?_)
    refine wt_if_le (pc := 17) (tgt := 24) dX12_isOn_17 (by decide) (fun q => ?_) (fun q => ?_)
    · have h := ite_t q h
      refine wt_iconst (pc := 24) (v := 0) dX12_isOn_24 (by decide) ?_
      cases h
      exact he 25 _ _ _ dX12_isOn_25 (by decide) (by decide)
    · have h := ite_f q h
      refine wt_iconst (pc := 20) (v := 1) dX12_isOn_20 (by decide) ?_
      refine wt_goto (pc := 21) (tgt := 25) dX12_isOn_21 (by decide) ?_
      cases h
      exact he 25 _ _ _ dX12_isOn_25 (by decide) (by decide)
set_option maxHeartbeats 4000000 in
set_option maxRecDepth 100000 in
theorem c_X12_isOn {G : GG} {M : Mm} {l0 : Option Nat} {l1 : Int32} {r : Int32 × Mm} (h : f_X12_isOn M l0 l1 = some r) (l : Launch) : Ct l G j_X12_isOn b_X12_isOn [rf G.1 l0, .int l1] M (some (.int r.1)) r.2 := cf_Z h (by decide +kernel) (by simp [lg_sl, rf_cat, cat_i, cat_l, j_X12_isOn]) rfl (by simp [lv_args, rf_cat, cat_i, cat_l]) (fun h X he => t_X12_isOn_e he h)
def f_X12_dueOf_4 : Nat → Mm → Option Nat → Int32 → Int32 → Int32 → Option (Int32 × Mm)
  | 0, _, _, _, _, _ => none
  | n + 1, M, l0, l1, l2, l3 => gfR M l0 12 20 fun v6 => alI M v6 21 0 fun v10 => if v10 ≤ l3 then (some (l2, M)) else (gfR M l0 12 20 fun v16 => alI M v16 21 ((69 + (8 * l3)) + l1) fun v28 => gfR M l0 12 20 fun v30 => alI M v30 21 ((69 + (8 * l1)) + l3) fun v42 => nmI (l2 + (v28 - v42)) fun x45 => f_X12_dueOf_4 n M l0 l1 x45 (l3 + 1))
def f_X12_dueOf (M : Mm) (l0 : Option Nat) (l1 : Int32) : Option (Int32 × Mm) := f_X12_dueOf_4  fu M l0 l1 0 0
set_option maxHeartbeats 4000000 in
set_option maxRecDepth 100000 in
theorem t_X12_dueOf_4 {G : GG} {X : CX} {ans : Int32 × Mm} (he : EndI G X j_X12_dueOf b_X12_dueOf ans) : ∀ (n : Nat) {M : Mm} {l0 : Option Nat} {l1 : Int32} {l2 : Int32} {l3 : Int32}, f_X12_dueOf_4 n M l0 l1 l2 l3 = some ans → Wt G X j_X12_dueOf b_X12_dueOf 4 [(0, rf G.1 l0), (1, .int l1), (2, .int l2), (3, .int l3)] [] M 0 0 := by
  intro n
  induction n with
  | zero =>
    intro M l0 l1 l2 l3 h
    rw [f_X12_dueOf_4] at h
    cases h
  | succ n ih =>
    intro M l0 l1 l2 l3 h
    rw [f_X12_dueOf_4] at h
    refine wt_iload_n (pc := 4) 3 dX12_dueOf_4 rfl ?_
    refine wt_aload_n (pc := 5) 0 dX12_dueOf_5 rfl ?_
    refine wt_getR (pc := 6) dX12_dueOf_6 fl_X12_35 (fun _ _ _ => rfl) h (fun v6 h => ?_)
    refine wt_iconst (pc := 9) (v := 0) dX12_dueOf_9 (by decide) ?_
    refine wt_iaload (pc := 10) (kd := 21) dX12_dueOf_10 rfl rfl h (fun v10 h => ?_)
    refine wt_icmp_ge (pc := 11) (tgt := 52) dX12_dueOf_11 (by decide) (fun q => ?_) (fun q => ?_)
    · have h := ite_t q h
      refine wt_iload_n (pc := 52) 2 dX12_dueOf_52 rfl ?_
      cases h
      exact he 53 _ _ _ dX12_dueOf_53 (by decide) (by decide)
    · have h := ite_f q h
      refine wt_iload_n (pc := 14) 2 dX12_dueOf_14 rfl ?_
      refine wt_aload_n (pc := 15) 0 dX12_dueOf_15 rfl ?_
      refine wt_getR (pc := 16) dX12_dueOf_16 fl_X12_35 (fun _ _ _ => rfl) h (fun v16 h => ?_)
      refine wt_bipush (pc := 19) (v := 69) dX12_dueOf_19 (by decide) ?_
      refine wt_bipush (pc := 21) (v := 8) dX12_dueOf_21 (by decide) ?_
      refine wt_iload_n (pc := 23) 3 dX12_dueOf_23 rfl ?_
      refine wt_imul (pc := 24) dX12_dueOf_24 ?_
      refine wt_iadd (pc := 25) dX12_dueOf_25 ?_
      refine wt_iload_n (pc := 26) 1 dX12_dueOf_26 rfl ?_
      refine wt_iadd (pc := 27) dX12_dueOf_27 ?_
      refine wt_iaload (pc := 28) (kd := 21) dX12_dueOf_28 rfl rfl h (fun v28 h => ?_)
      refine wt_aload_n (pc := 29) 0 dX12_dueOf_29 rfl ?_
      refine wt_getR (pc := 30) dX12_dueOf_30 fl_X12_35 (fun _ _ _ => rfl) h (fun v30 h => ?_)
      refine wt_bipush (pc := 33) (v := 69) dX12_dueOf_33 (by decide) ?_
      refine wt_bipush (pc := 35) (v := 8) dX12_dueOf_35 (by decide) ?_
      refine wt_iload_n (pc := 37) 1 dX12_dueOf_37 rfl ?_
      refine wt_imul (pc := 38) dX12_dueOf_38 ?_
      refine wt_iadd (pc := 39) dX12_dueOf_39 ?_
      refine wt_iload_n (pc := 40) 3 dX12_dueOf_40 rfl ?_
      refine wt_iadd (pc := 41) dX12_dueOf_41 ?_
      refine wt_iaload (pc := 42) (kd := 21) dX12_dueOf_42 rfl rfl h (fun v42 h => ?_)
      refine wt_isub (pc := 43) dX12_dueOf_43 ?_
      refine wt_iadd (pc := 44) dX12_dueOf_44 ?_
      refine wt_nmI h (fun x45 h => ?_)
      refine wt_istore_n (pc := 45) (i := 2) (ls' := [(2, .int x45), (0, rf G.1 l0), (1, .int l1), (3, .int l3)]) rfl dX12_dueOf_45 (by decide) rfl ?_
      refine wt_iinc (pc := 46) (d := 1) (ls' := [(3, .int (l3 + 1)), (2, .int x45), (0, rf G.1 l0), (1, .int l1)]) 3 dX12_dueOf_46 rfl (by decide) (by decide) rfl ?_
      refine wt_goto (pc := 49) (tgt := 4) dX12_dueOf_49 (by decide) ?_
      refine wt_sub (ls' := [(0, rf G.1 l0), (1, .int l1), (2, .int x45), (3, .int (l3 + 1))]) [2, 3, 1, 0] rfl ?_
      exact ih h
set_option maxHeartbeats 4000000 in
set_option maxRecDepth 100000 in
theorem t_X12_dueOf_e {G : GG} {X : CX} {ans : Int32 × Mm} (he : EndI G X j_X12_dueOf b_X12_dueOf ans) {M : Mm} {l0 : Option Nat} {l1 : Int32} (h : f_X12_dueOf M l0 l1 = some ans) : Wt G X j_X12_dueOf b_X12_dueOf 0 [(0, rf G.1 l0), (1, .int l1)] [] M 0 0 := by
  unfold f_X12_dueOf at h
  refine wt_iconst (pc := 0) (v := 0) dX12_dueOf_0 (by decide) ?_
  refine wt_istore_n (pc := 1) (i := 2) (ls' := [(2, .int 0), (0, rf G.1 l0), (1, .int l1)]) rfl dX12_dueOf_1 (by decide) rfl ?_
  refine wt_iconst (pc := 2) (v := 0) dX12_dueOf_2 (by decide) ?_
  refine wt_istore_n (pc := 3) (i := 3) (ls' := [(3, .int 0), (2, .int 0), (0, rf G.1 l0), (1, .int l1)]) rfl dX12_dueOf_3 (by decide) rfl ?_
  refine wt_sub (ls' := [(0, rf G.1 l0), (1, .int l1), (2, .int 0), (3, .int 0)]) [2, 3, 1, 0] rfl ?_
  exact t_X12_dueOf_4 he  fu h
set_option maxHeartbeats 4000000 in
set_option maxRecDepth 100000 in
theorem c_X12_dueOf {G : GG} {M : Mm} {l0 : Option Nat} {l1 : Int32} {r : Int32 × Mm} (h : f_X12_dueOf M l0 l1 = some r) (l : Launch) : Ct l G j_X12_dueOf b_X12_dueOf [rf G.1 l0, .int l1] M (some (.int r.1)) r.2 := cf_I (by decide +kernel) (by simp [lg_sl, rf_cat, cat_i, cat_l, j_X12_dueOf]) rfl (by simp [lv_args, rf_cat, cat_i, cat_l]) (fun X he => t_X12_dueOf_e he h)
def f_X12_takesOf (M : Mm) (l0 : Option Nat) (l1 : Int32) (l2 : Int32) : Option (Int32 × Mm) := gfR M l0 12 20 fun v3 => alI M v3 21 (29 + l2) fun v10 => gfR M l0 12 20 fun v12 => alI M v12 21 (45 + l2) fun v19 => gfR M l0 12 20 fun v23 => alI M v23 21 (137 + l1) fun v31 => gfR M l0 12 20 fun v36 => alI M v36 21 (137 + l1) fun v44 => dvI v44 <| some ((mxI 1 ((((4 * (v10 + v19)) + v31) - 1) / v44)), M)
set_option maxHeartbeats 4000000 in
set_option maxRecDepth 100000 in
theorem t_X12_takesOf_e {G : GG} {X : CX} {ans : Int32 × Mm} (he : EndI G X j_X12_takesOf b_X12_takesOf ans) {M : Mm} {l0 : Option Nat} {l1 : Int32} {l2 : Int32} (h : f_X12_takesOf M l0 l1 l2 = some ans) : Wt G X j_X12_takesOf b_X12_takesOf 0 [(0, rf G.1 l0), (1, .int l1), (2, .int l2)] [] M 0 0 := by
  unfold f_X12_takesOf at h
  refine wt_iconst (pc := 0) (v := 1) dX12_takesOf_0 (by decide) ?_
  refine wt_iconst (pc := 1) (v := 4) dX12_takesOf_1 (by decide) ?_
  refine wt_aload_n (pc := 2) 0 dX12_takesOf_2 rfl ?_
  refine wt_getR (pc := 3) dX12_takesOf_3 fl_X12_35 (fun _ _ _ => rfl) h (fun v3 h => ?_)
  refine wt_bipush (pc := 6) (v := 29) dX12_takesOf_6 (by decide) ?_
  refine wt_iload_n (pc := 8) 2 dX12_takesOf_8 rfl ?_
  refine wt_iadd (pc := 9) dX12_takesOf_9 ?_
  refine wt_iaload (pc := 10) (kd := 21) dX12_takesOf_10 rfl rfl h (fun v10 h => ?_)
  refine wt_aload_n (pc := 11) 0 dX12_takesOf_11 rfl ?_
  refine wt_getR (pc := 12) dX12_takesOf_12 fl_X12_35 (fun _ _ _ => rfl) h (fun v12 h => ?_)
  refine wt_bipush (pc := 15) (v := 45) dX12_takesOf_15 (by decide) ?_
  refine wt_iload_n (pc := 17) 2 dX12_takesOf_17 rfl ?_
  refine wt_iadd (pc := 18) dX12_takesOf_18 ?_
  refine wt_iaload (pc := 19) (kd := 21) dX12_takesOf_19 rfl rfl h (fun v19 h => ?_)
  refine wt_iadd (pc := 20) dX12_takesOf_20 ?_
  refine wt_imul (pc := 21) dX12_takesOf_21 ?_
  refine wt_aload_n (pc := 22) 0 dX12_takesOf_22 rfl ?_
  refine wt_getR (pc := 23) dX12_takesOf_23 fl_X12_35 (fun _ _ _ => rfl) h (fun v23 h => ?_)
  refine wt_sipush (pc := 26) (v := 137) dX12_takesOf_26 (by decide) ?_
  refine wt_iload_n (pc := 29) 1 dX12_takesOf_29 rfl ?_
  refine wt_iadd (pc := 30) dX12_takesOf_30 ?_
  refine wt_iaload (pc := 31) (kd := 21) dX12_takesOf_31 rfl rfl h (fun v31 h => ?_)
  refine wt_iadd (pc := 32) dX12_takesOf_32 ?_
  refine wt_iconst (pc := 33) (v := 1) dX12_takesOf_33 (by decide) ?_
  refine wt_isub (pc := 34) dX12_takesOf_34 ?_
  refine wt_aload_n (pc := 35) 0 dX12_takesOf_35 rfl ?_
  refine wt_getR (pc := 36) dX12_takesOf_36 fl_X12_35 (fun _ _ _ => rfl) h (fun v36 h => ?_)
  refine wt_sipush (pc := 39) (v := 137) dX12_takesOf_39 (by decide) ?_
  refine wt_iload_n (pc := 42) 1 dX12_takesOf_42 rfl ?_
  refine wt_iadd (pc := 43) dX12_takesOf_43 ?_
  refine wt_iaload (pc := 44) (kd := 21) dX12_takesOf_44 rfl rfl h (fun v44 h => ?_)
  obtain ⟨qd, h⟩ := dvI_spec h
  refine wt_idiv (pc := 45) dX12_takesOf_45 qd ?_
  refine wt_mmax (pc := 46) dX12_takesOf_46 bi_X12_264 mw_max.1 mw_max.2.1 mw_max.2.2 (by decide) (by decide) (by decide) (by decide) ?_
  cases h
  exact he 49 _ _ _ dX12_takesOf_49 (by decide) (by decide)
set_option maxHeartbeats 4000000 in
set_option maxRecDepth 100000 in
theorem c_X12_takesOf {G : GG} {M : Mm} {l0 : Option Nat} {l1 : Int32} {l2 : Int32} {r : Int32 × Mm} (h : f_X12_takesOf M l0 l1 l2 = some r) (l : Launch) : Ct l G j_X12_takesOf b_X12_takesOf [rf G.1 l0, .int l1, .int l2] M (some (.int r.1)) r.2 := cf_I (by decide +kernel) (by simp [lg_sl, rf_cat, cat_i, cat_l, j_X12_takesOf]) rfl (by simp [lv_args, rf_cat, cat_i, cat_l]) (fun X he => t_X12_takesOf_e he h)
def f_X12_walkOf (M : Mm) (l0 : Option Nat) (l1 : Int32) (l2 : Int32) : Option (Int32 × Mm) := gfR M l0 12 20 fun v1 => alI M v1 21 (141 + l1) fun v9 => gfR M l0 12 20 fun v11 => alI M v11 21 (145 + l1) fun v19 => gfR M l0 12 20 fun v21 => alI M v21 21 (5 + l2) fun v27 => some ((v9 * (abI (v19 - v27))), M)
set_option maxHeartbeats 4000000 in
set_option maxRecDepth 100000 in
theorem t_X12_walkOf_e {G : GG} {X : CX} {ans : Int32 × Mm} (he : EndI G X j_X12_walkOf b_X12_walkOf ans) {M : Mm} {l0 : Option Nat} {l1 : Int32} {l2 : Int32} (h : f_X12_walkOf M l0 l1 l2 = some ans) : Wt G X j_X12_walkOf b_X12_walkOf 0 [(0, rf G.1 l0), (1, .int l1), (2, .int l2)] [] M 0 0 := by
  unfold f_X12_walkOf at h
  refine wt_aload_n (pc := 0) 0 dX12_walkOf_0 rfl ?_
  refine wt_getR (pc := 1) dX12_walkOf_1 fl_X12_35 (fun _ _ _ => rfl) h (fun v1 h => ?_)
  refine wt_sipush (pc := 4) (v := 141) dX12_walkOf_4 (by decide) ?_
  refine wt_iload_n (pc := 7) 1 dX12_walkOf_7 rfl ?_
  refine wt_iadd (pc := 8) dX12_walkOf_8 ?_
  refine wt_iaload (pc := 9) (kd := 21) dX12_walkOf_9 rfl rfl h (fun v9 h => ?_)
  refine wt_aload_n (pc := 10) 0 dX12_walkOf_10 rfl ?_
  refine wt_getR (pc := 11) dX12_walkOf_11 fl_X12_35 (fun _ _ _ => rfl) h (fun v11 h => ?_)
  refine wt_sipush (pc := 14) (v := 145) dX12_walkOf_14 (by decide) ?_
  refine wt_iload_n (pc := 17) 1 dX12_walkOf_17 rfl ?_
  refine wt_iadd (pc := 18) dX12_walkOf_18 ?_
  refine wt_iaload (pc := 19) (kd := 21) dX12_walkOf_19 rfl rfl h (fun v19 h => ?_)
  refine wt_aload_n (pc := 20) 0 dX12_walkOf_20 rfl ?_
  refine wt_getR (pc := 21) dX12_walkOf_21 fl_X12_35 (fun _ _ _ => rfl) h (fun v21 h => ?_)
  refine wt_iconst (pc := 24) (v := 5) dX12_walkOf_24 (by decide) ?_
  refine wt_iload_n (pc := 25) 2 dX12_walkOf_25 rfl ?_
  refine wt_iadd (pc := 26) dX12_walkOf_26 ?_
  refine wt_iaload (pc := 27) (kd := 21) dX12_walkOf_27 rfl rfl h (fun v27 h => ?_)
  refine wt_isub (pc := 28) dX12_walkOf_28 ?_
  refine wt_mabs (pc := 29) dX12_walkOf_29 bi_X12_327 mw_abs.1 mw_abs.2.1 mw_abs.2.2 (by decide) (by decide) (by decide) (by simp [rf_cat, cat_i, cat_l, cat_r]) ?_
  refine wt_imul (pc := 32) dX12_walkOf_32 ?_
  cases h
  exact he 33 _ _ _ dX12_walkOf_33 (by decide) (by decide)
set_option maxHeartbeats 4000000 in
set_option maxRecDepth 100000 in
theorem c_X12_walkOf {G : GG} {M : Mm} {l0 : Option Nat} {l1 : Int32} {l2 : Int32} {r : Int32 × Mm} (h : f_X12_walkOf M l0 l1 l2 = some r) (l : Launch) : Ct l G j_X12_walkOf b_X12_walkOf [rf G.1 l0, .int l1, .int l2] M (some (.int r.1)) r.2 := cf_I (by decide +kernel) (by simp [lg_sl, rf_cat, cat_i, cat_l, j_X12_walkOf]) rfl (by simp [lv_args, rf_cat, cat_i, cat_l]) (fun X he => t_X12_walkOf_e he h)
def f_X12_worthOf_37 (k4 : Mm → Option Nat → Int32 → Int32 → Int32 → Option (Int32 × Mm)) (M : Mm) (l0 : Option Nat) (l1 : Int32) (l3 : Int32) (s0 : Int32) (s1 : Int32) : Option (Int32 × Mm) := nmI (s0 + s1) fun x38 => k4 M l0 l1 x38 (l3 + 1)
def f_X12_worthOf_4 : Nat → Mm → Option Nat → Int32 → Int32 → Int32 → Option (Int32 × Mm)
  | 0, _, _, _, _, _ => none
  | n + 1, M, l0, l1, l2, l3 => gfR M l0 12 20 fun v6 => alI M v6 21 0 fun v10 => if v10 ≤ l3 then (some (l2, M)) else (ck M l0 12 <| bd (f_X12_stands M l0 l3) fun v17 M17 => if v17 = l1 then (gfR M17 l0 12 20 fun v25 => alI M17 v25 21 (13 + l3) fun v32 => f_X12_worthOf_37 (f_X12_worthOf_4 n) M17 l0 l1 l3 l2 v32) else (f_X12_worthOf_37 (f_X12_worthOf_4 n) M17 l0 l1 l3 l2 0))
def f_X12_worthOf (M : Mm) (l0 : Option Nat) (l1 : Int32) : Option (Int32 × Mm) := f_X12_worthOf_4  fu M l0 l1 0 0
set_option maxHeartbeats 4000000 in
set_option maxRecDepth 100000 in
theorem t_X12_worthOf_37 {G : GG} {X : CX} {ans : Int32 × Mm} (he : EndI G X j_X12_worthOf b_X12_worthOf ans) {k4 : Mm → Option Nat → Int32 → Int32 → Int32 → Option (Int32 × Mm)} (hk4 : ∀ (M : Mm) (a0 : Option Nat) (a1 : Int32) (a2 : Int32) (a3 : Int32), k4 M a0 a1 a2 a3 = some ans → Wt G X j_X12_worthOf b_X12_worthOf 4 [(0, rf G.1 a0), (1, .int a1), (2, .int a2), (3, .int a3)] [] M 0 0) {M : Mm} {l0 : Option Nat} {l1 : Int32} {l3 : Int32} {s0 : Int32} {s1 : Int32} (h : f_X12_worthOf_37 k4 M l0 l1 l3 s0 s1 = some ans) : Wt G X j_X12_worthOf b_X12_worthOf 37 [(0, rf G.1 l0), (1, .int l1), (3, .int l3)] [.int s1, .int s0] M 0 0 := by
  unfold f_X12_worthOf_37 at h
  refine wt_iadd (pc := 37) dX12_worthOf_37 ?_
  refine wt_nmI h (fun x38 h => ?_)
  refine wt_istore_n (pc := 38) (i := 2) (ls' := [(2, .int x38), (0, rf G.1 l0), (1, .int l1), (3, .int l3)]) rfl dX12_worthOf_38 (by decide) rfl ?_
  refine wt_iinc (pc := 39) (d := 1) (ls' := [(3, .int (l3 + 1)), (2, .int x38), (0, rf G.1 l0), (1, .int l1)]) 3 dX12_worthOf_39 rfl (by decide) (by decide) rfl ?_
  refine wt_goto (pc := 42) (tgt := 4) dX12_worthOf_42 (by decide) ?_
  refine wt_sub (ls' := [(0, rf G.1 l0), (1, .int l1), (2, .int x38), (3, .int (l3 + 1))]) [2, 3, 1, 0] rfl ?_
  exact hk4 _ _ _ _ _ h
set_option maxHeartbeats 4000000 in
set_option maxRecDepth 100000 in
theorem t_X12_worthOf_4 {G : GG} {X : CX} {ans : Int32 × Mm} (he : EndI G X j_X12_worthOf b_X12_worthOf ans) : ∀ (n : Nat) {M : Mm} {l0 : Option Nat} {l1 : Int32} {l2 : Int32} {l3 : Int32}, f_X12_worthOf_4 n M l0 l1 l2 l3 = some ans → Wt G X j_X12_worthOf b_X12_worthOf 4 [(0, rf G.1 l0), (1, .int l1), (2, .int l2), (3, .int l3)] [] M 0 0 := by
  intro n
  induction n with
  | zero =>
    intro M l0 l1 l2 l3 h
    rw [f_X12_worthOf_4] at h
    cases h
  | succ n ih =>
    intro M l0 l1 l2 l3 h
    rw [f_X12_worthOf_4] at h
    refine wt_iload_n (pc := 4) 3 dX12_worthOf_4 rfl ?_
    refine wt_aload_n (pc := 5) 0 dX12_worthOf_5 rfl ?_
    refine wt_getR (pc := 6) dX12_worthOf_6 fl_X12_35 (fun _ _ _ => rfl) h (fun v6 h => ?_)
    refine wt_iconst (pc := 9) (v := 0) dX12_worthOf_9 (by decide) ?_
    refine wt_iaload (pc := 10) (kd := 21) dX12_worthOf_10 rfl rfl h (fun v10 h => ?_)
    refine wt_icmp_ge (pc := 11) (tgt := 45) dX12_worthOf_11 (by decide) (fun q => ?_) (fun q => ?_)
    · have h := ite_t q h
      refine wt_iload_n (pc := 45) 2 dX12_worthOf_45 rfl ?_
      cases h
      exact he 46 _ _ _ dX12_worthOf_46 (by decide) (by decide)
    · have h := ite_f q h
      refine wt_iload_n (pc := 14) 2 dX12_worthOf_14 rfl ?_
      refine wt_aload_n (pc := 15) 0 dX12_worthOf_15 rfl ?_
      refine wt_iload_n (pc := 16) 3 dX12_worthOf_16 rfl ?_
      refine wt_cVI (pc := 17) (J' := j_X12_stands) (As := [.int l3]) (st := [.int l2]) (B' := b_X12_stands) (u' := 0) (w' := 0) dX12_worthOf_17 ml_X12_324 mv_X12_stands (fun v9 M9 e9 => c_X12_stands e9) rfl (by decide) rfl rfl (by decide) (by decide) (by simp [rf_cat, cat_i, cat_l, cat_r]) rfl h (fun v17 M17 h => ?_)
      refine wt_iload_n (pc := 20) 1 dX12_worthOf_20 rfl ?_
      refine wt_icmp_ne (pc := 21) (tgt := 36) dX12_worthOf_21 (by decide) (fun q => ?_) (fun q => ?_)
      · have h := ite_f q h
        refine wt_iconst (pc := 36) (v := 0) dX12_worthOf_36 (by decide) ?_
        refine wt_sub (ls' := [(0, rf G.1 l0), (1, .int l1), (3, .int l3)]) [0, 1, 3] rfl ?_
        exact t_X12_worthOf_37 he (fun _ _ _ _ _ h => ih h) h
      · have h := ite_t q h
        refine wt_aload_n (pc := 24) 0 dX12_worthOf_24 rfl ?_
        refine wt_getR (pc := 25) dX12_worthOf_25 fl_X12_35 (fun _ _ _ => rfl) h (fun v25 h => ?_)
        refine wt_bipush (pc := 28) (v := 13) dX12_worthOf_28 (by decide) ?_
        refine wt_iload_n (pc := 30) 3 dX12_worthOf_30 rfl ?_
        refine wt_iadd (pc := 31) dX12_worthOf_31 ?_
        refine wt_iaload (pc := 32) (kd := 21) dX12_worthOf_32 rfl rfl h (fun v32 h => ?_)
        refine wt_goto (pc := 33) (tgt := 37) dX12_worthOf_33 (by decide) ?_
        refine wt_sub (ls' := [(0, rf G.1 l0), (1, .int l1), (3, .int l3)]) [0, 1, 3] rfl ?_
        exact t_X12_worthOf_37 he (fun _ _ _ _ _ h => ih h) h
set_option maxHeartbeats 4000000 in
set_option maxRecDepth 100000 in
theorem t_X12_worthOf_e {G : GG} {X : CX} {ans : Int32 × Mm} (he : EndI G X j_X12_worthOf b_X12_worthOf ans) {M : Mm} {l0 : Option Nat} {l1 : Int32} (h : f_X12_worthOf M l0 l1 = some ans) : Wt G X j_X12_worthOf b_X12_worthOf 0 [(0, rf G.1 l0), (1, .int l1)] [] M 0 0 := by
  unfold f_X12_worthOf at h
  refine wt_iconst (pc := 0) (v := 0) dX12_worthOf_0 (by decide) ?_
  refine wt_istore_n (pc := 1) (i := 2) (ls' := [(2, .int 0), (0, rf G.1 l0), (1, .int l1)]) rfl dX12_worthOf_1 (by decide) rfl ?_
  refine wt_iconst (pc := 2) (v := 0) dX12_worthOf_2 (by decide) ?_
  refine wt_istore_n (pc := 3) (i := 3) (ls' := [(3, .int 0), (2, .int 0), (0, rf G.1 l0), (1, .int l1)]) rfl dX12_worthOf_3 (by decide) rfl ?_
  refine wt_sub (ls' := [(0, rf G.1 l0), (1, .int l1), (2, .int 0), (3, .int 0)]) [2, 3, 1, 0] rfl ?_
  exact t_X12_worthOf_4 he  fu h
set_option maxHeartbeats 4000000 in
set_option maxRecDepth 100000 in
theorem c_X12_worthOf {G : GG} {M : Mm} {l0 : Option Nat} {l1 : Int32} {r : Int32 × Mm} (h : f_X12_worthOf M l0 l1 = some r) (l : Launch) : Ct l G j_X12_worthOf b_X12_worthOf [rf G.1 l0, .int l1] M (some (.int r.1)) r.2 := cf_I (by decide +kernel) (by simp [lg_sl, rf_cat, cat_i, cat_l, j_X12_worthOf]) rfl (by simp [lv_args, rf_cat, cat_i, cat_l]) (fun X he => t_X12_worthOf_e he h)
def f_X12_allChances_4 : Nat → Mm → Option Nat → Int32 → Int32 → Option (Int32 × Mm)
  | 0, _, _, _, _ => none
  | n + 1, M, l0, l1, l2 => gfR M l0 12 20 fun v6 => alI M v6 21 2 fun v10 => if v10 ≤ l2 then (some (l1, M)) else (gfR M l0 12 20 fun v16 => alI M v16 21 (167 + l2) fun v24 => nmI (l1 + v24) fun x26 => f_X12_allChances_4 n M l0 x26 (l2 + 1))
def f_X12_allChances (M : Mm) (l0 : Option Nat) : Option (Int32 × Mm) := f_X12_allChances_4  fu M l0 0 0
set_option maxHeartbeats 4000000 in
set_option maxRecDepth 100000 in
theorem t_X12_allChances_4 {G : GG} {X : CX} {ans : Int32 × Mm} (he : EndI G X j_X12_allChances b_X12_allChances ans) : ∀ (n : Nat) {M : Mm} {l0 : Option Nat} {l1 : Int32} {l2 : Int32}, f_X12_allChances_4 n M l0 l1 l2 = some ans → Wt G X j_X12_allChances b_X12_allChances 4 [(0, rf G.1 l0), (1, .int l1), (2, .int l2)] [] M 0 0 := by
  intro n
  induction n with
  | zero =>
    intro M l0 l1 l2 h
    rw [f_X12_allChances_4] at h
    cases h
  | succ n ih =>
    intro M l0 l1 l2 h
    rw [f_X12_allChances_4] at h
    refine wt_iload_n (pc := 4) 2 dX12_allChances_4 rfl ?_
    refine wt_aload_n (pc := 5) 0 dX12_allChances_5 rfl ?_
    refine wt_getR (pc := 6) dX12_allChances_6 fl_X12_35 (fun _ _ _ => rfl) h (fun v6 h => ?_)
    refine wt_iconst (pc := 9) (v := 2) dX12_allChances_9 (by decide) ?_
    refine wt_iaload (pc := 10) (kd := 21) dX12_allChances_10 rfl rfl h (fun v10 h => ?_)
    refine wt_icmp_ge (pc := 11) (tgt := 33) dX12_allChances_11 (by decide) (fun q => ?_) (fun q => ?_)
    · have h := ite_t q h
      refine wt_iload_n (pc := 33) 1 dX12_allChances_33 rfl ?_
      cases h
      exact he 34 _ _ _ dX12_allChances_34 (by decide) (by decide)
    · have h := ite_f q h
      refine wt_iload_n (pc := 14) 1 dX12_allChances_14 rfl ?_
      refine wt_aload_n (pc := 15) 0 dX12_allChances_15 rfl ?_
      refine wt_getR (pc := 16) dX12_allChances_16 fl_X12_35 (fun _ _ _ => rfl) h (fun v16 h => ?_)
      refine wt_sipush (pc := 19) (v := 167) dX12_allChances_19 (by decide) ?_
      refine wt_iload_n (pc := 22) 2 dX12_allChances_22 rfl ?_
      refine wt_iadd (pc := 23) dX12_allChances_23 ?_
      refine wt_iaload (pc := 24) (kd := 21) dX12_allChances_24 rfl rfl h (fun v24 h => ?_)
      refine wt_iadd (pc := 25) dX12_allChances_25 ?_
      refine wt_nmI h (fun x26 h => ?_)
      refine wt_istore_n (pc := 26) (i := 1) (ls' := [(1, .int x26), (0, rf G.1 l0), (2, .int l2)]) rfl dX12_allChances_26 (by decide) (by simp [rf_cat, cat_i, cat_l, cat_r]) ?_
      refine wt_iinc (pc := 27) (d := 1) (ls' := [(2, .int (l2 + 1)), (1, .int x26), (0, rf G.1 l0)]) 2 dX12_allChances_27 rfl (by decide) (by decide) rfl ?_
      refine wt_goto (pc := 30) (tgt := 4) dX12_allChances_30 (by decide) ?_
      refine wt_sub (ls' := [(0, rf G.1 l0), (1, .int x26), (2, .int (l2 + 1))]) [2, 1, 0] rfl ?_
      exact ih h
set_option maxHeartbeats 4000000 in
set_option maxRecDepth 100000 in
theorem t_X12_allChances_e {G : GG} {X : CX} {ans : Int32 × Mm} (he : EndI G X j_X12_allChances b_X12_allChances ans) {M : Mm} {l0 : Option Nat} (h : f_X12_allChances M l0 = some ans) : Wt G X j_X12_allChances b_X12_allChances 0 [(0, rf G.1 l0)] [] M 0 0 := by
  unfold f_X12_allChances at h
  refine wt_iconst (pc := 0) (v := 0) dX12_allChances_0 (by decide) ?_
  refine wt_istore_n (pc := 1) (i := 1) (ls' := [(1, .int 0), (0, rf G.1 l0)]) rfl dX12_allChances_1 (by decide) (by simp [rf_cat, cat_i, cat_l, cat_r]) ?_
  refine wt_iconst (pc := 2) (v := 0) dX12_allChances_2 (by decide) ?_
  refine wt_istore_n (pc := 3) (i := 2) (ls' := [(2, .int 0), (1, .int 0), (0, rf G.1 l0)]) rfl dX12_allChances_3 (by decide) rfl ?_
  refine wt_sub (ls' := [(0, rf G.1 l0), (1, .int 0), (2, .int 0)]) [2, 1, 0] rfl ?_
  exact t_X12_allChances_4 he  fu h
set_option maxHeartbeats 4000000 in
set_option maxRecDepth 100000 in
theorem c_X12_allChances {G : GG} {M : Mm} {l0 : Option Nat} {r : Int32 × Mm} (h : f_X12_allChances M l0 = some r) (l : Launch) : Ct l G j_X12_allChances b_X12_allChances [rf G.1 l0] M (some (.int r.1)) r.2 := cf_I (by decide +kernel) (by simp [lg_sl, rf_cat, cat_i, cat_l, j_X12_allChances]) rfl (by simp [lv_args, rf_cat, cat_i, cat_l]) (fun X he => t_X12_allChances_e he h)
def f_X12_many_64 (M : Mm) (s0 : Option Nat) (s1 : Int32) : Option (Int32 × Mm) := ck M s0 12 <| bd (f_X12_worthOf M s0 s1) fun v64 M64 => some (v64, M64)
def f_X12_many_52 (M : Mm) (l0 : Option Nat) (l1 : Int32) : Option (Int32 × Mm) := if l1 = 7 then (f_X12_many_64  M l0 1) else (f_X12_many_64  M l0 0)
def f_X12_many_126 (k83 : Mm → Option Nat → Int32 → Int32 → Int32 → Option (Int32 × Mm)) (M : Mm) (l0 : Option Nat) (l1 : Int32) (l3 : Int32) (s0 : Int32) (s1 : Int32) : Option (Int32 × Mm) := nmI (s0 ||| s1) fun x127 => k83 M l0 l1 x127 (l3 + 1)
def f_X12_many_125 (k83 : Mm → Option Nat → Int32 → Int32 → Int32 → Option (Int32 × Mm)) (M : Mm) (l0 : Option Nat) (l1 : Int32) (l3 : Int32) (s0 : Int32) : Option (Int32 × Mm) := f_X12_many_126 k83 M l0 l1 l3 s0 0
def f_X12_many_119 (k83 : Mm → Option Nat → Int32 → Int32 → Int32 → Option (Int32 × Mm)) (M : Mm) (l0 : Option Nat) (l1 : Int32) (l3 : Int32) (s0 : Int32) : Option (Int32 × Mm) := f_X12_many_126 k83 M l0 l1 l3 s0 (1 <<< (l3 &&& 31))
def f_X12_many_83 : Nat → Mm → Option Nat → Int32 → Int32 → Int32 → Option (Int32 × Mm)
  | 0, _, _, _, _, _ => none
  | n + 1, M, l0, l1, l2, l3 => gfR M l0 12 20 fun v85 => alI M v85 21 0 fun v89 => if v89 ≤ l3 then (some (l2, M)) else (ck M l0 12 <| bd (f_X12_stands M l0 l3) fun v96 M96 => if v96 = 0 then (f_X12_many_125 (f_X12_many_83 n) M96 l0 l1 l3 l2) else (if l1 = 5 then (f_X12_many_119 (f_X12_many_83 n) M96 l0 l1 l3 l2) else (gfR M96 l0 12 20 fun v108 => alI M96 v108 21 (53 + l3) fun v115 => if v115 = 0 then (f_X12_many_119 (f_X12_many_83 n) M96 l0 l1 l3 l2) else (f_X12_many_125 (f_X12_many_83 n) M96 l0 l1 l3 l2))))
def f_X12_many (M : Mm) (l0 : Option Nat) (l1 : Int32) : Option (Int32 × Mm) := pfI M l0 12 1 0 fun M2 => pfI M2 l0 12 0 0 fun M7 => bd (f_X12_isIn M7 (Int32.toInt64 l1) 0 9) fun v16 M16 => if v16 = 0 then (ck M16 l0 12 <| bd (f_X12_refuse M16 l0 5) fun v24 M24 => some (v24, M24)) else (if 5 ≤ l1 then (if l1 = 7 then (f_X12_many_52  M16 l0 l1) else (if l1 = 8 then (f_X12_many_52  M16 l0 l1) else (if l1 = 9 then (ck M16 l0 12 <| bd (f_X12_allChances M16 l0) fun v75 M75 => some (v75, M75)) else (f_X12_many_83  fu M16 l0 l1 0 0)))) else (gfR M16 l0 12 20 fun v34 => alI M16 v34 21 l1 fun v38 => some (v38, M16)))
set_option maxHeartbeats 4000000 in
set_option maxRecDepth 100000 in
theorem t_X12_many_64 {G : GG} {X : CX} {ans : Int32 × Mm} (he : EndI G X j_X12_many b_X12_many ans) {M : Mm} {s0 : Option Nat} {s1 : Int32} (h : f_X12_many_64 M s0 s1 = some ans) : Wt G X j_X12_many b_X12_many 64 [] [.int s1, rf G.1 s0] M 0 0 := by
  unfold f_X12_many_64 at h
  refine wt_cVI (pc := 64) (J' := j_X12_worthOf) (As := [.int s1]) (st := []) (B' := b_X12_worthOf) (u' := 0) (w' := 0) dX12_many_64 ml_X12_334 mv_X12_worthOf (fun v9 M9 e9 => c_X12_worthOf e9) rfl (by decide) rfl rfl (by decide) (by decide) (by decide) rfl h (fun v64 M64 h => ?_)
  cases h
  exact he 67 _ _ _ dX12_many_67 (by decide) (by decide)
set_option maxHeartbeats 4000000 in
set_option maxRecDepth 100000 in
theorem t_X12_many_52 {G : GG} {X : CX} {ans : Int32 × Mm} (he : EndI G X j_X12_many b_X12_many ans) {M : Mm} {l0 : Option Nat} {l1 : Int32} (h : f_X12_many_52 M l0 l1 = some ans) : Wt G X j_X12_many b_X12_many 52 [(0, rf G.1 l0), (1, .int l1)] [] M 0 0 := by
  unfold f_X12_many_52 at h
  refine wt_aload_n (pc := 52) 0 dX12_many_52 rfl ?_
  refine wt_iload_n (pc := 53) 1 dX12_many_53 rfl ?_
  refine wt_bipush (pc := 54) (v := 7) dX12_many_54 (by decide) ?_
  refine wt_icmp_ne (pc := 56) (tgt := 63) dX12_many_56 (by decide) (fun q => ?_) (fun q => ?_)
  · have h := ite_f q h
    refine wt_iconst (pc := 63) (v := 0) dX12_many_63 (by decide) ?_
    refine wt_sub (ls' := []) [] rfl ?_
    exact t_X12_many_64 he  h
  · have h := ite_t q h
    refine wt_iconst (pc := 59) (v := 1) dX12_many_59 (by decide) ?_
    refine wt_goto (pc := 60) (tgt := 64) dX12_many_60 (by decide) ?_
    refine wt_sub (ls' := []) [] rfl ?_
    exact t_X12_many_64 he  h
set_option maxHeartbeats 4000000 in
set_option maxRecDepth 100000 in
theorem t_X12_many_126 {G : GG} {X : CX} {ans : Int32 × Mm} (he : EndI G X j_X12_many b_X12_many ans) {k83 : Mm → Option Nat → Int32 → Int32 → Int32 → Option (Int32 × Mm)} (hk83 : ∀ (M : Mm) (a0 : Option Nat) (a1 : Int32) (a2 : Int32) (a3 : Int32), k83 M a0 a1 a2 a3 = some ans → Wt G X j_X12_many b_X12_many 83 [(0, rf G.1 a0), (1, .int a1), (2, .int a2), (3, .int a3)] [] M 0 0) {M : Mm} {l0 : Option Nat} {l1 : Int32} {l3 : Int32} {s0 : Int32} {s1 : Int32} (h : f_X12_many_126 k83 M l0 l1 l3 s0 s1 = some ans) : Wt G X j_X12_many b_X12_many 126 [(0, rf G.1 l0), (1, .int l1), (3, .int l3)] [.int s1, .int s0] M 0 0 := by
  unfold f_X12_many_126 at h
  refine wt_ior (pc := 126) dX12_many_126 ?_
  refine wt_nmI h (fun x127 h => ?_)
  refine wt_istore_n (pc := 127) (i := 2) (ls' := [(2, .int x127), (0, rf G.1 l0), (1, .int l1), (3, .int l3)]) rfl dX12_many_127 (by decide) rfl ?_
  refine wt_iinc (pc := 128) (d := 1) (ls' := [(3, .int (l3 + 1)), (2, .int x127), (0, rf G.1 l0), (1, .int l1)]) 3 dX12_many_128 rfl (by decide) (by decide) rfl ?_
  refine wt_goto (pc := 131) (tgt := 83) dX12_many_131 (by decide) ?_
  refine wt_sub (ls' := [(0, rf G.1 l0), (1, .int l1), (2, .int x127), (3, .int (l3 + 1))]) [2, 3, 1, 0] rfl ?_
  exact hk83 _ _ _ _ _ h
set_option maxHeartbeats 4000000 in
set_option maxRecDepth 100000 in
theorem t_X12_many_125 {G : GG} {X : CX} {ans : Int32 × Mm} (he : EndI G X j_X12_many b_X12_many ans) {k83 : Mm → Option Nat → Int32 → Int32 → Int32 → Option (Int32 × Mm)} (hk83 : ∀ (M : Mm) (a0 : Option Nat) (a1 : Int32) (a2 : Int32) (a3 : Int32), k83 M a0 a1 a2 a3 = some ans → Wt G X j_X12_many b_X12_many 83 [(0, rf G.1 a0), (1, .int a1), (2, .int a2), (3, .int a3)] [] M 0 0) {M : Mm} {l0 : Option Nat} {l1 : Int32} {l3 : Int32} {s0 : Int32} (h : f_X12_many_125 k83 M l0 l1 l3 s0 = some ans) : Wt G X j_X12_many b_X12_many 125 [(0, rf G.1 l0), (1, .int l1), (3, .int l3)] [.int s0] M 0 0 := by
  unfold f_X12_many_125 at h
  refine wt_iconst (pc := 125) (v := 0) dX12_many_125 (by decide) ?_
  exact t_X12_many_126 he (fun _ _ _ _ _ h => hk83 _ _ _ _ _ h) h
set_option maxHeartbeats 4000000 in
set_option maxRecDepth 100000 in
theorem t_X12_many_119 {G : GG} {X : CX} {ans : Int32 × Mm} (he : EndI G X j_X12_many b_X12_many ans) {k83 : Mm → Option Nat → Int32 → Int32 → Int32 → Option (Int32 × Mm)} (hk83 : ∀ (M : Mm) (a0 : Option Nat) (a1 : Int32) (a2 : Int32) (a3 : Int32), k83 M a0 a1 a2 a3 = some ans → Wt G X j_X12_many b_X12_many 83 [(0, rf G.1 a0), (1, .int a1), (2, .int a2), (3, .int a3)] [] M 0 0) {M : Mm} {l0 : Option Nat} {l1 : Int32} {l3 : Int32} {s0 : Int32} (h : f_X12_many_119 k83 M l0 l1 l3 s0 = some ans) : Wt G X j_X12_many b_X12_many 119 [(0, rf G.1 l0), (1, .int l1), (3, .int l3)] [.int s0] M 0 0 := by
  unfold f_X12_many_119 at h
  refine wt_iconst (pc := 119) (v := 1) dX12_many_119 (by decide) ?_
  refine wt_iload_n (pc := 120) 2 dX12_many_120 rfl ?_
  refine wt_ishl (pc := 121) dX12_many_121 ?_
  refine wt_goto (pc := 122) (tgt := 126) dX12_many_122 (by decide) ?_
  exact t_X12_many_126 he (fun _ _ _ _ _ h => hk83 _ _ _ _ _ h) h
set_option maxHeartbeats 4000000 in
set_option maxRecDepth 100000 in
theorem t_X12_many_83 {G : GG} {X : CX} {ans : Int32 × Mm} (he : EndI G X j_X12_many b_X12_many ans) : ∀ (n : Nat) {M : Mm} {l0 : Option Nat} {l1 : Int32} {l2 : Int32} {l3 : Int32}, f_X12_many_83 n M l0 l1 l2 l3 = some ans → Wt G X j_X12_many b_X12_many 83 [(0, rf G.1 l0), (1, .int l1), (2, .int l2), (3, .int l3)] [] M 0 0 := by
  intro n
  induction n with
  | zero =>
    intro M l0 l1 l2 l3 h
    rw [f_X12_many_83] at h
    cases h
  | succ n ih =>
    intro M l0 l1 l2 l3 h
    rw [f_X12_many_83] at h
    refine wt_iload_n (pc := 83) 3 dX12_many_83 rfl ?_
    refine wt_aload_n (pc := 84) 0 dX12_many_84 rfl ?_
    refine wt_getR (pc := 85) dX12_many_85 fl_X12_35 (fun _ _ _ => rfl) h (fun v85 h => ?_)
    refine wt_iconst (pc := 88) (v := 0) dX12_many_88 (by decide) ?_
    refine wt_iaload (pc := 89) (kd := 21) dX12_many_89 rfl rfl h (fun v89 h => ?_)
    refine wt_icmp_ge (pc := 90) (tgt := 134) dX12_many_90 (by decide) (fun q => ?_) (fun q => ?_)
    · have h := ite_t q h
      refine wt_iload_n (pc := 134) 2 dX12_many_134 rfl ?_
      cases h
      exact he 135 _ _ _ dX12_many_135 (by decide) (by decide)
    · have h := ite_f q h
      refine wt_iload_n (pc := 93) 2 dX12_many_93 rfl ?_
      refine wt_aload_n (pc := 94) 0 dX12_many_94 rfl ?_
      refine wt_iload_n (pc := 95) 3 dX12_many_95 rfl ?_
      refine wt_cVI (pc := 96) (J' := j_X12_stands) (As := [.int l3]) (st := [.int l2]) (B' := b_X12_stands) (u' := 0) (w' := 0) dX12_many_96 ml_X12_324 mv_X12_stands (fun v9 M9 e9 => c_X12_stands e9) rfl (by decide) rfl rfl (by decide) (by decide) (by simp [rf_cat, cat_i, cat_l, cat_r]) rfl h (fun v96 M96 h => ?_)
      refine wt_if_eq (pc := 99) (tgt := 125) dX12_many_99 (by decide) (fun q => ?_) (fun q => ?_)
      · have h := ite_t q h
        refine wt_sub (ls' := [(0, rf G.1 l0), (1, .int l1), (3, .int l3)]) [0, 1, 3] rfl ?_
        exact t_X12_many_125 he (fun _ _ _ _ _ h => ih h) h
      · have h := ite_f q h
        refine wt_iload_n (pc := 102) 1 dX12_many_102 rfl ?_
        refine wt_iconst (pc := 103) (v := 5) dX12_many_103 (by decide) ?_
        refine wt_icmp_eq (pc := 104) (tgt := 119) dX12_many_104 (by decide) (fun q => ?_) (fun q => ?_)
        · have h := ite_t q h
          refine wt_sub (ls' := [(0, rf G.1 l0), (1, .int l1), (3, .int l3)]) [0, 1, 3] rfl ?_
          exact t_X12_many_119 he (fun _ _ _ _ _ h => ih h) h
        · have h := ite_f q h
          refine wt_aload_n (pc := 107) 0 dX12_many_107 rfl ?_
          refine wt_getR (pc := 108) dX12_many_108 fl_X12_35 (fun _ _ _ => rfl) h (fun v108 h => ?_)
          refine wt_bipush (pc := 111) (v := 53) dX12_many_111 (by decide) ?_
          refine wt_iload_n (pc := 113) 3 dX12_many_113 rfl ?_
          refine wt_iadd (pc := 114) dX12_many_114 ?_
          refine wt_iaload (pc := 115) (kd := 21) dX12_many_115 rfl rfl h (fun v115 h => ?_)
          refine wt_if_ne (pc := 116) (tgt := 125) dX12_many_116 (by decide) (fun q => ?_) (fun q => ?_)
          · have h := ite_f q h
            refine wt_sub (ls' := [(0, rf G.1 l0), (1, .int l1), (3, .int l3)]) [0, 1, 3] rfl ?_
            exact t_X12_many_125 he (fun _ _ _ _ _ h => ih h) h
          · have h := ite_t q h
            refine wt_sub (ls' := [(0, rf G.1 l0), (1, .int l1), (3, .int l3)]) [0, 1, 3] rfl ?_
            exact t_X12_many_119 he (fun _ _ _ _ _ h => ih h) h
set_option maxHeartbeats 4000000 in
set_option maxRecDepth 100000 in
theorem t_X12_many_e {G : GG} {X : CX} {ans : Int32 × Mm} (he : EndI G X j_X12_many b_X12_many ans) {M : Mm} {l0 : Option Nat} {l1 : Int32} (h : f_X12_many M l0 l1 = some ans) : Wt G X j_X12_many b_X12_many 0 [(0, rf G.1 l0), (1, .int l1)] [] M 0 0 := by
  unfold f_X12_many at h
  refine wt_aload_n (pc := 0) 0 dX12_many_0 rfl ?_
  refine wt_iconst (pc := 1) (v := 0) dX12_many_1 (by decide) ?_
  refine wt_putI (pc := 2) dX12_many_2 fl_X12_68 rfl rfl h (fun M2 h => ?_)
  refine wt_aload_n (pc := 5) 0 dX12_many_5 rfl ?_
  refine wt_iconst (pc := 6) (v := 0) dX12_many_6 (by decide) ?_
  refine wt_putI (pc := 7) dX12_many_7 fl_X12_71 rfl rfl h (fun M7 h => ?_)
  refine wt_iload_n (pc := 10) 1 dX12_many_10 rfl ?_
  refine wt_i2l (pc := 11) dX12_many_11 ?_
  refine wt_lconst (pc := 12) (v := 0) dX12_many_12 (by decide) ?_
  refine wt_ldc2 (pc := 13) dX12_many_13 kc_X12_329 ?_
  refine wt_cSI (pc := 16) (J' := j_X12_isIn) (As := [.long (Int32.toInt64 l1), .long 0, .long 9]) (st := []) (B' := b_X12_isIn) (u' := 0) (w' := 0) dX12_many_16 ml_X12_103 ms_X12_isIn (fun v9 M9 e9 => c_X12_isIn e9) rfl (by decide) rfl rfl (by decide) (by decide) (by decide) rfl h (fun v16 M16 h => ?_)
  refine wt_if_ne (pc := 19) (tgt := 28) dX12_many_19 (by decide) (fun q => ?_) (fun q => ?_)
  · have h := ite_f q h
    refine wt_iload_n (pc := 28) 1 dX12_many_28 rfl ?_
    refine wt_iconst (pc := 29) (v := 5) dX12_many_29 (by decide) ?_
    refine wt_icmp_ge (pc := 30) (tgt := 40) dX12_many_30 (by decide) (fun q => ?_) (fun q => ?_)
    · have h := ite_t q h
      refine wt_iload_n (pc := 40) 1 dX12_many_40 rfl ?_
      refine wt_bipush (pc := 41) (v := 7) dX12_many_41 (by decide) ?_
      refine wt_icmp_eq (pc := 43) (tgt := 52) dX12_many_43 (by decide) (fun q => ?_) (fun q => ?_)
      · have h := ite_t q h
        exact t_X12_many_52 he  h
      · have h := ite_f q h
        refine wt_iload_n (pc := 46) 1 dX12_many_46 rfl ?_
        refine wt_bipush (pc := 47) (v := 8) dX12_many_47 (by decide) ?_
        refine wt_icmp_ne (pc := 49) (tgt := 68) dX12_many_49 (by decide) (fun q => ?_) (fun q => ?_)
        · have h := ite_f q h
          refine wt_iload_n (pc := 68) 1 dX12_many_68 rfl ?_
          refine wt_bipush (pc := 69) (v := 9) dX12_many_69 (by decide) ?_
          refine wt_icmp_ne (pc := 71) (tgt := 79) dX12_many_71 (by decide) (fun q => ?_) (fun q => ?_)
          · have h := ite_f q h
            refine wt_iconst (pc := 79) (v := 0) dX12_many_79 (by decide) ?_
            refine wt_istore_n (pc := 80) (i := 2) (ls' := [(2, .int 0), (0, rf G.1 l0), (1, .int l1)]) rfl dX12_many_80 (by decide) rfl ?_
            refine wt_iconst (pc := 81) (v := 0) dX12_many_81 (by decide) ?_
            refine wt_istore_n (pc := 82) (i := 3) (ls' := [(3, .int 0), (2, .int 0), (0, rf G.1 l0), (1, .int l1)]) rfl dX12_many_82 (by decide) rfl ?_
            refine wt_sub (ls' := [(0, rf G.1 l0), (1, .int l1), (2, .int 0), (3, .int 0)]) [2, 3, 1, 0] rfl ?_
            exact t_X12_many_83 he  fu h
          · have h := ite_t q h
            refine wt_aload_n (pc := 74) 0 dX12_many_74 rfl ?_
            refine wt_cVI (pc := 75) (J' := j_X12_allChances) (As := []) (st := []) (B' := b_X12_allChances) (u' := 0) (w' := 0) dX12_many_75 ml_X12_338 mv_X12_allChances (fun v9 M9 e9 => c_X12_allChances e9) rfl (by decide) rfl rfl (by decide) (by decide) (by decide) rfl h (fun v75 M75 h => ?_)
            cases h
            exact he 78 _ _ _ dX12_many_78 (by decide) (by decide)
        · have h := ite_t q h
          exact t_X12_many_52 he  h
    · have h := ite_f q h
      refine wt_aload_n (pc := 33) 0 dX12_many_33 rfl ?_
      refine wt_getR (pc := 34) dX12_many_34 fl_X12_35 (fun _ _ _ => rfl) h (fun v34 h => ?_)
      refine wt_iload_n (pc := 37) 1 dX12_many_37 rfl ?_
      refine wt_iaload (pc := 38) (kd := 21) dX12_many_38 rfl rfl h (fun v38 h => ?_)
      cases h
      exact he 39 _ _ _ dX12_many_39 (by decide) (by decide)
  · have h := ite_t q h
    refine wt_aload_n (pc := 22) 0 dX12_many_22 rfl ?_
    refine wt_iconst (pc := 23) (v := 5) dX12_many_23 (by decide) ?_
    refine wt_cVI (pc := 24) (J' := j_X12_refuse) (As := [.int 5]) (st := []) (B' := b_X12_refuse) (u' := 0) (w' := 0) dX12_many_24 ml_X12_331 mv_X12_refuse (fun v9 M9 e9 => c_X12_refuse e9) rfl (by decide) rfl rfl (by decide) (by decide) (by decide) rfl h (fun v24 M24 h => ?_)
    cases h
    exact he 27 _ _ _ dX12_many_27 (by decide) (by decide)
set_option maxHeartbeats 4000000 in
set_option maxRecDepth 100000 in
theorem c_X12_many {G : GG} {M : Mm} {l0 : Option Nat} {l1 : Int32} {r : Int32 × Mm} (h : f_X12_many M l0 l1 = some r) (l : Launch) : Ct l G j_X12_many b_X12_many [rf G.1 l0, .int l1] M (some (.int r.1)) r.2 := cf_I (by decide +kernel) (by simp [lg_sl, rf_cat, cat_i, cat_l, j_X12_many]) rfl (by simp [lv_args, rf_cat, cat_i, cat_l]) (fun X he => t_X12_many_e he h)
def f_X12_holds (M : Mm) (l0 : Option Nat) (l1 : Int32) : Option (Int32 × Mm) := gfR M l0 12 20 fun v3 => alI M v3 21 (29 + l1) fun v10 => gfR M l0 12 20 fun v14 => alI M v14 21 (45 + l1) fun v21 => some (((10 + v10) + (3 * v21)), M)
set_option maxHeartbeats 4000000 in
set_option maxRecDepth 100000 in
theorem t_X12_holds_e {G : GG} {X : CX} {ans : Int32 × Mm} (he : EndI G X j_X12_holds b_X12_holds ans) {M : Mm} {l0 : Option Nat} {l1 : Int32} (h : f_X12_holds M l0 l1 = some ans) : Wt G X j_X12_holds b_X12_holds 0 [(0, rf G.1 l0), (1, .int l1)] [] M 0 0 := by
  unfold f_X12_holds at h
  refine wt_bipush (pc := 0) (v := 10) dX12_holds_0 (by decide) ?_
  refine wt_aload_n (pc := 2) 0 dX12_holds_2 rfl ?_
  refine wt_getR (pc := 3) dX12_holds_3 fl_X12_35 (fun _ _ _ => rfl) h (fun v3 h => ?_)
  refine wt_bipush (pc := 6) (v := 29) dX12_holds_6 (by decide) ?_
  refine wt_iload_n (pc := 8) 1 dX12_holds_8 rfl ?_
  refine wt_iadd (pc := 9) dX12_holds_9 ?_
  refine wt_iaload (pc := 10) (kd := 21) dX12_holds_10 rfl rfl h (fun v10 h => ?_)
  refine wt_iadd (pc := 11) dX12_holds_11 ?_
  refine wt_iconst (pc := 12) (v := 3) dX12_holds_12 (by decide) ?_
  refine wt_aload_n (pc := 13) 0 dX12_holds_13 rfl ?_
  refine wt_getR (pc := 14) dX12_holds_14 fl_X12_35 (fun _ _ _ => rfl) h (fun v14 h => ?_)
  refine wt_bipush (pc := 17) (v := 45) dX12_holds_17 (by decide) ?_
  refine wt_iload_n (pc := 19) 1 dX12_holds_19 rfl ?_
  refine wt_iadd (pc := 20) dX12_holds_20 ?_
  refine wt_iaload (pc := 21) (kd := 21) dX12_holds_21 rfl rfl h (fun v21 h => ?_)
  refine wt_imul (pc := 22) dX12_holds_22 ?_
  refine wt_iadd (pc := 23) dX12_holds_23 ?_
  cases h
  exact he 24 _ _ _ dX12_holds_24 (by decide) (by decide)
set_option maxHeartbeats 4000000 in
set_option maxRecDepth 100000 in
theorem c_X12_holds {G : GG} {M : Mm} {l0 : Option Nat} {l1 : Int32} {r : Int32 × Mm} (h : f_X12_holds M l0 l1 = some r) (l : Launch) : Ct l G j_X12_holds b_X12_holds [rf G.1 l0, .int l1] M (some (.int r.1)) r.2 := cf_I (by decide +kernel) (by simp [lg_sl, rf_cat, cat_i, cat_l, j_X12_holds]) rfl (by simp [lv_args, rf_cat, cat_i, cat_l]) (fun X he => t_X12_holds_e he h)
def f_X12_house (M : Mm) (l0 : Option Nat) (l1 : Int32) (l2 : Int32) : Option (Int32 × Mm) := pfI M l0 12 1 0 fun M2 => pfI M2 l0 12 0 0 fun M7 => ck M7 l0 12 <| bd (f_X12_isHouseAt M7 l0 l1) fun v12 M12 => if v12 = 0 then (ck M12 l0 12 <| bd (f_X12_refuse M12 l0 2) fun v20 M20 => some (v20, M20)) else (bd (f_X12_isIn M12 (Int32.toInt64 l2) 0 8) fun v30 M30 => if v30 = 0 then (ck M30 l0 12 <| bd (f_X12_refuse M30 l0 5) fun v38 M38 => some (v38, M38)) else (if l2 = 8 then (ck M30 l0 12 <| bd (f_X12_dueOf M30 l0 l1) fun v50 M50 => some (v50, M50)) else (if l2 = 7 then (ck M30 l0 12 <| bd (f_X12_holds M30 l0 l1) fun v64 M64 => some ((v64 + 1), M64)) else (gfR M30 l0 12 20 fun v73 => alI M30 v73 21 ((5 + (8 * l2)) + l1) fun v84 => some (v84, M30)))))
set_option maxHeartbeats 4000000 in
set_option maxRecDepth 100000 in
theorem t_X12_house_e {G : GG} {X : CX} {ans : Int32 × Mm} (he : EndI G X j_X12_house b_X12_house ans) {M : Mm} {l0 : Option Nat} {l1 : Int32} {l2 : Int32} (h : f_X12_house M l0 l1 l2 = some ans) : Wt G X j_X12_house b_X12_house 0 [(0, rf G.1 l0), (1, .int l1), (2, .int l2)] [] M 0 0 := by
  unfold f_X12_house at h
  refine wt_aload_n (pc := 0) 0 dX12_house_0 rfl ?_
  refine wt_iconst (pc := 1) (v := 0) dX12_house_1 (by decide) ?_
  refine wt_putI (pc := 2) dX12_house_2 fl_X12_68 rfl rfl h (fun M2 h => ?_)
  refine wt_aload_n (pc := 5) 0 dX12_house_5 rfl ?_
  refine wt_iconst (pc := 6) (v := 0) dX12_house_6 (by decide) ?_
  refine wt_putI (pc := 7) dX12_house_7 fl_X12_71 rfl rfl h (fun M7 h => ?_)
  refine wt_aload_n (pc := 10) 0 dX12_house_10 rfl ?_
  refine wt_iload_n (pc := 11) 1 dX12_house_11 rfl ?_
  refine wt_cVI (pc := 12) (J' := j_X12_isHouseAt) (As := [.int l1]) (st := []) (B' := b_X12_isHouseAt) (u' := 0) (w' := 0) dX12_house_12 ml_X12_341 mv_X12_isHouseAt (fun v9 M9 e9 => c_X12_isHouseAt e9) rfl (by decide) rfl rfl (by decide) (by decide) (by decide) rfl h (fun v12 M12 h => ?_)
  refine wt_if_ne (pc := 15) (tgt := 24) dX12_house_15 (by decide) (fun q => ?_) (fun q => ?_)
  · have h := ite_f q h
    refine wt_iload_n (pc := 24) 2 dX12_house_24 rfl ?_
    refine wt_i2l (pc := 25) dX12_house_25 ?_
    refine wt_lconst (pc := 26) (v := 0) dX12_house_26 (by decide) ?_
    refine wt_ldc2 (pc := 27) dX12_house_27 kc_X12_344 ?_
    refine wt_cSI (pc := 30) (J' := j_X12_isIn) (As := [.long (Int32.toInt64 l2), .long 0, .long 8]) (st := []) (B' := b_X12_isIn) (u' := 0) (w' := 0) dX12_house_30 ml_X12_103 ms_X12_isIn (fun v9 M9 e9 => c_X12_isIn e9) rfl (by decide) rfl rfl (by decide) (by decide) (by decide) rfl h (fun v30 M30 h => ?_)
    refine wt_if_ne (pc := 33) (tgt := 42) dX12_house_33 (by decide) (fun q => ?_) (fun q => ?_)
    · have h := ite_f q h
      refine wt_iload_n (pc := 42) 2 dX12_house_42 rfl ?_
      refine wt_bipush (pc := 43) (v := 8) dX12_house_43 (by decide) ?_
      refine wt_icmp_ne (pc := 45) (tgt := 56) dX12_house_45 (by decide) (fun q => ?_) (fun q => ?_)
      · have h := ite_f q h
        refine wt_iload_n (pc := 56) 2 dX12_house_56 rfl ?_
        refine wt_bipush (pc := 57) (v := 7) dX12_house_57 (by decide) ?_
        refine wt_icmp_ne (pc := 59) (tgt := 72) dX12_house_59 (by decide) (fun q => ?_) (fun q => ?_)
        · have h := ite_f q h
          refine wt_aload_n (pc := 72) 0 dX12_house_72 rfl ?_
          refine wt_getR (pc := 73) dX12_house_73 fl_X12_35 (fun _ _ _ => rfl) h (fun v73 h => ?_)
          refine wt_iconst (pc := 76) (v := 5) dX12_house_76 (by decide) ?_
          refine wt_bipush (pc := 77) (v := 8) dX12_house_77 (by decide) ?_
          refine wt_iload_n (pc := 79) 2 dX12_house_79 rfl ?_
          refine wt_imul (pc := 80) dX12_house_80 ?_
          refine wt_iadd (pc := 81) dX12_house_81 ?_
          refine wt_iload_n (pc := 82) 1 dX12_house_82 rfl ?_
          refine wt_iadd (pc := 83) dX12_house_83 ?_
          refine wt_iaload (pc := 84) (kd := 21) dX12_house_84 rfl rfl h (fun v84 h => ?_)
          cases h
          exact he 85 _ _ _ dX12_house_85 (by decide) (by decide)
        · have h := ite_t q h
          refine wt_aload_n (pc := 62) 0 dX12_house_62 rfl ?_
          refine wt_iload_n (pc := 63) 1 dX12_house_63 rfl ?_
          refine wt_cVI (pc := 64) (J' := j_X12_holds) (As := [.int l1]) (st := []) (B' := b_X12_holds) (u' := 0) (w' := 0) dX12_house_64 ml_X12_349 mv_X12_holds (fun v9 M9 e9 => c_X12_holds e9) rfl (by decide) rfl rfl (by decide) (by decide) (by decide) rfl h (fun v64 M64 h => ?_)
          refine wt_iconst (pc := 67) (v := 1) dX12_house_67 (by decide) ?_
          refine wt_iadd (pc := 68) dX12_house_68 ?_
          refine wt_goto (pc := 69) (tgt := 85) dX12_house_69 (by decide) ?_
          cases h
          exact he 85 _ _ _ dX12_house_85 (by decide) (by decide)
      · have h := ite_t q h
        refine wt_aload_n (pc := 48) 0 dX12_house_48 rfl ?_
        refine wt_iload_n (pc := 49) 1 dX12_house_49 rfl ?_
        refine wt_cVI (pc := 50) (J' := j_X12_dueOf) (As := [.int l1]) (st := []) (B' := b_X12_dueOf) (u' := 0) (w' := 0) dX12_house_50 ml_X12_346 mv_X12_dueOf (fun v9 M9 e9 => c_X12_dueOf e9) rfl (by decide) rfl rfl (by decide) (by decide) (by decide) rfl h (fun v50 M50 h => ?_)
        refine wt_goto (pc := 53) (tgt := 85) dX12_house_53 (by decide) ?_
        cases h
        exact he 85 _ _ _ dX12_house_85 (by decide) (by decide)
    · have h := ite_t q h
      refine wt_aload_n (pc := 36) 0 dX12_house_36 rfl ?_
      refine wt_iconst (pc := 37) (v := 5) dX12_house_37 (by decide) ?_
      refine wt_cVI (pc := 38) (J' := j_X12_refuse) (As := [.int 5]) (st := []) (B' := b_X12_refuse) (u' := 0) (w' := 0) dX12_house_38 ml_X12_331 mv_X12_refuse (fun v9 M9 e9 => c_X12_refuse e9) rfl (by decide) rfl rfl (by decide) (by decide) (by decide) rfl h (fun v38 M38 h => ?_)
      cases h
      exact he 41 _ _ _ dX12_house_41 (by decide) (by decide)
  · have h := ite_t q h
    refine wt_aload_n (pc := 18) 0 dX12_house_18 rfl ?_
    refine wt_iconst (pc := 19) (v := 2) dX12_house_19 (by decide) ?_
    refine wt_cVI (pc := 20) (J' := j_X12_refuse) (As := [.int 2]) (st := []) (B' := b_X12_refuse) (u' := 0) (w' := 0) dX12_house_20 ml_X12_331 mv_X12_refuse (fun v9 M9 e9 => c_X12_refuse e9) rfl (by decide) rfl rfl (by decide) (by decide) (by decide) rfl h (fun v20 M20 h => ?_)
    cases h
    exact he 23 _ _ _ dX12_house_23 (by decide) (by decide)
set_option maxHeartbeats 4000000 in
set_option maxRecDepth 100000 in
theorem c_X12_house {G : GG} {M : Mm} {l0 : Option Nat} {l1 : Int32} {l2 : Int32} {r : Int32 × Mm} (h : f_X12_house M l0 l1 l2 = some r) (l : Launch) : Ct l G j_X12_house b_X12_house [rf G.1 l0, .int l1, .int l2] M (some (.int r.1)) r.2 := cf_I (by decide +kernel) (by simp [lg_sl, rf_cat, cat_i, cat_l, j_X12_house]) rfl (by simp [lv_args, rf_cat, cat_i, cat_l]) (fun X he => t_X12_house_e he h)
def f_X12_gang_140 (M : Mm) (s0 : Int32) (s1 : Int32) : Option (Int32 × Mm) := some ((s0 + s1), M)
def f_X12_gang_67 (M : Mm) (l0 : Option Nat) (l1 : Int32) (l2 : Int32) : Option (Int32 × Mm) := if l2 = 5 then (gfR M l0 12 20 fun v73 => alI M v73 21 (149 + l1) fun v81 => if 0 ≤ v81 then (gfR M l0 12 20 fun v90 => alI M v90 21 (153 + l1) fun v98 => gfR M l0 12 20 fun v100 => alI M v100 21 (157 + l1) fun v108 => if v108 ≤ 0 then (gfR M l0 12 20 fun v128 => alI M v128 21 (149 + l1) fun v136 => ck M l0 12 <| bd (f_X12_takesOf M l0 l1 v136) fun v137 M137 => f_X12_gang_140  M137 v98 v137) else (gfR M l0 12 20 fun v113 => alI M v113 21 (157 + l1) fun v121 => f_X12_gang_140  M v98 v121)) else (some (0, M))) else (gfR M l0 12 20 fun v143 => alI M v143 21 ((133 + (4 * l2)) + l1) fun v155 => some (v155, M))
def f_X12_gang (M : Mm) (l0 : Option Nat) (l1 : Int32) (l2 : Int32) : Option (Int32 × Mm) := pfI M l0 12 1 0 fun M2 => pfI M2 l0 12 0 0 fun M7 => ck M7 l0 12 <| bd (f_X12_isGangAt M7 l0 l1) fun v12 M12 => if v12 = 0 then (ck M12 l0 12 <| bd (f_X12_refuse M12 l0 2) fun v20 M20 => some (v20, M20)) else (bd (f_X12_isIn M12 (Int32.toInt64 l2) 0 5) fun v30 M30 => if v30 = 0 then (ck M30 l0 12 <| bd (f_X12_refuse M30 l0 5) fun v38 M38 => some (v38, M38)) else (if l2 = 4 then (gfR M30 l0 12 20 fun v48 => alI M30 v48 21 (149 + l1) fun v56 => if 0 ≤ v56 then (f_X12_gang_67  M30 l0 l1 l2) else (ck M30 l0 12 <| bd (f_X12_refuse M30 l0 8) fun v63 M63 => some (v63, M63))) else (f_X12_gang_67  M30 l0 l1 l2)))
set_option maxHeartbeats 4000000 in
set_option maxRecDepth 100000 in
theorem t_X12_gang_140 {G : GG} {X : CX} {ans : Int32 × Mm} (he : EndI G X j_X12_gang b_X12_gang ans) {M : Mm} {s0 : Int32} {s1 : Int32} (h : f_X12_gang_140 M s0 s1 = some ans) : Wt G X j_X12_gang b_X12_gang 140 [] [.int s1, .int s0] M 0 0 := by
  unfold f_X12_gang_140 at h
  refine wt_iadd (pc := 140) dX12_gang_140 ?_
  cases h
  exact he 141 _ _ _ dX12_gang_141 (by decide) (by decide)
set_option maxHeartbeats 4000000 in
set_option maxRecDepth 100000 in
theorem t_X12_gang_67 {G : GG} {X : CX} {ans : Int32 × Mm} (he : EndI G X j_X12_gang b_X12_gang ans) {M : Mm} {l0 : Option Nat} {l1 : Int32} {l2 : Int32} (h : f_X12_gang_67 M l0 l1 l2 = some ans) : Wt G X j_X12_gang b_X12_gang 67 [(0, rf G.1 l0), (1, .int l1), (2, .int l2)] [] M 0 0 := by
  unfold f_X12_gang_67 at h
  refine wt_iload_n (pc := 67) 2 dX12_gang_67 rfl ?_
  refine wt_iconst (pc := 68) (v := 5) dX12_gang_68 (by decide) ?_
  refine wt_icmp_ne (pc := 69) (tgt := 142) dX12_gang_69 (by decide) (fun q => ?_) (fun q => ?_)
  · have h := ite_f q h
    refine wt_aload_n (pc := 142) 0 dX12_gang_142 rfl ?_
    refine wt_getR (pc := 143) dX12_gang_143 fl_X12_35 (fun _ _ _ => rfl) h (fun v143 h => ?_)
    refine wt_sipush (pc := 146) (v := 133) dX12_gang_146 (by decide) ?_
    refine wt_iconst (pc := 149) (v := 4) dX12_gang_149 (by decide) ?_
    refine wt_iload_n (pc := 150) 2 dX12_gang_150 rfl ?_
    refine wt_imul (pc := 151) dX12_gang_151 ?_
    refine wt_iadd (pc := 152) dX12_gang_152 ?_
    refine wt_iload_n (pc := 153) 1 dX12_gang_153 rfl ?_
    refine wt_iadd (pc := 154) dX12_gang_154 ?_
    refine wt_iaload (pc := 155) (kd := 21) dX12_gang_155 rfl rfl h (fun v155 h => ?_)
    cases h
    exact he 156 _ _ _ dX12_gang_156 (by decide) (by decide)
  · have h := ite_t q h
    refine wt_aload_n (pc := 72) 0 dX12_gang_72 rfl ?_
    refine wt_getR (pc := 73) dX12_gang_73 fl_X12_35 (fun _ _ _ => rfl) h (fun v73 h => ?_)
    refine wt_sipush (pc := 76) (v := 149) dX12_gang_76 (by decide) ?_
    refine wt_iload_n (pc := 79) 1 dX12_gang_79 rfl ?_
    refine wt_iadd (pc := 80) dX12_gang_80 ?_
    refine wt_iaload (pc := 81) (kd := 21) dX12_gang_81 rfl rfl h (fun v81 h => ?_)
    refine wt_if_ge (pc := 82) (tgt := 89) dX12_gang_82 (by decide) (fun q => ?_) (fun q => ?_)
    · have h := ite_t q h
      refine wt_aload_n (pc := 89) 0 dX12_gang_89 rfl ?_
      refine wt_getR (pc := 90) dX12_gang_90 fl_X12_35 (fun _ _ _ => rfl) h (fun v90 h => ?_)
      refine wt_sipush (pc := 93) (v := 153) dX12_gang_93 (by decide) ?_
      refine wt_iload_n (pc := 96) 1 dX12_gang_96 rfl ?_
      refine wt_iadd (pc := 97) dX12_gang_97 ?_
      refine wt_iaload (pc := 98) (kd := 21) dX12_gang_98 rfl rfl h (fun v98 h => ?_)
      refine wt_aload_n (pc := 99) 0 dX12_gang_99 rfl ?_
      refine wt_getR (pc := 100) dX12_gang_100 fl_X12_35 (fun _ _ _ => rfl) h (fun v100 h => ?_)
      refine wt_sipush (pc := 103) (v := 157) dX12_gang_103 (by decide) ?_
      refine wt_iload_n (pc := 106) 1 dX12_gang_106 rfl ?_
      refine wt_iadd (pc := 107) dX12_gang_107 ?_
      refine wt_iaload (pc := 108) (kd := 21) dX12_gang_108 rfl rfl h (fun v108 h => ?_)
      refine wt_if_le (pc := 109) (tgt := 125) dX12_gang_109 (by decide) (fun q => ?_) (fun q => ?_)
      · have h := ite_t q h
        refine wt_aload_n (pc := 125) 0 dX12_gang_125 rfl ?_
        refine wt_iload_n (pc := 126) 1 dX12_gang_126 rfl ?_
        refine wt_aload_n (pc := 127) 0 dX12_gang_127 rfl ?_
        refine wt_getR (pc := 128) dX12_gang_128 fl_X12_35 (fun _ _ _ => rfl) h (fun v128 h => ?_)
        refine wt_sipush (pc := 131) (v := 149) dX12_gang_131 (by decide) ?_
        refine wt_iload_n (pc := 134) 1 dX12_gang_134 rfl ?_
        refine wt_iadd (pc := 135) dX12_gang_135 ?_
        refine wt_iaload (pc := 136) (kd := 21) dX12_gang_136 rfl rfl h (fun v136 h => ?_)
        refine wt_cVI (pc := 137) (J' := j_X12_takesOf) (As := [.int l1, .int v136]) (st := [.int v98]) (B' := b_X12_takesOf) (u' := 0) (w' := 0) dX12_gang_137 ml_X12_357 mv_X12_takesOf (fun v9 M9 e9 => c_X12_takesOf e9) rfl (by decide) rfl rfl (by decide) (by decide) (by simp [rf_cat, cat_i, cat_l, cat_r]) rfl h (fun v137 M137 h => ?_)
        refine wt_sub (ls' := []) [] rfl ?_
        exact t_X12_gang_140 he  h
      · have h := ite_f q h
        refine wt_aload_n (pc := 112) 0 dX12_gang_112 rfl ?_
        refine wt_getR (pc := 113) dX12_gang_113 fl_X12_35 (fun _ _ _ => rfl) h (fun v113 h => ?_)
        refine wt_sipush (pc := 116) (v := 157) dX12_gang_116 (by decide) ?_
        refine wt_iload_n (pc := 119) 1 dX12_gang_119 rfl ?_
        refine wt_iadd (pc := 120) dX12_gang_120 ?_
        refine wt_iaload (pc := 121) (kd := 21) dX12_gang_121 rfl rfl h (fun v121 h => ?_)
        refine wt_goto (pc := 122) (tgt := 140) dX12_gang_122 (by decide) ?_
        refine wt_sub (ls' := []) [] rfl ?_
        exact t_X12_gang_140 he  h
    · have h := ite_f q h
      refine wt_iconst (pc := 85) (v := 0) dX12_gang_85 (by decide) ?_
      refine wt_goto (pc := 86) (tgt := 141) dX12_gang_86 (by decide) ?_
      cases h
      exact he 141 _ _ _ dX12_gang_141 (by decide) (by decide)
set_option maxHeartbeats 4000000 in
set_option maxRecDepth 100000 in
theorem t_X12_gang_e {G : GG} {X : CX} {ans : Int32 × Mm} (he : EndI G X j_X12_gang b_X12_gang ans) {M : Mm} {l0 : Option Nat} {l1 : Int32} {l2 : Int32} (h : f_X12_gang M l0 l1 l2 = some ans) : Wt G X j_X12_gang b_X12_gang 0 [(0, rf G.1 l0), (1, .int l1), (2, .int l2)] [] M 0 0 := by
  unfold f_X12_gang at h
  refine wt_aload_n (pc := 0) 0 dX12_gang_0 rfl ?_
  refine wt_iconst (pc := 1) (v := 0) dX12_gang_1 (by decide) ?_
  refine wt_putI (pc := 2) dX12_gang_2 fl_X12_68 rfl rfl h (fun M2 h => ?_)
  refine wt_aload_n (pc := 5) 0 dX12_gang_5 rfl ?_
  refine wt_iconst (pc := 6) (v := 0) dX12_gang_6 (by decide) ?_
  refine wt_putI (pc := 7) dX12_gang_7 fl_X12_71 rfl rfl h (fun M7 h => ?_)
  refine wt_aload_n (pc := 10) 0 dX12_gang_10 rfl ?_
  refine wt_iload_n (pc := 11) 1 dX12_gang_11 rfl ?_
  refine wt_cVI (pc := 12) (J' := j_X12_isGangAt) (As := [.int l1]) (st := []) (B' := b_X12_isGangAt) (u' := 0) (w' := 0) dX12_gang_12 ml_X12_352 mv_X12_isGangAt (fun v9 M9 e9 => c_X12_isGangAt e9) rfl (by decide) rfl rfl (by decide) (by decide) (by decide) rfl h (fun v12 M12 h => ?_)
  refine wt_if_ne (pc := 15) (tgt := 24) dX12_gang_15 (by decide) (fun q => ?_) (fun q => ?_)
  · have h := ite_f q h
    refine wt_iload_n (pc := 24) 2 dX12_gang_24 rfl ?_
    refine wt_i2l (pc := 25) dX12_gang_25 ?_
    refine wt_lconst (pc := 26) (v := 0) dX12_gang_26 (by decide) ?_
    refine wt_ldc2 (pc := 27) dX12_gang_27 kc_X12_355 ?_
    refine wt_cSI (pc := 30) (J' := j_X12_isIn) (As := [.long (Int32.toInt64 l2), .long 0, .long 5]) (st := []) (B' := b_X12_isIn) (u' := 0) (w' := 0) dX12_gang_30 ml_X12_103 ms_X12_isIn (fun v9 M9 e9 => c_X12_isIn e9) rfl (by decide) rfl rfl (by decide) (by decide) (by decide) rfl h (fun v30 M30 h => ?_)
    refine wt_if_ne (pc := 33) (tgt := 42) dX12_gang_33 (by decide) (fun q => ?_) (fun q => ?_)
    · have h := ite_f q h
      refine wt_iload_n (pc := 42) 2 dX12_gang_42 rfl ?_
      refine wt_iconst (pc := 43) (v := 4) dX12_gang_43 (by decide) ?_
      refine wt_icmp_ne (pc := 44) (tgt := 67) dX12_gang_44 (by decide) (fun q => ?_) (fun q => ?_)
      · have h := ite_f q h
        exact t_X12_gang_67 he  h
      · have h := ite_t q h
        refine wt_aload_n (pc := 47) 0 dX12_gang_47 rfl ?_
        refine wt_getR (pc := 48) dX12_gang_48 fl_X12_35 (fun _ _ _ => rfl) h (fun v48 h => ?_)
        refine wt_sipush (pc := 51) (v := 149) dX12_gang_51 (by decide) ?_
        refine wt_iload_n (pc := 54) 1 dX12_gang_54 rfl ?_
        refine wt_iadd (pc := 55) dX12_gang_55 ?_
        refine wt_iaload (pc := 56) (kd := 21) dX12_gang_56 rfl rfl h (fun v56 h => ?_)
        refine wt_if_ge (pc := 57) (tgt := 67) dX12_gang_57 (by decide) (fun q => ?_) (fun q => ?_)
        · have h := ite_t q h
          exact t_X12_gang_67 he  h
        · have h := ite_f q h
          refine wt_aload_n (pc := 60) 0 dX12_gang_60 rfl ?_
          refine wt_bipush (pc := 61) (v := 8) dX12_gang_61 (by decide) ?_
          refine wt_cVI (pc := 63) (J' := j_X12_refuse) (As := [.int 8]) (st := []) (B' := b_X12_refuse) (u' := 0) (w' := 0) dX12_gang_63 ml_X12_331 mv_X12_refuse (fun v9 M9 e9 => c_X12_refuse e9) rfl (by decide) rfl rfl (by decide) (by decide) (by decide) rfl h (fun v63 M63 h => ?_)
          cases h
          exact he 66 _ _ _ dX12_gang_66 (by decide) (by decide)
    · have h := ite_t q h
      refine wt_aload_n (pc := 36) 0 dX12_gang_36 rfl ?_
      refine wt_iconst (pc := 37) (v := 5) dX12_gang_37 (by decide) ?_
      refine wt_cVI (pc := 38) (J' := j_X12_refuse) (As := [.int 5]) (st := []) (B' := b_X12_refuse) (u' := 0) (w' := 0) dX12_gang_38 ml_X12_331 mv_X12_refuse (fun v9 M9 e9 => c_X12_refuse e9) rfl (by decide) rfl rfl (by decide) (by decide) (by decide) rfl h (fun v38 M38 h => ?_)
      cases h
      exact he 41 _ _ _ dX12_gang_41 (by decide) (by decide)
  · have h := ite_t q h
    refine wt_aload_n (pc := 18) 0 dX12_gang_18 rfl ?_
    refine wt_iconst (pc := 19) (v := 2) dX12_gang_19 (by decide) ?_
    refine wt_cVI (pc := 20) (J' := j_X12_refuse) (As := [.int 2]) (st := []) (B' := b_X12_refuse) (u' := 0) (w' := 0) dX12_gang_20 ml_X12_331 mv_X12_refuse (fun v9 M9 e9 => c_X12_refuse e9) rfl (by decide) rfl rfl (by decide) (by decide) (by decide) rfl h (fun v20 M20 h => ?_)
    cases h
    exact he 23 _ _ _ dX12_gang_23 (by decide) (by decide)
set_option maxHeartbeats 4000000 in
set_option maxRecDepth 100000 in
theorem c_X12_gang {G : GG} {M : Mm} {l0 : Option Nat} {l1 : Int32} {l2 : Int32} {r : Int32 × Mm} (h : f_X12_gang M l0 l1 l2 = some r) (l : Launch) : Ct l G j_X12_gang b_X12_gang [rf G.1 l0, .int l1, .int l2] M (some (.int r.1)) r.2 := cf_I (by decide +kernel) (by simp [lg_sl, rf_cat, cat_i, cat_l, j_X12_gang]) rfl (by simp [lv_args, rf_cat, cat_i, cat_l]) (fun X he => t_X12_gang_e he h)
def f_X12_wind (M : Mm) (l0 : Option Nat) (l1 : Int32) (l2 : Int32) : Option (Int32 × Mm) := pfI M l0 12 1 0 fun M2 => pfI M2 l0 12 0 0 fun M7 => gfR M7 l0 12 20 fun v14 => alI M7 v14 21 2 fun v18 => bd (f_X12_isIn M7 (Int32.toInt64 l1) 0 (Int32.toInt64 (v18 - 1))) fun v22 M22 => if v22 = 0 then (ck M22 l0 12 <| bd (f_X12_refuse M22 l0 2) fun v30 M30 => some (v30, M30)) else (bd (f_X12_isIn M22 (Int32.toInt64 l2) 0 1) fun v38 M38 => if v38 = 0 then (ck M38 l0 12 <| bd (f_X12_refuse M38 l0 5) fun v64 M64 => some (v64, M64)) else (gfR M38 l0 12 20 fun v45 => alI M38 v45 21 ((161 + (6 * l2)) + l1) fun v58 => some (v58, M38)))
set_option maxHeartbeats 4000000 in
set_option maxRecDepth 100000 in
theorem t_X12_wind_e {G : GG} {X : CX} {ans : Int32 × Mm} (he : EndI G X j_X12_wind b_X12_wind ans) {M : Mm} {l0 : Option Nat} {l1 : Int32} {l2 : Int32} (h : f_X12_wind M l0 l1 l2 = some ans) : Wt G X j_X12_wind b_X12_wind 0 [(0, rf G.1 l0), (1, .int l1), (2, .int l2)] [] M 0 0 := by
  unfold f_X12_wind at h
  refine wt_aload_n (pc := 0) 0 dX12_wind_0 rfl ?_
  refine wt_iconst (pc := 1) (v := 0) dX12_wind_1 (by decide) ?_
  refine wt_putI (pc := 2) dX12_wind_2 fl_X12_68 rfl rfl h (fun M2 h => ?_)
  refine wt_aload_n (pc := 5) 0 dX12_wind_5 rfl ?_
  refine wt_iconst (pc := 6) (v := 0) dX12_wind_6 (by decide) ?_
  refine wt_putI (pc := 7) dX12_wind_7 fl_X12_71 rfl rfl h (fun M7 h => ?_)
  refine wt_iload_n (pc := 10) 1 dX12_wind_10 rfl ?_
  refine wt_i2l (pc := 11) dX12_wind_11 ?_
  refine wt_lconst (pc := 12) (v := 0) dX12_wind_12 (by decide) ?_
  refine wt_aload_n (pc := 13) 0 dX12_wind_13 rfl ?_
  refine wt_getR (pc := 14) dX12_wind_14 fl_X12_35 (fun _ _ _ => rfl) h (fun v14 h => ?_)
  refine wt_iconst (pc := 17) (v := 2) dX12_wind_17 (by decide) ?_
  refine wt_iaload (pc := 18) (kd := 21) dX12_wind_18 rfl rfl h (fun v18 h => ?_)
  refine wt_iconst (pc := 19) (v := 1) dX12_wind_19 (by decide) ?_
  refine wt_isub (pc := 20) dX12_wind_20 ?_
  refine wt_i2l (pc := 21) dX12_wind_21 ?_
  refine wt_cSI (pc := 22) (J' := j_X12_isIn) (As := [.long (Int32.toInt64 l1), .long 0, .long (Int32.toInt64 (v18 - 1))]) (st := []) (B' := b_X12_isIn) (u' := 0) (w' := 0) dX12_wind_22 ml_X12_103 ms_X12_isIn (fun v9 M9 e9 => c_X12_isIn e9) rfl (by decide) rfl rfl (by decide) (by decide) (by decide) rfl h (fun v22 M22 h => ?_)
  refine wt_if_ne (pc := 25) (tgt := 34) dX12_wind_25 (by decide) (fun q => ?_) (fun q => ?_)
  · have h := ite_f q h
    refine wt_iload_n (pc := 34) 2 dX12_wind_34 rfl ?_
    refine wt_i2l (pc := 35) dX12_wind_35 ?_
    refine wt_lconst (pc := 36) (v := 0) dX12_wind_36 (by decide) ?_
    refine wt_lconst (pc := 37) (v := 1) dX12_wind_37 (by decide) ?_
    refine wt_cSI (pc := 38) (J' := j_X12_isIn) (As := [.long (Int32.toInt64 l2), .long 0, .long 1]) (st := []) (B' := b_X12_isIn) (u' := 0) (w' := 0) dX12_wind_38 ml_X12_103 ms_X12_isIn (fun v9 M9 e9 => c_X12_isIn e9) rfl (by decide) rfl rfl (by decide) (by decide) (by decide) rfl h (fun v38 M38 h => ?_)
    refine wt_if_eq (pc := 41) (tgt := 62) dX12_wind_41 (by decide) (fun q => ?_) (fun q => ?_)
    · have h := ite_t q h
      refine wt_aload_n (pc := 62) 0 dX12_wind_62 rfl ?_
      refine wt_iconst (pc := 63) (v := 5) dX12_wind_63 (by decide) ?_
      refine wt_cVI (pc := 64) (J' := j_X12_refuse) (As := [.int 5]) (st := []) (B' := b_X12_refuse) (u' := 0) (w' := 0) dX12_wind_64 ml_X12_331 mv_X12_refuse (fun v9 M9 e9 => c_X12_refuse e9) rfl (by decide) rfl rfl (by decide) (by decide) (by decide) rfl h (fun v64 M64 h => ?_)
      cases h
      exact he 67 _ _ _ dX12_wind_67 (by decide) (by decide)
    · have h := ite_f q h
      refine wt_aload_n (pc := 44) 0 dX12_wind_44 rfl ?_
      refine wt_getR (pc := 45) dX12_wind_45 fl_X12_35 (fun _ _ _ => rfl) h (fun v45 h => ?_)
      refine wt_sipush (pc := 48) (v := 161) dX12_wind_48 (by decide) ?_
      refine wt_bipush (pc := 51) (v := 6) dX12_wind_51 (by decide) ?_
      refine wt_iload_n (pc := 53) 2 dX12_wind_53 rfl ?_
      refine wt_imul (pc := 54) dX12_wind_54 ?_
      refine wt_iadd (pc := 55) dX12_wind_55 ?_
      refine wt_iload_n (pc := 56) 1 dX12_wind_56 rfl ?_
      refine wt_iadd (pc := 57) dX12_wind_57 ?_
      refine wt_iaload (pc := 58) (kd := 21) dX12_wind_58 rfl rfl h (fun v58 h => ?_)
      refine wt_goto (pc := 59) (tgt := 67) dX12_wind_59 (by decide) ?_
      cases h
      exact he 67 _ _ _ dX12_wind_67 (by decide) (by decide)
  · have h := ite_t q h
    refine wt_aload_n (pc := 28) 0 dX12_wind_28 rfl ?_
    refine wt_iconst (pc := 29) (v := 2) dX12_wind_29 (by decide) ?_
    refine wt_cVI (pc := 30) (J' := j_X12_refuse) (As := [.int 2]) (st := []) (B' := b_X12_refuse) (u' := 0) (w' := 0) dX12_wind_30 ml_X12_331 mv_X12_refuse (fun v9 M9 e9 => c_X12_refuse e9) rfl (by decide) rfl rfl (by decide) (by decide) (by decide) rfl h (fun v30 M30 h => ?_)
    cases h
    exact he 33 _ _ _ dX12_wind_33 (by decide) (by decide)
set_option maxHeartbeats 4000000 in
set_option maxRecDepth 100000 in
theorem c_X12_wind {G : GG} {M : Mm} {l0 : Option Nat} {l1 : Int32} {l2 : Int32} {r : Int32 × Mm} (h : f_X12_wind M l0 l1 l2 = some r) (l : Launch) : Ct l G j_X12_wind b_X12_wind [rf G.1 l0, .int l1, .int l2] M (some (.int r.1)) r.2 := cf_I (by decide +kernel) (by simp [lg_sl, rf_cat, cat_i, cat_l, j_X12_wind]) rfl (by simp [lv_args, rf_cat, cat_i, cat_l]) (fun X he => t_X12_wind_e he h)
def f_X12_helped_26 (M : Mm) (l0 : Option Nat) : Option (Int32 × Mm) := ck M l0 12 <| bd (f_X12_refuse M l0 2) fun v28 M28 => some (v28, M28)
def f_X12_helped (M : Mm) (l0 : Option Nat) (l1 : Int32) (l2 : Int32) : Option (Int32 × Mm) := pfI M l0 12 1 0 fun M2 => pfI M2 l0 12 0 0 fun M7 => ck M7 l0 12 <| bd (f_X12_isHouseAt M7 l0 l1) fun v12 M12 => if v12 = 0 then (f_X12_helped_26  M12 l0) else (ck M12 l0 12 <| bd (f_X12_isHouseAt M12 l0 l2) fun v20 M20 => if v20 = 0 then (f_X12_helped_26  M20 l0) else (if l1 = l2 then (ck M20 l0 12 <| bd (f_X12_refuse M20 l0 5) fun v39 M39 => some (v39, M39)) else (gfR M20 l0 12 20 fun v46 => alI M20 v46 21 ((69 + (8 * l1)) + l2) fun v58 => some (v58, M20))))
set_option maxHeartbeats 4000000 in
set_option maxRecDepth 100000 in
theorem t_X12_helped_26 {G : GG} {X : CX} {ans : Int32 × Mm} (he : EndI G X j_X12_helped b_X12_helped ans) {M : Mm} {l0 : Option Nat} (h : f_X12_helped_26 M l0 = some ans) : Wt G X j_X12_helped b_X12_helped 26 [(0, rf G.1 l0)] [] M 0 0 := by
  unfold f_X12_helped_26 at h
  refine wt_aload_n (pc := 26) 0 dX12_helped_26 rfl ?_
  refine wt_iconst (pc := 27) (v := 2) dX12_helped_27 (by decide) ?_
  refine wt_cVI (pc := 28) (J' := j_X12_refuse) (As := [.int 2]) (st := []) (B' := b_X12_refuse) (u' := 0) (w' := 0) dX12_helped_28 ml_X12_331 mv_X12_refuse (fun v9 M9 e9 => c_X12_refuse e9) rfl (by decide) rfl rfl (by decide) (by decide) (by decide) rfl h (fun v28 M28 h => ?_)
  cases h
  exact he 31 _ _ _ dX12_helped_31 (by decide) (by decide)
set_option maxHeartbeats 4000000 in
set_option maxRecDepth 100000 in
theorem t_X12_helped_e {G : GG} {X : CX} {ans : Int32 × Mm} (he : EndI G X j_X12_helped b_X12_helped ans) {M : Mm} {l0 : Option Nat} {l1 : Int32} {l2 : Int32} (h : f_X12_helped M l0 l1 l2 = some ans) : Wt G X j_X12_helped b_X12_helped 0 [(0, rf G.1 l0), (1, .int l1), (2, .int l2)] [] M 0 0 := by
  unfold f_X12_helped at h
  refine wt_aload_n (pc := 0) 0 dX12_helped_0 rfl ?_
  refine wt_iconst (pc := 1) (v := 0) dX12_helped_1 (by decide) ?_
  refine wt_putI (pc := 2) dX12_helped_2 fl_X12_68 rfl rfl h (fun M2 h => ?_)
  refine wt_aload_n (pc := 5) 0 dX12_helped_5 rfl ?_
  refine wt_iconst (pc := 6) (v := 0) dX12_helped_6 (by decide) ?_
  refine wt_putI (pc := 7) dX12_helped_7 fl_X12_71 rfl rfl h (fun M7 h => ?_)
  refine wt_aload_n (pc := 10) 0 dX12_helped_10 rfl ?_
  refine wt_iload_n (pc := 11) 1 dX12_helped_11 rfl ?_
  refine wt_cVI (pc := 12) (J' := j_X12_isHouseAt) (As := [.int l1]) (st := []) (B' := b_X12_isHouseAt) (u' := 0) (w' := 0) dX12_helped_12 ml_X12_341 mv_X12_isHouseAt (fun v9 M9 e9 => c_X12_isHouseAt e9) rfl (by decide) rfl rfl (by decide) (by decide) (by decide) rfl h (fun v12 M12 h => ?_)
  refine wt_if_eq (pc := 15) (tgt := 26) dX12_helped_15 (by decide) (fun q => ?_) (fun q => ?_)
  · have h := ite_t q h
    refine wt_sub (ls' := [(0, rf G.1 l0)]) [0] rfl ?_
    exact t_X12_helped_26 he  h
  · have h := ite_f q h
    refine wt_aload_n (pc := 18) 0 dX12_helped_18 rfl ?_
    refine wt_iload_n (pc := 19) 2 dX12_helped_19 rfl ?_
    refine wt_cVI (pc := 20) (J' := j_X12_isHouseAt) (As := [.int l2]) (st := []) (B' := b_X12_isHouseAt) (u' := 0) (w' := 0) dX12_helped_20 ml_X12_341 mv_X12_isHouseAt (fun v9 M9 e9 => c_X12_isHouseAt e9) rfl (by decide) rfl rfl (by decide) (by decide) (by decide) rfl h (fun v20 M20 h => ?_)
    refine wt_if_ne (pc := 23) (tgt := 32) dX12_helped_23 (by decide) (fun q => ?_) (fun q => ?_)
    · have h := ite_f q h
      refine wt_iload_n (pc := 32) 1 dX12_helped_32 rfl ?_
      refine wt_iload_n (pc := 33) 2 dX12_helped_33 rfl ?_
      refine wt_icmp_ne (pc := 34) (tgt := 45) dX12_helped_34 (by decide) (fun q => ?_) (fun q => ?_)
      · have h := ite_f q h
        refine wt_aload_n (pc := 45) 0 dX12_helped_45 rfl ?_
        refine wt_getR (pc := 46) dX12_helped_46 fl_X12_35 (fun _ _ _ => rfl) h (fun v46 h => ?_)
        refine wt_bipush (pc := 49) (v := 69) dX12_helped_49 (by decide) ?_
        refine wt_bipush (pc := 51) (v := 8) dX12_helped_51 (by decide) ?_
        refine wt_iload_n (pc := 53) 1 dX12_helped_53 rfl ?_
        refine wt_imul (pc := 54) dX12_helped_54 ?_
        refine wt_iadd (pc := 55) dX12_helped_55 ?_
        refine wt_iload_n (pc := 56) 2 dX12_helped_56 rfl ?_
        refine wt_iadd (pc := 57) dX12_helped_57 ?_
        refine wt_iaload (pc := 58) (kd := 21) dX12_helped_58 rfl rfl h (fun v58 h => ?_)
        cases h
        exact he 59 _ _ _ dX12_helped_59 (by decide) (by decide)
      · have h := ite_t q h
        refine wt_aload_n (pc := 37) 0 dX12_helped_37 rfl ?_
        refine wt_iconst (pc := 38) (v := 5) dX12_helped_38 (by decide) ?_
        refine wt_cVI (pc := 39) (J' := j_X12_refuse) (As := [.int 5]) (st := []) (B' := b_X12_refuse) (u' := 0) (w' := 0) dX12_helped_39 ml_X12_331 mv_X12_refuse (fun v9 M9 e9 => c_X12_refuse e9) rfl (by decide) rfl rfl (by decide) (by decide) (by decide) rfl h (fun v39 M39 h => ?_)
        refine wt_goto (pc := 42) (tgt := 59) dX12_helped_42 (by decide) ?_
        cases h
        exact he 59 _ _ _ dX12_helped_59 (by decide) (by decide)
    · have h := ite_t q h
      refine wt_sub (ls' := [(0, rf G.1 l0)]) [0] rfl ?_
      exact t_X12_helped_26 he  h
set_option maxHeartbeats 4000000 in
set_option maxRecDepth 100000 in
theorem c_X12_helped {G : GG} {M : Mm} {l0 : Option Nat} {l1 : Int32} {l2 : Int32} {r : Int32 × Mm} (h : f_X12_helped M l0 l1 l2 = some r) (l : Launch) : Ct l G j_X12_helped b_X12_helped [rf G.1 l0, .int l1, .int l2] M (some (.int r.1)) r.2 := cf_I (by decide +kernel) (by simp [lg_sl, rf_cat, cat_i, cat_l, j_X12_helped]) rfl (by simp [lv_args, rf_cat, cat_i, cat_l]) (fun X he => t_X12_helped_e he h)
def f_X12_takes_35 (M : Mm) (l0 : Option Nat) : Option (Int32 × Mm) := ck M l0 12 <| bd (f_X12_refuse M l0 2) fun v37 M37 => some (v37, M37)
def f_X12_takes (M : Mm) (l0 : Option Nat) (l1 : Int32) (l2 : Int32) : Option (Int32 × Mm) := pfI M l0 12 1 0 fun M2 => pfI M2 l0 12 0 0 fun M7 => ck M7 l0 12 <| bd (f_X12_isGangAt M7 l0 l1) fun v12 M12 => if v12 = 0 then (f_X12_takes_35  M12 l0) else (ck M12 l0 12 <| bd (f_X12_isHouseAt M12 l0 l2) fun v20 M20 => if v20 = 0 then (f_X12_takes_35  M20 l0) else (ck M20 l0 12 <| bd (f_X12_takesOf M20 l0 l1 l2) fun v29 M29 => some (v29, M29)))
set_option maxHeartbeats 4000000 in
set_option maxRecDepth 100000 in
theorem t_X12_takes_35 {G : GG} {X : CX} {ans : Int32 × Mm} (he : EndI G X j_X12_takes b_X12_takes ans) {M : Mm} {l0 : Option Nat} (h : f_X12_takes_35 M l0 = some ans) : Wt G X j_X12_takes b_X12_takes 35 [(0, rf G.1 l0)] [] M 0 0 := by
  unfold f_X12_takes_35 at h
  refine wt_aload_n (pc := 35) 0 dX12_takes_35 rfl ?_
  refine wt_iconst (pc := 36) (v := 2) dX12_takes_36 (by decide) ?_
  refine wt_cVI (pc := 37) (J' := j_X12_refuse) (As := [.int 2]) (st := []) (B' := b_X12_refuse) (u' := 0) (w' := 0) dX12_takes_37 ml_X12_331 mv_X12_refuse (fun v9 M9 e9 => c_X12_refuse e9) rfl (by decide) rfl rfl (by decide) (by decide) (by decide) rfl h (fun v37 M37 h => ?_)
  cases h
  exact he 40 _ _ _ dX12_takes_40 (by decide) (by decide)
set_option maxHeartbeats 4000000 in
set_option maxRecDepth 100000 in
theorem t_X12_takes_e {G : GG} {X : CX} {ans : Int32 × Mm} (he : EndI G X j_X12_takes b_X12_takes ans) {M : Mm} {l0 : Option Nat} {l1 : Int32} {l2 : Int32} (h : f_X12_takes M l0 l1 l2 = some ans) : Wt G X j_X12_takes b_X12_takes 0 [(0, rf G.1 l0), (1, .int l1), (2, .int l2)] [] M 0 0 := by
  unfold f_X12_takes at h
  refine wt_aload_n (pc := 0) 0 dX12_takes_0 rfl ?_
  refine wt_iconst (pc := 1) (v := 0) dX12_takes_1 (by decide) ?_
  refine wt_putI (pc := 2) dX12_takes_2 fl_X12_68 rfl rfl h (fun M2 h => ?_)
  refine wt_aload_n (pc := 5) 0 dX12_takes_5 rfl ?_
  refine wt_iconst (pc := 6) (v := 0) dX12_takes_6 (by decide) ?_
  refine wt_putI (pc := 7) dX12_takes_7 fl_X12_71 rfl rfl h (fun M7 h => ?_)
  refine wt_aload_n (pc := 10) 0 dX12_takes_10 rfl ?_
  refine wt_iload_n (pc := 11) 1 dX12_takes_11 rfl ?_
  refine wt_cVI (pc := 12) (J' := j_X12_isGangAt) (As := [.int l1]) (st := []) (B' := b_X12_isGangAt) (u' := 0) (w' := 0) dX12_takes_12 ml_X12_352 mv_X12_isGangAt (fun v9 M9 e9 => c_X12_isGangAt e9) rfl (by decide) rfl rfl (by decide) (by decide) (by decide) rfl h (fun v12 M12 h => ?_)
  refine wt_if_eq (pc := 15) (tgt := 35) dX12_takes_15 (by decide) (fun q => ?_) (fun q => ?_)
  · have h := ite_t q h
    refine wt_sub (ls' := [(0, rf G.1 l0)]) [0] rfl ?_
    exact t_X12_takes_35 he  h
  · have h := ite_f q h
    refine wt_aload_n (pc := 18) 0 dX12_takes_18 rfl ?_
    refine wt_iload_n (pc := 19) 2 dX12_takes_19 rfl ?_
    refine wt_cVI (pc := 20) (J' := j_X12_isHouseAt) (As := [.int l2]) (st := []) (B' := b_X12_isHouseAt) (u' := 0) (w' := 0) dX12_takes_20 ml_X12_341 mv_X12_isHouseAt (fun v9 M9 e9 => c_X12_isHouseAt e9) rfl (by decide) rfl rfl (by decide) (by decide) (by decide) rfl h (fun v20 M20 h => ?_)
    refine wt_if_eq (pc := 23) (tgt := 35) dX12_takes_23 (by decide) (fun q => ?_) (fun q => ?_)
    · have h := ite_t q h
      refine wt_sub (ls' := [(0, rf G.1 l0)]) [0] rfl ?_
      exact t_X12_takes_35 he  h
    · have h := ite_f q h
      refine wt_aload_n (pc := 26) 0 dX12_takes_26 rfl ?_
      refine wt_iload_n (pc := 27) 1 dX12_takes_27 rfl ?_
      refine wt_iload_n (pc := 28) 2 dX12_takes_28 rfl ?_
      refine wt_cVI (pc := 29) (J' := j_X12_takesOf) (As := [.int l1, .int l2]) (st := []) (B' := b_X12_takesOf) (u' := 0) (w' := 0) dX12_takes_29 ml_X12_357 mv_X12_takesOf (fun v9 M9 e9 => c_X12_takesOf e9) rfl (by decide) rfl rfl (by decide) (by decide) (by decide) rfl h (fun v29 M29 h => ?_)
      refine wt_goto (pc := 32) (tgt := 40) dX12_takes_32 (by decide) ?_
      cases h
      exact he 40 _ _ _ dX12_takes_40 (by decide) (by decide)
set_option maxHeartbeats 4000000 in
set_option maxRecDepth 100000 in
theorem c_X12_takes {G : GG} {M : Mm} {l0 : Option Nat} {l1 : Int32} {l2 : Int32} {r : Int32 × Mm} (h : f_X12_takes M l0 l1 l2 = some r) (l : Launch) : Ct l G j_X12_takes b_X12_takes [rf G.1 l0, .int l1, .int l2] M (some (.int r.1)) r.2 := cf_I (by decide +kernel) (by simp [lg_sl, rf_cat, cat_i, cat_l, j_X12_takes]) rfl (by simp [lv_args, rf_cat, cat_i, cat_l]) (fun X he => t_X12_takes_e he h)
def f_X12_walk_35 (M : Mm) (l0 : Option Nat) : Option (Int32 × Mm) := ck M l0 12 <| bd (f_X12_refuse M l0 2) fun v37 M37 => some (v37, M37)
def f_X12_walk (M : Mm) (l0 : Option Nat) (l1 : Int32) (l2 : Int32) : Option (Int32 × Mm) := pfI M l0 12 1 0 fun M2 => pfI M2 l0 12 0 0 fun M7 => ck M7 l0 12 <| bd (f_X12_isGangAt M7 l0 l1) fun v12 M12 => if v12 = 0 then (f_X12_walk_35  M12 l0) else (ck M12 l0 12 <| bd (f_X12_isHouseAt M12 l0 l2) fun v20 M20 => if v20 = 0 then (f_X12_walk_35  M20 l0) else (ck M20 l0 12 <| bd (f_X12_walkOf M20 l0 l1 l2) fun v29 M29 => some (v29, M29)))
set_option maxHeartbeats 4000000 in
set_option maxRecDepth 100000 in
theorem t_X12_walk_35 {G : GG} {X : CX} {ans : Int32 × Mm} (he : EndI G X j_X12_walk b_X12_walk ans) {M : Mm} {l0 : Option Nat} (h : f_X12_walk_35 M l0 = some ans) : Wt G X j_X12_walk b_X12_walk 35 [(0, rf G.1 l0)] [] M 0 0 := by
  unfold f_X12_walk_35 at h
  refine wt_aload_n (pc := 35) 0 dX12_walk_35 rfl ?_
  refine wt_iconst (pc := 36) (v := 2) dX12_walk_36 (by decide) ?_
  refine wt_cVI (pc := 37) (J' := j_X12_refuse) (As := [.int 2]) (st := []) (B' := b_X12_refuse) (u' := 0) (w' := 0) dX12_walk_37 ml_X12_331 mv_X12_refuse (fun v9 M9 e9 => c_X12_refuse e9) rfl (by decide) rfl rfl (by decide) (by decide) (by decide) rfl h (fun v37 M37 h => ?_)
  cases h
  exact he 40 _ _ _ dX12_walk_40 (by decide) (by decide)
set_option maxHeartbeats 4000000 in
set_option maxRecDepth 100000 in
theorem t_X12_walk_e {G : GG} {X : CX} {ans : Int32 × Mm} (he : EndI G X j_X12_walk b_X12_walk ans) {M : Mm} {l0 : Option Nat} {l1 : Int32} {l2 : Int32} (h : f_X12_walk M l0 l1 l2 = some ans) : Wt G X j_X12_walk b_X12_walk 0 [(0, rf G.1 l0), (1, .int l1), (2, .int l2)] [] M 0 0 := by
  unfold f_X12_walk at h
  refine wt_aload_n (pc := 0) 0 dX12_walk_0 rfl ?_
  refine wt_iconst (pc := 1) (v := 0) dX12_walk_1 (by decide) ?_
  refine wt_putI (pc := 2) dX12_walk_2 fl_X12_68 rfl rfl h (fun M2 h => ?_)
  refine wt_aload_n (pc := 5) 0 dX12_walk_5 rfl ?_
  refine wt_iconst (pc := 6) (v := 0) dX12_walk_6 (by decide) ?_
  refine wt_putI (pc := 7) dX12_walk_7 fl_X12_71 rfl rfl h (fun M7 h => ?_)
  refine wt_aload_n (pc := 10) 0 dX12_walk_10 rfl ?_
  refine wt_iload_n (pc := 11) 1 dX12_walk_11 rfl ?_
  refine wt_cVI (pc := 12) (J' := j_X12_isGangAt) (As := [.int l1]) (st := []) (B' := b_X12_isGangAt) (u' := 0) (w' := 0) dX12_walk_12 ml_X12_352 mv_X12_isGangAt (fun v9 M9 e9 => c_X12_isGangAt e9) rfl (by decide) rfl rfl (by decide) (by decide) (by decide) rfl h (fun v12 M12 h => ?_)
  refine wt_if_eq (pc := 15) (tgt := 35) dX12_walk_15 (by decide) (fun q => ?_) (fun q => ?_)
  · have h := ite_t q h
    refine wt_sub (ls' := [(0, rf G.1 l0)]) [0] rfl ?_
    exact t_X12_walk_35 he  h
  · have h := ite_f q h
    refine wt_aload_n (pc := 18) 0 dX12_walk_18 rfl ?_
    refine wt_iload_n (pc := 19) 2 dX12_walk_19 rfl ?_
    refine wt_cVI (pc := 20) (J' := j_X12_isHouseAt) (As := [.int l2]) (st := []) (B' := b_X12_isHouseAt) (u' := 0) (w' := 0) dX12_walk_20 ml_X12_341 mv_X12_isHouseAt (fun v9 M9 e9 => c_X12_isHouseAt e9) rfl (by decide) rfl rfl (by decide) (by decide) (by decide) rfl h (fun v20 M20 h => ?_)
    refine wt_if_eq (pc := 23) (tgt := 35) dX12_walk_23 (by decide) (fun q => ?_) (fun q => ?_)
    · have h := ite_t q h
      refine wt_sub (ls' := [(0, rf G.1 l0)]) [0] rfl ?_
      exact t_X12_walk_35 he  h
    · have h := ite_f q h
      refine wt_aload_n (pc := 26) 0 dX12_walk_26 rfl ?_
      refine wt_iload_n (pc := 27) 1 dX12_walk_27 rfl ?_
      refine wt_iload_n (pc := 28) 2 dX12_walk_28 rfl ?_
      refine wt_cVI (pc := 29) (J' := j_X12_walkOf) (As := [.int l1, .int l2]) (st := []) (B' := b_X12_walkOf) (u' := 0) (w' := 0) dX12_walk_29 ml_X12_360 mv_X12_walkOf (fun v9 M9 e9 => c_X12_walkOf e9) rfl (by decide) rfl rfl (by decide) (by decide) (by decide) rfl h (fun v29 M29 h => ?_)
      refine wt_goto (pc := 32) (tgt := 40) dX12_walk_32 (by decide) ?_
      cases h
      exact he 40 _ _ _ dX12_walk_40 (by decide) (by decide)
set_option maxHeartbeats 4000000 in
set_option maxRecDepth 100000 in
theorem c_X12_walk {G : GG} {M : Mm} {l0 : Option Nat} {l1 : Int32} {l2 : Int32} {r : Int32 × Mm} (h : f_X12_walk M l0 l1 l2 = some r) (l : Launch) : Ct l G j_X12_walk b_X12_walk [rf G.1 l0, .int l1, .int l2] M (some (.int r.1)) r.2 := cf_I (by decide +kernel) (by simp [lg_sl, rf_cat, cat_i, cat_l, j_X12_walk]) rfl (by simp [lv_args, rf_cat, cat_i, cat_l]) (fun X he => t_X12_walk_e he h)
def f_X12_isTaken_33 (k2 : Mm → Option Nat → Int32 → Int32 → Int32 → Option (Int32 × Mm)) (M : Mm) (l0 : Option Nat) (l1 : Int32) (l2 : Int32) (l3 : Int32) : Option (Int32 × Mm) := k2 M l0 l1 l2 (l3 + 1)
def f_X12_isTaken_2 : Nat → Mm → Option Nat → Int32 → Int32 → Int32 → Option (Int32 × Mm)
  | 0, _, _, _, _, _ => none
  | n + 1, M, l0, l1, l2, l3 => gfR M l0 12 20 fun v4 => alI M v4 21 1 fun v8 => if v8 ≤ l3 then (some (0, M)) else (if l3 = l2 then (f_X12_isTaken_33 (f_X12_isTaken_2 n) M l0 l1 l2 l3) else (gfR M l0 12 20 fun v18 => alI M v18 21 (149 + l3) fun v26 => if v26 = l1 then (some (1, M)) else (f_X12_isTaken_33 (f_X12_isTaken_2 n) M l0 l1 l2 l3)))
def g_X12_isTaken (M : Mm) (l0 : Option Nat) (l1 : Int32) (l2 : Int32) : Option (Int32 × Mm) := f_X12_isTaken_2  fu M l0 l1 l2 0
def f_X12_isTaken (M : Mm) (l0 : Option Nat) (l1 : Int32) (l2 : Int32) : Option (Int32 × Mm) := zc (g_X12_isTaken M l0 l1 l2)
set_option maxHeartbeats 4000000 in
set_option maxRecDepth 100000 in
theorem t_X12_isTaken_33 {G : GG} {X : CX} {ans : Int32 × Mm} (he : EndI G X j_X12_isTaken b_X12_isTaken ans) {k2 : Mm → Option Nat → Int32 → Int32 → Int32 → Option (Int32 × Mm)} (hk2 : ∀ (M : Mm) (a0 : Option Nat) (a1 : Int32) (a2 : Int32) (a3 : Int32), k2 M a0 a1 a2 a3 = some ans → Wt G X j_X12_isTaken b_X12_isTaken 2 [(0, rf G.1 a0), (1, .int a1), (2, .int a2), (3, .int a3)] [] M 0 0) {M : Mm} {l0 : Option Nat} {l1 : Int32} {l2 : Int32} {l3 : Int32} (h : f_X12_isTaken_33 k2 M l0 l1 l2 l3 = some ans) : Wt G X j_X12_isTaken b_X12_isTaken 33 [(0, rf G.1 l0), (1, .int l1), (2, .int l2), (3, .int l3)] [] M 0 0 := by
  unfold f_X12_isTaken_33 at h
  refine wt_iinc (pc := 33) (d := 1) (ls' := [(3, .int (l3 + 1)), (0, rf G.1 l0), (1, .int l1), (2, .int l2)]) 3 dX12_isTaken_33 rfl (by decide) (by decide) rfl ?_
  refine wt_goto (pc := 36) (tgt := 2) dX12_isTaken_36 (by decide) ?_
  refine wt_sub (ls' := [(0, rf G.1 l0), (1, .int l1), (2, .int l2), (3, .int (l3 + 1))]) [1, 2, 3, 0] rfl ?_
  exact hk2 _ _ _ _ _ h
set_option maxHeartbeats 4000000 in
set_option maxRecDepth 100000 in
theorem t_X12_isTaken_2 {G : GG} {X : CX} {ans : Int32 × Mm} (he : EndI G X j_X12_isTaken b_X12_isTaken ans) : ∀ (n : Nat) {M : Mm} {l0 : Option Nat} {l1 : Int32} {l2 : Int32} {l3 : Int32}, f_X12_isTaken_2 n M l0 l1 l2 l3 = some ans → Wt G X j_X12_isTaken b_X12_isTaken 2 [(0, rf G.1 l0), (1, .int l1), (2, .int l2), (3, .int l3)] [] M 0 0 := by
  intro n
  induction n with
  | zero =>
    intro M l0 l1 l2 l3 h
    rw [f_X12_isTaken_2] at h
    cases h
  | succ n ih =>
    intro M l0 l1 l2 l3 h
    rw [f_X12_isTaken_2] at h
    refine wt_iload_n (pc := 2) 3 dX12_isTaken_2 rfl ?_
    refine wt_aload_n (pc := 3) 0 dX12_isTaken_3 rfl ?_
    refine wt_getR (pc := 4) dX12_isTaken_4 fl_X12_35 (fun _ _ _ => rfl) h (fun v4 h => ?_)
    refine wt_iconst (pc := 7) (v := 1) dX12_isTaken_7 (by decide) ?_
    refine wt_iaload (pc := 8) (kd := 21) dX12_isTaken_8 rfl rfl h (fun v8 h => ?_)
    refine wt_icmp_ge (pc := 9) (tgt := 39) dX12_isTaken_9 (by decide) (fun q => ?_) (fun q => ?_)
    · have h := ite_t q h
      refine wt_iconst (pc := 39) (v := 0) dX12_isTaken_39 (by decide) ?_
      cases h
      exact he 40 _ _ _ dX12_isTaken_40 (by decide) (by decide)
    · have h := ite_f q h
      refine wt_iload_n (pc := 12) 3 dX12_isTaken_12 rfl ?_
      refine wt_iload_n (pc := 13) 2 dX12_isTaken_13 rfl ?_
      refine wt_icmp_eq (pc := 14) (tgt := 33) dX12_isTaken_14 (by decide) (fun q => ?_) (fun q => ?_)
      · have h := ite_t q h
        exact t_X12_isTaken_33 he (fun _ _ _ _ _ h => ih h) h
      · have h := ite_f q h
        refine wt_aload_n (pc := 17) 0 dX12_isTaken_17 rfl ?_
        refine wt_getR (pc := 18) dX12_isTaken_18 fl_X12_35 (fun _ _ _ => rfl) h (fun v18 h => ?_)
        refine wt_sipush (pc := 21) (v := 149) dX12_isTaken_21 (by decide) ?_
        refine wt_iload_n (pc := 24) 3 dX12_isTaken_24 rfl ?_
        refine wt_iadd (pc := 25) dX12_isTaken_25 ?_
        refine wt_iaload (pc := 26) (kd := 21) dX12_isTaken_26 rfl rfl h (fun v26 h => ?_)
        refine wt_iload_n (pc := 27) 1 dX12_isTaken_27 rfl ?_
        refine wt_icmp_ne (pc := 28) (tgt := 33) dX12_isTaken_28 (by decide) (fun q => ?_) (fun q => ?_)
        · have h := ite_f q h
          exact t_X12_isTaken_33 he (fun _ _ _ _ _ h => ih h) h
        · have h := ite_t q h
          refine wt_iconst (pc := 31) (v := 1) dX12_isTaken_31 (by decide) ?_
          cases h
          exact he 32 _ _ _ dX12_isTaken_32 (by decide) (by decide)
set_option maxHeartbeats 4000000 in
set_option maxRecDepth 100000 in
theorem t_X12_isTaken_e {G : GG} {X : CX} {ans : Int32 × Mm} (he : EndI G X j_X12_isTaken b_X12_isTaken ans) {M : Mm} {l0 : Option Nat} {l1 : Int32} {l2 : Int32} (h : g_X12_isTaken M l0 l1 l2 = some ans) : Wt G X j_X12_isTaken b_X12_isTaken 0 [(0, rf G.1 l0), (1, .int l1), (2, .int l2)] [] M 0 0 := by
  unfold g_X12_isTaken at h
  refine wt_iconst (pc := 0) (v := 0) dX12_isTaken_0 (by decide) ?_
  refine wt_istore_n (pc := 1) (i := 3) (ls' := [(3, .int 0), (0, rf G.1 l0), (1, .int l1), (2, .int l2)]) rfl dX12_isTaken_1 (by decide) rfl ?_
  refine wt_sub (ls' := [(0, rf G.1 l0), (1, .int l1), (2, .int l2), (3, .int 0)]) [1, 2, 3, 0] rfl ?_
  exact t_X12_isTaken_2 he  fu h
set_option maxHeartbeats 4000000 in
set_option maxRecDepth 100000 in
theorem c_X12_isTaken {G : GG} {M : Mm} {l0 : Option Nat} {l1 : Int32} {l2 : Int32} {r : Int32 × Mm} (h : f_X12_isTaken M l0 l1 l2 = some r) (l : Launch) : Ct l G j_X12_isTaken b_X12_isTaken [rf G.1 l0, .int l1, .int l2] M (some (.int r.1)) r.2 := cf_Z h (by decide +kernel) (by simp [lg_sl, rf_cat, cat_i, cat_l, j_X12_isTaken]) rfl (by simp [lv_args, rf_cat, cat_i, cat_l]) (fun h X he => t_X12_isTaken_e he h)
def f_X12_lateness (M : Mm) (l0 : Option Nat) (l1 : Int32) (l2 : Int32) : Option (Int32 × Mm) := gfR M l0 12 20 fun v1 => alI M v1 21 3 fun v5 => if v5 = 0 then (gfR M l0 12 20 fun v10 => alI M v10 21 (13 + l2) fun v17 => some ((-v17), M)) else (gfR M l0 12 20 fun v21 => alI M v21 21 3 fun v25 => if v25 = 1 then (ck M l0 12 <| bd (f_X12_dueOf M l0 l2) fun v32 M32 => some ((-v32), M32)) else (gfR M l0 12 20 fun v38 => alI M v38 21 3 fun v42 => if v42 = 2 then (gfR M l0 12 20 fun v48 => alI M v48 21 (145 + l1) fun v56 => gfR M l0 12 20 fun v58 => alI M v58 21 (5 + l2) fun v64 => some ((abI (v56 - v64)), M)) else (some (0, M))))
set_option maxHeartbeats 4000000 in
set_option maxRecDepth 100000 in
theorem t_X12_lateness_e {G : GG} {X : CX} {ans : Int32 × Mm} (he : EndI G X j_X12_lateness b_X12_lateness ans) {M : Mm} {l0 : Option Nat} {l1 : Int32} {l2 : Int32} (h : f_X12_lateness M l0 l1 l2 = some ans) : Wt G X j_X12_lateness b_X12_lateness 0 [(0, rf G.1 l0), (1, .int l1), (2, .int l2)] [] M 0 0 := by
  unfold f_X12_lateness at h
  refine wt_aload_n (pc := 0) 0 dX12_lateness_0 rfl ?_
  refine wt_getR (pc := 1) dX12_lateness_1 fl_X12_35 (fun _ _ _ => rfl) h (fun v1 h => ?_)
  refine wt_iconst (pc := 4) (v := 3) dX12_lateness_4 (by decide) ?_
  refine wt_iaload (pc := 5) (kd := 21) dX12_lateness_5 rfl rfl h (fun v5 h => ?_)
  refine wt_if_ne (pc := 6) (tgt := 20) dX12_lateness_6 (by decide) (fun q => ?_) (fun q => ?_)
  · have h := ite_f q h
    refine wt_aload_n (pc := 20) 0 dX12_lateness_20 rfl ?_
    refine wt_getR (pc := 21) dX12_lateness_21 fl_X12_35 (fun _ _ _ => rfl) h (fun v21 h => ?_)
    refine wt_iconst (pc := 24) (v := 3) dX12_lateness_24 (by decide) ?_
    refine wt_iaload (pc := 25) (kd := 21) dX12_lateness_25 rfl rfl h (fun v25 h => ?_)
    refine wt_iconst (pc := 26) (v := 1) dX12_lateness_26 (by decide) ?_
    refine wt_icmp_ne (pc := 27) (tgt := 37) dX12_lateness_27 (by decide) (fun q => ?_) (fun q => ?_)
    · have h := ite_f q h
      refine wt_aload_n (pc := 37) 0 dX12_lateness_37 rfl ?_
      refine wt_getR (pc := 38) dX12_lateness_38 fl_X12_35 (fun _ _ _ => rfl) h (fun v38 h => ?_)
      refine wt_iconst (pc := 41) (v := 3) dX12_lateness_41 (by decide) ?_
      refine wt_iaload (pc := 42) (kd := 21) dX12_lateness_42 rfl rfl h (fun v42 h => ?_)
      refine wt_iconst (pc := 43) (v := 2) dX12_lateness_43 (by decide) ?_
      refine wt_icmp_ne (pc := 44) (tgt := 72) dX12_lateness_44 (by decide) (fun q => ?_) (fun q => ?_)
      · have h := ite_f q h
        refine wt_iconst (pc := 72) (v := 0) dX12_lateness_72 (by decide) ?_
        cases h
        exact he 73 _ _ _ dX12_lateness_73 (by decide) (by decide)
      · have h := ite_t q h
        refine wt_aload_n (pc := 47) 0 dX12_lateness_47 rfl ?_
        refine wt_getR (pc := 48) dX12_lateness_48 fl_X12_35 (fun _ _ _ => rfl) h (fun v48 h => ?_)
        refine wt_sipush (pc := 51) (v := 145) dX12_lateness_51 (by decide) ?_
        refine wt_iload_n (pc := 54) 1 dX12_lateness_54 rfl ?_
        refine wt_iadd (pc := 55) dX12_lateness_55 ?_
        refine wt_iaload (pc := 56) (kd := 21) dX12_lateness_56 rfl rfl h (fun v56 h => ?_)
        refine wt_aload_n (pc := 57) 0 dX12_lateness_57 rfl ?_
        refine wt_getR (pc := 58) dX12_lateness_58 fl_X12_35 (fun _ _ _ => rfl) h (fun v58 h => ?_)
        refine wt_iconst (pc := 61) (v := 5) dX12_lateness_61 (by decide) ?_
        refine wt_iload_n (pc := 62) 2 dX12_lateness_62 rfl ?_
        refine wt_iadd (pc := 63) dX12_lateness_63 ?_
        refine wt_iaload (pc := 64) (kd := 21) dX12_lateness_64 rfl rfl h (fun v64 h => ?_)
        refine wt_isub (pc := 65) dX12_lateness_65 ?_
        refine wt_mabs (pc := 66) dX12_lateness_66 bi_X12_327 mw_abs.1 mw_abs.2.1 mw_abs.2.2 (by decide) (by decide) (by decide) (by decide) ?_
        refine wt_goto (pc := 69) (tgt := 73) dX12_lateness_69 (by decide) ?_
        cases h
        exact he 73 _ _ _ dX12_lateness_73 (by decide) (by decide)
    · have h := ite_t q h
      refine wt_aload_n (pc := 30) 0 dX12_lateness_30 rfl ?_
      refine wt_iload_n (pc := 31) 2 dX12_lateness_31 rfl ?_
      refine wt_cVI (pc := 32) (J' := j_X12_dueOf) (As := [.int l2]) (st := []) (B' := b_X12_dueOf) (u' := 0) (w' := 0) dX12_lateness_32 ml_X12_346 mv_X12_dueOf (fun v9 M9 e9 => c_X12_dueOf e9) rfl (by decide) rfl rfl (by decide) (by decide) (by decide) rfl h (fun v32 M32 h => ?_)
      refine wt_ineg (pc := 35) dX12_lateness_35 ?_
      cases h
      exact he 36 _ _ _ dX12_lateness_36 (by decide) (by decide)
  · have h := ite_t q h
    refine wt_aload_n (pc := 9) 0 dX12_lateness_9 rfl ?_
    refine wt_getR (pc := 10) dX12_lateness_10 fl_X12_35 (fun _ _ _ => rfl) h (fun v10 h => ?_)
    refine wt_bipush (pc := 13) (v := 13) dX12_lateness_13 (by decide) ?_
    refine wt_iload_n (pc := 15) 2 dX12_lateness_15 rfl ?_
    refine wt_iadd (pc := 16) dX12_lateness_16 ?_
    refine wt_iaload (pc := 17) (kd := 21) dX12_lateness_17 rfl rfl h (fun v17 h => ?_)
    refine wt_ineg (pc := 18) dX12_lateness_18 ?_
    cases h
    exact he 19 _ _ _ dX12_lateness_19 (by decide) (by decide)
set_option maxHeartbeats 4000000 in
set_option maxRecDepth 100000 in
theorem c_X12_lateness {G : GG} {M : Mm} {l0 : Option Nat} {l1 : Int32} {l2 : Int32} {r : Int32 × Mm} (h : f_X12_lateness M l0 l1 l2 = some r) (l : Launch) : Ct l G j_X12_lateness b_X12_lateness [rf G.1 l0, .int l1, .int l2] M (some (.int r.1)) r.2 := cf_I (by decide +kernel) (by simp [lg_sl, rf_cat, cat_i, cat_l, j_X12_lateness]) rfl (by simp [lv_args, rf_cat, cat_i, cat_l]) (fun X he => t_X12_lateness_e he h)
def f_X12_chosenBy_52 (k4 : Mm → Option Nat → Int32 → Int32 → Int32 → Option (Int32 × Mm)) (M : Mm) (l0 : Option Nat) (l1 : Int32) (l2 : Int32) (l3 : Int32) : Option (Int32 × Mm) := k4 M l0 l1 l2 (l3 + 1)
def f_X12_chosenBy_50 (k4 : Mm → Option Nat → Int32 → Int32 → Int32 → Option (Int32 × Mm)) (M : Mm) (l0 : Option Nat) (l1 : Int32) (l3 : Int32) : Option (Int32 × Mm) := f_X12_chosenBy_52 k4 M l0 l1 l3 l3
def f_X12_chosenBy_4 : Nat → Mm → Option Nat → Int32 → Int32 → Int32 → Option (Int32 × Mm)
  | 0, _, _, _, _, _ => none
  | n + 1, M, l0, l1, l2, l3 => gfR M l0 12 20 fun v6 => alI M v6 21 0 fun v10 => if v10 ≤ l3 then (some (l2, M)) else (ck M l0 12 <| bd (f_X12_isOn M l0 l3) fun v16 M16 => if v16 = 0 then (f_X12_chosenBy_52 (f_X12_chosenBy_4 n) M16 l0 l1 l2 l3) else (ck M16 l0 12 <| bd (f_X12_isTaken M16 l0 l3 l1) fun v25 M25 => if v25 = 0 then (if l2 < 0 then (f_X12_chosenBy_50 (f_X12_chosenBy_4 n) M25 l0 l1 l3) else (ck M25 l0 12 <| bd (f_X12_lateness M25 l0 l1 l3) fun v38 M38 => ck M38 l0 12 <| bd (f_X12_lateness M38 l0 l1 l2) fun v44 M44 => if v44 ≤ v38 then (f_X12_chosenBy_52 (f_X12_chosenBy_4 n) M44 l0 l1 l2 l3) else (f_X12_chosenBy_50 (f_X12_chosenBy_4 n) M44 l0 l1 l3))) else (f_X12_chosenBy_52 (f_X12_chosenBy_4 n) M25 l0 l1 l2 l3)))
def f_X12_chosenBy (M : Mm) (l0 : Option Nat) (l1 : Int32) : Option (Int32 × Mm) := f_X12_chosenBy_4  fu M l0 l1 (-1) 0
set_option maxHeartbeats 4000000 in
set_option maxRecDepth 100000 in
theorem t_X12_chosenBy_52 {G : GG} {X : CX} {ans : Int32 × Mm} (he : EndI G X j_X12_chosenBy b_X12_chosenBy ans) {k4 : Mm → Option Nat → Int32 → Int32 → Int32 → Option (Int32 × Mm)} (hk4 : ∀ (M : Mm) (a0 : Option Nat) (a1 : Int32) (a2 : Int32) (a3 : Int32), k4 M a0 a1 a2 a3 = some ans → Wt G X j_X12_chosenBy b_X12_chosenBy 4 [(0, rf G.1 a0), (1, .int a1), (2, .int a2), (3, .int a3)] [] M 0 0) {M : Mm} {l0 : Option Nat} {l1 : Int32} {l2 : Int32} {l3 : Int32} (h : f_X12_chosenBy_52 k4 M l0 l1 l2 l3 = some ans) : Wt G X j_X12_chosenBy b_X12_chosenBy 52 [(0, rf G.1 l0), (1, .int l1), (2, .int l2), (3, .int l3)] [] M 0 0 := by
  unfold f_X12_chosenBy_52 at h
  refine wt_iinc (pc := 52) (d := 1) (ls' := [(3, .int (l3 + 1)), (0, rf G.1 l0), (1, .int l1), (2, .int l2)]) 3 dX12_chosenBy_52 rfl (by decide) (by decide) rfl ?_
  refine wt_goto (pc := 55) (tgt := 4) dX12_chosenBy_55 (by decide) ?_
  refine wt_sub (ls' := [(0, rf G.1 l0), (1, .int l1), (2, .int l2), (3, .int (l3 + 1))]) [1, 2, 3, 0] rfl ?_
  exact hk4 _ _ _ _ _ h
set_option maxHeartbeats 4000000 in
set_option maxRecDepth 100000 in
theorem t_X12_chosenBy_50 {G : GG} {X : CX} {ans : Int32 × Mm} (he : EndI G X j_X12_chosenBy b_X12_chosenBy ans) {k4 : Mm → Option Nat → Int32 → Int32 → Int32 → Option (Int32 × Mm)} (hk4 : ∀ (M : Mm) (a0 : Option Nat) (a1 : Int32) (a2 : Int32) (a3 : Int32), k4 M a0 a1 a2 a3 = some ans → Wt G X j_X12_chosenBy b_X12_chosenBy 4 [(0, rf G.1 a0), (1, .int a1), (2, .int a2), (3, .int a3)] [] M 0 0) {M : Mm} {l0 : Option Nat} {l1 : Int32} {l3 : Int32} (h : f_X12_chosenBy_50 k4 M l0 l1 l3 = some ans) : Wt G X j_X12_chosenBy b_X12_chosenBy 50 [(0, rf G.1 l0), (1, .int l1), (3, .int l3)] [] M 0 0 := by
  unfold f_X12_chosenBy_50 at h
  refine wt_iload_n (pc := 50) 2 dX12_chosenBy_50 rfl ?_
  refine wt_istore_n (pc := 51) (i := 2) (ls' := [(2, .int l3), (0, rf G.1 l0), (1, .int l1), (3, .int l3)]) rfl dX12_chosenBy_51 (by decide) rfl ?_
  refine wt_sub (ls' := [(0, rf G.1 l0), (1, .int l1), (2, .int l3), (3, .int l3)]) [1, 2, 0, 3] rfl ?_
  exact t_X12_chosenBy_52 he (fun _ _ _ _ _ h => hk4 _ _ _ _ _ h) h
set_option maxHeartbeats 4000000 in
set_option maxRecDepth 100000 in
theorem t_X12_chosenBy_4 {G : GG} {X : CX} {ans : Int32 × Mm} (he : EndI G X j_X12_chosenBy b_X12_chosenBy ans) : ∀ (n : Nat) {M : Mm} {l0 : Option Nat} {l1 : Int32} {l2 : Int32} {l3 : Int32}, f_X12_chosenBy_4 n M l0 l1 l2 l3 = some ans → Wt G X j_X12_chosenBy b_X12_chosenBy 4 [(0, rf G.1 l0), (1, .int l1), (2, .int l2), (3, .int l3)] [] M 0 0 := by
  intro n
  induction n with
  | zero =>
    intro M l0 l1 l2 l3 h
    rw [f_X12_chosenBy_4] at h
    cases h
  | succ n ih =>
    intro M l0 l1 l2 l3 h
    rw [f_X12_chosenBy_4] at h
    refine wt_iload_n (pc := 4) 3 dX12_chosenBy_4 rfl ?_
    refine wt_aload_n (pc := 5) 0 dX12_chosenBy_5 rfl ?_
    refine wt_getR (pc := 6) dX12_chosenBy_6 fl_X12_35 (fun _ _ _ => rfl) h (fun v6 h => ?_)
    refine wt_iconst (pc := 9) (v := 0) dX12_chosenBy_9 (by decide) ?_
    refine wt_iaload (pc := 10) (kd := 21) dX12_chosenBy_10 rfl rfl h (fun v10 h => ?_)
    refine wt_icmp_ge (pc := 11) (tgt := 58) dX12_chosenBy_11 (by decide) (fun q => ?_) (fun q => ?_)
    · have h := ite_t q h
      refine wt_iload_n (pc := 58) 2 dX12_chosenBy_58 rfl ?_
      cases h
      exact he 59 _ _ _ dX12_chosenBy_59 (by decide) (by decide)
    · have h := ite_f q h
      refine wt_aload_n (pc := 14) 0 dX12_chosenBy_14 rfl ?_
      refine wt_iload_n (pc := 15) 3 dX12_chosenBy_15 rfl ?_
      refine wt_cVI (pc := 16) (J' := j_X12_isOn) (As := [.int l3]) (st := []) (B' := b_X12_isOn) (u' := 0) (w' := 0) dX12_chosenBy_16 ml_X12_363 mv_X12_isOn (fun v9 M9 e9 => c_X12_isOn e9) rfl (by decide) rfl rfl (by decide) (by decide) (by decide) rfl h (fun v16 M16 h => ?_)
      refine wt_if_eq (pc := 19) (tgt := 52) dX12_chosenBy_19 (by decide) (fun q => ?_) (fun q => ?_)
      · have h := ite_t q h
        exact t_X12_chosenBy_52 he (fun _ _ _ _ _ h => ih h) h
      · have h := ite_f q h
        refine wt_aload_n (pc := 22) 0 dX12_chosenBy_22 rfl ?_
        refine wt_iload_n (pc := 23) 3 dX12_chosenBy_23 rfl ?_
        refine wt_iload_n (pc := 24) 1 dX12_chosenBy_24 rfl ?_
        refine wt_cVI (pc := 25) (J' := j_X12_isTaken) (As := [.int l3, .int l1]) (st := []) (B' := b_X12_isTaken) (u' := 0) (w' := 0) dX12_chosenBy_25 ml_X12_366 mv_X12_isTaken (fun v9 M9 e9 => c_X12_isTaken e9) rfl (by decide) rfl rfl (by decide) (by decide) (by decide) rfl h (fun v25 M25 h => ?_)
        refine wt_if_ne (pc := 28) (tgt := 52) dX12_chosenBy_28 (by decide) (fun q => ?_) (fun q => ?_)
        · have h := ite_f q h
          exact t_X12_chosenBy_52 he (fun _ _ _ _ _ h => ih h) h
        · have h := ite_t q h
          refine wt_iload_n (pc := 31) 2 dX12_chosenBy_31 rfl ?_
          refine wt_if_lt (pc := 32) (tgt := 50) dX12_chosenBy_32 (by decide) (fun q => ?_) (fun q => ?_)
          · have h := ite_t q h
            refine wt_sub (ls' := [(0, rf G.1 l0), (1, .int l1), (3, .int l3)]) [0, 1, 3] rfl ?_
            exact t_X12_chosenBy_50 he (fun _ _ _ _ _ h => ih h) h
          · have h := ite_f q h
            refine wt_aload_n (pc := 35) 0 dX12_chosenBy_35 rfl ?_
            refine wt_iload_n (pc := 36) 1 dX12_chosenBy_36 rfl ?_
            refine wt_iload_n (pc := 37) 3 dX12_chosenBy_37 rfl ?_
            refine wt_cVI (pc := 38) (J' := j_X12_lateness) (As := [.int l1, .int l3]) (st := []) (B' := b_X12_lateness) (u' := 0) (w' := 0) dX12_chosenBy_38 ml_X12_369 mv_X12_lateness (fun v9 M9 e9 => c_X12_lateness e9) rfl (by decide) rfl rfl (by decide) (by decide) (by decide) rfl h (fun v38 M38 h => ?_)
            refine wt_aload_n (pc := 41) 0 dX12_chosenBy_41 rfl ?_
            refine wt_iload_n (pc := 42) 1 dX12_chosenBy_42 rfl ?_
            refine wt_iload_n (pc := 43) 2 dX12_chosenBy_43 rfl ?_
            refine wt_cVI (pc := 44) (J' := j_X12_lateness) (As := [.int l1, .int l2]) (st := [.int v38]) (B' := b_X12_lateness) (u' := 0) (w' := 0) dX12_chosenBy_44 ml_X12_369 mv_X12_lateness (fun v9 M9 e9 => c_X12_lateness e9) rfl (by decide) rfl rfl (by decide) (by decide) (by simp [rf_cat, cat_i, cat_l, cat_r]) rfl h (fun v44 M44 h => ?_)
            refine wt_icmp_ge (pc := 47) (tgt := 52) dX12_chosenBy_47 (by decide) (fun q => ?_) (fun q => ?_)
            · have h := ite_t q h
              exact t_X12_chosenBy_52 he (fun _ _ _ _ _ h => ih h) h
            · have h := ite_f q h
              refine wt_sub (ls' := [(0, rf G.1 l0), (1, .int l1), (3, .int l3)]) [0, 1, 3] rfl ?_
              exact t_X12_chosenBy_50 he (fun _ _ _ _ _ h => ih h) h
set_option maxHeartbeats 4000000 in
set_option maxRecDepth 100000 in
theorem t_X12_chosenBy_e {G : GG} {X : CX} {ans : Int32 × Mm} (he : EndI G X j_X12_chosenBy b_X12_chosenBy ans) {M : Mm} {l0 : Option Nat} {l1 : Int32} (h : f_X12_chosenBy M l0 l1 = some ans) : Wt G X j_X12_chosenBy b_X12_chosenBy 0 [(0, rf G.1 l0), (1, .int l1)] [] M 0 0 := by
  unfold f_X12_chosenBy at h
  refine wt_iconst (pc := 0) (v := (-1)) dX12_chosenBy_0 (by decide) ?_
  refine wt_istore_n (pc := 1) (i := 2) (ls' := [(2, .int (-1)), (0, rf G.1 l0), (1, .int l1)]) rfl dX12_chosenBy_1 (by decide) rfl ?_
  refine wt_iconst (pc := 2) (v := 0) dX12_chosenBy_2 (by decide) ?_
  refine wt_istore_n (pc := 3) (i := 3) (ls' := [(3, .int 0), (2, .int (-1)), (0, rf G.1 l0), (1, .int l1)]) rfl dX12_chosenBy_3 (by decide) rfl ?_
  refine wt_sub (ls' := [(0, rf G.1 l0), (1, .int l1), (2, .int (-1)), (3, .int 0)]) [2, 3, 1, 0] rfl ?_
  exact t_X12_chosenBy_4 he  fu h
set_option maxHeartbeats 4000000 in
set_option maxRecDepth 100000 in
theorem c_X12_chosenBy {G : GG} {M : Mm} {l0 : Option Nat} {l1 : Int32} {r : Int32 × Mm} (h : f_X12_chosenBy M l0 l1 = some r) (l : Launch) : Ct l G j_X12_chosenBy b_X12_chosenBy [rf G.1 l0, .int l1] M (some (.int r.1)) r.2 := cf_I (by decide +kernel) (by simp [lg_sl, rf_cat, cat_i, cat_l, j_X12_chosenBy]) rfl (by simp [lv_args, rf_cat, cat_i, cat_l]) (fun X he => t_X12_chosenBy_e he h)

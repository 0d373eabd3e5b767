theorem dX12_worthIn_0 : decode cX12_worthIn 0 = .ok (.iconst 0, 1) := by decide +kernel
theorem dX12_worthIn_1 : decode cX12_worthIn 1 = .ok (.istore_n 2, 1) := by decide +kernel
theorem dX12_worthIn_2 : decode cX12_worthIn 2 = .ok (.iconst 0, 1) := by decide +kernel
theorem dX12_worthIn_3 : decode cX12_worthIn 3 = .ok (.istore_n 3, 1) := by decide +kernel
theorem dX12_worthIn_4 : decode cX12_worthIn 4 = .ok (.iload_n 3, 1) := by decide +kernel
theorem dX12_worthIn_5 : decode cX12_worthIn 5 = .ok (.aload_n 0, 1) := by decide +kernel
theorem dX12_worthIn_6 : decode cX12_worthIn 6 = .ok (.getfield 35, 3) := by decide +kernel
theorem dX12_worthIn_9 : decode cX12_worthIn 9 = .ok (.iconst 0, 1) := by decide +kernel
theorem dX12_worthIn_10 : decode cX12_worthIn 10 = .ok (.iaload, 1) := by decide +kernel
theorem dX12_worthIn_11 : decode cX12_worthIn 11 = .ok (.if_icmp .ge 33, 3) := by decide +kernel
theorem dX12_worthIn_14 : decode cX12_worthIn 14 = .ok (.iload_n 2, 1) := by decide +kernel
theorem dX12_worthIn_15 : decode cX12_worthIn 15 = .ok (.iload_n 1, 1) := by decide +kernel
theorem dX12_worthIn_16 : decode cX12_worthIn 16 = .ok (.iload_n 3, 1) := by decide +kernel
theorem dX12_worthIn_17 : decode cX12_worthIn 17 = .ok (.invokestatic 107, 3) := by decide +kernel
theorem dX12_worthIn_20 : decode cX12_worthIn 20 = .ok (.ifCond .eq 15, 3) := by decide +kernel
theorem dX12_worthIn_23 : decode cX12_worthIn 23 = .ok (.aload_n 0, 1) := by decide +kernel
theorem dX12_worthIn_24 : decode cX12_worthIn 24 = .ok (.getfield 35, 3) := by decide +kernel
theorem dX12_worthIn_27 : decode cX12_worthIn 27 = .ok (.bipush 13, 2) := by decide +kernel
theorem dX12_worthIn_29 : decode cX12_worthIn 29 = .ok (.iload_n 3, 1) := by decide +kernel
theorem dX12_worthIn_30 : decode cX12_worthIn 30 = .ok (.iadd, 1) := by decide +kernel
theorem dX12_worthIn_31 : decode cX12_worthIn 31 = .ok (.iaload, 1) := by decide +kernel
theorem dX12_worthIn_32 : decode cX12_worthIn 32 = .ok (.goto 4, 3) := by decide +kernel
theorem dX12_worthIn_35 : decode cX12_worthIn 35 = .ok (.iconst 0, 1) := by decide +kernel
theorem dX12_worthIn_36 : decode cX12_worthIn 36 = .ok (.iadd, 1) := by decide +kernel
theorem dX12_worthIn_37 : decode cX12_worthIn 37 = .ok (.istore_n 2, 1) := by decide +kernel
theorem dX12_worthIn_38 : decode cX12_worthIn 38 = .ok (.iinc 3 1, 3) := by decide +kernel
theorem dX12_worthIn_41 : decode cX12_worthIn 41 = .ok (.goto (-37), 3) := by decide +kernel
theorem dX12_worthIn_44 : decode cX12_worthIn 44 = .ok (.iload_n 2, 1) := by decide +kernel
theorem dX12_worthIn_45 : decode cX12_worthIn 45 = .ok (.ireturn, 1) := by decide +kernel
def j_X12_worthIn : JD := (yX12_worthIn, cX12_worthIn, 4, (some .int))
def b_X12_worthIn : BD := (1, 0, 0)
theorem dX12_worstWind_0 : decode cX12_worstWind 0 = .ok (.aload_n 0, 1) := by decide +kernel
theorem dX12_worstWind_1 : decode cX12_worstWind 1 = .ok (.iconst 0, 1) := by decide +kernel
theorem dX12_worstWind_2 : decode cX12_worstWind 2 = .ok (.putfield 68, 3) := by decide +kernel
theorem dX12_worstWind_5 : decode cX12_worstWind 5 = .ok (.aload_n 0, 1) := by decide +kernel
theorem dX12_worstWind_6 : decode cX12_worstWind 6 = .ok (.iconst 0, 1) := by decide +kernel
theorem dX12_worstWind_7 : decode cX12_worstWind 7 = .ok (.putfield 71, 3) := by decide +kernel
theorem dX12_worstWind_10 : decode cX12_worstWind 10 = .ok (.iconst (-1), 1) := by decide +kernel
theorem dX12_worstWind_11 : decode cX12_worstWind 11 = .ok (.istore_n 1, 1) := by decide +kernel
theorem dX12_worstWind_12 : decode cX12_worstWind 12 = .ok (.iconst 0, 1) := by decide +kernel
theorem dX12_worstWind_13 : decode cX12_worstWind 13 = .ok (.istore_n 2, 1) := by decide +kernel
theorem dX12_worstWind_14 : decode cX12_worstWind 14 = .ok (.iload_n 2, 1) := by decide +kernel
theorem dX12_worstWind_15 : decode cX12_worstWind 15 = .ok (.aload_n 0, 1) := by decide +kernel
theorem dX12_worstWind_16 : decode cX12_worstWind 16 = .ok (.getfield 35, 3) := by decide +kernel
theorem dX12_worstWind_19 : decode cX12_worstWind 19 = .ok (.iconst 2, 1) := by decide +kernel
theorem dX12_worstWind_20 : decode cX12_worstWind 20 = .ok (.iaload, 1) := by decide +kernel
theorem dX12_worstWind_21 : decode cX12_worstWind 21 = .ok (.if_icmp .ge 54, 3) := by decide +kernel
theorem dX12_worstWind_24 : decode cX12_worstWind 24 = .ok (.iload_n 1, 1) := by decide +kernel
theorem dX12_worstWind_25 : decode cX12_worstWind 25 = .ok (.ifCond .lt 42, 3) := by decide +kernel
theorem dX12_worstWind_28 : decode cX12_worstWind 28 = .ok (.aload_n 0, 1) := by decide +kernel
theorem dX12_worstWind_29 : decode cX12_worstWind 29 = .ok (.aload_n 0, 1) := by decide +kernel
theorem dX12_worstWind_30 : decode cX12_worstWind 30 = .ok (.aload_n 0, 1) := by decide +kernel
theorem dX12_worstWind_31 : decode cX12_worstWind 31 = .ok (.getfield 35, 3) := by decide +kernel
theorem dX12_worstWind_34 : decode cX12_worstWind 34 = .ok (.sipush 161, 3) := by decide +kernel
theorem dX12_worstWind_37 : decode cX12_worstWind 37 = .ok (.iload_n 2, 1) := by decide +kernel
theorem dX12_worstWind_38 : decode cX12_worstWind 38 = .ok (.iadd, 1) := by decide +kernel
theorem dX12_worstWind_39 : decode cX12_worstWind 39 = .ok (.iaload, 1) := by decide +kernel
theorem dX12_worstWind_40 : decode cX12_worstWind 40 = .ok (.invokevirtual 398, 3) := by decide +kernel
theorem dX12_worstWind_43 : decode cX12_worstWind 43 = .ok (.invokevirtual 428, 3) := by decide +kernel
theorem dX12_worstWind_46 : decode cX12_worstWind 46 = .ok (.aload_n 0, 1) := by decide +kernel
theorem dX12_worstWind_47 : decode cX12_worstWind 47 = .ok (.aload_n 0, 1) := by decide +kernel
theorem dX12_worstWind_48 : decode cX12_worstWind 48 = .ok (.aload_n 0, 1) := by decide +kernel
theorem dX12_worstWind_49 : decode cX12_worstWind 49 = .ok (.getfield 35, 3) := by decide +kernel
theorem dX12_worstWind_52 : decode cX12_worstWind 52 = .ok (.sipush 161, 3) := by decide +kernel
theorem dX12_worstWind_55 : decode cX12_worstWind 55 = .ok (.iload_n 1, 1) := by decide +kernel
theorem dX12_worstWind_56 : decode cX12_worstWind 56 = .ok (.iadd, 1) := by decide +kernel
theorem dX12_worstWind_57 : decode cX12_worstWind 57 = .ok (.iaload, 1) := by decide +kernel
theorem dX12_worstWind_58 : decode cX12_worstWind 58 = .ok (.invokevirtual 398, 3) := by decide +kernel
theorem dX12_worstWind_61 : decode cX12_worstWind 61 = .ok (.invokevirtual 428, 3) := by decide +kernel
theorem dX12_worstWind_64 : decode cX12_worstWind 64 = .ok (.if_icmp .le 5, 3) := by decide +kernel
theorem dX12_worstWind_67 : decode cX12_worstWind 67 = .ok (.iload_n 2, 1) := by decide +kernel
theorem dX12_worstWind_68 : decode cX12_worstWind 68 = .ok (.istore_n 1, 1) := by decide +kernel
theorem dX12_worstWind_69 : decode cX12_worstWind 69 = .ok (.iinc 2 1, 3) := by decide +kernel
theorem dX12_worstWind_72 : decode cX12_worstWind 72 = .ok (.goto (-58), 3) := by decide +kernel
theorem dX12_worstWind_75 : decode cX12_worstWind 75 = .ok (.iload_n 1, 1) := by decide +kernel
theorem dX12_worstWind_76 : decode cX12_worstWind 76 = .ok (.ifCond .ge 12, 3) := by decide +kernel
theorem dX12_worstWind_79 : decode cX12_worstWind 79 = .ok (.aload_n 0, 1) := by decide +kernel
theorem dX12_worstWind_80 : decode cX12_worstWind 80 = .ok (.bipush 8, 2) := by decide +kernel
theorem dX12_worstWind_82 : decode cX12_worstWind 82 = .ok (.invokevirtual 331, 3) := by decide +kernel
theorem dX12_worstWind_85 : decode cX12_worstWind 85 = .ok (.goto 4, 3) := by decide +kernel
theorem dX12_worstWind_88 : decode cX12_worstWind 88 = .ok (.iload_n 1, 1) := by decide +kernel
theorem dX12_worstWind_89 : decode cX12_worstWind 89 = .ok (.ireturn, 1) := by decide +kernel
def j_X12_worstWind : JD := (yX12_worstWind, cX12_worstWind, 3, (some .int))
def b_X12_worstWind : BD := (3, 0, 0)
theorem dX12_onSet_0 : decode cX12_onSet 0 = .ok (.iconst 0, 1) := by decide +kernel
theorem dX12_onSet_1 : decode cX12_onSet 1 = .ok (.istore_n 1, 1) := by decide +kernel
theorem dX12_onSet_2 : decode cX12_onSet 2 = .ok (.iconst 0, 1) := by decide +kernel
theorem dX12_onSet_3 : decode cX12_onSet 3 = .ok (.istore_n 2, 1) := by decide +kernel
theorem dX12_onSet_4 : decode cX12_onSet 4 = .ok (.iload_n 2, 1) := by decide +kernel
theorem dX12_onSet_5 : decode cX12_onSet 5 = .ok (.aload_n 0, 1) := by decide +kernel
theorem dX12_onSet_6 : decode cX12_onSet 6 = .ok (.getfield 35, 3) := by decide +kernel
theorem dX12_onSet_9 : decode cX12_onSet 9 = .ok (.iconst 0, 1) := by decide +kernel
theorem dX12_onSet_10 : decode cX12_onSet 10 = .ok (.iaload, 1) := by decide +kernel
theorem dX12_onSet_11 : decode cX12_onSet 11 = .ok (.if_icmp .ge 27, 3) := by decide +kernel
theorem dX12_onSet_14 : decode cX12_onSet 14 = .ok (.iload_n 1, 1) := by decide +kernel
theorem dX12_onSet_15 : decode cX12_onSet 15 = .ok (.aload_n 0, 1) := by decide +kernel
theorem dX12_onSet_16 : decode cX12_onSet 16 = .ok (.iload_n 2, 1) := by decide +kernel
theorem dX12_onSet_17 : decode cX12_onSet 17 = .ok (.invokevirtual 363, 3) := by decide +kernel
theorem dX12_onSet_20 : decode cX12_onSet 20 = .ok (.ifCond .eq 9, 3) := by decide +kernel
theorem dX12_onSet_23 : decode cX12_onSet 23 = .ok (.iconst 1, 1) := by decide +kernel
theorem dX12_onSet_24 : decode cX12_onSet 24 = .ok (.iload_n 2, 1) := by decide +kernel
theorem dX12_onSet_25 : decode cX12_onSet 25 = .ok (.ishl, 1) := by decide +kernel
theorem dX12_onSet_26 : decode cX12_onSet 26 = .ok (.goto 4, 3) := by decide +kernel
theorem dX12_onSet_29 : decode cX12_onSet 29 = .ok (.iconst 0, 1) := by decide +kernel
theorem dX12_onSet_30 : decode cX12_onSet 30 = .ok (.ior, 1) := by decide +kernel
theorem dX12_onSet_31 : decode cX12_onSet 31 = .ok (.istore_n 1, 1) := by decide +kernel
theorem dX12_onSet_32 : decode cX12_onSet 32 = .ok (.iinc 2 1, 3) := by decide +kernel
theorem dX12_onSet_35 : decode cX12_onSet 35 = .ok (.goto (-31), 3) := by decide +kernel
theorem dX12_onSet_38 : decode cX12_onSet 38 = .ok (.iload_n 1, 1) := by decide +kernel
theorem dX12_onSet_39 : decode cX12_onSet 39 = .ok (.ireturn, 1) := by decide +kernel
def j_X12_onSet : JD := (yX12_onSet, cX12_onSet, 3, (some .int))
def b_X12_onSet : BD := (2, 0, 0)
theorem dX12_liftOf_0 : decode cX12_liftOf 0 = .ok (.aload_n 0, 1) := by decide +kernel
theorem dX12_liftOf_1 : decode cX12_liftOf 1 = .ok (.getfield 35, 3) := by decide +kernel
theorem dX12_liftOf_4 : decode cX12_liftOf 4 = .ok (.bipush 53, 2) := by decide +kernel
theorem dX12_liftOf_6 : decode cX12_liftOf 6 = .ok (.iload_n 2, 1) := by decide +kernel
theorem dX12_liftOf_7 : decode cX12_liftOf 7 = .ok (.iadd, 1) := by decide +kernel
theorem dX12_liftOf_8 : decode cX12_liftOf 8 = .ok (.iaload, 1) := by decide +kernel
theorem dX12_liftOf_9 : decode cX12_liftOf 9 = .ok (.aload_n 0, 1) := by decide +kernel
theorem dX12_liftOf_10 : decode cX12_liftOf 10 = .ok (.iload_n 1, 1) := by decide +kernel
theorem dX12_liftOf_11 : decode cX12_liftOf 11 = .ok (.iload_n 2, 1) := by decide +kernel
theorem dX12_liftOf_12 : decode cX12_liftOf 12 = .ok (.invokevirtual 357, 3) := by decide +kernel
theorem dX12_liftOf_15 : decode cX12_liftOf 15 = .ok (.imul, 1) := by decide +kernel
theorem dX12_liftOf_16 : decode cX12_liftOf 16 = .ok (.ireturn, 1) := by decide +kernel
def j_X12_liftOf : JD := (yX12_liftOf, cX12_liftOf, 3, (some .int))
def b_X12_liftOf : BD := (2, 0, 0)
theorem dX12_between_0 : decode cX12_between 0 = .ok (.aload_n 0, 1) := by decide +kernel
theorem dX12_between_1 : decode cX12_between 1 = .ok (.getfield 35, 3) := by decide +kernel
theorem dX12_between_4 : decode cX12_between 4 = .ok (.sipush 141, 3) := by decide +kernel
theorem dX12_between_7 : decode cX12_between 7 = .ok (.iload_n 1, 1) := by decide +kernel
theorem dX12_between_8 : decode cX12_between 8 = .ok (.iadd, 1) := by decide +kernel
theorem dX12_between_9 : decode cX12_between 9 = .ok (.iaload, 1) := by decide +kernel
theorem dX12_between_10 : decode cX12_between 10 = .ok (.aload_n 0, 1) := by decide +kernel
theorem dX12_between_11 : decode cX12_between 11 = .ok (.getfield 35, 3) := by decide +kernel
theorem dX12_between_14 : decode cX12_between 14 = .ok (.iconst 5, 1) := by decide +kernel
theorem dX12_between_15 : decode cX12_between 15 = .ok (.iload_n 2, 1) := by decide +kernel
theorem dX12_between_16 : decode cX12_between 16 = .ok (.iadd, 1) := by decide +kernel
theorem dX12_between_17 : decode cX12_between 17 = .ok (.iaload, 1) := by decide +kernel
theorem dX12_between_18 : decode cX12_between 18 = .ok (.aload_n 0, 1) := by decide +kernel
theorem dX12_between_19 : decode cX12_between 19 = .ok (.getfield 35, 3) := by decide +kernel
theorem dX12_between_22 : decode cX12_between 22 = .ok (.iconst 5, 1) := by decide +kernel
theorem dX12_between_23 : decode cX12_between 23 = .ok (.iload_n 3, 1) := by decide +kernel
theorem dX12_between_24 : decode cX12_between 24 = .ok (.iadd, 1) := by decide +kernel
theorem dX12_between_25 : decode cX12_between 25 = .ok (.iaload, 1) := by decide +kernel
theorem dX12_between_26 : decode cX12_between 26 = .ok (.isub, 1) := by decide +kernel
theorem dX12_between_27 : decode cX12_between 27 = .ok (.invokestatic 327, 3) := by decide +kernel
theorem dX12_between_30 : decode cX12_between 30 = .ok (.imul, 1) := by decide +kernel
theorem dX12_between_31 : decode cX12_between 31 = .ok (.ireturn, 1) := by decide +kernel
def j_X12_between : JD := (yX12_between, cX12_between, 4, (some .int))
def b_X12_between : BD := (1, 0, 0)
theorem dX12_fill_0 : decode cX12_fill 0 = .ok (.aload_n 0, 1) := by decide +kernel
theorem dX12_fill_1 : decode cX12_fill 1 = .ok (.invokevirtual 431, 3) := by decide +kernel
theorem dX12_fill_4 : decode cX12_fill 4 = .ok (.istore_n 2, 1) := by decide +kernel
theorem dX12_fill_5 : decode cX12_fill 5 = .ok (.iconst 0, 1) := by decide +kernel
theorem dX12_fill_6 : decode cX12_fill 6 = .ok (.istore_n 3, 1) := by decide +kernel
theorem dX12_fill_7 : decode cX12_fill 7 = .ok (.iload_n 3, 1) := by decide +kernel
theorem dX12_fill_8 : decode cX12_fill 8 = .ok (.sipush 256, 3) := by decide +kernel
theorem dX12_fill_11 : decode cX12_fill 11 = .ok (.if_icmp .ge 213, 3) := by decide +kernel
theorem dX12_fill_14 : decode cX12_fill 14 = .ok (.aload_n 0, 1) := by decide +kernel
theorem dX12_fill_15 : decode cX12_fill 15 = .ok (.getfield 47, 3) := by decide +kernel
theorem dX12_fill_18 : decode cX12_fill 18 = .ok (.sipush 256, 3) := by decide +kernel
theorem dX12_fill_21 : decode cX12_fill 21 = .ok (.iload_n 1, 1) := by decide +kernel
theorem dX12_fill_22 : decode cX12_fill 22 = .ok (.imul, 1) := by decide +kernel
theorem dX12_fill_23 : decode cX12_fill 23 = .ok (.iload_n 3, 1) := by decide +kernel
theorem dX12_fill_24 : decode cX12_fill 24 = .ok (.iadd, 1) := by decide +kernel
theorem dX12_fill_25 : decode cX12_fill 25 = .ok (.iload_n 3, 1) := by decide +kernel
theorem dX12_fill_26 : decode cX12_fill 26 = .ok (.ifCond .ne 7, 3) := by decide +kernel
theorem dX12_fill_29 : decode cX12_fill 29 = .ok (.iconst 0, 1) := by decide +kernel
theorem dX12_fill_30 : decode cX12_fill 30 = .ok (.goto 6, 3) := by decide +kernel
theorem dX12_fill_33 : decode cX12_fill 33 = .ok (.ldc_w 434, 3) := by decide +kernel
theorem dX12_fill_36 : decode cX12_fill 36 = .ok (.iastore, 1) := by decide +kernel
theorem dX12_fill_37 : decode cX12_fill 37 = .ok (.iconst 0, 1) := by decide +kernel
theorem dX12_fill_38 : decode cX12_fill 38 = .ok (.istore 4, 2) := by decide +kernel
theorem dX12_fill_40 : decode cX12_fill 40 = .ok (.iload 4, 2) := by decide +kernel
theorem dX12_fill_42 : decode cX12_fill 42 = .ok (.bipush 8, 2) := by decide +kernel
theorem dX12_fill_44 : decode cX12_fill 44 = .ok (.if_icmp .ge 174, 3) := by decide +kernel
theorem dX12_fill_47 : decode cX12_fill 47 = .ok (.ldc_w 434, 3) := by decide +kernel
theorem dX12_fill_50 : decode cX12_fill 50 = .ok (.istore 5, 2) := by decide +kernel
theorem dX12_fill_52 : decode cX12_fill 52 = .ok (.iload_n 3, 1) := by decide +kernel
theorem dX12_fill_53 : decode cX12_fill 53 = .ok (.iload_n 2, 1) := by decide +kernel
theorem dX12_fill_54 : decode cX12_fill 54 = .ok (.iconst (-1), 1) := by decide +kernel
theorem dX12_fill_55 : decode cX12_fill 55 = .ok (.ixor, 1) := by decide +kernel
theorem dX12_fill_56 : decode cX12_fill 56 = .ok (.iand, 1) := by decide +kernel
theorem dX12_fill_57 : decode cX12_fill 57 = .ok (.ifCond .ne 112, 3) := by decide +kernel
theorem dX12_fill_60 : decode cX12_fill 60 = .ok (.iload_n 3, 1) := by decide +kernel
theorem dX12_fill_61 : decode cX12_fill 61 = .ok (.iload 4, 2) := by decide +kernel
theorem dX12_fill_63 : decode cX12_fill 63 = .ok (.invokestatic 107, 3) := by decide +kernel
theorem dX12_fill_66 : decode cX12_fill 66 = .ok (.ifCond .eq 103, 3) := by decide +kernel
theorem dX12_fill_69 : decode cX12_fill 69 = .ok (.iload_n 3, 1) := by decide +kernel
theorem dX12_fill_70 : decode cX12_fill 70 = .ok (.iconst 1, 1) := by decide +kernel
theorem dX12_fill_71 : decode cX12_fill 71 = .ok (.iload 4, 2) := by decide +kernel
theorem dX12_fill_73 : decode cX12_fill 73 = .ok (.ishl, 1) := by decide +kernel
theorem dX12_fill_74 : decode cX12_fill 74 = .ok (.iconst (-1), 1) := by decide +kernel
theorem dX12_fill_75 : decode cX12_fill 75 = .ok (.ixor, 1) := by decide +kernel
theorem dX12_fill_76 : decode cX12_fill 76 = .ok (.iand, 1) := by decide +kernel
theorem dX12_fill_77 : decode cX12_fill 77 = .ok (.istore 6, 2) := by decide +kernel
theorem dX12_fill_79 : decode cX12_fill 79 = .ok (.iload 6, 2) := by decide +kernel
theorem dX12_fill_81 : decode cX12_fill 81 = .ok (.ifCond .ne 20, 3) := by decide +kernel
theorem dX12_fill_84 : decode cX12_fill 84 = .ok (.aload_n 0, 1) := by decide +kernel
theorem dX12_fill_85 : decode cX12_fill 85 = .ok (.iload_n 1, 1) := by decide +kernel
theorem dX12_fill_86 : decode cX12_fill 86 = .ok (.iload 4, 2) := by decide +kernel
theorem dX12_fill_88 : decode cX12_fill 88 = .ok (.invokevirtual 360, 3) := by decide +kernel
theorem dX12_fill_91 : decode cX12_fill 91 = .ok (.aload_n 0, 1) := by decide +kernel
theorem dX12_fill_92 : decode cX12_fill 92 = .ok (.iload_n 1, 1) := by decide +kernel
theorem dX12_fill_93 : decode cX12_fill 93 = .ok (.iload 4, 2) := by decide +kernel
theorem dX12_fill_95 : decode cX12_fill 95 = .ok (.invokevirtual 435, 3) := by decide +kernel
theorem dX12_fill_98 : decode cX12_fill 98 = .ok (.iadd, 1) := by decide +kernel
theorem dX12_fill_99 : decode cX12_fill 99 = .ok (.istore 5, 2) := by decide +kernel
theorem dX12_fill_101 : decode cX12_fill 101 = .ok (.iconst 0, 1) := by decide +kernel
theorem dX12_fill_102 : decode cX12_fill 102 = .ok (.istore 7, 2) := by decide +kernel
theorem dX12_fill_104 : decode cX12_fill 104 = .ok (.iload 7, 2) := by decide +kernel
theorem dX12_fill_106 : decode cX12_fill 106 = .ok (.aload_n 0, 1) := by decide +kernel
theorem dX12_fill_107 : decode cX12_fill 107 = .ok (.getfield 35, 3) := by decide +kernel
theorem dX12_fill_110 : decode cX12_fill 110 = .ok (.iconst 0, 1) := by decide +kernel
theorem dX12_fill_111 : decode cX12_fill 111 = .ok (.iaload, 1) := by decide +kernel
theorem dX12_fill_112 : decode cX12_fill 112 = .ok (.if_icmp .ge 57, 3) := by decide +kernel
theorem dX12_fill_115 : decode cX12_fill 115 = .ok (.iload 6, 2) := by decide +kernel
theorem dX12_fill_117 : decode cX12_fill 117 = .ok (.iload 7, 2) := by decide +kernel
theorem dX12_fill_119 : decode cX12_fill 119 = .ok (.invokestatic 107, 3) := by decide +kernel
theorem dX12_fill_122 : decode cX12_fill 122 = .ok (.ifCond .eq 41, 3) := by decide +kernel
theorem dX12_fill_125 : decode cX12_fill 125 = .ok (.iload 5, 2) := by decide +kernel
theorem dX12_fill_127 : decode cX12_fill 127 = .ok (.aload_n 0, 1) := by decide +kernel
theorem dX12_fill_128 : decode cX12_fill 128 = .ok (.getfield 44, 3) := by decide +kernel
theorem dX12_fill_131 : decode cX12_fill 131 = .ok (.bipush 8, 2) := by decide +kernel
theorem dX12_fill_133 : decode cX12_fill 133 = .ok (.iload 6, 2) := by decide +kernel
theorem dX12_fill_135 : decode cX12_fill 135 = .ok (.imul, 1) := by decide +kernel
theorem dX12_fill_136 : decode cX12_fill 136 = .ok (.iload 7, 2) := by decide +kernel
theorem dX12_fill_138 : decode cX12_fill 138 = .ok (.iadd, 1) := by decide +kernel
theorem dX12_fill_139 : decode cX12_fill 139 = .ok (.iaload, 1) := by decide +kernel
theorem dX12_fill_140 : decode cX12_fill 140 = .ok (.aload_n 0, 1) := by decide +kernel
theorem dX12_fill_141 : decode cX12_fill 141 = .ok (.iload_n 1, 1) := by decide +kernel
theorem dX12_fill_142 : decode cX12_fill 142 = .ok (.iload 7, 2) := by decide +kernel
theorem dX12_fill_144 : decode cX12_fill 144 = .ok (.iload 4, 2) := by decide +kernel
theorem dX12_fill_146 : decode cX12_fill 146 = .ok (.invokevirtual 438, 3) := by decide +kernel
theorem dX12_fill_149 : decode cX12_fill 149 = .ok (.iadd, 1) := by decide +kernel
theorem dX12_fill_150 : decode cX12_fill 150 = .ok (.aload_n 0, 1) := by decide +kernel
theorem dX12_fill_151 : decode cX12_fill 151 = .ok (.iload_n 1, 1) := by decide +kernel
theorem dX12_fill_152 : decode cX12_fill 152 = .ok (.iload 4, 2) := by decide +kernel
theorem dX12_fill_154 : decode cX12_fill 154 = .ok (.invokevirtual 435, 3) := by decide +kernel
theorem dX12_fill_157 : decode cX12_fill 157 = .ok (.iadd, 1) := by decide +kernel
theorem dX12_fill_158 : decode cX12_fill 158 = .ok (.invokestatic 387, 3) := by decide +kernel
theorem dX12_fill_161 : decode cX12_fill 161 = .ok (.istore 5, 2) := by decide +kernel
theorem dX12_fill_163 : decode cX12_fill 163 = .ok (.iinc 7 1, 3) := by decide +kernel
theorem dX12_fill_166 : decode cX12_fill 166 = .ok (.goto (-62), 3) := by decide +kernel
theorem dX12_fill_169 : decode cX12_fill 169 = .ok (.aload_n 0, 1) := by decide +kernel
theorem dX12_fill_170 : decode cX12_fill 170 = .ok (.getfield 44, 3) := by decide +kernel
theorem dX12_fill_173 : decode cX12_fill 173 = .ok (.bipush 8, 2) := by decide +kernel
theorem dX12_fill_175 : decode cX12_fill 175 = .ok (.iload_n 3, 1) := by decide +kernel
theorem dX12_fill_176 : decode cX12_fill 176 = .ok (.imul, 1) := by decide +kernel
theorem dX12_fill_177 : decode cX12_fill 177 = .ok (.iload 4, 2) := by decide +kernel
theorem dX12_fill_179 : decode cX12_fill 179 = .ok (.iadd, 1) := by decide +kernel
theorem dX12_fill_180 : decode cX12_fill 180 = .ok (.iload 5, 2) := by decide +kernel
theorem dX12_fill_182 : decode cX12_fill 182 = .ok (.iastore, 1) := by decide +kernel
theorem dX12_fill_183 : decode cX12_fill 183 = .ok (.aload_n 0, 1) := by decide +kernel
theorem dX12_fill_184 : decode cX12_fill 184 = .ok (.getfield 47, 3) := by decide +kernel
theorem dX12_fill_187 : decode cX12_fill 187 = .ok (.sipush 256, 3) := by decide +kernel
theorem dX12_fill_190 : decode cX12_fill 190 = .ok (.iload_n 1, 1) := by decide +kernel
theorem dX12_fill_191 : decode cX12_fill 191 = .ok (.imul, 1) := by decide +kernel
theorem dX12_fill_192 : decode cX12_fill 192 = .ok (.iload_n 3, 1) := by decide +kernel
theorem dX12_fill_193 : decode cX12_fill 193 = .ok (.iadd, 1) := by decide +kernel
theorem dX12_fill_194 : decode cX12_fill 194 = .ok (.aload_n 0, 1) := by decide +kernel
theorem dX12_fill_195 : decode cX12_fill 195 = .ok (.getfield 47, 3) := by decide +kernel
theorem dX12_fill_198 : decode cX12_fill 198 = .ok (.sipush 256, 3) := by decide +kernel
theorem dX12_fill_201 : decode cX12_fill 201 = .ok (.iload_n 1, 1) := by decide +kernel
theorem dX12_fill_202 : decode cX12_fill 202 = .ok (.imul, 1) := by decide +kernel
theorem dX12_fill_203 : decode cX12_fill 203 = .ok (.iload_n 3, 1) := by decide +kernel
theorem dX12_fill_204 : decode cX12_fill 204 = .ok (.iadd, 1) := by decide +kernel
theorem dX12_fill_205 : decode cX12_fill 205 = .ok (.iaload, 1) := by decide +kernel
theorem dX12_fill_206 : decode cX12_fill 206 = .ok (.iload 5, 2) := by decide +kernel
theorem dX12_fill_208 : decode cX12_fill 208 = .ok (.invokestatic 387, 3) := by decide +kernel
theorem dX12_fill_211 : decode cX12_fill 211 = .ok (.iastore, 1) := by decide +kernel
theorem dX12_fill_212 : decode cX12_fill 212 = .ok (.iinc 4 1, 3) := by decide +kernel
theorem dX12_fill_215 : decode cX12_fill 215 = .ok (.goto (-175), 3) := by decide +kernel
theorem dX12_fill_218 : decode cX12_fill 218 = .ok (.iinc 3 1, 3) := by decide +kernel
theorem dX12_fill_221 : decode cX12_fill 221 = .ok (.goto (-214), 3) := by decide +kernel
theorem dX12_fill_224 : decode cX12_fill 224 = .ok (.return_, 1) := by decide +kernel
def j_X12_fill : JD := (yX12_fill, cX12_fill, 8, none)
def b_X12_fill : BD := (3, 0, 0)
theorem dX12_best_0 : decode cX12_best 0 = .ok (.aload_n 0, 1) := by decide +kernel
theorem dX12_best_1 : decode cX12_best 1 = .ok (.iconst 0, 1) := by decide +kernel
theorem dX12_best_2 : decode cX12_best 2 = .ok (.putfield 68, 3) := by decide +kernel
theorem dX12_best_5 : decode cX12_best 5 = .ok (.aload_n 0, 1) := by decide +kernel
theorem dX12_best_6 : decode cX12_best 6 = .ok (.iconst 0, 1) := by decide +kernel
theorem dX12_best_7 : decode cX12_best 7 = .ok (.putfield 71, 3) := by decide +kernel
theorem dX12_best_10 : decode cX12_best 10 = .ok (.aload_n 0, 1) := by decide +kernel
theorem dX12_best_11 : decode cX12_best 11 = .ok (.iload_n 1, 1) := by decide +kernel
theorem dX12_best_12 : decode cX12_best 12 = .ok (.invokevirtual 352, 3) := by decide +kernel
theorem dX12_best_15 : decode cX12_best 15 = .ok (.ifCond .ne 9, 3) := by decide +kernel
theorem dX12_best_18 : decode cX12_best 18 = .ok (.aload_n 0, 1) := by decide +kernel
theorem dX12_best_19 : decode cX12_best 19 = .ok (.iconst 2, 1) := by decide +kernel
theorem dX12_best_20 : decode cX12_best 20 = .ok (.invokevirtual 331, 3) := by decide +kernel
theorem dX12_best_23 : decode cX12_best 23 = .ok (.ireturn, 1) := by decide +kernel
theorem dX12_best_24 : decode cX12_best 24 = .ok (.iload_n 2, 1) := by decide +kernel
theorem dX12_best_25 : decode cX12_best 25 = .ok (.i2l, 1) := by decide +kernel
theorem dX12_best_26 : decode cX12_best 26 = .ok (.lconst 0, 1) := by decide +kernel
theorem dX12_best_27 : decode cX12_best 27 = .ok (.ldc2_w 393, 3) := by decide +kernel
theorem dX12_best_30 : decode cX12_best 30 = .ok (.invokestatic 103, 3) := by decide +kernel
theorem dX12_best_33 : decode cX12_best 33 = .ok (.ifCond .ne 9, 3) := by decide +kernel
theorem dX12_best_36 : decode cX12_best 36 = .ok (.aload_n 0, 1) := by decide +kernel
theorem dX12_best_37 : decode cX12_best 37 = .ok (.iconst 5, 1) := by decide +kernel
theorem dX12_best_38 : decode cX12_best 38 = .ok (.invokevirtual 331, 3) := by decide +kernel
theorem dX12_best_41 : decode cX12_best 41 = .ok (.ireturn, 1) := by decide +kernel
theorem dX12_best_42 : decode cX12_best 42 = .ok (.aload_n 0, 1) := by decide +kernel
theorem dX12_best_43 : decode cX12_best 43 = .ok (.iload_n 1, 1) := by decide +kernel
theorem dX12_best_44 : decode cX12_best 44 = .ok (.invokevirtual 441, 3) := by decide +kernel
theorem dX12_best_47 : decode cX12_best 47 = .ok (.iconst 0, 1) := by decide +kernel
theorem dX12_best_48 : decode cX12_best 48 = .ok (.istore_n 3, 1) := by decide +kernel
theorem dX12_best_49 : decode cX12_best 49 = .ok (.iconst 1, 1) := by decide +kernel
theorem dX12_best_50 : decode cX12_best 50 = .ok (.istore 4, 2) := by decide +kernel
theorem dX12_best_52 : decode cX12_best 52 = .ok (.iload 4, 2) := by decide +kernel
theorem dX12_best_54 : decode cX12_best 54 = .ok (.sipush 256, 3) := by decide +kernel
theorem dX12_best_57 : decode cX12_best 57 = .ok (.if_icmp .ge 68, 3) := by decide +kernel
theorem dX12_best_60 : decode cX12_best 60 = .ok (.aload_n 0, 1) := by decide +kernel
theorem dX12_best_61 : decode cX12_best 61 = .ok (.getfield 47, 3) := by decide +kernel
theorem dX12_best_64 : decode cX12_best 64 = .ok (.sipush 256, 3) := by decide +kernel
theorem dX12_best_67 : decode cX12_best 67 = .ok (.iload_n 1, 1) := by decide +kernel
theorem dX12_best_68 : decode cX12_best 68 = .ok (.imul, 1) := by decide +kernel
theorem dX12_best_69 : decode cX12_best 69 = .ok (.iload 4, 2) := by decide +kernel
theorem dX12_best_71 : decode cX12_best 71 = .ok (.iadd, 1) := by decide +kernel
theorem dX12_best_72 : decode cX12_best 72 = .ok (.iaload, 1) := by decide +kernel
theorem dX12_best_73 : decode cX12_best 73 = .ok (.iload_n 2, 1) := by decide +kernel
theorem dX12_best_74 : decode cX12_best 74 = .ok (.if_icmp .le 6, 3) := by decide +kernel
theorem dX12_best_77 : decode cX12_best 77 = .ok (.goto 42, 3) := by decide +kernel
theorem dX12_best_80 : decode cX12_best 80 = .ok (.aload_n 0, 1) := by decide +kernel
theorem dX12_best_81 : decode cX12_best 81 = .ok (.iload 4, 2) := by decide +kernel
theorem dX12_best_83 : decode cX12_best 83 = .ok (.invokevirtual 428, 3) := by decide +kernel
theorem dX12_best_86 : decode cX12_best 86 = .ok (.aload_n 0, 1) := by decide +kernel
theorem dX12_best_87 : decode cX12_best 87 = .ok (.iload_n 3, 1) := by decide +kernel
theorem dX12_best_88 : decode cX12_best 88 = .ok (.invokevirtual 428, 3) := by decide +kernel
theorem dX12_best_91 : decode cX12_best 91 = .ok (.isub, 1) := by decide +kernel
theorem dX12_best_92 : decode cX12_best 92 = .ok (.istore 5, 2) := by decide +kernel
theorem dX12_best_94 : decode cX12_best 94 = .ok (.iload 5, 2) := by decide +kernel
theorem dX12_best_96 : decode cX12_best 96 = .ok (.ifCond .gt 20, 3) := by decide +kernel
theorem dX12_best_99 : decode cX12_best 99 = .ok (.iload 5, 2) := by decide +kernel
theorem dX12_best_101 : decode cX12_best 101 = .ok (.ifCond .ne 18, 3) := by decide +kernel
theorem dX12_best_104 : decode cX12_best 104 = .ok (.iload 4, 2) := by decide +kernel
theorem dX12_best_106 : decode cX12_best 106 = .ok (.invokestatic 401, 3) := by decide +kernel
theorem dX12_best_109 : decode cX12_best 109 = .ok (.iload_n 3, 1) := by decide +kernel
theorem dX12_best_110 : decode cX12_best 110 = .ok (.invokestatic 401, 3) := by decide +kernel
theorem dX12_best_113 : decode cX12_best 113 = .ok (.if_icmp .ge 6, 3) := by decide +kernel
theorem dX12_best_116 : decode cX12_best 116 = .ok (.iload 4, 2) := by decide +kernel
theorem dX12_best_118 : decode cX12_best 118 = .ok (.istore_n 3, 1) := by decide +kernel
theorem dX12_best_119 : decode cX12_best 119 = .ok (.iinc 4 1, 3) := by decide +kernel
theorem dX12_best_122 : decode cX12_best 122 = .ok (.goto (-70), 3) := by decide +kernel
theorem dX12_best_125 : decode cX12_best 125 = .ok (.aload_n 0, 1) := by decide +kernel
theorem dX12_best_126 : decode cX12_best 126 = .ok (.iload_n 3, 1) := by decide +kernel
theorem dX12_best_127 : decode cX12_best 127 = .ok (.putfield 53, 3) := by decide +kernel
theorem dX12_best_130 : decode cX12_best 130 = .ok (.aload_n 0, 1) := by decide +kernel
theorem dX12_best_131 : decode cX12_best 131 = .ok (.iload_n 3, 1) := by decide +kernel
theorem dX12_best_132 : decode cX12_best 132 = .ok (.invokevirtual 428, 3) := by decide +kernel
theorem dX12_best_135 : decode cX12_best 135 = .ok (.ireturn, 1) := by decide +kernel
def j_X12_best : JD := (yX12_best, cX12_best, 6, (some .int))
def b_X12_best : BD := (4, 0, 0)
theorem dX12_bestSet_0 : decode cX12_bestSet 0 = .ok (.aload_n 0, 1) := by decide +kernel
theorem dX12_bestSet_1 : decode cX12_bestSet 1 = .ok (.iconst 0, 1) := by decide +kernel
theorem dX12_bestSet_2 : decode cX12_bestSet 2 = .ok (.putfield 68, 3) := by decide +kernel
theorem dX12_bestSet_5 : decode cX12_bestSet 5 = .ok (.aload_n 0, 1) := by decide +kernel
theorem dX12_bestSet_6 : decode cX12_bestSet 6 = .ok (.iconst 0, 1) := by decide +kernel
theorem dX12_bestSet_7 : decode cX12_bestSet 7 = .ok (.putfield 71, 3) := by decide +kernel
theorem dX12_bestSet_10 : decode cX12_bestSet 10 = .ok (.aload_n 0, 1) := by decide +kernel
theorem dX12_bestSet_11 : decode cX12_bestSet 11 = .ok (.getfield 53, 3) := by decide +kernel
theorem dX12_bestSet_14 : decode cX12_bestSet 14 = .ok (.ifCond .ge 12, 3) := by decide +kernel
theorem dX12_bestSet_17 : decode cX12_bestSet 17 = .ok (.aload_n 0, 1) := by decide +kernel
theorem dX12_bestSet_18 : decode cX12_bestSet 18 = .ok (.bipush 8, 2) := by decide +kernel
theorem dX12_bestSet_20 : decode cX12_bestSet 20 = .ok (.invokevirtual 331, 3) := by decide +kernel
theorem dX12_bestSet_23 : decode cX12_bestSet 23 = .ok (.goto 7, 3) := by decide +kernel
theorem dX12_bestSet_26 : decode cX12_bestSet 26 = .ok (.aload_n 0, 1) := by decide +kernel
theorem dX12_bestSet_27 : decode cX12_bestSet 27 = .ok (.getfield 53, 3) := by decide +kernel
theorem dX12_bestSet_30 : decode cX12_bestSet 30 = .ok (.ireturn, 1) := by decide +kernel
def j_X12_bestSet : JD := (yX12_bestSet, cX12_bestSet, 1, (some .int))
def b_X12_bestSet : BD := (1, 0, 0)
theorem dX12_goesOn_0 : decode cX12_goesOn 0 = .ok (.iload_n 2, 1) := by decide +kernel
theorem dX12_goesOn_1 : decode cX12_goesOn 1 = .ok (.ifCond .ne 56, 3) := by decide +kernel
theorem dX12_goesOn_4 : decode cX12_goesOn 4 = .ok (.aload_n 0, 1) := by decide +kernel
theorem dX12_goesOn_5 : decode cX12_goesOn 5 = .ok (.getfield 444, 3) := by decide +kernel
theorem dX12_goesOn_8 : decode cX12_goesOn 8 = .ok (.ifCond .lt 13, 3) := by decide +kernel
theorem dX12_goesOn_11 : decode cX12_goesOn 11 = .ok (.iload 5, 2) := by decide +kernel
theorem dX12_goesOn_13 : decode cX12_goesOn 13 = .ok (.aload_n 0, 1) := by decide +kernel
theorem dX12_goesOn_14 : decode cX12_goesOn 14 = .ok (.getfield 444, 3) := by decide +kernel
theorem dX12_goesOn_17 : decode cX12_goesOn 17 = .ok (.if_icmp .lt 4, 3) := by decide +kernel
theorem dX12_goesOn_20 : decode cX12_goesOn 20 = .ok (.return_, 1) := by decide +kernel
theorem dX12_goesOn_21 : decode cX12_goesOn 21 = .ok (.aload_n 0, 1) := by decide +kernel
theorem dX12_goesOn_22 : decode cX12_goesOn 22 = .ok (.iload 5, 2) := by decide +kernel
theorem dX12_goesOn_24 : decode cX12_goesOn 24 = .ok (.putfield 444, 3) := by decide +kernel
theorem dX12_goesOn_27 : decode cX12_goesOn 27 = .ok (.iconst 0, 1) := by decide +kernel
theorem dX12_goesOn_28 : decode cX12_goesOn 28 = .ok (.istore 6, 2) := by decide +kernel
theorem dX12_goesOn_30 : decode cX12_goesOn 30 = .ok (.iload 6, 2) := by decide +kernel
theorem dX12_goesOn_32 : decode cX12_goesOn 32 = .ok (.iload_n 3, 1) := by decide +kernel
theorem dX12_goesOn_33 : decode cX12_goesOn 33 = .ok (.if_icmp .ge 23, 3) := by decide +kernel
theorem dX12_goesOn_36 : decode cX12_goesOn 36 = .ok (.aload_n 0, 1) := by decide +kernel
theorem dX12_goesOn_37 : decode cX12_goesOn 37 = .ok (.getfield 56, 3) := by decide +kernel
theorem dX12_goesOn_40 : decode cX12_goesOn 40 = .ok (.iload 6, 2) := by decide +kernel
theorem dX12_goesOn_42 : decode cX12_goesOn 42 = .ok (.aload_n 0, 1) := by decide +kernel
theorem dX12_goesOn_43 : decode cX12_goesOn 43 = .ok (.getfield 59, 3) := by decide +kernel
theorem dX12_goesOn_46 : decode cX12_goesOn 46 = .ok (.iload 6, 2) := by decide +kernel
theorem dX12_goesOn_48 : decode cX12_goesOn 48 = .ok (.iaload, 1) := by decide +kernel
theorem dX12_goesOn_49 : decode cX12_goesOn 49 = .ok (.iastore, 1) := by decide +kernel
theorem dX12_goesOn_50 : decode cX12_goesOn 50 = .ok (.iinc 6 1, 3) := by decide +kernel
theorem dX12_goesOn_53 : decode cX12_goesOn 53 = .ok (.goto (-23), 3) := by decide +kernel
theorem dX12_goesOn_56 : decode cX12_goesOn 56 = .ok (.return_, 1) := by decide +kernel
theorem dX12_goesOn_57 : decode cX12_goesOn 57 = .ok (.iconst 0, 1) := by decide +kernel
theorem dX12_goesOn_58 : decode cX12_goesOn 58 = .ok (.istore 6, 2) := by decide +kernel
theorem dX12_goesOn_60 : decode cX12_goesOn 60 = .ok (.iload 6, 2) := by decide +kernel
theorem dX12_goesOn_62 : decode cX12_goesOn 62 = .ok (.aload_n 0, 1) := by decide +kernel
theorem dX12_goesOn_63 : decode cX12_goesOn 63 = .ok (.getfield 35, 3) := by decide +kernel
theorem dX12_goesOn_66 : decode cX12_goesOn 66 = .ok (.iconst 0, 1) := by decide +kernel
theorem dX12_goesOn_67 : decode cX12_goesOn 67 = .ok (.iaload, 1) := by decide +kernel
theorem dX12_goesOn_68 : decode cX12_goesOn 68 = .ok (.if_icmp .ge 82, 3) := by decide +kernel
theorem dX12_goesOn_71 : decode cX12_goesOn 71 = .ok (.iload_n 2, 1) := by decide +kernel
theorem dX12_goesOn_72 : decode cX12_goesOn 72 = .ok (.iload 6, 2) := by decide +kernel
theorem dX12_goesOn_74 : decode cX12_goesOn 74 = .ok (.invokestatic 107, 3) := by decide +kernel
theorem dX12_goesOn_77 : decode cX12_goesOn 77 = .ok (.ifCond .ne 6, 3) := by decide +kernel
theorem dX12_goesOn_80 : decode cX12_goesOn 80 = .ok (.goto 64, 3) := by decide +kernel
theorem dX12_goesOn_83 : decode cX12_goesOn 83 = .ok (.aload_n 0, 1) := by decide +kernel
theorem dX12_goesOn_84 : decode cX12_goesOn 84 = .ok (.getfield 59, 3) := by decide +kernel
theorem dX12_goesOn_87 : decode cX12_goesOn 87 = .ok (.iload_n 3, 1) := by decide +kernel
theorem dX12_goesOn_88 : decode cX12_goesOn 88 = .ok (.iload 6, 2) := by decide +kernel
theorem dX12_goesOn_90 : decode cX12_goesOn 90 = .ok (.iastore, 1) := by decide +kernel
theorem dX12_goesOn_91 : decode cX12_goesOn 91 = .ok (.aload_n 0, 1) := by decide +kernel
theorem dX12_goesOn_92 : decode cX12_goesOn 92 = .ok (.iload_n 1, 1) := by decide +kernel
theorem dX12_goesOn_93 : decode cX12_goesOn 93 = .ok (.iload_n 2, 1) := by decide +kernel
theorem dX12_goesOn_94 : decode cX12_goesOn 94 = .ok (.iconst 1, 1) := by decide +kernel
theorem dX12_goesOn_95 : decode cX12_goesOn 95 = .ok (.iload 6, 2) := by decide +kernel
theorem dX12_goesOn_97 : decode cX12_goesOn 97 = .ok (.ishl, 1) := by decide +kernel
theorem dX12_goesOn_98 : decode cX12_goesOn 98 = .ok (.iconst (-1), 1) := by decide +kernel
theorem dX12_goesOn_99 : decode cX12_goesOn 99 = .ok (.ixor, 1) := by decide +kernel
theorem dX12_goesOn_100 : decode cX12_goesOn 100 = .ok (.iand, 1) := by decide +kernel
theorem dX12_goesOn_101 : decode cX12_goesOn 101 = .ok (.iload_n 3, 1) := by decide +kernel
theorem dX12_goesOn_102 : decode cX12_goesOn 102 = .ok (.iconst 1, 1) := by decide +kernel
theorem dX12_goesOn_103 : decode cX12_goesOn 103 = .ok (.iadd, 1) := by decide +kernel
theorem dX12_goesOn_104 : decode cX12_goesOn 104 = .ok (.iload 6, 2) := by decide +kernel
theorem dX12_goesOn_106 : decode cX12_goesOn 106 = .ok (.iload 5, 2) := by decide +kernel
theorem dX12_goesOn_108 : decode cX12_goesOn 108 = .ok (.iload 4, 2) := by decide +kernel
theorem dX12_goesOn_110 : decode cX12_goesOn 110 = .ok (.ifCond .ge 13, 3) := by decide +kernel
theorem dX12_goesOn_113 : decode cX12_goesOn 113 = .ok (.aload_n 0, 1) := by decide +kernel
theorem dX12_goesOn_114 : decode cX12_goesOn 114 = .ok (.iload_n 1, 1) := by decide +kernel
theorem dX12_goesOn_115 : decode cX12_goesOn 115 = .ok (.iload 6, 2) := by decide +kernel
theorem dX12_goesOn_117 : decode cX12_goesOn 117 = .ok (.invokevirtual 360, 3) := by decide +kernel
theorem dX12_goesOn_120 : decode cX12_goesOn 120 = .ok (.goto 12, 3) := by decide +kernel
theorem dX12_goesOn_123 : decode cX12_goesOn 123 = .ok (.aload_n 0, 1) := by decide +kernel
theorem dX12_goesOn_124 : decode cX12_goesOn 124 = .ok (.iload_n 1, 1) := by decide +kernel
theorem dX12_goesOn_125 : decode cX12_goesOn 125 = .ok (.iload 4, 2) := by decide +kernel
theorem dX12_goesOn_127 : decode cX12_goesOn 127 = .ok (.iload 6, 2) := by decide +kernel
theorem dX12_goesOn_129 : decode cX12_goesOn 129 = .ok (.invokevirtual 438, 3) := by decide +kernel
theorem dX12_goesOn_132 : decode cX12_goesOn 132 = .ok (.iadd, 1) := by decide +kernel
theorem dX12_goesOn_133 : decode cX12_goesOn 133 = .ok (.aload_n 0, 1) := by decide +kernel
theorem dX12_goesOn_134 : decode cX12_goesOn 134 = .ok (.iload_n 1, 1) := by decide +kernel
theorem dX12_goesOn_135 : decode cX12_goesOn 135 = .ok (.iload 6, 2) := by decide +kernel
theorem dX12_goesOn_137 : decode cX12_goesOn 137 = .ok (.invokevirtual 435, 3) := by decide +kernel
theorem dX12_goesOn_140 : decode cX12_goesOn 140 = .ok (.iadd, 1) := by decide +kernel
theorem dX12_goesOn_141 : decode cX12_goesOn 141 = .ok (.invokevirtual 447, 3) := by decide +kernel
theorem dX12_goesOn_144 : decode cX12_goesOn 144 = .ok (.iinc 6 1, 3) := by decide +kernel
theorem dX12_goesOn_147 : decode cX12_goesOn 147 = .ok (.goto (-87), 3) := by decide +kernel
theorem dX12_goesOn_150 : decode cX12_goesOn 150 = .ok (.return_, 1) := by decide +kernel
def j_X12_goesOn : JD := (yX12_goesOn, cX12_goesOn, 7, none)
def b_X12_goesOn (d : Nat) : BD := (3 + 1 * d, 0, 0)
theorem dX12_soonest_0 : decode cX12_soonest 0 = .ok (.aload_n 0, 1) := by decide +kernel
theorem dX12_soonest_1 : decode cX12_soonest 1 = .ok (.iconst 0, 1) := by decide +kernel
theorem dX12_soonest_2 : decode cX12_soonest 2 = .ok (.putfield 68, 3) := by decide +kernel
theorem dX12_soonest_5 : decode cX12_soonest 5 = .ok (.aload_n 0, 1) := by decide +kernel
theorem dX12_soonest_6 : decode cX12_soonest 6 = .ok (.iconst 0, 1) := by decide +kernel
theorem dX12_soonest_7 : decode cX12_soonest 7 = .ok (.putfield 71, 3) := by decide +kernel
theorem dX12_soonest_10 : decode cX12_soonest 10 = .ok (.aload_n 0, 1) := by decide +kernel
theorem dX12_soonest_11 : decode cX12_soonest 11 = .ok (.iload_n 1, 1) := by decide +kernel
theorem dX12_soonest_12 : decode cX12_soonest 12 = .ok (.invokevirtual 352, 3) := by decide +kernel
theorem dX12_soonest_15 : decode cX12_soonest 15 = .ok (.ifCond .ne 9, 3) := by decide +kernel
theorem dX12_soonest_18 : decode cX12_soonest 18 = .ok (.aload_n 0, 1) := by decide +kernel
theorem dX12_soonest_19 : decode cX12_soonest 19 = .ok (.iconst 2, 1) := by decide +kernel
theorem dX12_soonest_20 : decode cX12_soonest 20 = .ok (.invokevirtual 331, 3) := by decide +kernel
theorem dX12_soonest_23 : decode cX12_soonest 23 = .ok (.ireturn, 1) := by decide +kernel
theorem dX12_soonest_24 : decode cX12_soonest 24 = .ok (.iload_n 2, 1) := by decide +kernel
theorem dX12_soonest_25 : decode cX12_soonest 25 = .ok (.i2l, 1) := by decide +kernel
theorem dX12_soonest_26 : decode cX12_soonest 26 = .ok (.lconst 0, 1) := by decide +kernel
theorem dX12_soonest_27 : decode cX12_soonest 27 = .ok (.iconst 1, 1) := by decide +kernel
theorem dX12_soonest_28 : decode cX12_soonest 28 = .ok (.aload_n 0, 1) := by decide +kernel
theorem dX12_soonest_29 : decode cX12_soonest 29 = .ok (.getfield 35, 3) := by decide +kernel
theorem dX12_soonest_32 : decode cX12_soonest 32 = .ok (.iconst 0, 1) := by decide +kernel
theorem dX12_soonest_33 : decode cX12_soonest 33 = .ok (.iaload, 1) := by decide +kernel
theorem dX12_soonest_34 : decode cX12_soonest 34 = .ok (.ishl, 1) := by decide +kernel
theorem dX12_soonest_35 : decode cX12_soonest 35 = .ok (.iconst 1, 1) := by decide +kernel
theorem dX12_soonest_36 : decode cX12_soonest 36 = .ok (.isub, 1) := by decide +kernel
theorem dX12_soonest_37 : decode cX12_soonest 37 = .ok (.i2l, 1) := by decide +kernel
theorem dX12_soonest_38 : decode cX12_soonest 38 = .ok (.invokestatic 103, 3) := by decide +kernel
theorem dX12_soonest_41 : decode cX12_soonest 41 = .ok (.ifCond .ne 9, 3) := by decide +kernel
theorem dX12_soonest_44 : decode cX12_soonest 44 = .ok (.aload_n 0, 1) := by decide +kernel
theorem dX12_soonest_45 : decode cX12_soonest 45 = .ok (.iconst 5, 1) := by decide +kernel
theorem dX12_soonest_46 : decode cX12_soonest 46 = .ok (.invokevirtual 331, 3) := by decide +kernel
theorem dX12_soonest_49 : decode cX12_soonest 49 = .ok (.ireturn, 1) := by decide +kernel
theorem dX12_soonest_50 : decode cX12_soonest 50 = .ok (.iload_n 2, 1) := by decide +kernel
theorem dX12_soonest_51 : decode cX12_soonest 51 = .ok (.aload_n 0, 1) := by decide +kernel
theorem dX12_soonest_52 : decode cX12_soonest 52 = .ok (.invokevirtual 431, 3) := by decide +kernel
theorem dX12_soonest_55 : decode cX12_soonest 55 = .ok (.iconst (-1), 1) := by decide +kernel
theorem dX12_soonest_56 : decode cX12_soonest 56 = .ok (.ixor, 1) := by decide +kernel
theorem dX12_soonest_57 : decode cX12_soonest 57 = .ok (.iand, 1) := by decide +kernel
theorem dX12_soonest_58 : decode cX12_soonest 58 = .ok (.ifCond .eq 10, 3) := by decide +kernel
theorem dX12_soonest_61 : decode cX12_soonest 61 = .ok (.aload_n 0, 1) := by decide +kernel
theorem dX12_soonest_62 : decode cX12_soonest 62 = .ok (.bipush 9, 2) := by decide +kernel
theorem dX12_soonest_64 : decode cX12_soonest 64 = .ok (.invokevirtual 331, 3) := by decide +kernel
theorem dX12_soonest_67 : decode cX12_soonest 67 = .ok (.ireturn, 1) := by decide +kernel
theorem dX12_soonest_68 : decode cX12_soonest 68 = .ok (.aload_n 0, 1) := by decide +kernel
theorem dX12_soonest_69 : decode cX12_soonest 69 = .ok (.iconst (-1), 1) := by decide +kernel
theorem dX12_soonest_70 : decode cX12_soonest 70 = .ok (.putfield 444, 3) := by decide +kernel
theorem dX12_soonest_73 : decode cX12_soonest 73 = .ok (.aload_n 0, 1) := by decide +kernel
theorem dX12_soonest_74 : decode cX12_soonest 74 = .ok (.iload_n 2, 1) := by decide +kernel
theorem dX12_soonest_75 : decode cX12_soonest 75 = .ok (.invokestatic 401, 3) := by decide +kernel
theorem dX12_soonest_78 : decode cX12_soonest 78 = .ok (.putfield 62, 3) := by decide +kernel
theorem dX12_soonest_81 : decode cX12_soonest 81 = .ok (.aload_n 0, 1) := by decide +kernel
theorem dX12_soonest_82 : decode cX12_soonest 82 = .ok (.iload_n 1, 1) := by decide +kernel
theorem dX12_soonest_83 : decode cX12_soonest 83 = .ok (.iload_n 2, 1) := by decide +kernel
theorem dX12_soonest_84 : decode cX12_soonest 84 = .ok (.iconst 0, 1) := by decide +kernel
theorem dX12_soonest_85 : decode cX12_soonest 85 = .ok (.iconst (-1), 1) := by decide +kernel
theorem dX12_soonest_86 : decode cX12_soonest 86 = .ok (.iconst 0, 1) := by decide +kernel
theorem dX12_soonest_87 : decode cX12_soonest 87 = .ok (.invokevirtual 447, 3) := by decide +kernel
theorem dX12_soonest_90 : decode cX12_soonest 90 = .ok (.aload_n 0, 1) := by decide +kernel
theorem dX12_soonest_91 : decode cX12_soonest 91 = .ok (.getfield 444, 3) := by decide +kernel
theorem dX12_soonest_94 : decode cX12_soonest 94 = .ok (.ireturn, 1) := by decide +kernel
def j_X12_soonest : JD := (yX12_soonest, cX12_soonest, 3, (some .int))
def b_X12_soonest : BD := (16, 0, 0)
theorem dX12_order_0 : decode cX12_order 0 = .ok (.aload_n 0, 1) := by decide +kernel
theorem dX12_order_1 : decode cX12_order 1 = .ok (.iconst 0, 1) := by decide +kernel
theorem dX12_order_2 : decode cX12_order 2 = .ok (.putfield 68, 3) := by decide +kernel
theorem dX12_order_5 : decode cX12_order 5 = .ok (.aload_n 0, 1) := by decide +kernel
theorem dX12_order_6 : decode cX12_order 6 = .ok (.iconst 0, 1) := by decide +kernel
theorem dX12_order_7 : decode cX12_order 7 = .ok (.putfield 71, 3) := by decide +kernel
theorem dX12_order_10 : decode cX12_order 10 = .ok (.iload_n 1, 1) := by decide +kernel
theorem dX12_order_11 : decode cX12_order 11 = .ok (.i2l, 1) := by decide +kernel
theorem dX12_order_12 : decode cX12_order 12 = .ok (.lconst 0, 1) := by decide +kernel
theorem dX12_order_13 : decode cX12_order 13 = .ok (.aload_n 0, 1) := by decide +kernel
theorem dX12_order_14 : decode cX12_order 14 = .ok (.getfield 62, 3) := by decide +kernel
theorem dX12_order_17 : decode cX12_order 17 = .ok (.iconst 1, 1) := by decide +kernel
theorem dX12_order_18 : decode cX12_order 18 = .ok (.isub, 1) := by decide +kernel
theorem dX12_order_19 : decode cX12_order 19 = .ok (.i2l, 1) := by decide +kernel
theorem dX12_order_20 : decode cX12_order 20 = .ok (.invokestatic 103, 3) := by decide +kernel
theorem dX12_order_23 : decode cX12_order 23 = .ok (.ifCond .eq 12, 3) := by decide +kernel
theorem dX12_order_26 : decode cX12_order 26 = .ok (.aload_n 0, 1) := by decide +kernel
theorem dX12_order_27 : decode cX12_order 27 = .ok (.getfield 56, 3) := by decide +kernel
theorem dX12_order_30 : decode cX12_order 30 = .ok (.iload_n 1, 1) := by decide +kernel
theorem dX12_order_31 : decode cX12_order 31 = .ok (.iaload, 1) := by decide +kernel
theorem dX12_order_32 : decode cX12_order 32 = .ok (.goto 9, 3) := by decide +kernel
theorem dX12_order_35 : decode cX12_order 35 = .ok (.aload_n 0, 1) := by decide +kernel
theorem dX12_order_36 : decode cX12_order 36 = .ok (.bipush 8, 2) := by decide +kernel
theorem dX12_order_38 : decode cX12_order 38 = .ok (.invokevirtual 331, 3) := by decide +kernel
theorem dX12_order_41 : decode cX12_order 41 = .ok (.ireturn, 1) := by decide +kernel
def j_X12_order : JD := (yX12_order, cX12_order, 2, (some .int))
def b_X12_order : BD := (1, 0, 0)
theorem dX12_fillAll_0 : decode cX12_fillAll 0 = .ok (.iconst 0, 1) := by decide +kernel
theorem dX12_fillAll_1 : decode cX12_fillAll 1 = .ok (.istore_n 1, 1) := by decide +kernel
theorem dX12_fillAll_2 : decode cX12_fillAll 2 = .ok (.iload_n 1, 1) := by decide +kernel
theorem dX12_fillAll_3 : decode cX12_fillAll 3 = .ok (.aload_n 0, 1) := by decide +kernel
theorem dX12_fillAll_4 : decode cX12_fillAll 4 = .ok (.getfield 35, 3) := by decide +kernel
theorem dX12_fillAll_7 : decode cX12_fillAll 7 = .ok (.iconst 1, 1) := by decide +kernel
theorem dX12_fillAll_8 : decode cX12_fillAll 8 = .ok (.iaload, 1) := by decide +kernel
theorem dX12_fillAll_9 : decode cX12_fillAll 9 = .ok (.if_icmp .ge 14, 3) := by decide +kernel
theorem dX12_fillAll_12 : decode cX12_fillAll 12 = .ok (.aload_n 0, 1) := by decide +kernel
theorem dX12_fillAll_13 : decode cX12_fillAll 13 = .ok (.iload_n 1, 1) := by decide +kernel
theorem dX12_fillAll_14 : decode cX12_fillAll 14 = .ok (.invokevirtual 441, 3) := by decide +kernel
theorem dX12_fillAll_17 : decode cX12_fillAll 17 = .ok (.iinc 1 1, 3) := by decide +kernel
theorem dX12_fillAll_20 : decode cX12_fillAll 20 = .ok (.goto (-18), 3) := by decide +kernel
theorem dX12_fillAll_23 : decode cX12_fillAll 23 = .ok (.return_, 1) := by decide +kernel
def j_X12_fillAll : JD := (yX12_fillAll, cX12_fillAll, 2, none)
def b_X12_fillAll : BD := (4, 0, 0)
theorem dX12_shared_0 : decode cX12_shared 0 = .ok (.aload_n 0, 1) := by decide +kernel
theorem dX12_shared_1 : decode cX12_shared 1 = .ok (.iconst 0, 1) := by decide +kernel
theorem dX12_shared_2 : decode cX12_shared 2 = .ok (.putfield 68, 3) := by decide +kernel
theorem dX12_shared_5 : decode cX12_shared 5 = .ok (.aload_n 0, 1) := by decide +kernel
theorem dX12_shared_6 : decode cX12_shared 6 = .ok (.iconst 0, 1) := by decide +kernel
theorem dX12_shared_7 : decode cX12_shared 7 = .ok (.putfield 71, 3) := by decide +kernel
theorem dX12_shared_10 : decode cX12_shared 10 = .ok (.iload_n 1, 1) := by decide +kernel
theorem dX12_shared_11 : decode cX12_shared 11 = .ok (.i2l, 1) := by decide +kernel
theorem dX12_shared_12 : decode cX12_shared 12 = .ok (.lconst 0, 1) := by decide +kernel
theorem dX12_shared_13 : decode cX12_shared 13 = .ok (.ldc2_w 393, 3) := by decide +kernel
theorem dX12_shared_16 : decode cX12_shared 16 = .ok (.invokestatic 103, 3) := by decide +kernel
theorem dX12_shared_19 : decode cX12_shared 19 = .ok (.ifCond .ne 9, 3) := by decide +kernel
theorem dX12_shared_22 : decode cX12_shared 22 = .ok (.aload_n 0, 1) := by decide +kernel
theorem dX12_shared_23 : decode cX12_shared 23 = .ok (.iconst 5, 1) := by decide +kernel
theorem dX12_shared_24 : decode cX12_shared 24 = .ok (.invokevirtual 331, 3) := by decide +kernel
theorem dX12_shared_27 : decode cX12_shared 27 = .ok (.ireturn, 1) := by decide +kernel
theorem dX12_shared_28 : decode cX12_shared 28 = .ok (.aload_n 0, 1) := by decide +kernel
theorem dX12_shared_29 : decode cX12_shared 29 = .ok (.invokevirtual 451, 3) := by decide +kernel
theorem dX12_shared_32 : decode cX12_shared 32 = .ok (.iconst 0, 1) := by decide +kernel
theorem dX12_shared_33 : decode cX12_shared 33 = .ok (.istore_n 2, 1) := by decide +kernel
theorem dX12_shared_34 : decode cX12_shared 34 = .ok (.iload_n 2, 1) := by decide +kernel
theorem dX12_shared_35 : decode cX12_shared 35 = .ok (.sipush 256, 3) := by decide +kernel
theorem dX12_shared_38 : decode cX12_shared 38 = .ok (.if_icmp .ge 24, 3) := by decide +kernel
theorem dX12_shared_41 : decode cX12_shared 41 = .ok (.aload_n 0, 1) := by decide +kernel
theorem dX12_shared_42 : decode cX12_shared 42 = .ok (.getfield 50, 3) := by decide +kernel
theorem dX12_shared_45 : decode cX12_shared 45 = .ok (.iload_n 2, 1) := by decide +kernel
theorem dX12_shared_46 : decode cX12_shared 46 = .ok (.iload_n 2, 1) := by decide +kernel
theorem dX12_shared_47 : decode cX12_shared 47 = .ok (.ifCond .ne 7, 3) := by decide +kernel
theorem dX12_shared_50 : decode cX12_shared 50 = .ok (.iconst 1, 1) := by decide +kernel
theorem dX12_shared_51 : decode cX12_shared 51 = .ok (.goto 4, 3) := by decide +kernel
theorem dX12_shared_54 : decode cX12_shared 54 = .ok (.iconst 0, 1) := by decide +kernel
theorem dX12_shared_55 : decode cX12_shared 55 = .ok (.iastore, 1) := by decide +kernel
theorem dX12_shared_56 : decode cX12_shared 56 = .ok (.iinc 2 1, 3) := by decide +kernel
theorem dX12_shared_59 : decode cX12_shared 59 = .ok (.goto (-25), 3) := by decide +kernel
theorem dX12_shared_62 : decode cX12_shared 62 = .ok (.iconst 0, 1) := by decide +kernel
theorem dX12_shared_63 : decode cX12_shared 63 = .ok (.istore_n 2, 1) := by decide +kernel
theorem dX12_shared_64 : decode cX12_shared 64 = .ok (.iload_n 2, 1) := by decide +kernel
theorem dX12_shared_65 : decode cX12_shared 65 = .ok (.aload_n 0, 1) := by decide +kernel
theorem dX12_shared_66 : decode cX12_shared 66 = .ok (.getfield 35, 3) := by decide +kernel
theorem dX12_shared_69 : decode cX12_shared 69 = .ok (.iconst 1, 1) := by decide +kernel
theorem dX12_shared_70 : decode cX12_shared 70 = .ok (.iaload, 1) := by decide +kernel
theorem dX12_shared_71 : decode cX12_shared 71 = .ok (.if_icmp .ge 90, 3) := by decide +kernel
theorem dX12_shared_74 : decode cX12_shared 74 = .ok (.sipush 255, 3) := by decide +kernel
theorem dX12_shared_77 : decode cX12_shared 77 = .ok (.istore_n 3, 1) := by decide +kernel
theorem dX12_shared_78 : decode cX12_shared 78 = .ok (.iload_n 3, 1) := by decide +kernel
theorem dX12_shared_79 : decode cX12_shared 79 = .ok (.ifCond .le 76, 3) := by decide +kernel
theorem dX12_shared_82 : decode cX12_shared 82 = .ok (.iload_n 3, 1) := by decide +kernel
theorem dX12_shared_83 : decode cX12_shared 83 = .ok (.istore 4, 2) := by decide +kernel
theorem dX12_shared_85 : decode cX12_shared 85 = .ok (.iload 4, 2) := by decide +kernel
theorem dX12_shared_87 : decode cX12_shared 87 = .ok (.ifCond .le 62, 3) := by decide +kernel
theorem dX12_shared_90 : decode cX12_shared 90 = .ok (.aload_n 0, 1) := by decide +kernel
theorem dX12_shared_91 : decode cX12_shared 91 = .ok (.getfield 50, 3) := by decide +kernel
theorem dX12_shared_94 : decode cX12_shared 94 = .ok (.iload_n 3, 1) := by decide +kernel
theorem dX12_shared_95 : decode cX12_shared 95 = .ok (.iaload, 1) := by decide +kernel
theorem dX12_shared_96 : decode cX12_shared 96 = .ok (.ifCond .ne 53, 3) := by decide +kernel
theorem dX12_shared_99 : decode cX12_shared 99 = .ok (.aload_n 0, 1) := by decide +kernel
theorem dX12_shared_100 : decode cX12_shared 100 = .ok (.getfield 47, 3) := by decide +kernel
theorem dX12_shared_103 : decode cX12_shared 103 = .ok (.sipush 256, 3) := by decide +kernel
theorem dX12_shared_106 : decode cX12_shared 106 = .ok (.iload_n 2, 1) := by decide +kernel
theorem dX12_shared_107 : decode cX12_shared 107 = .ok (.imul, 1) := by decide +kernel
theorem dX12_shared_108 : decode cX12_shared 108 = .ok (.iload 4, 2) := by decide +kernel
theorem dX12_shared_110 : decode cX12_shared 110 = .ok (.iadd, 1) := by decide +kernel
theorem dX12_shared_111 : decode cX12_shared 111 = .ok (.iaload, 1) := by decide +kernel
theorem dX12_shared_112 : decode cX12_shared 112 = .ok (.iload_n 1, 1) := by decide +kernel
theorem dX12_shared_113 : decode cX12_shared 113 = .ok (.if_icmp .gt 25, 3) := by decide +kernel
theorem dX12_shared_116 : decode cX12_shared 116 = .ok (.aload_n 0, 1) := by decide +kernel
theorem dX12_shared_117 : decode cX12_shared 117 = .ok (.getfield 50, 3) := by decide +kernel
theorem dX12_shared_120 : decode cX12_shared 120 = .ok (.iload_n 3, 1) := by decide +kernel
theorem dX12_shared_121 : decode cX12_shared 121 = .ok (.iload 4, 2) := by decide +kernel
theorem dX12_shared_123 : decode cX12_shared 123 = .ok (.iconst (-1), 1) := by decide +kernel
theorem dX12_shared_124 : decode cX12_shared 124 = .ok (.ixor, 1) := by decide +kernel
theorem dX12_shared_125 : decode cX12_shared 125 = .ok (.iand, 1) := by decide +kernel
theorem dX12_shared_126 : decode cX12_shared 126 = .ok (.iaload, 1) := by decide +kernel
theorem dX12_shared_127 : decode cX12_shared 127 = .ok (.iconst 1, 1) := by decide +kernel
theorem dX12_shared_128 : decode cX12_shared 128 = .ok (.if_icmp .ne 10, 3) := by decide +kernel
theorem dX12_shared_131 : decode cX12_shared 131 = .ok (.aload_n 0, 1) := by decide +kernel
theorem dX12_shared_132 : decode cX12_shared 132 = .ok (.getfield 50, 3) := by decide +kernel
theorem dX12_shared_135 : decode cX12_shared 135 = .ok (.iload_n 3, 1) := by decide +kernel
theorem dX12_shared_136 : decode cX12_shared 136 = .ok (.iconst 1, 1) := by decide +kernel
theorem dX12_shared_137 : decode cX12_shared 137 = .ok (.iastore, 1) := by decide +kernel
theorem dX12_shared_138 : decode cX12_shared 138 = .ok (.iload 4, 2) := by decide +kernel
theorem dX12_shared_140 : decode cX12_shared 140 = .ok (.iconst 1, 1) := by decide +kernel
theorem dX12_shared_141 : decode cX12_shared 141 = .ok (.isub, 1) := by decide +kernel
theorem dX12_shared_142 : decode cX12_shared 142 = .ok (.iload_n 3, 1) := by decide +kernel
theorem dX12_shared_143 : decode cX12_shared 143 = .ok (.iand, 1) := by decide +kernel
theorem dX12_shared_144 : decode cX12_shared 144 = .ok (.istore 4, 2) := by decide +kernel
theorem dX12_shared_146 : decode cX12_shared 146 = .ok (.goto (-61), 3) := by decide +kernel
theorem dX12_shared_149 : decode cX12_shared 149 = .ok (.iinc 3 (-1), 3) := by decide +kernel
theorem dX12_shared_152 : decode cX12_shared 152 = .ok (.goto (-74), 3) := by decide +kernel
theorem dX12_shared_155 : decode cX12_shared 155 = .ok (.iinc 2 1, 3) := by decide +kernel
theorem dX12_shared_158 : decode cX12_shared 158 = .ok (.goto (-94), 3) := by decide +kernel
theorem dX12_shared_161 : decode cX12_shared 161 = .ok (.iconst 0, 1) := by decide +kernel
theorem dX12_shared_162 : decode cX12_shared 162 = .ok (.istore_n 2, 1) := by decide +kernel
theorem dX12_shared_163 : decode cX12_shared 163 = .ok (.iconst 0, 1) := by decide +kernel
theorem dX12_shared_164 : decode cX12_shared 164 = .ok (.istore_n 3, 1) := by decide +kernel
theorem dX12_shared_165 : decode cX12_shared 165 = .ok (.iload_n 3, 1) := by decide +kernel
theorem dX12_shared_166 : decode cX12_shared 166 = .ok (.sipush 256, 3) := by decide +kernel
theorem dX12_shared_169 : decode cX12_shared 169 = .ok (.if_icmp .ge 29, 3) := by decide +kernel
theorem dX12_shared_172 : decode cX12_shared 172 = .ok (.aload_n 0, 1) := by decide +kernel
theorem dX12_shared_173 : decode cX12_shared 173 = .ok (.getfield 50, 3) := by decide +kernel
theorem dX12_shared_176 : decode cX12_shared 176 = .ok (.iload_n 3, 1) := by decide +kernel
theorem dX12_shared_177 : decode cX12_shared 177 = .ok (.iaload, 1) := by decide +kernel
theorem dX12_shared_178 : decode cX12_shared 178 = .ok (.iconst 1, 1) := by decide +kernel
theorem dX12_shared_179 : decode cX12_shared 179 = .ok (.if_icmp .ne 13, 3) := by decide +kernel
theorem dX12_shared_182 : decode cX12_shared 182 = .ok (.iload_n 2, 1) := by decide +kernel
theorem dX12_shared_183 : decode cX12_shared 183 = .ok (.aload_n 0, 1) := by decide +kernel
theorem dX12_shared_184 : decode cX12_shared 184 = .ok (.iload_n 3, 1) := by decide +kernel
theorem dX12_shared_185 : decode cX12_shared 185 = .ok (.invokevirtual 428, 3) := by decide +kernel
theorem dX12_shared_188 : decode cX12_shared 188 = .ok (.invokestatic 264, 3) := by decide +kernel
theorem dX12_shared_191 : decode cX12_shared 191 = .ok (.istore_n 2, 1) := by decide +kernel
theorem dX12_shared_192 : decode cX12_shared 192 = .ok (.iinc 3 1, 3) := by decide +kernel
theorem dX12_shared_195 : decode cX12_shared 195 = .ok (.goto (-30), 3) := by decide +kernel
theorem dX12_shared_198 : decode cX12_shared 198 = .ok (.iload_n 2, 1) := by decide +kernel
theorem dX12_shared_199 : decode cX12_shared 199 = .ok (.ireturn, 1) := by decide +kernel
def j_X12_shared : JD := (yX12_shared, cX12_shared, 5, (some .int))
def b_X12_shared : BD := (5, 0, 0)
theorem dX12_allOff_0 : decode cX12_allOff 0 = .ok (.aload_n 0, 1) := by decide +kernel
theorem dX12_allOff_1 : decode cX12_allOff 1 = .ok (.iconst 0, 1) := by decide +kernel
theorem dX12_allOff_2 : decode cX12_allOff 2 = .ok (.putfield 68, 3) := by decide +kernel
theorem dX12_allOff_5 : decode cX12_allOff 5 = .ok (.aload_n 0, 1) := by decide +kernel
theorem dX12_allOff_6 : decode cX12_allOff 6 = .ok (.iconst 0, 1) := by decide +kernel
theorem dX12_allOff_7 : decode cX12_allOff 7 = .ok (.putfield 71, 3) := by decide +kernel
theorem dX12_allOff_10 : decode cX12_allOff 10 = .ok (.aload_n 0, 1) := by decide +kernel
theorem dX12_allOff_11 : decode cX12_allOff 11 = .ok (.invokevirtual 451, 3) := by decide +kernel
theorem dX12_allOff_14 : decode cX12_allOff 14 = .ok (.iconst 0, 1) := by decide +kernel
theorem dX12_allOff_15 : decode cX12_allOff 15 = .ok (.istore_n 1, 1) := by decide +kernel
theorem dX12_allOff_16 : decode cX12_allOff 16 = .ok (.iload_n 1, 1) := by decide +kernel
theorem dX12_allOff_17 : decode cX12_allOff 17 = .ok (.sipush 256, 3) := by decide +kernel
theorem dX12_allOff_20 : decode cX12_allOff 20 = .ok (.if_icmp .ge 26, 3) := by decide +kernel
theorem dX12_allOff_23 : decode cX12_allOff 23 = .ok (.aload_n 0, 1) := by decide +kernel
theorem dX12_allOff_24 : decode cX12_allOff 24 = .ok (.getfield 50, 3) := by decide +kernel
theorem dX12_allOff_27 : decode cX12_allOff 27 = .ok (.iload_n 1, 1) := by decide +kernel
theorem dX12_allOff_28 : decode cX12_allOff 28 = .ok (.iload_n 1, 1) := by decide +kernel
theorem dX12_allOff_29 : decode cX12_allOff 29 = .ok (.ifCond .ne 7, 3) := by decide +kernel
theorem dX12_allOff_32 : decode cX12_allOff 32 = .ok (.iconst 0, 1) := by decide +kernel
theorem dX12_allOff_33 : decode cX12_allOff 33 = .ok (.goto 6, 3) := by decide +kernel
theorem dX12_allOff_36 : decode cX12_allOff 36 = .ok (.ldc_w 434, 3) := by decide +kernel
theorem dX12_allOff_39 : decode cX12_allOff 39 = .ok (.iastore, 1) := by decide +kernel
theorem dX12_allOff_40 : decode cX12_allOff 40 = .ok (.iinc 1 1, 3) := by decide +kernel
theorem dX12_allOff_43 : decode cX12_allOff 43 = .ok (.goto (-27), 3) := by decide +kernel
theorem dX12_allOff_46 : decode cX12_allOff 46 = .ok (.iconst 0, 1) := by decide +kernel
theorem dX12_allOff_47 : decode cX12_allOff 47 = .ok (.istore_n 1, 1) := by decide +kernel
theorem dX12_allOff_48 : decode cX12_allOff 48 = .ok (.iload_n 1, 1) := by decide +kernel
theorem dX12_allOff_49 : decode cX12_allOff 49 = .ok (.aload_n 0, 1) := by decide +kernel
theorem dX12_allOff_50 : decode cX12_allOff 50 = .ok (.getfield 35, 3) := by decide +kernel
theorem dX12_allOff_53 : decode cX12_allOff 53 = .ok (.iconst 1, 1) := by decide +kernel
theorem dX12_allOff_54 : decode cX12_allOff 54 = .ok (.iaload, 1) := by decide +kernel
theorem dX12_allOff_55 : decode cX12_allOff 55 = .ok (.if_icmp .ge 78, 3) := by decide +kernel
theorem dX12_allOff_58 : decode cX12_allOff 58 = .ok (.sipush 255, 3) := by decide +kernel
theorem dX12_allOff_61 : decode cX12_allOff 61 = .ok (.istore_n 2, 1) := by decide +kernel
theorem dX12_allOff_62 : decode cX12_allOff 62 = .ok (.iload_n 2, 1) := by decide +kernel
theorem dX12_allOff_63 : decode cX12_allOff 63 = .ok (.ifCond .le 64, 3) := by decide +kernel
theorem dX12_allOff_66 : decode cX12_allOff 66 = .ok (.iload_n 2, 1) := by decide +kernel
theorem dX12_allOff_67 : decode cX12_allOff 67 = .ok (.istore_n 3, 1) := by decide +kernel
theorem dX12_allOff_68 : decode cX12_allOff 68 = .ok (.iload_n 3, 1) := by decide +kernel
theorem dX12_allOff_69 : decode cX12_allOff 69 = .ok (.ifCond .le 52, 3) := by decide +kernel
theorem dX12_allOff_72 : decode cX12_allOff 72 = .ok (.aload_n 0, 1) := by decide +kernel
theorem dX12_allOff_73 : decode cX12_allOff 73 = .ok (.getfield 50, 3) := by decide +kernel
theorem dX12_allOff_76 : decode cX12_allOff 76 = .ok (.iload_n 2, 1) := by decide +kernel
theorem dX12_allOff_77 : decode cX12_allOff 77 = .ok (.aload_n 0, 1) := by decide +kernel
theorem dX12_allOff_78 : decode cX12_allOff 78 = .ok (.getfield 50, 3) := by decide +kernel
theorem dX12_allOff_81 : decode cX12_allOff 81 = .ok (.iload_n 2, 1) := by decide +kernel
theorem dX12_allOff_82 : decode cX12_allOff 82 = .ok (.iaload, 1) := by decide +kernel
theorem dX12_allOff_83 : decode cX12_allOff 83 = .ok (.aload_n 0, 1) := by decide +kernel
theorem dX12_allOff_84 : decode cX12_allOff 84 = .ok (.getfield 47, 3) := by decide +kernel
theorem dX12_allOff_87 : decode cX12_allOff 87 = .ok (.sipush 256, 3) := by decide +kernel
theorem dX12_allOff_90 : decode cX12_allOff 90 = .ok (.iload_n 1, 1) := by decide +kernel
theorem dX12_allOff_91 : decode cX12_allOff 91 = .ok (.imul, 1) := by decide +kernel
theorem dX12_allOff_92 : decode cX12_allOff 92 = .ok (.iload_n 3, 1) := by decide +kernel
theorem dX12_allOff_93 : decode cX12_allOff 93 = .ok (.iadd, 1) := by decide +kernel
theorem dX12_allOff_94 : decode cX12_allOff 94 = .ok (.iaload, 1) := by decide +kernel
theorem dX12_allOff_95 : decode cX12_allOff 95 = .ok (.aload_n 0, 1) := by decide +kernel
theorem dX12_allOff_96 : decode cX12_allOff 96 = .ok (.getfield 50, 3) := by decide +kernel
theorem dX12_allOff_99 : decode cX12_allOff 99 = .ok (.iload_n 2, 1) := by decide +kernel
theorem dX12_allOff_100 : decode cX12_allOff 100 = .ok (.iload_n 3, 1) := by decide +kernel
theorem dX12_allOff_101 : decode cX12_allOff 101 = .ok (.iconst (-1), 1) := by decide +kernel
theorem dX12_allOff_102 : decode cX12_allOff 102 = .ok (.ixor, 1) := by decide +kernel
theorem dX12_allOff_103 : decode cX12_allOff 103 = .ok (.iand, 1) := by decide +kernel
theorem dX12_allOff_104 : decode cX12_allOff 104 = .ok (.iaload, 1) := by decide +kernel
theorem dX12_allOff_105 : decode cX12_allOff 105 = .ok (.invokestatic 264, 3) := by decide +kernel
theorem dX12_allOff_108 : decode cX12_allOff 108 = .ok (.invokestatic 387, 3) := by decide +kernel
theorem dX12_allOff_111 : decode cX12_allOff 111 = .ok (.iastore, 1) := by decide +kernel
theorem dX12_allOff_112 : decode cX12_allOff 112 = .ok (.iload_n 3, 1) := by decide +kernel
theorem dX12_allOff_113 : decode cX12_allOff 113 = .ok (.iconst 1, 1) := by decide +kernel
theorem dX12_allOff_114 : decode cX12_allOff 114 = .ok (.isub, 1) := by decide +kernel
theorem dX12_allOff_115 : decode cX12_allOff 115 = .ok (.iload_n 2, 1) := by decide +kernel
theorem dX12_allOff_116 : decode cX12_allOff 116 = .ok (.iand, 1) := by decide +kernel
theorem dX12_allOff_117 : decode cX12_allOff 117 = .ok (.istore_n 3, 1) := by decide +kernel
theorem dX12_allOff_118 : decode cX12_allOff 118 = .ok (.goto (-50), 3) := by decide +kernel
theorem dX12_allOff_121 : decode cX12_allOff 121 = .ok (.iinc 2 (-1), 3) := by decide +kernel
theorem dX12_allOff_124 : decode cX12_allOff 124 = .ok (.goto (-62), 3) := by decide +kernel
theorem dX12_allOff_127 : decode cX12_allOff 127 = .ok (.iinc 1 1, 3) := by decide +kernel
theorem dX12_allOff_130 : decode cX12_allOff 130 = .ok (.goto (-82), 3) := by decide +kernel
theorem dX12_allOff_133 : decode cX12_allOff 133 = .ok (.aload_n 0, 1) := by decide +kernel
theorem dX12_allOff_134 : decode cX12_allOff 134 = .ok (.getfield 50, 3) := by decide +kernel
theorem dX12_allOff_137 : decode cX12_allOff 137 = .ok (.aload_n 0, 1) := by decide +kernel
theorem dX12_allOff_138 : decode cX12_allOff 138 = .ok (.invokevirtual 431, 3) := by decide +kernel
theorem dX12_allOff_141 : decode cX12_allOff 141 = .ok (.iaload, 1) := by decide +kernel
theorem dX12_allOff_142 : decode cX12_allOff 142 = .ok (.sipush 999, 3) := by decide +kernel
theorem dX12_allOff_145 : decode cX12_allOff 145 = .ok (.if_icmp .le 12, 3) := by decide +kernel
theorem dX12_allOff_148 : decode cX12_allOff 148 = .ok (.aload_n 0, 1) := by decide +kernel
theorem dX12_allOff_149 : decode cX12_allOff 149 = .ok (.bipush 8, 2) := by decide +kernel
theorem dX12_allOff_151 : decode cX12_allOff 151 = .ok (.invokevirtual 331, 3) := by decide +kernel
theorem dX12_allOff_154 : decode cX12_allOff 154 = .ok (.goto 12, 3) := by decide +kernel
theorem dX12_allOff_157 : decode cX12_allOff 157 = .ok (.aload_n 0, 1) := by decide +kernel
theorem dX12_allOff_158 : decode cX12_allOff 158 = .ok (.getfield 50, 3) := by decide +kernel
theorem dX12_allOff_161 : decode cX12_allOff 161 = .ok (.aload_n 0, 1) := by decide +kernel
theorem dX12_allOff_162 : decode cX12_allOff 162 = .ok (.invokevirtual 431, 3) := by decide +kernel
theorem dX12_allOff_165 : decode cX12_allOff 165 = .ok (.iaload, 1) := by decide +kernel
theorem dX12_allOff_166 : decode cX12_allOff 166 = .ok (.ireturn, 1) := by decide +kernel
def j_X12_allOff : JD := (yX12_allOff, cX12_allOff, 4, (some .int))
def b_X12_allOff : BD := (5, 0, 0)
theorem dX12_whyNoScore_0 : decode cX12_whyNoScore 0 = .ok (.aload_n 0, 1) := by decide +kernel
theorem dX12_whyNoScore_1 : decode cX12_whyNoScore 1 = .ok (.iload_n 1, 1) := by decide +kernel
theorem dX12_whyNoScore_2 : decode cX12_whyNoScore 2 = .ok (.invokevirtual 454, 3) := by decide +kernel
theorem dX12_whyNoScore_5 : decode cX12_whyNoScore 5 = .ok (.ifCond .eq 11, 3) := by decide +kernel
theorem dX12_whyNoScore_8 : decode cX12_whyNoScore 8 = .ok (.aload_n 0, 1) := by decide +kernel
theorem dX12_whyNoScore_9 : decode cX12_whyNoScore 9 = .ok (.iload_n 2, 1) := by decide +kernel
theorem dX12_whyNoScore_10 : decode cX12_whyNoScore 10 = .ok (.invokevirtual 454, 3) := by decide +kernel
theorem dX12_whyNoScore_13 : decode cX12_whyNoScore 13 = .ok (.ifCond .ne 5, 3) := by decide +kernel
theorem dX12_whyNoScore_16 : decode cX12_whyNoScore 16 = .ok (.iconst 1, 1) := by decide +kernel
theorem dX12_whyNoScore_17 : decode cX12_whyNoScore 17 = .ok (.ireturn, 1) := by decide +kernel
theorem dX12_whyNoScore_18 : decode cX12_whyNoScore 18 = .ok (.aload_n 0, 1) := by decide +kernel
theorem dX12_whyNoScore_19 : decode cX12_whyNoScore 19 = .ok (.getfield 17, 3) := by decide +kernel
theorem dX12_whyNoScore_22 : decode cX12_whyNoScore 22 = .ok (.iload_n 1, 1) := by decide +kernel
theorem dX12_whyNoScore_23 : decode cX12_whyNoScore 23 = .ok (.iaload, 1) := by decide +kernel
theorem dX12_whyNoScore_24 : decode cX12_whyNoScore 24 = .ok (.ifCond .lt 12, 3) := by decide +kernel
theorem dX12_whyNoScore_27 : decode cX12_whyNoScore 27 = .ok (.aload_n 0, 1) := by decide +kernel
theorem dX12_whyNoScore_28 : decode cX12_whyNoScore 28 = .ok (.getfield 17, 3) := by decide +kernel
theorem dX12_whyNoScore_31 : decode cX12_whyNoScore 31 = .ok (.iload_n 2, 1) := by decide +kernel
theorem dX12_whyNoScore_32 : decode cX12_whyNoScore 32 = .ok (.iaload, 1) := by decide +kernel
theorem dX12_whyNoScore_33 : decode cX12_whyNoScore 33 = .ok (.ifCond .ge 5, 3) := by decide +kernel
theorem dX12_whyNoScore_36 : decode cX12_whyNoScore 36 = .ok (.iconst 3, 1) := by decide +kernel
theorem dX12_whyNoScore_37 : decode cX12_whyNoScore 37 = .ok (.ireturn, 1) := by decide +kernel
theorem dX12_whyNoScore_38 : decode cX12_whyNoScore 38 = .ok (.aload_n 0, 1) := by decide +kernel
theorem dX12_whyNoScore_39 : decode cX12_whyNoScore 39 = .ok (.getfield 17, 3) := by decide +kernel
theorem dX12_whyNoScore_42 : decode cX12_whyNoScore 42 = .ok (.iload_n 1, 1) := by decide +kernel
theorem dX12_whyNoScore_43 : decode cX12_whyNoScore 43 = .ok (.iaload, 1) := by decide +kernel
theorem dX12_whyNoScore_44 : decode cX12_whyNoScore 44 = .ok (.iload_n 3, 1) := by decide +kernel
theorem dX12_whyNoScore_45 : decode cX12_whyNoScore 45 = .ok (.if_icmp .lt 13, 3) := by decide +kernel
theorem dX12_whyNoScore_48 : decode cX12_whyNoScore 48 = .ok (.aload_n 0, 1) := by decide +kernel
theorem dX12_whyNoScore_49 : decode cX12_whyNoScore 49 = .ok (.getfield 17, 3) := by decide +kernel
theorem dX12_whyNoScore_52 : decode cX12_whyNoScore 52 = .ok (.iload_n 2, 1) := by decide +kernel
theorem dX12_whyNoScore_53 : decode cX12_whyNoScore 53 = .ok (.iaload, 1) := by decide +kernel
theorem dX12_whyNoScore_54 : decode cX12_whyNoScore 54 = .ok (.iload_n 3, 1) := by decide +kernel
theorem dX12_whyNoScore_55 : decode cX12_whyNoScore 55 = .ok (.if_icmp .ge 5, 3) := by decide +kernel
theorem dX12_whyNoScore_58 : decode cX12_whyNoScore 58 = .ok (.iconst 4, 1) := by decide +kernel
theorem dX12_whyNoScore_59 : decode cX12_whyNoScore 59 = .ok (.ireturn, 1) := by decide +kernel
theorem dX12_whyNoScore_60 : decode cX12_whyNoScore 60 = .ok (.iload_n 3, 1) := by decide +kernel
theorem dX12_whyNoScore_61 : decode cX12_whyNoScore 61 = .ok (.i2l, 1) := by decide +kernel
theorem dX12_whyNoScore_62 : decode cX12_whyNoScore 62 = .ok (.lconst 1, 1) := by decide +kernel
theorem dX12_whyNoScore_63 : decode cX12_whyNoScore 63 = .ok (.ldc2_w 457, 3) := by decide +kernel
theorem dX12_whyNoScore_66 : decode cX12_whyNoScore 66 = .ok (.invokestatic 103, 3) := by decide +kernel
theorem dX12_whyNoScore_69 : decode cX12_whyNoScore 69 = .ok (.ifCond .ne 5, 3) := by decide +kernel
theorem dX12_whyNoScore_72 : decode cX12_whyNoScore 72 = .ok (.iconst 5, 1) := by decide +kernel
theorem dX12_whyNoScore_73 : decode cX12_whyNoScore 73 = .ok (.ireturn, 1) := by decide +kernel
theorem dX12_whyNoScore_74 : decode cX12_whyNoScore 74 = .ok (.iconst 0, 1) := by decide +kernel
theorem dX12_whyNoScore_75 : decode cX12_whyNoScore 75 = .ok (.istore 4, 2) := by decide +kernel
theorem dX12_whyNoScore_77 : decode cX12_whyNoScore 77 = .ok (.iload 4, 2) := by decide +kernel
theorem dX12_whyNoScore_79 : decode cX12_whyNoScore 79 = .ok (.iload_n 3, 1) := by decide +kernel
theorem dX12_whyNoScore_80 : decode cX12_whyNoScore 80 = .ok (.if_icmp .ge 43, 3) := by decide +kernel
theorem dX12_whyNoScore_83 : decode cX12_whyNoScore 83 = .ok (.aload_n 0, 1) := by decide +kernel
theorem dX12_whyNoScore_84 : decode cX12_whyNoScore 84 = .ok (.iload_n 1, 1) := by decide +kernel
theorem dX12_whyNoScore_85 : decode cX12_whyNoScore 85 = .ok (.iload 4, 2) := by decide +kernel
theorem dX12_whyNoScore_87 : decode cX12_whyNoScore 87 = .ok (.invokevirtual 459, 3) := by decide +kernel
theorem dX12_whyNoScore_90 : decode cX12_whyNoScore 90 = .ok (.lconst 0, 1) := by decide +kernel
theorem dX12_whyNoScore_91 : decode cX12_whyNoScore 91 = .ok (.ldc2_w 463, 3) := by decide +kernel
theorem dX12_whyNoScore_94 : decode cX12_whyNoScore 94 = .ok (.invokestatic 103, 3) := by decide +kernel
theorem dX12_whyNoScore_97 : decode cX12_whyNoScore 97 = .ok (.ifCond .eq 18, 3) := by decide +kernel
theorem dX12_whyNoScore_100 : decode cX12_whyNoScore 100 = .ok (.aload_n 0, 1) := by decide +kernel
theorem dX12_whyNoScore_101 : decode cX12_whyNoScore 101 = .ok (.iload_n 2, 1) := by decide +kernel
theorem dX12_whyNoScore_102 : decode cX12_whyNoScore 102 = .ok (.iload 4, 2) := by decide +kernel
theorem dX12_whyNoScore_104 : decode cX12_whyNoScore 104 = .ok (.invokevirtual 459, 3) := by decide +kernel
theorem dX12_whyNoScore_107 : decode cX12_whyNoScore 107 = .ok (.lconst 0, 1) := by decide +kernel
theorem dX12_whyNoScore_108 : decode cX12_whyNoScore 108 = .ok (.lconst 1, 1) := by decide +kernel
theorem dX12_whyNoScore_109 : decode cX12_whyNoScore 109 = .ok (.invokestatic 103, 3) := by decide +kernel
theorem dX12_whyNoScore_112 : decode cX12_whyNoScore 112 = .ok (.ifCond .ne 5, 3) := by decide +kernel
theorem dX12_whyNoScore_115 : decode cX12_whyNoScore 115 = .ok (.iconst 5, 1) := by decide +kernel
theorem dX12_whyNoScore_116 : decode cX12_whyNoScore 116 = .ok (.ireturn, 1) := by decide +kernel
theorem dX12_whyNoScore_117 : decode cX12_whyNoScore 117 = .ok (.iinc 4 1, 3) := by decide +kernel
theorem dX12_whyNoScore_120 : decode cX12_whyNoScore 120 = .ok (.goto (-43), 3) := by decide +kernel
theorem dX12_whyNoScore_123 : decode cX12_whyNoScore 123 = .ok (.iconst 0, 1) := by decide +kernel
theorem dX12_whyNoScore_124 : decode cX12_whyNoScore 124 = .ok (.ireturn, 1) := by decide +kernel
def j_X12_whyNoScore : JD := (yX12_whyNoScore, cX12_whyNoScore, 5, (some .int))
def b_X12_whyNoScore : BD := (2, 0, 0)
theorem dX12_square_0 : decode cX12_square 0 = .ok (.iload_n 0, 1) := by decide +kernel
theorem dX12_square_1 : decode cX12_square 1 = .ok (.iload_n 0, 1) := by decide +kernel
theorem dX12_square_2 : decode cX12_square 2 = .ok (.imul, 1) := by decide +kernel
theorem dX12_square_3 : decode cX12_square 3 = .ok (.ireturn, 1) := by decide +kernel
def j_X12_square : JD := (yX12_square, cX12_square, 1, (some .int))
def b_X12_square : BD := (0, 0, 0)
theorem dX12_scoreOf_0 : decode cX12_scoreOf 0 = .ok (.iconst 0, 1) := by decide +kernel
theorem dX12_scoreOf_1 : decode cX12_scoreOf 1 = .ok (.istore 4, 2) := by decide +kernel
theorem dX12_scoreOf_3 : decode cX12_scoreOf 3 = .ok (.iconst 0, 1) := by decide +kernel
theorem dX12_scoreOf_4 : decode cX12_scoreOf 4 = .ok (.istore 5, 2) := by decide +kernel
theorem dX12_scoreOf_6 : decode cX12_scoreOf 6 = .ok (.iload 5, 2) := by decide +kernel
theorem dX12_scoreOf_8 : decode cX12_scoreOf 8 = .ok (.iload_n 3, 1) := by decide +kernel
theorem dX12_scoreOf_9 : decode cX12_scoreOf 9 = .ok (.if_icmp .ge 37, 3) := by decide +kernel
theorem dX12_scoreOf_12 : decode cX12_scoreOf 12 = .ok (.iload 4, 2) := by decide +kernel
theorem dX12_scoreOf_14 : decode cX12_scoreOf 14 = .ok (.aload_n 0, 1) := by decide +kernel
theorem dX12_scoreOf_15 : decode cX12_scoreOf 15 = .ok (.iload_n 1, 1) := by decide +kernel
theorem dX12_scoreOf_16 : decode cX12_scoreOf 16 = .ok (.iload 5, 2) := by decide +kernel
theorem dX12_scoreOf_18 : decode cX12_scoreOf 18 = .ok (.invokevirtual 459, 3) := by decide +kernel
theorem dX12_scoreOf_21 : decode cX12_scoreOf 21 = .ok (.ldc2_w 463, 3) := by decide +kernel
theorem dX12_scoreOf_24 : decode cX12_scoreOf 24 = .ok (.aload_n 0, 1) := by decide +kernel
theorem dX12_scoreOf_25 : decode cX12_scoreOf 25 = .ok (.iload_n 2, 1) := by decide +kernel
theorem dX12_scoreOf_26 : decode cX12_scoreOf 26 = .ok (.iload 5, 2) := by decide +kernel
theorem dX12_scoreOf_28 : decode cX12_scoreOf 28 = .ok (.invokevirtual 459, 3) := by decide +kernel
theorem dX12_scoreOf_31 : decode cX12_scoreOf 31 = .ok (.lmul, 1) := by decide +kernel
theorem dX12_scoreOf_32 : decode cX12_scoreOf 32 = .ok (.lsub, 1) := by decide +kernel
theorem dX12_scoreOf_33 : decode cX12_scoreOf 33 = .ok (.l2i, 1) := by decide +kernel
theorem dX12_scoreOf_34 : decode cX12_scoreOf 34 = .ok (.invokestatic 465, 3) := by decide +kernel
theorem dX12_scoreOf_37 : decode cX12_scoreOf 37 = .ok (.iadd, 1) := by decide +kernel
theorem dX12_scoreOf_38 : decode cX12_scoreOf 38 = .ok (.istore 4, 2) := by decide +kernel
theorem dX12_scoreOf_40 : decode cX12_scoreOf 40 = .ok (.iinc 5 1, 3) := by decide +kernel
theorem dX12_scoreOf_43 : decode cX12_scoreOf 43 = .ok (.goto (-37), 3) := by decide +kernel
theorem dX12_scoreOf_46 : decode cX12_scoreOf 46 = .ok (.iload 4, 2) := by decide +kernel
theorem dX12_scoreOf_48 : decode cX12_scoreOf 48 = .ok (.ireturn, 1) := by decide +kernel
def j_X12_scoreOf : JD := (yX12_scoreOf, cX12_scoreOf, 6, (some .int))
def b_X12_scoreOf : BD := (1, 0, 0)
theorem dX12_score_0 : decode cX12_score 0 = .ok (.aload_n 0, 1) := by decide +kernel
theorem dX12_score_1 : decode cX12_score 1 = .ok (.iconst 0, 1) := by decide +kernel
theorem dX12_score_2 : decode cX12_score 2 = .ok (.putfield 68, 3) := by decide +kernel
theorem dX12_score_5 : decode cX12_score 5 = .ok (.aload_n 0, 1) := by decide +kernel
theorem dX12_score_6 : decode cX12_score 6 = .ok (.aload_n 0, 1) := by decide +kernel
theorem dX12_score_7 : decode cX12_score 7 = .ok (.iload_n 1, 1) := by decide +kernel
theorem dX12_score_8 : decode cX12_score 8 = .ok (.iload_n 2, 1) := by decide +kernel
theorem dX12_score_9 : decode cX12_score 9 = .ok (.iload_n 3, 1) := by decide +kernel
theorem dX12_score_10 : decode cX12_score 10 = .ok (.invokevirtual 468, 3) := by decide +kernel
theorem dX12_score_13 : decode cX12_score 13 = .ok (.putfield 71, 3) := by decide +kernel
theorem dX12_score_16 : decode cX12_score 16 = .ok (.aload_n 0, 1) := by decide +kernel
theorem dX12_score_17 : decode cX12_score 17 = .ok (.getfield 71, 3) := by decide +kernel
theorem dX12_score_20 : decode cX12_score 20 = .ok (.ifCond .le 7, 3) := by decide +kernel
theorem dX12_score_23 : decode cX12_score 23 = .ok (.iconst (-1), 1) := by decide +kernel
theorem dX12_score_24 : decode cX12_score 24 = .ok (.goto 10, 3) := by decide +kernel
theorem dX12_score_27 : decode cX12_score 27 = .ok (.aload_n 0, 1) := by decide +kernel
theorem dX12_score_28 : decode cX12_score 28 = .ok (.iload_n 1, 1) := by decide +kernel
theorem dX12_score_29 : decode cX12_score 29 = .ok (.iload_n 2, 1) := by decide +kernel
theorem dX12_score_30 : decode cX12_score 30 = .ok (.iload_n 3, 1) := by decide +kernel
theorem dX12_score_31 : decode cX12_score 31 = .ok (.invokevirtual 471, 3) := by decide +kernel
theorem dX12_score_34 : decode cX12_score 34 = .ok (.ireturn, 1) := by decide +kernel
def j_X12_score : JD := (yX12_score, cX12_score, 4, (some .int))
def b_X12_score : BD := (3, 0, 0)
theorem dX12_words_0 : decode cX12_words 0 = .ok (.aload_n 0, 1) := by decide +kernel
theorem dX12_words_1 : decode cX12_words 1 = .ok (.iconst 0, 1) := by decide +kernel
theorem dX12_words_2 : decode cX12_words 2 = .ok (.putfield 68, 3) := by decide +kernel
theorem dX12_words_5 : decode cX12_words 5 = .ok (.aload_n 0, 1) := by decide +kernel
theorem dX12_words_6 : decode cX12_words 6 = .ok (.aload_n 0, 1) := by decide +kernel
theorem dX12_words_7 : decode cX12_words 7 = .ok (.iload_n 1, 1) := by decide +kernel
theorem dX12_words_8 : decode cX12_words 8 = .ok (.iload_n 2, 1) := by decide +kernel
theorem dX12_words_9 : decode cX12_words 9 = .ok (.iload_n 3, 1) := by decide +kernel
theorem dX12_words_10 : decode cX12_words 10 = .ok (.invokevirtual 468, 3) := by decide +kernel
theorem dX12_words_13 : decode cX12_words 13 = .ok (.putfield 71, 3) := by decide +kernel
theorem dX12_words_16 : decode cX12_words 16 = .ok (.aload_n 0, 1) := by decide +kernel
theorem dX12_words_17 : decode cX12_words 17 = .ok (.getfield 71, 3) := by decide +kernel
theorem dX12_words_20 : decode cX12_words 20 = .ok (.ifCond .le 5, 3) := by decide +kernel
theorem dX12_words_23 : decode cX12_words 23 = .ok (.iconst (-1), 1) := by decide +kernel
theorem dX12_words_24 : decode cX12_words 24 = .ok (.ireturn, 1) := by decide +kernel
theorem dX12_words_25 : decode cX12_words 25 = .ok (.iconst 0, 1) := by decide +kernel
theorem dX12_words_26 : decode cX12_words 26 = .ok (.istore 4, 2) := by decide +kernel
theorem dX12_words_28 : decode cX12_words 28 = .ok (.iconst 0, 1) := by decide +kernel
theorem dX12_words_29 : decode cX12_words 29 = .ok (.istore 5, 2) := by decide +kernel
theorem dX12_words_31 : decode cX12_words 31 = .ok (.iload 5, 2) := by decide +kernel
theorem dX12_words_33 : decode cX12_words 33 = .ok (.iload_n 3, 1) := by decide +kernel
theorem dX12_words_34 : decode cX12_words 34 = .ok (.if_icmp .ge 22, 3) := by decide +kernel
theorem dX12_words_37 : decode cX12_words 37 = .ok (.iload 4, 2) := by decide +kernel
theorem dX12_words_39 : decode cX12_words 39 = .ok (.aload_n 0, 1) := by decide +kernel
theorem dX12_words_40 : decode cX12_words 40 = .ok (.iload_n 2, 1) := by decide +kernel
theorem dX12_words_41 : decode cX12_words 41 = .ok (.iload 5, 2) := by decide +kernel
theorem dX12_words_43 : decode cX12_words 43 = .ok (.invokevirtual 459, 3) := by decide +kernel
theorem dX12_words_46 : decode cX12_words 46 = .ok (.l2i, 1) := by decide +kernel
theorem dX12_words_47 : decode cX12_words 47 = .ok (.iadd, 1) := by decide +kernel
theorem dX12_words_48 : decode cX12_words 48 = .ok (.istore 4, 2) := by decide +kernel
theorem dX12_words_50 : decode cX12_words 50 = .ok (.iinc 5 1, 3) := by decide +kernel
theorem dX12_words_53 : decode cX12_words 53 = .ok (.goto (-22), 3) := by decide +kernel
theorem dX12_words_56 : decode cX12_words 56 = .ok (.bipush 100, 2) := by decide +kernel
theorem dX12_words_58 : decode cX12_words 58 = .ok (.iload 4, 2) := by decide +kernel
theorem dX12_words_60 : decode cX12_words 60 = .ok (.imul, 1) := by decide +kernel
theorem dX12_words_61 : decode cX12_words 61 = .ok (.iload_n 3, 1) := by decide +kernel
theorem dX12_words_62 : decode cX12_words 62 = .ok (.idiv, 1) := by decide +kernel
theorem dX12_words_63 : decode cX12_words 63 = .ok (.istore 5, 2) := by decide +kernel
theorem dX12_words_65 : decode cX12_words 65 = .ok (.iload 4, 2) := by decide +kernel
theorem dX12_words_67 : decode cX12_words 67 = .ok (.iload 5, 2) := by decide +kernel
theorem dX12_words_69 : decode cX12_words 69 = .ok (.bipush 100, 2) := by decide +kernel
theorem dX12_words_71 : decode cX12_words 71 = .ok (.isub, 1) := by decide +kernel
theorem dX12_words_72 : decode cX12_words 72 = .ok (.invokestatic 465, 3) := by decide +kernel
theorem dX12_words_75 : decode cX12_words 75 = .ok (.imul, 1) := by decide +kernel
theorem dX12_words_76 : decode cX12_words 76 = .ok (.iload_n 3, 1) := by decide +kernel
theorem dX12_words_77 : decode cX12_words 77 = .ok (.iload 4, 2) := by decide +kernel
theorem dX12_words_79 : decode cX12_words 79 = .ok (.isub, 1) := by decide +kernel
theorem dX12_words_80 : decode cX12_words 80 = .ok (.iload 5, 2) := by decide +kernel
theorem dX12_words_82 : decode cX12_words 82 = .ok (.invokestatic 465, 3) := by decide +kernel
theorem dX12_words_85 : decode cX12_words 85 = .ok (.imul, 1) := by decide +kernel
theorem dX12_words_86 : decode cX12_words 86 = .ok (.iadd, 1) := by decide +kernel
theorem dX12_words_87 : decode cX12_words 87 = .ok (.aload_n 0, 1) := by decide +kernel
theorem dX12_words_88 : decode cX12_words 88 = .ok (.iload_n 1, 1) := by decide +kernel
theorem dX12_words_89 : decode cX12_words 89 = .ok (.iload_n 2, 1) := by decide +kernel
theorem dX12_words_90 : decode cX12_words 90 = .ok (.iload_n 3, 1) := by decide +kernel
theorem dX12_words_91 : decode cX12_words 91 = .ok (.invokevirtual 471, 3) := by decide +kernel
theorem dX12_words_94 : decode cX12_words 94 = .ok (.isub, 1) := by decide +kernel
theorem dX12_words_95 : decode cX12_words 95 = .ok (.ireturn, 1) := by decide +kernel
def j_X12_words : JD := (yX12_words, cX12_words, 6, (some .int))
def b_X12_words : BD := (3, 0, 0)
theorem dX12_owed_0 : decode cX12_owed 0 = .ok (.aload_n 0, 1) := by decide +kernel
theorem dX12_owed_1 : decode cX12_owed 1 = .ok (.iconst 0, 1) := by decide +kernel
theorem dX12_owed_2 : decode cX12_owed 2 = .ok (.putfield 68, 3) := by decide +kernel
theorem dX12_owed_5 : decode cX12_owed 5 = .ok (.aload_n 0, 1) := by decide +kernel
theorem dX12_owed_6 : decode cX12_owed 6 = .ok (.iconst 0, 1) := by decide +kernel
theorem dX12_owed_7 : decode cX12_owed 7 = .ok (.putfield 71, 3) := by decide +kernel
theorem dX12_owed_10 : decode cX12_owed 10 = .ok (.iconst (-1), 1) := by decide +kernel
theorem dX12_owed_11 : decode cX12_owed 11 = .ok (.istore_n 1, 1) := by decide +kernel
theorem dX12_owed_12 : decode cX12_owed 12 = .ok (.iconst 0, 1) := by decide +kernel
theorem dX12_owed_13 : decode cX12_owed 13 = .ok (.istore_n 2, 1) := by decide +kernel
theorem dX12_owed_14 : decode cX12_owed 14 = .ok (.iload_n 2, 1) := by decide +kernel
theorem dX12_owed_15 : decode cX12_owed 15 = .ok (.aload_n 0, 1) := by decide +kernel
theorem dX12_owed_16 : decode cX12_owed 16 = .ok (.getfield 35, 3) := by decide +kernel
theorem dX12_owed_19 : decode cX12_owed 19 = .ok (.iconst 0, 1) := by decide +kernel
theorem dX12_owed_20 : decode cX12_owed 20 = .ok (.iaload, 1) := by decide +kernel
theorem dX12_owed_21 : decode cX12_owed 21 = .ok (.if_icmp .ge 28, 3) := by decide +kernel
theorem dX12_owed_24 : decode cX12_owed 24 = .ok (.iload_n 1, 1) := by decide +kernel
theorem dX12_owed_25 : decode cX12_owed 25 = .ok (.ifCond .lt 16, 3) := by decide +kernel
theorem dX12_owed_28 : decode cX12_owed 28 = .ok (.aload_n 0, 1) := by decide +kernel
theorem dX12_owed_29 : decode cX12_owed 29 = .ok (.iload_n 2, 1) := by decide +kernel
theorem dX12_owed_30 : decode cX12_owed 30 = .ok (.invokevirtual 346, 3) := by decide +kernel
theorem dX12_owed_33 : decode cX12_owed 33 = .ok (.aload_n 0, 1) := by decide +kernel
theorem dX12_owed_34 : decode cX12_owed 34 = .ok (.iload_n 1, 1) := by decide +kernel
theorem dX12_owed_35 : decode cX12_owed 35 = .ok (.invokevirtual 346, 3) := by decide +kernel
theorem dX12_owed_38 : decode cX12_owed 38 = .ok (.if_icmp .le 5, 3) := by decide +kernel
theorem dX12_owed_41 : decode cX12_owed 41 = .ok (.iload_n 2, 1) := by decide +kernel
theorem dX12_owed_42 : decode cX12_owed 42 = .ok (.istore_n 1, 1) := by decide +kernel
theorem dX12_owed_43 : decode cX12_owed 43 = .ok (.iinc 2 1, 3) := by decide +kernel
theorem dX12_owed_46 : decode cX12_owed 46 = .ok (.goto (-32), 3) := by decide +kernel
theorem dX12_owed_49 : decode cX12_owed 49 = .ok (.iload_n 1, 1) := by decide +kernel
theorem dX12_owed_50 : decode cX12_owed 50 = .ok (.ifCond .ge 12, 3) := by decide +kernel
theorem dX12_owed_53 : decode cX12_owed 53 = .ok (.aload_n 0, 1) := by decide +kernel
theorem dX12_owed_54 : decode cX12_owed 54 = .ok (.bipush 8, 2) := by decide +kernel
theorem dX12_owed_56 : decode cX12_owed 56 = .ok (.invokevirtual 331, 3) := by decide +kernel
theorem dX12_owed_59 : decode cX12_owed 59 = .ok (.goto 4, 3) := by decide +kernel
theorem dX12_owed_62 : decode cX12_owed 62 = .ok (.iload_n 1, 1) := by decide +kernel
theorem dX12_owed_63 : decode cX12_owed 63 = .ok (.ireturn, 1) := by decide +kernel
def j_X12_owed : JD := (yX12_owed, cX12_owed, 3, (some .int))
def b_X12_owed : BD := (1, 0, 0)
theorem dX12_helpedBy_0 : decode cX12_helpedBy 0 = .ok (.iconst 0, 1) := by decide +kernel
theorem dX12_helpedBy_1 : decode cX12_helpedBy 1 = .ok (.istore_n 2, 1) := by decide +kernel
theorem dX12_helpedBy_2 : decode cX12_helpedBy 2 = .ok (.iconst 0, 1) := by decide +kernel
theorem dX12_helpedBy_3 : decode cX12_helpedBy 3 = .ok (.istore_n 3, 1) := by decide +kernel
theorem dX12_helpedBy_4 : decode cX12_helpedBy 4 = .ok (.iload_n 3, 1) := by decide +kernel
theorem dX12_helpedBy_5 : decode cX12_helpedBy 5 = .ok (.aload_n 0, 1) := by decide +kernel
theorem dX12_helpedBy_6 : decode cX12_helpedBy 6 = .ok (.getfield 35, 3) := by decide +kernel
theorem dX12_helpedBy_9 : decode cX12_helpedBy 9 = .ok (.iconst 0, 1) := by decide +kernel
theorem dX12_helpedBy_10 : decode cX12_helpedBy 10 = .ok (.iaload, 1) := by decide +kernel
theorem dX12_helpedBy_11 : decode cX12_helpedBy 11 = .ok (.if_icmp .ge 36, 3) := by decide +kernel
theorem dX12_helpedBy_14 : decode cX12_helpedBy 14 = .ok (.iload_n 2, 1) := by decide +kernel
theorem dX12_helpedBy_15 : decode cX12_helpedBy 15 = .ok (.aload_n 0, 1) := by decide +kernel
theorem dX12_helpedBy_16 : decode cX12_helpedBy 16 = .ok (.getfield 35, 3) := by decide +kernel
theorem dX12_helpedBy_19 : decode cX12_helpedBy 19 = .ok (.bipush 69, 2) := by decide +kernel
theorem dX12_helpedBy_21 : decode cX12_helpedBy 21 = .ok (.bipush 8, 2) := by decide +kernel
theorem dX12_helpedBy_23 : decode cX12_helpedBy 23 = .ok (.iload_n 3, 1) := by decide +kernel
theorem dX12_helpedBy_24 : decode cX12_helpedBy 24 = .ok (.imul, 1) := by decide +kernel
theorem dX12_helpedBy_25 : decode cX12_helpedBy 25 = .ok (.iadd, 1) := by decide +kernel
theorem dX12_helpedBy_26 : decode cX12_helpedBy 26 = .ok (.iload_n 1, 1) := by decide +kernel
theorem dX12_helpedBy_27 : decode cX12_helpedBy 27 = .ok (.iadd, 1) := by decide +kernel
theorem dX12_helpedBy_28 : decode cX12_helpedBy 28 = .ok (.iaload, 1) := by decide +kernel
theorem dX12_helpedBy_29 : decode cX12_helpedBy 29 = .ok (.ifCond .le 9, 3) := by decide +kernel
theorem dX12_helpedBy_32 : decode cX12_helpedBy 32 = .ok (.iconst 1, 1) := by decide +kernel
theorem dX12_helpedBy_33 : decode cX12_helpedBy 33 = .ok (.iload_n 3, 1) := by decide +kernel
theorem dX12_helpedBy_34 : decode cX12_helpedBy 34 = .ok (.ishl, 1) := by decide +kernel
theorem dX12_helpedBy_35 : decode cX12_helpedBy 35 = .ok (.goto 4, 3) := by decide +kernel
theorem dX12_helpedBy_38 : decode cX12_helpedBy 38 = .ok (.iconst 0, 1) := by decide +kernel
theorem dX12_helpedBy_39 : decode cX12_helpedBy 39 = .ok (.ior, 1) := by decide +kernel
theorem dX12_helpedBy_40 : decode cX12_helpedBy 40 = .ok (.istore_n 2, 1) := by decide +kernel
theorem dX12_helpedBy_41 : decode cX12_helpedBy 41 = .ok (.iinc 3 1, 3) := by decide +kernel
theorem dX12_helpedBy_44 : decode cX12_helpedBy 44 = .ok (.goto (-40), 3) := by decide +kernel
theorem dX12_helpedBy_47 : decode cX12_helpedBy 47 = .ok (.iload_n 2, 1) := by decide +kernel
theorem dX12_helpedBy_48 : decode cX12_helpedBy 48 = .ok (.ireturn, 1) := by decide +kernel
def j_X12_helpedBy : JD := (yX12_helpedBy, cX12_helpedBy, 4, (some .int))
def b_X12_helpedBy : BD := (0, 0, 0)
theorem dX12_riders_0 : decode cX12_riders 0 = .ok (.aload_n 0, 1) := by decide +kernel
theorem dX12_riders_1 : decode cX12_riders 1 = .ok (.iconst 0, 1) := by decide +kernel
theorem dX12_riders_2 : decode cX12_riders 2 = .ok (.putfield 68, 3) := by decide +kernel
theorem dX12_riders_5 : decode cX12_riders 5 = .ok (.aload_n 0, 1) := by decide +kernel
theorem dX12_riders_6 : decode cX12_riders 6 = .ok (.iconst 0, 1) := by decide +kernel
theorem dX12_riders_7 : decode cX12_riders 7 = .ok (.putfield 71, 3) := by decide +kernel
theorem dX12_riders_10 : decode cX12_riders 10 = .ok (.iconst 0, 1) := by decide +kernel
theorem dX12_riders_11 : decode cX12_riders 11 = .ok (.istore_n 1, 1) := by decide +kernel
theorem dX12_riders_12 : decode cX12_riders 12 = .ok (.iconst 0, 1) := by decide +kernel
theorem dX12_riders_13 : decode cX12_riders 13 = .ok (.istore_n 2, 1) := by decide +kernel
theorem dX12_riders_14 : decode cX12_riders 14 = .ok (.iload_n 2, 1) := by decide +kernel
theorem dX12_riders_15 : decode cX12_riders 15 = .ok (.aload_n 0, 1) := by decide +kernel
theorem dX12_riders_16 : decode cX12_riders 16 = .ok (.getfield 35, 3) := by decide +kernel
theorem dX12_riders_19 : decode cX12_riders 19 = .ok (.iconst 0, 1) := by decide +kernel
theorem dX12_riders_20 : decode cX12_riders 20 = .ok (.iaload, 1) := by decide +kernel
theorem dX12_riders_21 : decode cX12_riders 21 = .ok (.if_icmp .ge 71, 3) := by decide +kernel
theorem dX12_riders_24 : decode cX12_riders 24 = .ok (.iconst 0, 1) := by decide +kernel
theorem dX12_riders_25 : decode cX12_riders 25 = .ok (.istore_n 3, 1) := by decide +kernel
theorem dX12_riders_26 : decode cX12_riders 26 = .ok (.iconst 0, 1) := by decide +kernel
theorem dX12_riders_27 : decode cX12_riders 27 = .ok (.istore 4, 2) := by decide +kernel
theorem dX12_riders_29 : decode cX12_riders 29 = .ok (.iload 4, 2) := by decide +kernel
theorem dX12_riders_31 : decode cX12_riders 31 = .ok (.aload_n 0, 1) := by decide +kernel
theorem dX12_riders_32 : decode cX12_riders 32 = .ok (.getfield 35, 3) := by decide +kernel
theorem dX12_riders_35 : decode cX12_riders 35 = .ok (.iconst 0, 1) := by decide +kernel
theorem dX12_riders_36 : decode cX12_riders 36 = .ok (.iaload, 1) := by decide +kernel
theorem dX12_riders_37 : decode cX12_riders 37 = .ok (.if_icmp .ge 27, 3) := by decide +kernel
theorem dX12_riders_40 : decode cX12_riders 40 = .ok (.iload_n 3, 1) := by decide +kernel
theorem dX12_riders_41 : decode cX12_riders 41 = .ok (.aload_n 0, 1) := by decide +kernel
theorem dX12_riders_42 : decode cX12_riders 42 = .ok (.getfield 35, 3) := by decide +kernel
theorem dX12_riders_45 : decode cX12_riders 45 = .ok (.bipush 69, 2) := by decide +kernel
theorem dX12_riders_47 : decode cX12_riders 47 = .ok (.bipush 8, 2) := by decide +kernel
theorem dX12_riders_49 : decode cX12_riders 49 = .ok (.iload_n 2, 1) := by decide +kernel
theorem dX12_riders_50 : decode cX12_riders 50 = .ok (.imul, 1) := by decide +kernel
theorem dX12_riders_51 : decode cX12_riders 51 = .ok (.iadd, 1) := by decide +kernel
theorem dX12_riders_52 : decode cX12_riders 52 = .ok (.iload 4, 2) := by decide +kernel
theorem dX12_riders_54 : decode cX12_riders 54 = .ok (.iadd, 1) := by decide +kernel
theorem dX12_riders_55 : decode cX12_riders 55 = .ok (.iaload, 1) := by decide +kernel
theorem dX12_riders_56 : decode cX12_riders 56 = .ok (.iadd, 1) := by decide +kernel
theorem dX12_riders_57 : decode cX12_riders 57 = .ok (.istore_n 3, 1) := by decide +kernel
theorem dX12_riders_58 : decode cX12_riders 58 = .ok (.iinc 4 1, 3) := by decide +kernel
theorem dX12_riders_61 : decode cX12_riders 61 = .ok (.goto (-32), 3) := by decide +kernel
theorem dX12_riders_64 : decode cX12_riders 64 = .ok (.iload_n 1, 1) := by decide +kernel
theorem dX12_riders_65 : decode cX12_riders 65 = .ok (.iload_n 3, 1) := by decide +kernel
theorem dX12_riders_66 : decode cX12_riders 66 = .ok (.ifCond .le 17, 3) := by decide +kernel
theorem dX12_riders_69 : decode cX12_riders 69 = .ok (.aload_n 0, 1) := by decide +kernel
theorem dX12_riders_70 : decode cX12_riders 70 = .ok (.iload_n 2, 1) := by decide +kernel
theorem dX12_riders_71 : decode cX12_riders 71 = .ok (.invokevirtual 474, 3) := by decide +kernel
theorem dX12_riders_74 : decode cX12_riders 74 = .ok (.ifCond .ne 9, 3) := by decide +kernel
theorem dX12_riders_77 : decode cX12_riders 77 = .ok (.iconst 1, 1) := by decide +kernel
theorem dX12_riders_78 : decode cX12_riders 78 = .ok (.iload_n 2, 1) := by decide +kernel
theorem dX12_riders_79 : decode cX12_riders 79 = .ok (.ishl, 1) := by decide +kernel
theorem dX12_riders_80 : decode cX12_riders 80 = .ok (.goto 4, 3) := by decide +kernel
theorem dX12_riders_83 : decode cX12_riders 83 = .ok (.iconst 0, 1) := by decide +kernel
theorem dX12_riders_84 : decode cX12_riders 84 = .ok (.ior, 1) := by decide +kernel
theorem dX12_riders_85 : decode cX12_riders 85 = .ok (.istore_n 1, 1) := by decide +kernel
theorem dX12_riders_86 : decode cX12_riders 86 = .ok (.iinc 2 1, 3) := by decide +kernel
theorem dX12_riders_89 : decode cX12_riders 89 = .ok (.goto (-75), 3) := by decide +kernel
theorem dX12_riders_92 : decode cX12_riders 92 = .ok (.iload_n 1, 1) := by decide +kernel
theorem dX12_riders_93 : decode cX12_riders 93 = .ok (.ireturn, 1) := by decide +kernel
def j_X12_riders : JD := (yX12_riders, cX12_riders, 5, (some .int))
def b_X12_riders : BD := (1, 0, 0)
theorem dX12_chain_0 : decode cX12_chain 0 = .ok (.aload_n 0, 1) := by decide +kernel
theorem dX12_chain_1 : decode cX12_chain 1 = .ok (.iconst 0, 1) := by decide +kernel
theorem dX12_chain_2 : decode cX12_chain 2 = .ok (.putfield 68, 3) := by decide +kernel
theorem dX12_chain_5 : decode cX12_chain 5 = .ok (.aload_n 0, 1) := by decide +kernel
theorem dX12_chain_6 : decode cX12_chain 6 = .ok (.iconst 0, 1) := by decide +kernel
theorem dX12_chain_7 : decode cX12_chain 7 = .ok (.putfield 71, 3) := by decide +kernel
theorem dX12_chain_10 : decode cX12_chain 10 = .ok (.aload_n 0, 1) := by decide +kernel
theorem dX12_chain_11 : decode cX12_chain 11 = .ok (.iload_n 1, 1) := by decide +kernel
theorem dX12_chain_12 : decode cX12_chain 12 = .ok (.invokevirtual 341, 3) := by decide +kernel
theorem dX12_chain_15 : decode cX12_chain 15 = .ok (.ifCond .ne 9, 3) := by decide +kernel
theorem dX12_chain_18 : decode cX12_chain 18 = .ok (.aload_n 0, 1) := by decide +kernel
theorem dX12_chain_19 : decode cX12_chain 19 = .ok (.iconst 2, 1) := by decide +kernel
theorem dX12_chain_20 : decode cX12_chain 20 = .ok (.invokevirtual 331, 3) := by decide +kernel
theorem dX12_chain_23 : decode cX12_chain 23 = .ok (.ireturn, 1) := by decide +kernel
theorem dX12_chain_24 : decode cX12_chain 24 = .ok (.iconst 0, 1) := by decide +kernel
theorem dX12_chain_25 : decode cX12_chain 25 = .ok (.istore_n 2, 1) := by decide +kernel
theorem dX12_chain_26 : decode cX12_chain 26 = .ok (.iconst 1, 1) := by decide +kernel
theorem dX12_chain_27 : decode cX12_chain 27 = .ok (.iload_n 1, 1) := by decide +kernel
theorem dX12_chain_28 : decode cX12_chain 28 = .ok (.ishl, 1) := by decide +kernel
theorem dX12_chain_29 : decode cX12_chain 29 = .ok (.istore_n 3, 1) := by decide +kernel
theorem dX12_chain_30 : decode cX12_chain 30 = .ok (.iload_n 3, 1) := by decide +kernel
theorem dX12_chain_31 : decode cX12_chain 31 = .ok (.iload_n 2, 1) := by decide +kernel
theorem dX12_chain_32 : decode cX12_chain 32 = .ok (.if_icmp .eq 50, 3) := by decide +kernel
theorem dX12_chain_35 : decode cX12_chain 35 = .ok (.iload_n 3, 1) := by decide +kernel
theorem dX12_chain_36 : decode cX12_chain 36 = .ok (.istore_n 2, 1) := by decide +kernel
theorem dX12_chain_37 : decode cX12_chain 37 = .ok (.iconst 0, 1) := by decide +kernel
theorem dX12_chain_38 : decode cX12_chain 38 = .ok (.istore 4, 2) := by decide +kernel
theorem dX12_chain_40 : decode cX12_chain 40 = .ok (.iload 4, 2) := by decide +kernel
theorem dX12_chain_42 : decode cX12_chain 42 = .ok (.aload_n 0, 1) := by decide +kernel
theorem dX12_chain_43 : decode cX12_chain 43 = .ok (.getfield 35, 3) := by decide +kernel
theorem dX12_chain_46 : decode cX12_chain 46 = .ok (.iconst 0, 1) := by decide +kernel
theorem dX12_chain_47 : decode cX12_chain 47 = .ok (.iaload, 1) := by decide +kernel
theorem dX12_chain_48 : decode cX12_chain 48 = .ok (.if_icmp .ge 31, 3) := by decide +kernel
theorem dX12_chain_51 : decode cX12_chain 51 = .ok (.iload_n 3, 1) := by decide +kernel
theorem dX12_chain_52 : decode cX12_chain 52 = .ok (.iload_n 2, 1) := by decide +kernel
theorem dX12_chain_53 : decode cX12_chain 53 = .ok (.iload 4, 2) := by decide +kernel
theorem dX12_chain_55 : decode cX12_chain 55 = .ok (.invokestatic 107, 3) := by decide +kernel
theorem dX12_chain_58 : decode cX12_chain 58 = .ok (.ifCond .eq 12, 3) := by decide +kernel
theorem dX12_chain_61 : decode cX12_chain 61 = .ok (.aload_n 0, 1) := by decide +kernel
theorem dX12_chain_62 : decode cX12_chain 62 = .ok (.iload 4, 2) := by decide +kernel
theorem dX12_chain_64 : decode cX12_chain 64 = .ok (.invokevirtual 474, 3) := by decide +kernel
theorem dX12_chain_67 : decode cX12_chain 67 = .ok (.goto 4, 3) := by decide +kernel
theorem dX12_chain_70 : decode cX12_chain 70 = .ok (.iconst 0, 1) := by decide +kernel
theorem dX12_chain_71 : decode cX12_chain 71 = .ok (.ior, 1) := by decide +kernel
theorem dX12_chain_72 : decode cX12_chain 72 = .ok (.istore_n 3, 1) := by decide +kernel
theorem dX12_chain_73 : decode cX12_chain 73 = .ok (.iinc 4 1, 3) := by decide +kernel
theorem dX12_chain_76 : decode cX12_chain 76 = .ok (.goto (-36), 3) := by decide +kernel
theorem dX12_chain_79 : decode cX12_chain 79 = .ok (.goto (-49), 3) := by decide +kernel
theorem dX12_chain_82 : decode cX12_chain 82 = .ok (.iload_n 2, 1) := by decide +kernel
theorem dX12_chain_83 : decode cX12_chain 83 = .ok (.iconst 1, 1) := by decide +kernel
theorem dX12_chain_84 : decode cX12_chain 84 = .ok (.iload_n 1, 1) := by decide +kernel
theorem dX12_chain_85 : decode cX12_chain 85 = .ok (.ishl, 1) := by decide +kernel
theorem dX12_chain_86 : decode cX12_chain 86 = .ok (.iconst (-1), 1) := by decide +kernel
theorem dX12_chain_87 : decode cX12_chain 87 = .ok (.ixor, 1) := by decide +kernel
theorem dX12_chain_88 : decode cX12_chain 88 = .ok (.iand, 1) := by decide +kernel
theorem dX12_chain_89 : decode cX12_chain 89 = .ok (.ireturn, 1) := by decide +kernel
def j_X12_chain : JD := (yX12_chain, cX12_chain, 5, (some .int))
def b_X12_chain : BD := (2, 0, 0)
theorem dX12_quits_0 : decode cX12_quits 0 = .ok (.aload_n 0, 1) := by decide +kernel
theorem dX12_quits_1 : decode cX12_quits 1 = .ok (.iconst 0, 1) := by decide +kernel
theorem dX12_quits_2 : decode cX12_quits 2 = .ok (.putfield 68, 3) := by decide +kernel
theorem dX12_quits_5 : decode cX12_quits 5 = .ok (.aload_n 0, 1) := by decide +kernel
theorem dX12_quits_6 : decode cX12_quits 6 = .ok (.iconst 0, 1) := by decide +kernel
theorem dX12_quits_7 : decode cX12_quits 7 = .ok (.putfield 71, 3) := by decide +kernel
theorem dX12_quits_10 : decode cX12_quits 10 = .ok (.aload_n 0, 1) := by decide +kernel
theorem dX12_quits_11 : decode cX12_quits 11 = .ok (.iload_n 1, 1) := by decide +kernel
theorem dX12_quits_12 : decode cX12_quits 12 = .ok (.invokevirtual 341, 3) := by decide +kernel
theorem dX12_quits_15 : decode cX12_quits 15 = .ok (.ifCond .eq 11, 3) := by decide +kernel
theorem dX12_quits_18 : decode cX12_quits 18 = .ok (.aload_n 0, 1) := by decide +kernel
theorem dX12_quits_19 : decode cX12_quits 19 = .ok (.iload_n 2, 1) := by decide +kernel
theorem dX12_quits_20 : decode cX12_quits 20 = .ok (.invokevirtual 341, 3) := by decide +kernel
theorem dX12_quits_23 : decode cX12_quits 23 = .ok (.ifCond .ne 9, 3) := by decide +kernel
theorem dX12_quits_26 : decode cX12_quits 26 = .ok (.aload_n 0, 1) := by decide +kernel
theorem dX12_quits_27 : decode cX12_quits 27 = .ok (.iconst 2, 1) := by decide +kernel
theorem dX12_quits_28 : decode cX12_quits 28 = .ok (.invokevirtual 331, 3) := by decide +kernel
theorem dX12_quits_31 : decode cX12_quits 31 = .ok (.ireturn, 1) := by decide +kernel
theorem dX12_quits_32 : decode cX12_quits 32 = .ok (.iload_n 1, 1) := by decide +kernel
theorem dX12_quits_33 : decode cX12_quits 33 = .ok (.iload_n 2, 1) := by decide +kernel
theorem dX12_quits_34 : decode cX12_quits 34 = .ok (.if_icmp .ne 11, 3) := by decide +kernel
theorem dX12_quits_37 : decode cX12_quits 37 = .ok (.aload_n 0, 1) := by decide +kernel
theorem dX12_quits_38 : decode cX12_quits 38 = .ok (.iconst 5, 1) := by decide +kernel
theorem dX12_quits_39 : decode cX12_quits 39 = .ok (.invokevirtual 331, 3) := by decide +kernel
theorem dX12_quits_42 : decode cX12_quits 42 = .ok (.goto 32, 3) := by decide +kernel
theorem dX12_quits_45 : decode cX12_quits 45 = .ok (.aload_n 0, 1) := by decide +kernel
theorem dX12_quits_46 : decode cX12_quits 46 = .ok (.getfield 35, 3) := by decide +kernel
theorem dX12_quits_49 : decode cX12_quits 49 = .ok (.bipush 69, 2) := by decide +kernel
theorem dX12_quits_51 : decode cX12_quits 51 = .ok (.bipush 8, 2) := by decide +kernel
theorem dX12_quits_53 : decode cX12_quits 53 = .ok (.iload_n 1, 1) := by decide +kernel
theorem dX12_quits_54 : decode cX12_quits 54 = .ok (.imul, 1) := by decide +kernel
theorem dX12_quits_55 : decode cX12_quits 55 = .ok (.iadd, 1) := by decide +kernel
theorem dX12_quits_56 : decode cX12_quits 56 = .ok (.iload_n 2, 1) := by decide +kernel
theorem dX12_quits_57 : decode cX12_quits 57 = .ok (.iadd, 1) := by decide +kernel
theorem dX12_quits_58 : decode cX12_quits 58 = .ok (.iaload, 1) := by decide +kernel
theorem dX12_quits_59 : decode cX12_quits 59 = .ok (.aload_n 0, 1) := by decide +kernel
theorem dX12_quits_60 : decode cX12_quits 60 = .ok (.getfield 35, 3) := by decide +kernel
theorem dX12_quits_63 : decode cX12_quits 63 = .ok (.bipush 69, 2) := by decide +kernel
theorem dX12_quits_65 : decode cX12_quits 65 = .ok (.bipush 8, 2) := by decide +kernel
theorem dX12_quits_67 : decode cX12_quits 67 = .ok (.iload_n 2, 1) := by decide +kernel
theorem dX12_quits_68 : decode cX12_quits 68 = .ok (.imul, 1) := by decide +kernel
theorem dX12_quits_69 : decode cX12_quits 69 = .ok (.iadd, 1) := by decide +kernel
theorem dX12_quits_70 : decode cX12_quits 70 = .ok (.iload_n 1, 1) := by decide +kernel
theorem dX12_quits_71 : decode cX12_quits 71 = .ok (.iadd, 1) := by decide +kernel
theorem dX12_quits_72 : decode cX12_quits 72 = .ok (.iaload, 1) := by decide +kernel
theorem dX12_quits_73 : decode cX12_quits 73 = .ok (.isub, 1) := by decide +kernel
theorem dX12_quits_74 : decode cX12_quits 74 = .ok (.ireturn, 1) := by decide +kernel
def j_X12_quits : JD := (yX12_quits, cX12_quits, 3, (some .int))
def b_X12_quits : BD := (2, 0, 0)
theorem mv_X12_worthIn : MV j_X12_worthIn 12 1 := ⟨⟨gw_at 2130 (by decide +kernel) rfl, gw_at 221 (by decide +kernel) rfl, ⟨by decide +kernel, by decide +kernel⟩, by decide +kernel, by decide, by decide +kernel⟩, ⟨_, rfl, rfl⟩, gw_at 2129 (by decide +kernel) rfl, gw_at 185 (by decide +kernel) rfl⟩
theorem mv_X12_onSet : MV j_X12_onSet 12 0 := ⟨⟨gw_at 2142 (by decide +kernel) rfl, gw_at 221 (by decide +kernel) rfl, ⟨by decide +kernel, by decide +kernel⟩, by decide +kernel, by decide, by decide +kernel⟩, ⟨_, rfl, rfl⟩, gw_at 2141 (by decide +kernel) rfl, gw_at 187 (by decide +kernel) rfl⟩
theorem mv_X12_liftOf : MV j_X12_liftOf 12 2 := ⟨⟨gw_at 2147 (by decide +kernel) rfl, gw_at 221 (by decide +kernel) rfl, ⟨by decide +kernel, by decide +kernel⟩, by decide +kernel, by decide, by decide +kernel⟩, ⟨_, rfl, rfl⟩, gw_at 2146 (by decide +kernel) rfl, gw_at 188 (by decide +kernel) rfl⟩
theorem mv_X12_between : MV j_X12_between 12 3 := ⟨⟨gw_at 2151 (by decide +kernel) rfl, gw_at 221 (by decide +kernel) rfl, ⟨by decide +kernel, by decide +kernel⟩, by decide +kernel, by decide, by decide +kernel⟩, ⟨_, rfl, rfl⟩, gw_at 2150 (by decide +kernel) rfl, gw_at 189 (by decide +kernel) rfl⟩
theorem mv_X12_fill : MV j_X12_fill 12 1 := ⟨⟨gw_at 2138 (by decide +kernel) rfl, gw_at 221 (by decide +kernel) rfl, ⟨by decide +kernel, by decide +kernel⟩, by decide +kernel, by decide, by decide +kernel⟩, ⟨_, rfl, rfl⟩, gw_at 2137 (by decide +kernel) rfl, gw_at 186 (by decide +kernel) rfl⟩
theorem mv_X12_goesOn : MV j_X12_goesOn 12 5 := ⟨⟨gw_at 2163 (by decide +kernel) rfl, gw_at 221 (by decide +kernel) rfl, ⟨by decide +kernel, by decide +kernel⟩, by decide +kernel, by decide, by decide +kernel⟩, ⟨_, rfl, rfl⟩, gw_at 2162 (by decide +kernel) rfl, gw_at 190 (by decide +kernel) rfl⟩
theorem mv_X12_fillAll : MV j_X12_fillAll 12 0 := ⟨⟨gw_at 2175 (by decide +kernel) rfl, gw_at 221 (by decide +kernel) rfl, ⟨by decide +kernel, by decide +kernel⟩, by decide +kernel, by decide, by decide +kernel⟩, ⟨_, rfl, rfl⟩, gw_at 2174 (by decide +kernel) rfl, gw_at 191 (by decide +kernel) rfl⟩
theorem mv_X12_whyNoScore : MV j_X12_whyNoScore 12 3 := ⟨⟨gw_at 2187 (by decide +kernel) rfl, gw_at 221 (by decide +kernel) rfl, ⟨by decide +kernel, by decide +kernel⟩, by decide +kernel, by decide, by decide +kernel⟩, ⟨_, rfl, rfl⟩, gw_at 2186 (by decide +kernel) rfl, gw_at 192 (by decide +kernel) rfl⟩
theorem ms_X12_square : MS j_X12_square 1 := ⟨⟨gw_at 2205 (by decide +kernel) rfl, gw_at 221 (by decide +kernel) rfl, ⟨by decide +kernel, by decide +kernel⟩, by decide +kernel, by decide, by decide +kernel⟩, gw_at 2204 (by decide +kernel) rfl⟩
theorem mv_X12_scoreOf : MV j_X12_scoreOf 12 3 := ⟨⟨gw_at 2202 (by decide +kernel) rfl, gw_at 221 (by decide +kernel) rfl, ⟨by decide +kernel, by decide +kernel⟩, by decide +kernel, by decide, by decide +kernel⟩, ⟨_, rfl, rfl⟩, gw_at 2201 (by decide +kernel) rfl, gw_at 195 (by decide +kernel) rfl⟩
theorem mv_X12_helpedBy : MV j_X12_helpedBy 12 1 := ⟨⟨gw_at 2221 (by decide +kernel) rfl, gw_at 221 (by decide +kernel) rfl, ⟨by decide +kernel, by decide +kernel⟩, by decide +kernel, by decide, by decide +kernel⟩, ⟨_, rfl, rfl⟩, gw_at 2220 (by decide +kernel) rfl, gw_at 196 (by decide +kernel) rfl⟩
theorem ml_X12_428 : MLk RX12 428 j_X12_worthIn.1 := Or.inl (gw_at 2127 (by decide +kernel) rfl)
theorem ml_X12_431 : MLk RX12 431 j_X12_onSet.1 := Or.inl (gw_at 2139 (by decide +kernel) rfl)
theorem ml_X12_435 : MLk RX12 435 j_X12_liftOf.1 := Or.inl (gw_at 2144 (by decide +kernel) rfl)
theorem ml_X12_438 : MLk RX12 438 j_X12_between.1 := Or.inl (gw_at 2148 (by decide +kernel) rfl)
theorem ml_X12_441 : MLk RX12 441 j_X12_fill.1 := Or.inl (gw_at 2135 (by decide +kernel) rfl)
theorem ml_X12_447 : MLk RX12 447 j_X12_goesOn.1 := Or.inl (gw_at 2160 (by decide +kernel) rfl)
theorem ml_X12_451 : MLk RX12 451 j_X12_fillAll.1 := Or.inl (gw_at 2172 (by decide +kernel) rfl)
theorem ml_X12_454 : MLk RX12 454 j_X12_isTray.1 := Or.inl (gw_at 2188 (by decide +kernel) rfl)
theorem ml_X12_459 : MLk RX12 459 j_X12_numberOf.1 := Or.inl (gw_at 2194 (by decide +kernel) rfl)
theorem ml_X12_465 : MLk RX12 465 j_X12_square.1 := Or.inl (gw_at 2203 (by decide +kernel) rfl)
theorem ml_X12_468 : MLk RX12 468 j_X12_whyNoScore.1 := Or.inl (gw_at 2184 (by decide +kernel) rfl)
theorem ml_X12_471 : MLk RX12 471 j_X12_scoreOf.1 := Or.inl (gw_at 2199 (by decide +kernel) rfl)
theorem ml_X12_474 : MLk RX12 474 j_X12_helpedBy.1 := Or.inl (gw_at 2218 (by decide +kernel) rfl)
def f_X12_worthIn_36 (k4 : Mm → Option Nat → Int32 → Int32 → Int32 → Option (Int32 × Mm)) (M : Mm) (l0 : Option Nat) (l1 : Int32) (l3 : Int32) (s0 : Int32) (s1 : Int32) : Option (Int32 × Mm) := nmI (s0 + s1) fun x37 => k4 M l0 l1 x37 (l3 + 1)
def f_X12_worthIn_4 : Nat → Mm → Option Nat → Int32 → Int32 → Int32 → Option (Int32 × Mm)
  | 0, _, _, _, _, _ => none
  | n + 1, M, l0, l1, l2, l3 => gfR M l0 12 20 fun v6 => alI M v6 21 0 fun v10 => if v10 ≤ l3 then (some (l2, M)) else (bd (f_X12_has M l1 l3) fun v17 M17 => if v17 = 0 then (f_X12_worthIn_36 (f_X12_worthIn_4 n) M17 l0 l1 l3 l2 0) else (gfR M17 l0 12 20 fun v24 => alI M17 v24 21 (13 + l3) fun v31 => f_X12_worthIn_36 (f_X12_worthIn_4 n) M17 l0 l1 l3 l2 v31))
def f_X12_worthIn (M : Mm) (l0 : Option Nat) (l1 : Int32) : Option (Int32 × Mm) := f_X12_worthIn_4  fu M l0 l1 0 0
set_option maxHeartbeats 4000000 in
set_option maxRecDepth 100000 in
theorem t_X12_worthIn_36 {G : GG} {X : CX} {ans : Int32 × Mm} (he : EndI G X j_X12_worthIn b_X12_worthIn ans) {k4 : Mm → Option Nat → Int32 → Int32 → Int32 → Option (Int32 × Mm)} (hk4 : ∀ (M : Mm) (a0 : Option Nat) (a1 : Int32) (a2 : Int32) (a3 : Int32), k4 M a0 a1 a2 a3 = some ans → Wt G X j_X12_worthIn b_X12_worthIn 4 [(0, rf G.1 a0), (1, .int a1), (2, .int a2), (3, .int a3)] [] M 0 0) {M : Mm} {l0 : Option Nat} {l1 : Int32} {l3 : Int32} {s0 : Int32} {s1 : Int32} (h : f_X12_worthIn_36 k4 M l0 l1 l3 s0 s1 = some ans) : Wt G X j_X12_worthIn b_X12_worthIn 36 [(0, rf G.1 l0), (1, .int l1), (3, .int l3)] [.int s1, .int s0] M 0 0 := by
  unfold f_X12_worthIn_36 at h
  refine wt_iadd (pc := 36) dX12_worthIn_36 ?_
  refine wt_nmI h (fun x37 h => ?_)
  refine wt_istore_n (pc := 37) (i := 2) (ls' := [(2, .int x37), (0, rf G.1 l0), (1, .int l1), (3, .int l3)]) rfl dX12_worthIn_37 (by decide) rfl ?_
  refine wt_iinc (pc := 38) (d := 1) (ls' := [(3, .int (l3 + 1)), (2, .int x37), (0, rf G.1 l0), (1, .int l1)]) 3 dX12_worthIn_38 rfl (by decide) (by decide) rfl ?_
  refine wt_goto (pc := 41) (tgt := 4) dX12_worthIn_41 (by decide) ?_
  refine wt_sub (ls' := [(0, rf G.1 l0), (1, .int l1), (2, .int x37), (3, .int (l3 + 1))]) [2, 3, 1, 0] rfl ?_
  exact hk4 _ _ _ _ _ h
set_option maxHeartbeats 4000000 in
set_option maxRecDepth 100000 in
theorem t_X12_worthIn_4 {G : GG} {X : CX} {ans : Int32 × Mm} (he : EndI G X j_X12_worthIn b_X12_worthIn ans) : ∀ (n : Nat) {M : Mm} {l0 : Option Nat} {l1 : Int32} {l2 : Int32} {l3 : Int32}, f_X12_worthIn_4 n M l0 l1 l2 l3 = some ans → Wt G X j_X12_worthIn b_X12_worthIn 4 [(0, rf G.1 l0), (1, .int l1), (2, .int l2), (3, .int l3)] [] M 0 0 := by
  intro n
  induction n with
  | zero =>
    intro M l0 l1 l2 l3 h
    rw [f_X12_worthIn_4] at h
    cases h
  | succ n ih =>
    intro M l0 l1 l2 l3 h
    rw [f_X12_worthIn_4] at h
    refine wt_iload_n (pc := 4) 3 dX12_worthIn_4 rfl ?_
    refine wt_aload_n (pc := 5) 0 dX12_worthIn_5 rfl ?_
    refine wt_getR (pc := 6) dX12_worthIn_6 fl_X12_35 (fun _ _ _ => rfl) h (fun v6 h => ?_)
    refine wt_iconst (pc := 9) (v := 0) dX12_worthIn_9 (by decide) ?_
    refine wt_iaload (pc := 10) (kd := 21) dX12_worthIn_10 rfl rfl h (fun v10 h => ?_)
    refine wt_icmp_ge (pc := 11) (tgt := 44) dX12_worthIn_11 (by decide) (fun q => ?_) (fun q => ?_)
    · have h := ite_t q h
      refine wt_iload_n (pc := 44) 2 dX12_worthIn_44 rfl ?_
      cases h
      exact he 45 _ _ _ dX12_worthIn_45 (by decide) (by decide)
    · have h := ite_f q h
      refine wt_iload_n (pc := 14) 2 dX12_worthIn_14 rfl ?_
      refine wt_iload_n (pc := 15) 1 dX12_worthIn_15 rfl ?_
      refine wt_iload_n (pc := 16) 3 dX12_worthIn_16 rfl ?_
      refine wt_cSI (pc := 17) (J' := j_X12_has) (As := [.int l1, .int l3]) (st := [.int l2]) (B' := b_X12_has) (u' := 0) (w' := 0) dX12_worthIn_17 ml_X12_107 ms_X12_has (fun v9 M9 e9 => c_X12_has e9) rfl (by decide) rfl rfl (by decide) (by decide) (by simp [rf_cat, cat_i, cat_l, cat_r]) rfl h (fun v17 M17 h => ?_)
      refine wt_if_eq (pc := 20) (tgt := 35) dX12_worthIn_20 (by decide) (fun q => ?_) (fun q => ?_)
      · have h := ite_t q h
        refine wt_iconst (pc := 35) (v := 0) dX12_worthIn_35 (by decide) ?_
        refine wt_sub (ls' := [(0, rf G.1 l0), (1, .int l1), (3, .int l3)]) [0, 1, 3] rfl ?_
        exact t_X12_worthIn_36 he (fun _ _ _ _ _ h => ih h) h
      · have h := ite_f q h
        refine wt_aload_n (pc := 23) 0 dX12_worthIn_23 rfl ?_
        refine wt_getR (pc := 24) dX12_worthIn_24 fl_X12_35 (fun _ _ _ => rfl) h (fun v24 h => ?_)
        refine wt_bipush (pc := 27) (v := 13) dX12_worthIn_27 (by decide) ?_
        refine wt_iload_n (pc := 29) 3 dX12_worthIn_29 rfl ?_
        refine wt_iadd (pc := 30) dX12_worthIn_30 ?_
        refine wt_iaload (pc := 31) (kd := 21) dX12_worthIn_31 rfl rfl h (fun v31 h => ?_)
        refine wt_goto (pc := 32) (tgt := 36) dX12_worthIn_32 (by decide) ?_
        refine wt_sub (ls' := [(0, rf G.1 l0), (1, .int l1), (3, .int l3)]) [0, 1, 3] rfl ?_
        exact t_X12_worthIn_36 he (fun _ _ _ _ _ h => ih h) h
set_option maxHeartbeats 4000000 in
set_option maxRecDepth 100000 in
theorem t_X12_worthIn_e {G : GG} {X : CX} {ans : Int32 × Mm} (he : EndI G X j_X12_worthIn b_X12_worthIn ans) {M : Mm} {l0 : Option Nat} {l1 : Int32} (h : f_X12_worthIn M l0 l1 = some ans) : Wt G X j_X12_worthIn b_X12_worthIn 0 [(0, rf G.1 l0), (1, .int l1)] [] M 0 0 := by
  unfold f_X12_worthIn at h
  refine wt_iconst (pc := 0) (v := 0) dX12_worthIn_0 (by decide) ?_
  refine wt_istore_n (pc := 1) (i := 2) (ls' := [(2, .int 0), (0, rf G.1 l0), (1, .int l1)]) rfl dX12_worthIn_1 (by decide) rfl ?_
  refine wt_iconst (pc := 2) (v := 0) dX12_worthIn_2 (by decide) ?_
  refine wt_istore_n (pc := 3) (i := 3) (ls' := [(3, .int 0), (2, .int 0), (0, rf G.1 l0), (1, .int l1)]) rfl dX12_worthIn_3 (by decide) rfl ?_
  refine wt_sub (ls' := [(0, rf G.1 l0), (1, .int l1), (2, .int 0), (3, .int 0)]) [2, 3, 1, 0] rfl ?_
  exact t_X12_worthIn_4 he  fu h
set_option maxHeartbeats 4000000 in
set_option maxRecDepth 100000 in
theorem c_X12_worthIn {G : GG} {M : Mm} {l0 : Option Nat} {l1 : Int32} {r : Int32 × Mm} (h : f_X12_worthIn M l0 l1 = some r) (l : Launch) : Ct l G j_X12_worthIn b_X12_worthIn [rf G.1 l0, .int l1] M (some (.int r.1)) r.2 := cf_I (by decide +kernel) (by simp [lg_sl, rf_cat, cat_i, cat_l, j_X12_worthIn]) rfl (by simp [lv_args, rf_cat, cat_i, cat_l]) (fun X he => t_X12_worthIn_e he h)
def f_X12_worstWind_69 (k14 : Mm → Option Nat → Int32 → Int32 → Option (Int32 × Mm)) (M : Mm) (l0 : Option Nat) (l1 : Int32) (l2 : Int32) : Option (Int32 × Mm) := k14 M l0 l1 (l2 + 1)
def f_X12_worstWind_67 (k14 : Mm → Option Nat → Int32 → Int32 → Option (Int32 × Mm)) (M : Mm) (l0 : Option Nat) (l2 : Int32) : Option (Int32 × Mm) := f_X12_worstWind_69 k14 M l0 l2 l2
def f_X12_worstWind_14 : Nat → Mm → Option Nat → Int32 → Int32 → Option (Int32 × Mm)
  | 0, _, _, _, _ => none
  | n + 1, M, l0, l1, l2 => gfR M l0 12 20 fun v16 => alI M v16 21 2 fun v20 => if v20 ≤ l2 then (if 0 ≤ l1 then (some (l1, M)) else (ck M l0 12 <| bd (f_X12_refuse M l0 8) fun v82 M82 => some (v82, M82))) else (if l1 < 0 then (f_X12_worstWind_67 (f_X12_worstWind_14 n) M l0 l2) else (gfR M l0 12 20 fun v31 => alI M v31 21 (161 + l2) fun v39 => ck M l0 12 <| bd (f_X12_fallSet M l0 v39) fun v40 M40 => ck M40 l0 12 <| bd (f_X12_worthIn M40 l0 v40) fun v43 M43 => gfR M43 l0 12 20 fun v49 => alI M43 v49 21 (161 + l1) fun v57 => ck M43 l0 12 <| bd (f_X12_fallSet M43 l0 v57) fun v58 M58 => ck M58 l0 12 <| bd (f_X12_worthIn M58 l0 v58) fun v61 M61 => if v43 ≤ v61 then (f_X12_worstWind_69 (f_X12_worstWind_14 n) M61 l0 l1 l2) else (f_X12_worstWind_67 (f_X12_worstWind_14 n) M61 l0 l2)))
def f_X12_worstWind (M : Mm) (l0 : Option Nat) : Option (Int32 × Mm) := pfI M l0 12 1 0 fun M2 => pfI M2 l0 12 0 0 fun M7 => f_X12_worstWind_14  fu M7 l0 (-1) 0
set_option maxHeartbeats 4000000 in
set_option maxRecDepth 100000 in
theorem t_X12_worstWind_69 {G : GG} {X : CX} {ans : Int32 × Mm} (he : EndI G X j_X12_worstWind b_X12_worstWind ans) {k14 : Mm → Option Nat → Int32 → Int32 → Option (Int32 × Mm)} (hk14 : ∀ (M : Mm) (a0 : Option Nat) (a1 : Int32) (a2 : Int32), k14 M a0 a1 a2 = some ans → Wt G X j_X12_worstWind b_X12_worstWind 14 [(0, rf G.1 a0), (1, .int a1), (2, .int a2)] [] M 0 0) {M : Mm} {l0 : Option Nat} {l1 : Int32} {l2 : Int32} (h : f_X12_worstWind_69 k14 M l0 l1 l2 = some ans) : Wt G X j_X12_worstWind b_X12_worstWind 69 [(0, rf G.1 l0), (1, .int l1), (2, .int l2)] [] M 0 0 := by
  unfold f_X12_worstWind_69 at h
  refine wt_iinc (pc := 69) (d := 1) (ls' := [(2, .int (l2 + 1)), (0, rf G.1 l0), (1, .int l1)]) 2 dX12_worstWind_69 rfl (by decide) (by decide) rfl ?_
  refine wt_goto (pc := 72) (tgt := 14) dX12_worstWind_72 (by decide) ?_
  refine wt_sub (ls' := [(0, rf G.1 l0), (1, .int l1), (2, .int (l2 + 1))]) [1, 2, 0] rfl ?_
  exact hk14 _ _ _ _ h
set_option maxHeartbeats 4000000 in
set_option maxRecDepth 100000 in
theorem t_X12_worstWind_67 {G : GG} {X : CX} {ans : Int32 × Mm} (he : EndI G X j_X12_worstWind b_X12_worstWind ans) {k14 : Mm → Option Nat → Int32 → Int32 → Option (Int32 × Mm)} (hk14 : ∀ (M : Mm) (a0 : Option Nat) (a1 : Int32) (a2 : Int32), k14 M a0 a1 a2 = some ans → Wt G X j_X12_worstWind b_X12_worstWind 14 [(0, rf G.1 a0), (1, .int a1), (2, .int a2)] [] M 0 0) {M : Mm} {l0 : Option Nat} {l2 : Int32} (h : f_X12_worstWind_67 k14 M l0 l2 = some ans) : Wt G X j_X12_worstWind b_X12_worstWind 67 [(0, rf G.1 l0), (2, .int l2)] [] M 0 0 := by
  unfold f_X12_worstWind_67 at h
  refine wt_iload_n (pc := 67) 1 dX12_worstWind_67 rfl ?_
  refine wt_istore_n (pc := 68) (i := 1) (ls' := [(1, .int l2), (0, rf G.1 l0), (2, .int l2)]) rfl dX12_worstWind_68 (by decide) (by simp [rf_cat, cat_i, cat_l, cat_r]) ?_
  refine wt_sub (ls' := [(0, rf G.1 l0), (1, .int l2), (2, .int l2)]) [1, 0, 2] rfl ?_
  exact t_X12_worstWind_69 he (fun _ _ _ _ h => hk14 _ _ _ _ h) h
set_option maxHeartbeats 4000000 in
set_option maxRecDepth 100000 in
theorem t_X12_worstWind_14 {G : GG} {X : CX} {ans : Int32 × Mm} (he : EndI G X j_X12_worstWind b_X12_worstWind ans) : ∀ (n : Nat) {M : Mm} {l0 : Option Nat} {l1 : Int32} {l2 : Int32}, f_X12_worstWind_14 n M l0 l1 l2 = some ans → Wt G X j_X12_worstWind b_X12_worstWind 14 [(0, rf G.1 l0), (1, .int l1), (2, .int l2)] [] M 0 0 := by
  intro n
  induction n with
  | zero =>
    intro M l0 l1 l2 h
    rw [f_X12_worstWind_14] at h
    cases h
  | succ n ih =>
    intro M l0 l1 l2 h
    rw [f_X12_worstWind_14] at h
    refine wt_iload_n (pc := 14) 2 dX12_worstWind_14 rfl ?_
    refine wt_aload_n (pc := 15) 0 dX12_worstWind_15 rfl ?_
    refine wt_getR (pc := 16) dX12_worstWind_16 fl_X12_35 (fun _ _ _ => rfl) h (fun v16 h => ?_)
    refine wt_iconst (pc := 19) (v := 2) dX12_worstWind_19 (by decide) ?_
    refine wt_iaload (pc := 20) (kd := 21) dX12_worstWind_20 rfl rfl h (fun v20 h => ?_)
    refine wt_icmp_ge (pc := 21) (tgt := 75) dX12_worstWind_21 (by decide) (fun q => ?_) (fun q => ?_)
    · have h := ite_t q h
      refine wt_iload_n (pc := 75) 1 dX12_worstWind_75 rfl ?_
      refine wt_if_ge (pc := 76) (tgt := 88) dX12_worstWind_76 (by decide) (fun q => ?_) (fun q => ?_)
      · have h := ite_t q h
        refine wt_iload_n (pc := 88) 1 dX12_worstWind_88 rfl ?_
        cases h
        exact he 89 _ _ _ dX12_worstWind_89 (by decide) (by decide)
      · have h := ite_f q h
        refine wt_aload_n (pc := 79) 0 dX12_worstWind_79 rfl ?_
        refine wt_bipush (pc := 80) (v := 8) dX12_worstWind_80 (by decide) ?_
        refine wt_cVI (pc := 82) (J' := j_X12_refuse) (As := [.int 8]) (st := []) (B' := b_X12_refuse) (u' := 0) (w' := 0) dX12_worstWind_82 ml_X12_331 mv_X12_refuse (fun v9 M9 e9 => c_X12_refuse e9) rfl (by decide) rfl rfl (by decide) (by decide) (by decide) rfl h (fun v82 M82 h => ?_)
        refine wt_goto (pc := 85) (tgt := 89) dX12_worstWind_85 (by decide) ?_
        cases h
        exact he 89 _ _ _ dX12_worstWind_89 (by decide) (by decide)
    · have h := ite_f q h
      refine wt_iload_n (pc := 24) 1 dX12_worstWind_24 rfl ?_
      refine wt_if_lt (pc := 25) (tgt := 67) dX12_worstWind_25 (by decide) (fun q => ?_) (fun q => ?_)
      · have h := ite_t q h
        refine wt_sub (ls' := [(0, rf G.1 l0), (2, .int l2)]) [0, 2] rfl ?_
        exact t_X12_worstWind_67 he (fun _ _ _ _ h => ih h) h
      · have h := ite_f q h
        refine wt_aload_n (pc := 28) 0 dX12_worstWind_28 rfl ?_
        refine wt_aload_n (pc := 29) 0 dX12_worstWind_29 rfl ?_
        refine wt_aload_n (pc := 30) 0 dX12_worstWind_30 rfl ?_
        refine wt_getR (pc := 31) dX12_worstWind_31 fl_X12_35 (fun _ _ _ => rfl) h (fun v31 h => ?_)
        refine wt_sipush (pc := 34) (v := 161) dX12_worstWind_34 (by decide) ?_
        refine wt_iload_n (pc := 37) 2 dX12_worstWind_37 rfl ?_
        refine wt_iadd (pc := 38) dX12_worstWind_38 ?_
        refine wt_iaload (pc := 39) (kd := 21) dX12_worstWind_39 rfl rfl h (fun v39 h => ?_)
        refine wt_cVI (pc := 40) (J' := j_X12_fallSet) (As := [.int v39]) (st := [rf G.1 l0]) (B' := b_X12_fallSet) (u' := 0) (w' := 0) dX12_worstWind_40 ml_X12_398 mv_X12_fallSet (fun v9 M9 e9 => c_X12_fallSet e9) rfl (by decide) rfl rfl (by decide) (by decide) (by simp [rf_cat, cat_i, cat_l, cat_r]) rfl h (fun v40 M40 h => ?_)
        refine wt_cVI (pc := 43) (J' := j_X12_worthIn) (As := [.int v40]) (st := []) (B' := b_X12_worthIn) (u' := 0) (w' := 0) dX12_worstWind_43 ml_X12_428 mv_X12_worthIn (fun v9 M9 e9 => c_X12_worthIn e9) rfl (by decide) rfl rfl (by decide) (by decide) (by decide) rfl h (fun v43 M43 h => ?_)
        refine wt_aload_n (pc := 46) 0 dX12_worstWind_46 rfl ?_
        refine wt_aload_n (pc := 47) 0 dX12_worstWind_47 rfl ?_
        refine wt_aload_n (pc := 48) 0 dX12_worstWind_48 rfl ?_
        refine wt_getR (pc := 49) dX12_worstWind_49 fl_X12_35 (fun _ _ _ => rfl) h (fun v49 h => ?_)
        refine wt_sipush (pc := 52) (v := 161) dX12_worstWind_52 (by decide) ?_
        refine wt_iload_n (pc := 55) 1 dX12_worstWind_55 rfl ?_
        refine wt_iadd (pc := 56) dX12_worstWind_56 ?_
        refine wt_iaload (pc := 57) (kd := 21) dX12_worstWind_57 rfl rfl h (fun v57 h => ?_)
        refine wt_cVI (pc := 58) (J' := j_X12_fallSet) (As := [.int v57]) (st := [rf G.1 l0, .int v43]) (B' := b_X12_fallSet) (u' := 0) (w' := 0) dX12_worstWind_58 ml_X12_398 mv_X12_fallSet (fun v9 M9 e9 => c_X12_fallSet e9) rfl (by decide) rfl rfl (by decide) (by decide) (by simp [rf_cat, cat_i, cat_l, cat_r]) rfl h (fun v58 M58 h => ?_)
        refine wt_cVI (pc := 61) (J' := j_X12_worthIn) (As := [.int v58]) (st := [.int v43]) (B' := b_X12_worthIn) (u' := 0) (w' := 0) dX12_worstWind_61 ml_X12_428 mv_X12_worthIn (fun v9 M9 e9 => c_X12_worthIn e9) rfl (by decide) rfl rfl (by decide) (by decide) (by simp [rf_cat, cat_i, cat_l, cat_r]) rfl h (fun v61 M61 h => ?_)
        refine wt_icmp_le (pc := 64) (tgt := 69) dX12_worstWind_64 (by decide) (fun q => ?_) (fun q => ?_)
        · have h := ite_t q h
          exact t_X12_worstWind_69 he (fun _ _ _ _ h => ih h) h
        · have h := ite_f q h
          refine wt_sub (ls' := [(0, rf G.1 l0), (2, .int l2)]) [0, 2] rfl ?_
          exact t_X12_worstWind_67 he (fun _ _ _ _ h => ih h) h
set_option maxHeartbeats 4000000 in
set_option maxRecDepth 100000 in
theorem t_X12_worstWind_e {G : GG} {X : CX} {ans : Int32 × Mm} (he : EndI G X j_X12_worstWind b_X12_worstWind ans) {M : Mm} {l0 : Option Nat} (h : f_X12_worstWind M l0 = some ans) : Wt G X j_X12_worstWind b_X12_worstWind 0 [(0, rf G.1 l0)] [] M 0 0 := by
  unfold f_X12_worstWind at h
  refine wt_aload_n (pc := 0) 0 dX12_worstWind_0 rfl ?_
  refine wt_iconst (pc := 1) (v := 0) dX12_worstWind_1 (by decide) ?_
  refine wt_putI (pc := 2) dX12_worstWind_2 fl_X12_68 rfl rfl h (fun M2 h => ?_)
  refine wt_aload_n (pc := 5) 0 dX12_worstWind_5 rfl ?_
  refine wt_iconst (pc := 6) (v := 0) dX12_worstWind_6 (by decide) ?_
  refine wt_putI (pc := 7) dX12_worstWind_7 fl_X12_71 rfl rfl h (fun M7 h => ?_)
  refine wt_iconst (pc := 10) (v := (-1)) dX12_worstWind_10 (by decide) ?_
  refine wt_istore_n (pc := 11) (i := 1) (ls' := [(1, .int (-1)), (0, rf G.1 l0)]) rfl dX12_worstWind_11 (by decide) (by simp [rf_cat, cat_i, cat_l, cat_r]) ?_
  refine wt_iconst (pc := 12) (v := 0) dX12_worstWind_12 (by decide) ?_
  refine wt_istore_n (pc := 13) (i := 2) (ls' := [(2, .int 0), (1, .int (-1)), (0, rf G.1 l0)]) rfl dX12_worstWind_13 (by decide) rfl ?_
  refine wt_sub (ls' := [(0, rf G.1 l0), (1, .int (-1)), (2, .int 0)]) [2, 1, 0] rfl ?_
  exact t_X12_worstWind_14 he  fu h
set_option maxHeartbeats 4000000 in
set_option maxRecDepth 100000 in
theorem c_X12_worstWind {G : GG} {M : Mm} {l0 : Option Nat} {r : Int32 × Mm} (h : f_X12_worstWind M l0 = some r) (l : Launch) : Ct l G j_X12_worstWind b_X12_worstWind [rf G.1 l0] M (some (.int r.1)) r.2 := cf_I (by decide +kernel) (by simp [lg_sl, rf_cat, cat_i, cat_l, j_X12_worstWind]) rfl (by simp [lv_args, rf_cat, cat_i, cat_l]) (fun X he => t_X12_worstWind_e he h)
def f_X12_onSet_30 (k4 : Mm → Option Nat → Int32 → Int32 → Option (Int32 × Mm)) (M : Mm) (l0 : Option Nat) (l2 : Int32) (s0 : Int32) (s1 : Int32) : Option (Int32 × Mm) := nmI (s0 ||| s1) fun x31 => k4 M l0 x31 (l2 + 1)
def f_X12_onSet_4 : Nat → Mm → Option Nat → Int32 → Int32 → Option (Int32 × Mm)
  | 0, _, _, _, _ => none
  | n + 1, M, l0, l1, l2 => gfR M l0 12 20 fun v6 => alI M v6 21 0 fun v10 => if v10 ≤ l2 then (some (l1, M)) else (ck M l0 12 <| bd (f_X12_isOn M l0 l2) fun v17 M17 => if v17 = 0 then (f_X12_onSet_30 (f_X12_onSet_4 n) M17 l0 l2 l1 0) else (f_X12_onSet_30 (f_X12_onSet_4 n) M17 l0 l2 l1 (1 <<< (l2 &&& 31))))
def f_X12_onSet (M : Mm) (l0 : Option Nat) : Option (Int32 × Mm) := f_X12_onSet_4  fu M l0 0 0
set_option maxHeartbeats 4000000 in
set_option maxRecDepth 100000 in
theorem t_X12_onSet_30 {G : GG} {X : CX} {ans : Int32 × Mm} (he : EndI G X j_X12_onSet b_X12_onSet ans) {k4 : Mm → Option Nat → Int32 → Int32 → Option (Int32 × Mm)} (hk4 : ∀ (M : Mm) (a0 : Option Nat) (a1 : Int32) (a2 : Int32), k4 M a0 a1 a2 = some ans → Wt G X j_X12_onSet b_X12_onSet 4 [(0, rf G.1 a0), (1, .int a1), (2, .int a2)] [] M 0 0) {M : Mm} {l0 : Option Nat} {l2 : Int32} {s0 : Int32} {s1 : Int32} (h : f_X12_onSet_30 k4 M l0 l2 s0 s1 = some ans) : Wt G X j_X12_onSet b_X12_onSet 30 [(0, rf G.1 l0), (2, .int l2)] [.int s1, .int s0] M 0 0 := by
  unfold f_X12_onSet_30 at h
  refine wt_ior (pc := 30) dX12_onSet_30 ?_
  refine wt_nmI h (fun x31 h => ?_)
  refine wt_istore_n (pc := 31) (i := 1) (ls' := [(1, .int x31), (0, rf G.1 l0), (2, .int l2)]) rfl dX12_onSet_31 (by decide) (by simp [rf_cat, cat_i, cat_l, cat_r]) ?_
  refine wt_iinc (pc := 32) (d := 1) (ls' := [(2, .int (l2 + 1)), (1, .int x31), (0, rf G.1 l0)]) 2 dX12_onSet_32 rfl (by decide) (by decide) rfl ?_
  refine wt_goto (pc := 35) (tgt := 4) dX12_onSet_35 (by decide) ?_
  refine wt_sub (ls' := [(0, rf G.1 l0), (1, .int x31), (2, .int (l2 + 1))]) [2, 1, 0] rfl ?_
  exact hk4 _ _ _ _ h
set_option maxHeartbeats 4000000 in
set_option maxRecDepth 100000 in
theorem t_X12_onSet_4 {G : GG} {X : CX} {ans : Int32 × Mm} (he : EndI G X j_X12_onSet b_X12_onSet ans) : ∀ (n : Nat) {M : Mm} {l0 : Option Nat} {l1 : Int32} {l2 : Int32}, f_X12_onSet_4 n M l0 l1 l2 = some ans → Wt G X j_X12_onSet b_X12_onSet 4 [(0, rf G.1 l0), (1, .int l1), (2, .int l2)] [] M 0 0 := by
  intro n
  induction n with
  | zero =>
    intro M l0 l1 l2 h
    rw [f_X12_onSet_4] at h
    cases h
  | succ n ih =>
    intro M l0 l1 l2 h
    rw [f_X12_onSet_4] at h
    refine wt_iload_n (pc := 4) 2 dX12_onSet_4 rfl ?_
    refine wt_aload_n (pc := 5) 0 dX12_onSet_5 rfl ?_
    refine wt_getR (pc := 6) dX12_onSet_6 fl_X12_35 (fun _ _ _ => rfl) h (fun v6 h => ?_)
    refine wt_iconst (pc := 9) (v := 0) dX12_onSet_9 (by decide) ?_
    refine wt_iaload (pc := 10) (kd := 21) dX12_onSet_10 rfl rfl h (fun v10 h => ?_)
    refine wt_icmp_ge (pc := 11) (tgt := 38) dX12_onSet_11 (by decide) (fun q => ?_) (fun q => ?_)
    · have h := ite_t q h
      refine wt_iload_n (pc := 38) 1 dX12_onSet_38 rfl ?_
      cases h
      exact he 39 _ _ _ dX12_onSet_39 (by decide) (by decide)
    · have h := ite_f q h
      refine wt_iload_n (pc := 14) 1 dX12_onSet_14 rfl ?_
      refine wt_aload_n (pc := 15) 0 dX12_onSet_15 rfl ?_
      refine wt_iload_n (pc := 16) 2 dX12_onSet_16 rfl ?_
      refine wt_cVI (pc := 17) (J' := j_X12_isOn) (As := [.int l2]) (st := [.int l1]) (B' := b_X12_isOn) (u' := 0) (w' := 0) dX12_onSet_17 ml_X12_363 mv_X12_isOn (fun v9 M9 e9 => c_X12_isOn e9) rfl (by decide) rfl rfl (by decide) (by decide) (by simp [rf_cat, cat_i, cat_l, cat_r]) rfl h (fun v17 M17 h => ?_)
      refine wt_if_eq (pc := 20) (tgt := 29) dX12_onSet_20 (by decide) (fun q => ?_) (fun q => ?_)
      · have h := ite_t q h
        refine wt_iconst (pc := 29) (v := 0) dX12_onSet_29 (by decide) ?_
        refine wt_sub (ls' := [(0, rf G.1 l0), (2, .int l2)]) [0, 2] rfl ?_
        exact t_X12_onSet_30 he (fun _ _ _ _ h => ih h) h
      · have h := ite_f q h
        refine wt_iconst (pc := 23) (v := 1) dX12_onSet_23 (by decide) ?_
        refine wt_iload_n (pc := 24) 2 dX12_onSet_24 rfl ?_
        refine wt_ishl (pc := 25) dX12_onSet_25 ?_
        refine wt_goto (pc := 26) (tgt := 30) dX12_onSet_26 (by decide) ?_
        refine wt_sub (ls' := [(0, rf G.1 l0), (2, .int l2)]) [0, 2] rfl ?_
        exact t_X12_onSet_30 he (fun _ _ _ _ h => ih h) h
set_option maxHeartbeats 4000000 in
set_option maxRecDepth 100000 in
theorem t_X12_onSet_e {G : GG} {X : CX} {ans : Int32 × Mm} (he : EndI G X j_X12_onSet b_X12_onSet ans) {M : Mm} {l0 : Option Nat} (h : f_X12_onSet M l0 = some ans) : Wt G X j_X12_onSet b_X12_onSet 0 [(0, rf G.1 l0)] [] M 0 0 := by
  unfold f_X12_onSet at h
  refine wt_iconst (pc := 0) (v := 0) dX12_onSet_0 (by decide) ?_
  refine wt_istore_n (pc := 1) (i := 1) (ls' := [(1, .int 0), (0, rf G.1 l0)]) rfl dX12_onSet_1 (by decide) (by simp [rf_cat, cat_i, cat_l, cat_r]) ?_
  refine wt_iconst (pc := 2) (v := 0) dX12_onSet_2 (by decide) ?_
  refine wt_istore_n (pc := 3) (i := 2) (ls' := [(2, .int 0), (1, .int 0), (0, rf G.1 l0)]) rfl dX12_onSet_3 (by decide) rfl ?_
  refine wt_sub (ls' := [(0, rf G.1 l0), (1, .int 0), (2, .int 0)]) [2, 1, 0] rfl ?_
  exact t_X12_onSet_4 he  fu h
set_option maxHeartbeats 4000000 in
set_option maxRecDepth 100000 in
theorem c_X12_onSet {G : GG} {M : Mm} {l0 : Option Nat} {r : Int32 × Mm} (h : f_X12_onSet M l0 = some r) (l : Launch) : Ct l G j_X12_onSet b_X12_onSet [rf G.1 l0] M (some (.int r.1)) r.2 := cf_I (by decide +kernel) (by simp [lg_sl, rf_cat, cat_i, cat_l, j_X12_onSet]) rfl (by simp [lv_args, rf_cat, cat_i, cat_l]) (fun X he => t_X12_onSet_e he h)
def f_X12_liftOf (M : Mm) (l0 : Option Nat) (l1 : Int32) (l2 : Int32) : Option (Int32 × Mm) := gfR M l0 12 20 fun v1 => alI M v1 21 (53 + l2) fun v8 => ck M l0 12 <| bd (f_X12_takesOf M l0 l1 l2) fun v12 M12 => some ((v8 * v12), M12)
set_option maxHeartbeats 4000000 in
set_option maxRecDepth 100000 in
theorem t_X12_liftOf_e {G : GG} {X : CX} {ans : Int32 × Mm} (he : EndI G X j_X12_liftOf b_X12_liftOf ans) {M : Mm} {l0 : Option Nat} {l1 : Int32} {l2 : Int32} (h : f_X12_liftOf M l0 l1 l2 = some ans) : Wt G X j_X12_liftOf b_X12_liftOf 0 [(0, rf G.1 l0), (1, .int l1), (2, .int l2)] [] M 0 0 := by
  unfold f_X12_liftOf at h
  refine wt_aload_n (pc := 0) 0 dX12_liftOf_0 rfl ?_
  refine wt_getR (pc := 1) dX12_liftOf_1 fl_X12_35 (fun _ _ _ => rfl) h (fun v1 h => ?_)
  refine wt_bipush (pc := 4) (v := 53) dX12_liftOf_4 (by decide) ?_
  refine wt_iload_n (pc := 6) 2 dX12_liftOf_6 rfl ?_
  refine wt_iadd (pc := 7) dX12_liftOf_7 ?_
  refine wt_iaload (pc := 8) (kd := 21) dX12_liftOf_8 rfl rfl h (fun v8 h => ?_)
  refine wt_aload_n (pc := 9) 0 dX12_liftOf_9 rfl ?_
  refine wt_iload_n (pc := 10) 1 dX12_liftOf_10 rfl ?_
  refine wt_iload_n (pc := 11) 2 dX12_liftOf_11 rfl ?_
  refine wt_cVI (pc := 12) (J' := j_X12_takesOf) (As := [.int l1, .int l2]) (st := [.int v8]) (B' := b_X12_takesOf) (u' := 0) (w' := 0) dX12_liftOf_12 ml_X12_357 mv_X12_takesOf (fun v9 M9 e9 => c_X12_takesOf e9) rfl (by decide) rfl rfl (by decide) (by decide) (by simp [rf_cat, cat_i, cat_l, cat_r]) rfl h (fun v12 M12 h => ?_)
  refine wt_imul (pc := 15) dX12_liftOf_15 ?_
  cases h
  exact he 16 _ _ _ dX12_liftOf_16 (by decide) (by decide)
set_option maxHeartbeats 4000000 in
set_option maxRecDepth 100000 in
theorem c_X12_liftOf {G : GG} {M : Mm} {l0 : Option Nat} {l1 : Int32} {l2 : Int32} {r : Int32 × Mm} (h : f_X12_liftOf M l0 l1 l2 = some r) (l : Launch) : Ct l G j_X12_liftOf b_X12_liftOf [rf G.1 l0, .int l1, .int l2] M (some (.int r.1)) r.2 := cf_I (by decide +kernel) (by simp [lg_sl, rf_cat, cat_i, cat_l, j_X12_liftOf]) rfl (by simp [lv_args, rf_cat, cat_i, cat_l]) (fun X he => t_X12_liftOf_e he h)
def f_X12_between (M : Mm) (l0 : Option Nat) (l1 : Int32) (l2 : Int32) (l3 : Int32) : Option (Int32 × Mm) := gfR M l0 12 20 fun v1 => alI M v1 21 (141 + l1) fun v9 => gfR M l0 12 20 fun v11 => alI M v11 21 (5 + l2) fun v17 => gfR M l0 12 20 fun v19 => alI M v19 21 (5 + l3) fun v25 => some ((v9 * (abI (v17 - v25))), M)
set_option maxHeartbeats 4000000 in
set_option maxRecDepth 100000 in
theorem t_X12_between_e {G : GG} {X : CX} {ans : Int32 × Mm} (he : EndI G X j_X12_between b_X12_between ans) {M : Mm} {l0 : Option Nat} {l1 : Int32} {l2 : Int32} {l3 : Int32} (h : f_X12_between M l0 l1 l2 l3 = some ans) : Wt G X j_X12_between b_X12_between 0 [(0, rf G.1 l0), (1, .int l1), (2, .int l2), (3, .int l3)] [] M 0 0 := by
  unfold f_X12_between at h
  refine wt_aload_n (pc := 0) 0 dX12_between_0 rfl ?_
  refine wt_getR (pc := 1) dX12_between_1 fl_X12_35 (fun _ _ _ => rfl) h (fun v1 h => ?_)
  refine wt_sipush (pc := 4) (v := 141) dX12_between_4 (by decide) ?_
  refine wt_iload_n (pc := 7) 1 dX12_between_7 rfl ?_
  refine wt_iadd (pc := 8) dX12_between_8 ?_
  refine wt_iaload (pc := 9) (kd := 21) dX12_between_9 rfl rfl h (fun v9 h => ?_)
  refine wt_aload_n (pc := 10) 0 dX12_between_10 rfl ?_
  refine wt_getR (pc := 11) dX12_between_11 fl_X12_35 (fun _ _ _ => rfl) h (fun v11 h => ?_)
  refine wt_iconst (pc := 14) (v := 5) dX12_between_14 (by decide) ?_
  refine wt_iload_n (pc := 15) 2 dX12_between_15 rfl ?_
  refine wt_iadd (pc := 16) dX12_between_16 ?_
  refine wt_iaload (pc := 17) (kd := 21) dX12_between_17 rfl rfl h (fun v17 h => ?_)
  refine wt_aload_n (pc := 18) 0 dX12_between_18 rfl ?_
  refine wt_getR (pc := 19) dX12_between_19 fl_X12_35 (fun _ _ _ => rfl) h (fun v19 h => ?_)
  refine wt_iconst (pc := 22) (v := 5) dX12_between_22 (by decide) ?_
  refine wt_iload_n (pc := 23) 3 dX12_between_23 rfl ?_
  refine wt_iadd (pc := 24) dX12_between_24 ?_
  refine wt_iaload (pc := 25) (kd := 21) dX12_between_25 rfl rfl h (fun v25 h => ?_)
  refine wt_isub (pc := 26) dX12_between_26 ?_
  refine wt_mabs (pc := 27) dX12_between_27 bi_X12_327 mw_abs.1 mw_abs.2.1 mw_abs.2.2 (by decide) (by decide) (by decide) (by simp [rf_cat, cat_i, cat_l, cat_r]) ?_
  refine wt_imul (pc := 30) dX12_between_30 ?_
  cases h
  exact he 31 _ _ _ dX12_between_31 (by decide) (by decide)
set_option maxHeartbeats 4000000 in
set_option maxRecDepth 100000 in
theorem c_X12_between {G : GG} {M : Mm} {l0 : Option Nat} {l1 : Int32} {l2 : Int32} {l3 : Int32} {r : Int32 × Mm} (h : f_X12_between M l0 l1 l2 l3 = some r) (l : Launch) : Ct l G j_X12_between b_X12_between [rf G.1 l0, .int l1, .int l2, .int l3] M (some (.int r.1)) r.2 := cf_I (by decide +kernel) (by simp [lg_sl, rf_cat, cat_i, cat_l, j_X12_between]) rfl (by simp [lv_args, rf_cat, cat_i, cat_l]) (fun X he => t_X12_between_e he h)
def f_X12_fill_169 (k7 : Mm → Option Nat → Int32 → Int32 → Int32 → Option (Mm)) (k40 : Mm → Option Nat → Int32 → Int32 → Int32 → Int32 → Option (Mm)) (M : Mm) (l0 : Option Nat) (l1 : Int32) (l2 : Int32) (l3 : Int32) (l4 : Int32) (l5 : Int32) : Option (Mm) := gfR M l0 12 27 fun v170 => asI M v170 21 ((8 * l3) + l4) l5 fun M182 => gfR M182 l0 12 28 fun v184 => gfR M182 l0 12 28 fun v195 => alI M182 v195 21 ((256 * l1) + l3) fun v205 => asI M182 v184 21 ((256 * l1) + l3) (mnI v205 l5) fun M211 => k40 M211 l0 l1 l2 l3 (l4 + 1)
def f_X12_fill_163 (k7 : Mm → Option Nat → Int32 → Int32 → Int32 → Option (Mm)) (k40 : Mm → Option Nat → Int32 → Int32 → Int32 → Int32 → Option (Mm)) (k104 : Mm → Option Nat → Int32 → Int32 → Int32 → Int32 → Int32 → Int32 → Int32 → Option (Mm)) (M : Mm) (l0 : Option Nat) (l1 : Int32) (l2 : Int32) (l3 : Int32) (l4 : Int32) (l5 : Int32) (l6 : Int32) (l7 : Int32) : Option (Mm) := k104 M l0 l1 l2 l3 l4 l5 l6 (l7 + 1)
def f_X12_fill_104 (k7 : Mm → Option Nat → Int32 → Int32 → Int32 → Option (Mm)) (k40 : Mm → Option Nat → Int32 → Int32 → Int32 → Int32 → Option (Mm)) : Nat → Mm → Option Nat → Int32 → Int32 → Int32 → Int32 → Int32 → Int32 → Int32 → Option (Mm)
  | 0, _, _, _, _, _, _, _, _, _ => none
  | n + 1, M, l0, l1, l2, l3, l4, l5, l6, l7 => gfR M l0 12 20 fun v107 => alI M v107 21 0 fun v111 => if v111 ≤ l7 then (f_X12_fill_169 k7 k40 M l0 l1 l2 l3 l4 l5) else (bd (f_X12_has M l6 l7) fun v119 M119 => if v119 = 0 then (f_X12_fill_163 k7 k40 (f_X12_fill_104 k7 k40 n) M119 l0 l1 l2 l3 l4 l5 l6 l7) else (gfR M119 l0 12 27 fun v128 => alI M119 v128 21 ((8 * l6) + l7) fun v139 => ck M119 l0 12 <| bd (f_X12_between M119 l0 l1 l7 l4) fun v146 M146 => ck M146 l0 12 <| bd (f_X12_liftOf M146 l0 l1 l4) fun v154 M154 => nmI (mnI l5 ((v139 + v146) + v154)) fun x161 => f_X12_fill_163 k7 k40 (f_X12_fill_104 k7 k40 n) M154 l0 l1 l2 l3 l4 x161 l6 l7))
def f_X12_fill_101 (k7 : Mm → Option Nat → Int32 → Int32 → Int32 → Option (Mm)) (k40 : Mm → Option Nat → Int32 → Int32 → Int32 → Int32 → Option (Mm)) (M : Mm) (l0 : Option Nat) (l1 : Int32) (l2 : Int32) (l3 : Int32) (l4 : Int32) (l5 : Int32) (l6 : Int32) : Option (Mm) := f_X12_fill_104 k7 k40 fu M l0 l1 l2 l3 l4 l5 l6 0
def f_X12_fill_40 (k7 : Mm → Option Nat → Int32 → Int32 → Int32 → Option (Mm)) : Nat → Mm → Option Nat → Int32 → Int32 → Int32 → Int32 → Option (Mm)
  | 0, _, _, _, _, _, _ => none
  | n + 1, M, l0, l1, l2, l3, l4 => if 8 ≤ l4 then (k7 M l0 l1 l2 (l3 + 1)) else (if (l3 &&& (l2 ^^^ (-1))) = 0 then (bd (f_X12_has M l3 l4) fun v63 M63 => if v63 = 0 then (f_X12_fill_169 k7 (f_X12_fill_40 k7 n) M63 l0 l1 l2 l3 l4 99999) else (nmI (l3 &&& ((1 <<< (l4 &&& 31)) ^^^ (-1))) fun x77 => if x77 = 0 then (ck M63 l0 12 <| bd (f_X12_walkOf M63 l0 l1 l4) fun v88 M88 => ck M88 l0 12 <| bd (f_X12_liftOf M88 l0 l1 l4) fun v95 M95 => nmI (v88 + v95) fun x99 => f_X12_fill_101 k7 (f_X12_fill_40 k7 n) M95 l0 l1 l2 l3 l4 x99 x77) else (f_X12_fill_101 k7 (f_X12_fill_40 k7 n) M63 l0 l1 l2 l3 l4 99999 x77))) else (f_X12_fill_169 k7 (f_X12_fill_40 k7 n) M l0 l1 l2 l3 l4 99999))
def f_X12_fill_36 (k7 : Mm → Option Nat → Int32 → Int32 → Int32 → Option (Mm)) (M : Mm) (l0 : Option Nat) (l1 : Int32) (l2 : Int32) (l3 : Int32) (s0 : Option Nat) (s1 : Int32) (s2 : Int32) : Option (Mm) := asI M s0 21 s1 s2 fun M36 => f_X12_fill_40 k7 fu M36 l0 l1 l2 l3 0
def f_X12_fill_7 : Nat → Mm → Option Nat → Int32 → Int32 → Int32 → Option (Mm)
  | 0, _, _, _, _, _ => none
  | n + 1, M, l0, l1, l2, l3 => if 256 ≤ l3 then (some M) else (gfR M l0 12 28 fun v15 => if l3 = 0 then (f_X12_fill_36 (f_X12_fill_7 n) M l0 l1 l2 l3 v15 ((256 * l1) + l3) 0) else (f_X12_fill_36 (f_X12_fill_7 n) M l0 l1 l2 l3 v15 ((256 * l1) + l3) 99999))
def f_X12_fill (M : Mm) (l0 : Option Nat) (l1 : Int32) : Option (Mm) := ck M l0 12 <| bd (f_X12_onSet M l0) fun v1 M1 => f_X12_fill_7  fu M1 l0 l1 v1 0
set_option maxHeartbeats 4000000 in
set_option maxRecDepth 100000 in
theorem t_X12_fill_169 {G : GG} {X : CX} {ans : Mm} (he : EndV G X j_X12_fill b_X12_fill ans) {k7 : Mm → Option Nat → Int32 → Int32 → Int32 → Option (Mm)} {k40 : Mm → Option Nat → Int32 → Int32 → Int32 → Int32 → Option (Mm)} (hk7 : ∀ (M : Mm) (a0 : Option Nat) (a1 : Int32) (a2 : Int32) (a3 : Int32), k7 M a0 a1 a2 a3 = some ans → Wt G X j_X12_fill b_X12_fill 7 [(0, rf G.1 a0), (1, .int a1), (2, .int a2), (3, .int a3)] [] M 0 0) (hk40 : ∀ (M : Mm) (a0 : Option Nat) (a1 : Int32) (a2 : Int32) (a3 : Int32) (a4 : Int32), k40 M a0 a1 a2 a3 a4 = some ans → Wt G X j_X12_fill b_X12_fill 40 [(0, rf G.1 a0), (1, .int a1), (2, .int a2), (3, .int a3), (4, .int a4)] [] M 0 0) {M : Mm} {l0 : Option Nat} {l1 : Int32} {l2 : Int32} {l3 : Int32} {l4 : Int32} {l5 : Int32} (h : f_X12_fill_169 k7 k40 M l0 l1 l2 l3 l4 l5 = some ans) : Wt G X j_X12_fill b_X12_fill 169 [(0, rf G.1 l0), (1, .int l1), (2, .int l2), (3, .int l3), (4, .int l4), (5, .int l5)] [] M 0 0 := by
  unfold f_X12_fill_169 at h
  refine wt_aload_n (pc := 169) 0 dX12_fill_169 rfl ?_
  refine wt_getR (pc := 170) dX12_fill_170 fl_X12_44 (fun _ _ _ => rfl) h (fun v170 h => ?_)
  refine wt_bipush (pc := 173) (v := 8) dX12_fill_173 (by decide) ?_
  refine wt_iload_n (pc := 175) 3 dX12_fill_175 rfl ?_
  refine wt_imul (pc := 176) dX12_fill_176 ?_
  refine wt_iload (pc := 177) 4 dX12_fill_177 rfl ?_
  refine wt_iadd (pc := 179) dX12_fill_179 ?_
  refine wt_iload (pc := 180) 5 dX12_fill_180 rfl ?_
  refine wt_iastore (pc := 182) (kd := 21) dX12_fill_182 rfl rfl h (fun M182 h => ?_)
  refine wt_aload_n (pc := 183) 0 dX12_fill_183 rfl ?_
  refine wt_getR (pc := 184) dX12_fill_184 fl_X12_47 (fun _ _ _ => rfl) h (fun v184 h => ?_)
  refine wt_sipush (pc := 187) (v := 256) dX12_fill_187 (by decide) ?_
  refine wt_iload_n (pc := 190) 1 dX12_fill_190 rfl ?_
  refine wt_imul (pc := 191) dX12_fill_191 ?_
  refine wt_iload_n (pc := 192) 3 dX12_fill_192 rfl ?_
  refine wt_iadd (pc := 193) dX12_fill_193 ?_
  refine wt_aload_n (pc := 194) 0 dX12_fill_194 rfl ?_
  refine wt_getR (pc := 195) dX12_fill_195 fl_X12_47 (fun _ _ _ => rfl) h (fun v195 h => ?_)
  refine wt_sipush (pc := 198) (v := 256) dX12_fill_198 (by decide) ?_
  refine wt_iload_n (pc := 201) 1 dX12_fill_201 rfl ?_
  refine wt_imul (pc := 202) dX12_fill_202 ?_
  refine wt_iload_n (pc := 203) 3 dX12_fill_203 rfl ?_
  refine wt_iadd (pc := 204) dX12_fill_204 ?_
  refine wt_iaload (pc := 205) (kd := 21) dX12_fill_205 rfl rfl h (fun v205 h => ?_)
  refine wt_iload (pc := 206) 5 dX12_fill_206 rfl ?_
  refine wt_mmin (pc := 208) dX12_fill_208 bi_X12_387 mw_min.1 mw_min.2.1 mw_min.2.2 (by decide) (by decide) (by decide) (by simp [rf_cat, cat_i, cat_l, cat_r]) ?_
  refine wt_iastore (pc := 211) (kd := 21) dX12_fill_211 rfl rfl h (fun M211 h => ?_)
  refine wt_iinc (pc := 212) (d := 1) (ls' := [(4, .int (l4 + 1)), (0, rf G.1 l0), (1, .int l1), (2, .int l2), (3, .int l3), (5, .int l5)]) 4 dX12_fill_212 rfl (by decide) (by decide) rfl ?_
  refine wt_goto (pc := 215) (tgt := 40) dX12_fill_215 (by decide) ?_
  refine wt_sub (ls' := [(0, rf G.1 l0), (1, .int l1), (2, .int l2), (3, .int l3), (4, .int (l4 + 1))]) [1, 2, 3, 4, 0] rfl ?_
  exact hk40 _ _ _ _ _ _ h
set_option maxHeartbeats 4000000 in
set_option maxRecDepth 100000 in
theorem t_X12_fill_163 {G : GG} {X : CX} {ans : Mm} (he : EndV G X j_X12_fill b_X12_fill ans) {k7 : Mm → Option Nat → Int32 → Int32 → Int32 → Option (Mm)} {k40 : Mm → Option Nat → Int32 → Int32 → Int32 → Int32 → Option (Mm)} {k104 : Mm → Option Nat → Int32 → Int32 → Int32 → Int32 → Int32 → Int32 → Int32 → Option (Mm)} (hk7 : ∀ (M : Mm) (a0 : Option Nat) (a1 : Int32) (a2 : Int32) (a3 : Int32), k7 M a0 a1 a2 a3 = some ans → Wt G X j_X12_fill b_X12_fill 7 [(0, rf G.1 a0), (1, .int a1), (2, .int a2), (3, .int a3)] [] M 0 0) (hk40 : ∀ (M : Mm) (a0 : Option Nat) (a1 : Int32) (a2 : Int32) (a3 : Int32) (a4 : Int32), k40 M a0 a1 a2 a3 a4 = some ans → Wt G X j_X12_fill b_X12_fill 40 [(0, rf G.1 a0), (1, .int a1), (2, .int a2), (3, .int a3), (4, .int a4)] [] M 0 0) (hk104 : ∀ (M : Mm) (a0 : Option Nat) (a1 : Int32) (a2 : Int32) (a3 : Int32) (a4 : Int32) (a5 : Int32) (a6 : Int32) (a7 : Int32), k104 M a0 a1 a2 a3 a4 a5 a6 a7 = some ans → Wt G X j_X12_fill b_X12_fill 104 [(0, rf G.1 a0), (1, .int a1), (2, .int a2), (3, .int a3), (4, .int a4), (5, .int a5), (6, .int a6), (7, .int a7)] [] M 0 0) {M : Mm} {l0 : Option Nat} {l1 : Int32} {l2 : Int32} {l3 : Int32} {l4 : Int32} {l5 : Int32} {l6 : Int32} {l7 : Int32} (h : f_X12_fill_163 k7 k40 k104 M l0 l1 l2 l3 l4 l5 l6 l7 = some ans) : Wt G X j_X12_fill b_X12_fill 163 [(0, rf G.1 l0), (1, .int l1), (2, .int l2), (3, .int l3), (4, .int l4), (5, .int l5), (6, .int l6), (7, .int l7)] [] M 0 0 := by
  unfold f_X12_fill_163 at h
  refine wt_iinc (pc := 163) (d := 1) (ls' := [(7, .int (l7 + 1)), (0, rf G.1 l0), (1, .int l1), (2, .int l2), (3, .int l3), (4, .int l4), (5, .int l5), (6, .int l6)]) 7 dX12_fill_163 rfl (by decide) (by decide) rfl ?_
  refine wt_goto (pc := 166) (tgt := 104) dX12_fill_166 (by decide) ?_
  refine wt_sub (ls' := [(0, rf G.1 l0), (1, .int l1), (2, .int l2), (3, .int l3), (4, .int l4), (5, .int l5), (6, .int l6), (7, .int (l7 + 1))]) [1, 2, 3, 4, 5, 6, 7, 0] rfl ?_
  exact hk104 _ _ _ _ _ _ _ _ _ h
set_option maxHeartbeats 4000000 in
set_option maxRecDepth 100000 in
theorem t_X12_fill_104 {G : GG} {X : CX} {ans : Mm} (he : EndV G X j_X12_fill b_X12_fill ans) {k7 : Mm → Option Nat → Int32 → Int32 → Int32 → Option (Mm)} {k40 : Mm → Option Nat → Int32 → Int32 → Int32 → Int32 → Option (Mm)} (hk7 : ∀ (M : Mm) (a0 : Option Nat) (a1 : Int32) (a2 : Int32) (a3 : Int32), k7 M a0 a1 a2 a3 = some ans → Wt G X j_X12_fill b_X12_fill 7 [(0, rf G.1 a0), (1, .int a1), (2, .int a2), (3, .int a3)] [] M 0 0) (hk40 : ∀ (M : Mm) (a0 : Option Nat) (a1 : Int32) (a2 : Int32) (a3 : Int32) (a4 : Int32), k40 M a0 a1 a2 a3 a4 = some ans → Wt G X j_X12_fill b_X12_fill 40 [(0, rf G.1 a0), (1, .int a1), (2, .int a2), (3, .int a3), (4, .int a4)] [] M 0 0) : ∀ (n : Nat) {M : Mm} {l0 : Option Nat} {l1 : Int32} {l2 : Int32} {l3 : Int32} {l4 : Int32} {l5 : Int32} {l6 : Int32} {l7 : Int32}, f_X12_fill_104 k7 k40 n M l0 l1 l2 l3 l4 l5 l6 l7 = some ans → Wt G X j_X12_fill b_X12_fill 104 [(0, rf G.1 l0), (1, .int l1), (2, .int l2), (3, .int l3), (4, .int l4), (5, .int l5), (6, .int l6), (7, .int l7)] [] M 0 0 := by
  intro n
  induction n with
  | zero =>
    intro M l0 l1 l2 l3 l4 l5 l6 l7 h
    rw [f_X12_fill_104] at h
    cases h
  | succ n ih =>
    intro M l0 l1 l2 l3 l4 l5 l6 l7 h
    rw [f_X12_fill_104] at h
    refine wt_iload (pc := 104) 7 dX12_fill_104 rfl ?_
    refine wt_aload_n (pc := 106) 0 dX12_fill_106 rfl ?_
    refine wt_getR (pc := 107) dX12_fill_107 fl_X12_35 (fun _ _ _ => rfl) h (fun v107 h => ?_)
    refine wt_iconst (pc := 110) (v := 0) dX12_fill_110 (by decide) ?_
    refine wt_iaload (pc := 111) (kd := 21) dX12_fill_111 rfl rfl h (fun v111 h => ?_)
    refine wt_icmp_ge (pc := 112) (tgt := 169) dX12_fill_112 (by decide) (fun q => ?_) (fun q => ?_)
    · have h := ite_t q h
      refine wt_sub (ls' := [(0, rf G.1 l0), (1, .int l1), (2, .int l2), (3, .int l3), (4, .int l4), (5, .int l5)]) [0, 1, 2, 3, 4, 5] rfl ?_
      exact t_X12_fill_169 he (fun _ _ _ _ _ h => hk7 _ _ _ _ _ h) (fun _ _ _ _ _ _ h => hk40 _ _ _ _ _ _ h) h
    · have h := ite_f q h
      refine wt_iload (pc := 115) 6 dX12_fill_115 rfl ?_
      refine wt_iload (pc := 117) 7 dX12_fill_117 rfl ?_
      refine wt_cSI (pc := 119) (J' := j_X12_has) (As := [.int l6, .int l7]) (st := []) (B' := b_X12_has) (u' := 0) (w' := 0) dX12_fill_119 ml_X12_107 ms_X12_has (fun v9 M9 e9 => c_X12_has e9) rfl (by decide) rfl rfl (by decide) (by decide) (by decide) rfl h (fun v119 M119 h => ?_)
      refine wt_if_eq (pc := 122) (tgt := 163) dX12_fill_122 (by decide) (fun q => ?_) (fun q => ?_)
      · have h := ite_t q h
        exact t_X12_fill_163 he (fun _ _ _ _ _ h => hk7 _ _ _ _ _ h) (fun _ _ _ _ _ _ h => hk40 _ _ _ _ _ _ h) (fun _ _ _ _ _ _ _ _ _ h => ih h) h
      · have h := ite_f q h
        refine wt_iload (pc := 125) 5 dX12_fill_125 rfl ?_
        refine wt_aload_n (pc := 127) 0 dX12_fill_127 rfl ?_
        refine wt_getR (pc := 128) dX12_fill_128 fl_X12_44 (fun _ _ _ => rfl) h (fun v128 h => ?_)
        refine wt_bipush (pc := 131) (v := 8) dX12_fill_131 (by decide) ?_
        refine wt_iload (pc := 133) 6 dX12_fill_133 rfl ?_
        refine wt_imul (pc := 135) dX12_fill_135 ?_
        refine wt_iload (pc := 136) 7 dX12_fill_136 rfl ?_
        refine wt_iadd (pc := 138) dX12_fill_138 ?_
        refine wt_iaload (pc := 139) (kd := 21) dX12_fill_139 rfl rfl h (fun v139 h => ?_)
        refine wt_aload_n (pc := 140) 0 dX12_fill_140 rfl ?_
        refine wt_iload_n (pc := 141) 1 dX12_fill_141 rfl ?_
        refine wt_iload (pc := 142) 7 dX12_fill_142 rfl ?_
        refine wt_iload (pc := 144) 4 dX12_fill_144 rfl ?_
        refine wt_cVI (pc := 146) (J' := j_X12_between) (As := [.int l1, .int l7, .int l4]) (st := [.int v139, .int l5]) (B' := b_X12_between) (u' := 0) (w' := 0) dX12_fill_146 ml_X12_438 mv_X12_between (fun v9 M9 e9 => c_X12_between e9) rfl (by decide) rfl rfl (by decide) (by decide) (by simp [rf_cat, cat_i, cat_l, cat_r]) rfl h (fun v146 M146 h => ?_)
        refine wt_iadd (pc := 149) dX12_fill_149 ?_
        refine wt_aload_n (pc := 150) 0 dX12_fill_150 rfl ?_
        refine wt_iload_n (pc := 151) 1 dX12_fill_151 rfl ?_
        refine wt_iload (pc := 152) 4 dX12_fill_152 rfl ?_
        refine wt_cVI (pc := 154) (J' := j_X12_liftOf) (As := [.int l1, .int l4]) (st := [.int (v139 + v146), .int l5]) (B' := b_X12_liftOf) (u' := 0) (w' := 0) dX12_fill_154 ml_X12_435 mv_X12_liftOf (fun v9 M9 e9 => c_X12_liftOf e9) rfl (by decide) rfl rfl (by decide) (by decide) (by simp [rf_cat, cat_i, cat_l, cat_r]) rfl h (fun v154 M154 h => ?_)
        refine wt_iadd (pc := 157) dX12_fill_157 ?_
        refine wt_mmin (pc := 158) dX12_fill_158 bi_X12_387 mw_min.1 mw_min.2.1 mw_min.2.2 (by decide) (by decide) (by decide) (by decide) ?_
        refine wt_nmI h (fun x161 h => ?_)
        refine wt_istore (pc := 161) (i := 5) (ls' := [(5, .int x161), (0, rf G.1 l0), (1, .int l1), (2, .int l2), (3, .int l3), (4, .int l4), (6, .int l6), (7, .int l7)]) dX12_fill_161 (by decide) rfl ?_
        refine wt_sub (ls' := [(0, rf G.1 l0), (1, .int l1), (2, .int l2), (3, .int l3), (4, .int l4), (5, .int x161), (6, .int l6), (7, .int l7)]) [1, 2, 3, 4, 5, 0, 6, 7] rfl ?_
        exact t_X12_fill_163 he (fun _ _ _ _ _ h => hk7 _ _ _ _ _ h) (fun _ _ _ _ _ _ h => hk40 _ _ _ _ _ _ h) (fun _ _ _ _ _ _ _ _ _ h => ih h) h
set_option maxHeartbeats 4000000 in
set_option maxRecDepth 100000 in
theorem t_X12_fill_101 {G : GG} {X : CX} {ans : Mm} (he : EndV G X j_X12_fill b_X12_fill ans) {k7 : Mm → Option Nat → Int32 → Int32 → Int32 → Option (Mm)} {k40 : Mm → Option Nat → Int32 → Int32 → Int32 → Int32 → Option (Mm)} (hk7 : ∀ (M : Mm) (a0 : Option Nat) (a1 : Int32) (a2 : Int32) (a3 : Int32), k7 M a0 a1 a2 a3 = some ans → Wt G X j_X12_fill b_X12_fill 7 [(0, rf G.1 a0), (1, .int a1), (2, .int a2), (3, .int a3)] [] M 0 0) (hk40 : ∀ (M : Mm) (a0 : Option Nat) (a1 : Int32) (a2 : Int32) (a3 : Int32) (a4 : Int32), k40 M a0 a1 a2 a3 a4 = some ans → Wt G X j_X12_fill b_X12_fill 40 [(0, rf G.1 a0), (1, .int a1), (2, .int a2), (3, .int a3), (4, .int a4)] [] M 0 0) {M : Mm} {l0 : Option Nat} {l1 : Int32} {l2 : Int32} {l3 : Int32} {l4 : Int32} {l5 : Int32} {l6 : Int32} (h : f_X12_fill_101 k7 k40 M l0 l1 l2 l3 l4 l5 l6 = some ans) : Wt G X j_X12_fill b_X12_fill 101 [(0, rf G.1 l0), (1, .int l1), (2, .int l2), (3, .int l3), (4, .int l4), (5, .int l5), (6, .int l6)] [] M 0 0 := by
  unfold f_X12_fill_101 at h
  refine wt_iconst (pc := 101) (v := 0) dX12_fill_101 (by decide) ?_
  refine wt_istore (pc := 102) (i := 7) (ls' := [(7, .int 0), (0, rf G.1 l0), (1, .int l1), (2, .int l2), (3, .int l3), (4, .int l4), (5, .int l5), (6, .int l6)]) dX12_fill_102 (by decide) rfl ?_
  refine wt_sub (ls' := [(0, rf G.1 l0), (1, .int l1), (2, .int l2), (3, .int l3), (4, .int l4), (5, .int l5), (6, .int l6), (7, .int 0)]) [1, 2, 3, 4, 5, 6, 7, 0] rfl ?_
  exact t_X12_fill_104 he (fun _ _ _ _ _ h => hk7 _ _ _ _ _ h) (fun _ _ _ _ _ _ h => hk40 _ _ _ _ _ _ h) fu h
set_option maxHeartbeats 4000000 in
set_option maxRecDepth 100000 in
theorem t_X12_fill_40 {G : GG} {X : CX} {ans : Mm} (he : EndV G X j_X12_fill b_X12_fill ans) {k7 : Mm → Option Nat → Int32 → Int32 → Int32 → Option (Mm)} (hk7 : ∀ (M : Mm) (a0 : Option Nat) (a1 : Int32) (a2 : Int32) (a3 : Int32), k7 M a0 a1 a2 a3 = some ans → Wt G X j_X12_fill b_X12_fill 7 [(0, rf G.1 a0), (1, .int a1), (2, .int a2), (3, .int a3)] [] M 0 0) : ∀ (n : Nat) {M : Mm} {l0 : Option Nat} {l1 : Int32} {l2 : Int32} {l3 : Int32} {l4 : Int32}, f_X12_fill_40 k7 n M l0 l1 l2 l3 l4 = some ans → Wt G X j_X12_fill b_X12_fill 40 [(0, rf G.1 l0), (1, .int l1), (2, .int l2), (3, .int l3), (4, .int l4)] [] M 0 0 := by
  intro n
  induction n with
  | zero =>
    intro M l0 l1 l2 l3 l4 h
    rw [f_X12_fill_40] at h
    cases h
  | succ n ih =>
    intro M l0 l1 l2 l3 l4 h
    rw [f_X12_fill_40] at h
    refine wt_iload (pc := 40) 4 dX12_fill_40 rfl ?_
    refine wt_bipush (pc := 42) (v := 8) dX12_fill_42 (by decide) ?_
    refine wt_icmp_ge (pc := 44) (tgt := 218) dX12_fill_44 (by decide) (fun q => ?_) (fun q => ?_)
    · have h := ite_t q h
      refine wt_iinc (pc := 218) (d := 1) (ls' := [(3, .int (l3 + 1)), (0, rf G.1 l0), (1, .int l1), (2, .int l2), (4, .int l4)]) 3 dX12_fill_218 rfl (by decide) (by decide) rfl ?_
      refine wt_goto (pc := 221) (tgt := 7) dX12_fill_221 (by decide) ?_
      refine wt_sub (ls' := [(0, rf G.1 l0), (1, .int l1), (2, .int l2), (3, .int (l3 + 1))]) [1, 2, 3, 0] rfl ?_
      exact hk7 _ _ _ _ _ h
    · have h := ite_f q h
      refine wt_ldcw (pc := 47) dX12_fill_47 kc_X12_434 ?_
      refine wt_istore (pc := 50) (i := 5) (ls' := [(5, .int 99999), (0, rf G.1 l0), (1, .int l1), (2, .int l2), (3, .int l3), (4, .int l4)]) dX12_fill_50 (by decide) rfl ?_
      refine wt_iload_n (pc := 52) 4 dX12_fill_52 rfl ?_
      refine wt_iload_n (pc := 53) 3 dX12_fill_53 rfl ?_
      refine wt_iconst (pc := 54) (v := (-1)) dX12_fill_54 (by decide) ?_
      refine wt_ixor (pc := 55) dX12_fill_55 ?_
      refine wt_iand (pc := 56) dX12_fill_56 ?_
      refine wt_if_ne (pc := 57) (tgt := 169) dX12_fill_57 (by decide) (fun q => ?_) (fun q => ?_)
      · have h := ite_f q h
        refine wt_sub (ls' := [(0, rf G.1 l0), (1, .int l1), (2, .int l2), (3, .int l3), (4, .int l4), (5, .int 99999)]) [1, 2, 3, 4, 5, 0] rfl ?_
        exact t_X12_fill_169 he (fun _ _ _ _ _ h => hk7 _ _ _ _ _ h) (fun _ _ _ _ _ _ h => ih h) h
      · have h := ite_t q h
        refine wt_iload_n (pc := 60) 4 dX12_fill_60 rfl ?_
        refine wt_iload (pc := 61) 5 dX12_fill_61 rfl ?_
        refine wt_cSI (pc := 63) (J' := j_X12_has) (As := [.int l3, .int l4]) (st := []) (B' := b_X12_has) (u' := 0) (w' := 0) dX12_fill_63 ml_X12_107 ms_X12_has (fun v9 M9 e9 => c_X12_has e9) rfl (by decide) rfl rfl (by decide) (by decide) (by decide) rfl h (fun v63 M63 h => ?_)
        refine wt_if_eq (pc := 66) (tgt := 169) dX12_fill_66 (by decide) (fun q => ?_) (fun q => ?_)
        · have h := ite_t q h
          refine wt_sub (ls' := [(0, rf G.1 l0), (1, .int l1), (2, .int l2), (3, .int l3), (4, .int l4), (5, .int 99999)]) [1, 2, 3, 4, 5, 0] rfl ?_
          exact t_X12_fill_169 he (fun _ _ _ _ _ h => hk7 _ _ _ _ _ h) (fun _ _ _ _ _ _ h => ih h) h
        · have h := ite_f q h
          refine wt_iload_n (pc := 69) 4 dX12_fill_69 rfl ?_
          refine wt_iconst (pc := 70) (v := 1) dX12_fill_70 (by decide) ?_
          refine wt_iload (pc := 71) 5 dX12_fill_71 rfl ?_
          refine wt_ishl (pc := 73) dX12_fill_73 ?_
          refine wt_iconst (pc := 74) (v := (-1)) dX12_fill_74 (by decide) ?_
          refine wt_ixor (pc := 75) dX12_fill_75 ?_
          refine wt_iand (pc := 76) dX12_fill_76 ?_
          refine wt_nmI h (fun x77 h => ?_)
          refine wt_istore (pc := 77) (i := 6) (ls' := [(6, .int x77), (5, .int 99999), (0, rf G.1 l0), (1, .int l1), (2, .int l2), (3, .int l3), (4, .int l4)]) dX12_fill_77 (by decide) rfl ?_
          refine wt_iload (pc := 79) 0 dX12_fill_79 rfl ?_
          refine wt_if_ne (pc := 81) (tgt := 101) dX12_fill_81 (by decide) (fun q => ?_) (fun q => ?_)
          · have h := ite_f q h
            refine wt_sub (ls' := [(0, rf G.1 l0), (1, .int l1), (2, .int l2), (3, .int l3), (4, .int l4), (5, .int 99999), (6, .int x77)]) [2, 3, 4, 5, 6, 1, 0] rfl ?_
            exact t_X12_fill_101 he (fun _ _ _ _ _ h => hk7 _ _ _ _ _ h) (fun _ _ _ _ _ _ h => ih h) h
          · have h := ite_t q h
            refine wt_aload_n (pc := 84) 2 dX12_fill_84 rfl ?_
            refine wt_iload_n (pc := 85) 3 dX12_fill_85 rfl ?_
            refine wt_iload (pc := 86) 6 dX12_fill_86 rfl ?_
            refine wt_cVI (pc := 88) (J' := j_X12_walkOf) (As := [.int l1, .int l4]) (st := []) (B' := b_X12_walkOf) (u' := 0) (w' := 0) dX12_fill_88 ml_X12_360 mv_X12_walkOf (fun v9 M9 e9 => c_X12_walkOf e9) rfl (by decide) rfl rfl (by decide) (by decide) (by decide) rfl h (fun v88 M88 h => ?_)
            refine wt_aload_n (pc := 91) 2 dX12_fill_91 rfl ?_
            refine wt_iload_n (pc := 92) 3 dX12_fill_92 rfl ?_
            refine wt_iload (pc := 93) 6 dX12_fill_93 rfl ?_
            refine wt_cVI (pc := 95) (J' := j_X12_liftOf) (As := [.int l1, .int l4]) (st := [.int v88]) (B' := b_X12_liftOf) (u' := 0) (w' := 0) dX12_fill_95 ml_X12_435 mv_X12_liftOf (fun v9 M9 e9 => c_X12_liftOf e9) rfl (by decide) rfl rfl (by decide) (by decide) (by simp [rf_cat, cat_i, cat_l, cat_r]) rfl h (fun v95 M95 h => ?_)
            refine wt_iadd (pc := 98) dX12_fill_98 ?_
            refine wt_nmI h (fun x99 h => ?_)
            refine wt_istore (pc := 99) (i := 5) (ls' := [(5, .int x99), (6, .int x77), (0, rf G.1 l0), (1, .int l1), (2, .int l2), (3, .int l3), (4, .int l4)]) dX12_fill_99 (by decide) rfl ?_
            refine wt_sub (ls' := [(0, rf G.1 l0), (1, .int l1), (2, .int l2), (3, .int l3), (4, .int l4), (5, .int x99), (6, .int x77)]) [2, 3, 4, 5, 6, 0, 1] rfl ?_
            exact t_X12_fill_101 he (fun _ _ _ _ _ h => hk7 _ _ _ _ _ h) (fun _ _ _ _ _ _ h => ih h) h
set_option maxHeartbeats 4000000 in
set_option maxRecDepth 100000 in
theorem t_X12_fill_36 {G : GG} {X : CX} {ans : Mm} (he : EndV G X j_X12_fill b_X12_fill ans) {k7 : Mm → Option Nat → Int32 → Int32 → Int32 → Option (Mm)} (hk7 : ∀ (M : Mm) (a0 : Option Nat) (a1 : Int32) (a2 : Int32) (a3 : Int32), k7 M a0 a1 a2 a3 = some ans → Wt G X j_X12_fill b_X12_fill 7 [(0, rf G.1 a0), (1, .int a1), (2, .int a2), (3, .int a3)] [] M 0 0) {M : Mm} {l0 : Option Nat} {l1 : Int32} {l2 : Int32} {l3 : Int32} {s0 : Option Nat} {s1 : Int32} {s2 : Int32} (h : f_X12_fill_36 k7 M l0 l1 l2 l3 s0 s1 s2 = some ans) : Wt G X j_X12_fill b_X12_fill 36 [(0, rf G.1 l0), (1, .int l1), (2, .int l2), (3, .int l3)] [.int s2, .int s1, rf G.1 s0] M 0 0 := by
  unfold f_X12_fill_36 at h
  refine wt_iastore (pc := 36) (kd := 21) dX12_fill_36 rfl rfl h (fun M36 h => ?_)
  refine wt_iconst (pc := 37) (v := 0) dX12_fill_37 (by decide) ?_
  refine wt_istore (pc := 38) (i := 4) (ls' := [(4, .int 0), (0, rf G.1 l0), (1, .int l1), (2, .int l2), (3, .int l3)]) dX12_fill_38 (by decide) rfl ?_
  refine wt_sub (ls' := [(0, rf G.1 l0), (1, .int l1), (2, .int l2), (3, .int l3), (4, .int 0)]) [1, 2, 3, 4, 0] rfl ?_
  exact t_X12_fill_40 he (fun _ _ _ _ _ h => hk7 _ _ _ _ _ h) fu h
set_option maxHeartbeats 4000000 in
set_option maxRecDepth 100000 in
theorem t_X12_fill_7 {G : GG} {X : CX} {ans : Mm} (he : EndV G X j_X12_fill b_X12_fill ans) : ∀ (n : Nat) {M : Mm} {l0 : Option Nat} {l1 : Int32} {l2 : Int32} {l3 : Int32}, f_X12_fill_7 n M l0 l1 l2 l3 = some ans → Wt G X j_X12_fill b_X12_fill 7 [(0, rf G.1 l0), (1, .int l1), (2, .int l2), (3, .int l3)] [] M 0 0 := by
  intro n
  induction n with
  | zero =>
    intro M l0 l1 l2 l3 h
    rw [f_X12_fill_7] at h
    cases h
  | succ n ih =>
    intro M l0 l1 l2 l3 h
    rw [f_X12_fill_7] at h
    refine wt_iload_n (pc := 7) 3 dX12_fill_7 rfl ?_
    refine wt_sipush (pc := 8) (v := 256) dX12_fill_8 (by decide) ?_
    refine wt_icmp_ge (pc := 11) (tgt := 224) dX12_fill_11 (by decide) (fun q => ?_) (fun q => ?_)
    · have h := ite_t q h
      cases h
      exact he 224 _ _ _ dX12_fill_224 (by decide) (by decide)
    · have h := ite_f q h
      refine wt_aload_n (pc := 14) 0 dX12_fill_14 rfl ?_
      refine wt_getR (pc := 15) dX12_fill_15 fl_X12_47 (fun _ _ _ => rfl) h (fun v15 h => ?_)
      refine wt_sipush (pc := 18) (v := 256) dX12_fill_18 (by decide) ?_
      refine wt_iload_n (pc := 21) 1 dX12_fill_21 rfl ?_
      refine wt_imul (pc := 22) dX12_fill_22 ?_
      refine wt_iload_n (pc := 23) 3 dX12_fill_23 rfl ?_
      refine wt_iadd (pc := 24) dX12_fill_24 ?_
      refine wt_iload_n (pc := 25) 3 dX12_fill_25 rfl ?_
      refine wt_if_ne (pc := 26) (tgt := 33) dX12_fill_26 (by decide) (fun q => ?_) (fun q => ?_)
      · have h := ite_f q h
        refine wt_ldcw (pc := 33) dX12_fill_33 kc_X12_434 ?_
        exact t_X12_fill_36 he (fun _ _ _ _ _ h => ih h) h
      · have h := ite_t q h
        refine wt_iconst (pc := 29) (v := 0) dX12_fill_29 (by decide) ?_
        refine wt_goto (pc := 30) (tgt := 36) dX12_fill_30 (by decide) ?_
        exact t_X12_fill_36 he (fun _ _ _ _ _ h => ih h) h
set_option maxHeartbeats 4000000 in
set_option maxRecDepth 100000 in
theorem t_X12_fill_e {G : GG} {X : CX} {ans : Mm} (he : EndV G X j_X12_fill b_X12_fill ans) {M : Mm} {l0 : Option Nat} {l1 : Int32} (h : f_X12_fill M l0 l1 = some ans) : Wt G X j_X12_fill b_X12_fill 0 [(0, rf G.1 l0), (1, .int l1)] [] M 0 0 := by
  unfold f_X12_fill at h
  refine wt_aload_n (pc := 0) 0 dX12_fill_0 rfl ?_
  refine wt_cVI (pc := 1) (J' := j_X12_onSet) (As := []) (st := []) (B' := b_X12_onSet) (u' := 0) (w' := 0) dX12_fill_1 ml_X12_431 mv_X12_onSet (fun v9 M9 e9 => c_X12_onSet e9) rfl (by decide) rfl rfl (by decide) (by decide) (by decide) rfl h (fun v1 M1 h => ?_)
  refine wt_istore_n (pc := 4) (i := 2) (ls' := [(2, .int v1), (0, rf G.1 l0), (1, .int l1)]) rfl dX12_fill_4 (by decide) rfl ?_
  refine wt_iconst (pc := 5) (v := 0) dX12_fill_5 (by decide) ?_
  refine wt_istore_n (pc := 6) (i := 3) (ls' := [(3, .int 0), (2, .int v1), (0, rf G.1 l0), (1, .int l1)]) rfl dX12_fill_6 (by decide) rfl ?_
  refine wt_sub (ls' := [(0, rf G.1 l0), (1, .int l1), (2, .int v1), (3, .int 0)]) [2, 3, 1, 0] rfl ?_
  exact t_X12_fill_7 he  fu h
set_option maxHeartbeats 4000000 in
set_option maxRecDepth 100000 in
theorem c_X12_fill {G : GG} {M : Mm} {l0 : Option Nat} {l1 : Int32} {r : Mm} (h : f_X12_fill M l0 l1 = some r) (l : Launch) : Ct l G j_X12_fill b_X12_fill [rf G.1 l0, .int l1] M none r := cf_V (by decide +kernel) (by simp [lg_sl, rf_cat, cat_i, cat_l, j_X12_fill]) rfl (by simp [lv_args, rf_cat, cat_i, cat_l]) (fun X he => t_X12_fill_e he h)
def f_X12_best_119 (k52 : Mm → Option Nat → Int32 → Int32 → Int32 → Int32 → Option (Int32 × Mm)) (M : Mm) (l0 : Option Nat) (l1 : Int32) (l2 : Int32) (l3 : Int32) (l4 : Int32) : Option (Int32 × Mm) := k52 M l0 l1 l2 l3 (l4 + 1)
def f_X12_best_116 (k52 : Mm → Option Nat → Int32 → Int32 → Int32 → Int32 → Option (Int32 × Mm)) (M : Mm) (l0 : Option Nat) (l1 : Int32) (l2 : Int32) (l4 : Int32) : Option (Int32 × Mm) := f_X12_best_119 k52 M l0 l1 l2 l4 l4
def f_X12_best_52 : Nat → Mm → Option Nat → Int32 → Int32 → Int32 → Int32 → Option (Int32 × Mm)
  | 0, _, _, _, _, _, _ => none
  | n + 1, M, l0, l1, l2, l3, l4 => if 256 ≤ l4 then (pfI M l0 12 30 l3 fun M127 => ck M127 l0 12 <| bd (f_X12_worthIn M127 l0 l3) fun v132 M132 => some (v132, M132)) else (gfR M l0 12 28 fun v61 => alI M v61 21 ((256 * l1) + l4) fun v72 => if v72 ≤ l2 then (ck M l0 12 <| bd (f_X12_worthIn M l0 l4) fun v83 M83 => ck M83 l0 12 <| bd (f_X12_worthIn M83 l0 l3) fun v88 M88 => nmI (v83 - v88) fun x92 => if 0 < x92 then (f_X12_best_116 (f_X12_best_52 n) M88 l0 l1 l2 l4) else (if x92 = 0 then (bd (f_X12_sizeOf M88 l4) fun v106 M106 => bd (f_X12_sizeOf M106 l3) fun v110 M110 => if v110 ≤ v106 then (f_X12_best_119 (f_X12_best_52 n) M110 l0 l1 l2 l3 l4) else (f_X12_best_116 (f_X12_best_52 n) M110 l0 l1 l2 l4)) else (f_X12_best_119 (f_X12_best_52 n) M88 l0 l1 l2 l3 l4))) else (f_X12_best_119 (f_X12_best_52 n) M l0 l1 l2 l3 l4))
def f_X12_best (M : Mm) (l0 : Option Nat) (l1 : Int32) (l2 : Int32) : Option (Int32 × Mm) := pfI M l0 12 1 0 fun M2 => pfI M2 l0 12 0 0 fun M7 => ck M7 l0 12 <| bd (f_X12_isGangAt M7 l0 l1) fun v12 M12 => if v12 = 0 then (ck M12 l0 12 <| bd (f_X12_refuse M12 l0 2) fun v20 M20 => some (v20, M20)) else (bd (f_X12_isIn M12 (Int32.toInt64 l2) 0 240) fun v30 M30 => if v30 = 0 then (ck M30 l0 12 <| bd (f_X12_refuse M30 l0 5) fun v38 M38 => some (v38, M38)) else (ck M30 l0 12 <| bv (f_X12_fill M30 l0 l1) fun M44 => f_X12_best_52  fu M44 l0 l1 l2 0 1))
set_option maxHeartbeats 4000000 in
set_option maxRecDepth 100000 in
theorem t_X12_best_119 {G : GG} {X : CX} {ans : Int32 × Mm} (he : EndI G X j_X12_best b_X12_best ans) {k52 : Mm → Option Nat → Int32 → Int32 → Int32 → Int32 → Option (Int32 × Mm)} (hk52 : ∀ (M : Mm) (a0 : Option Nat) (a1 : Int32) (a2 : Int32) (a3 : Int32) (a4 : Int32), k52 M a0 a1 a2 a3 a4 = some ans → Wt G X j_X12_best b_X12_best 52 [(0, rf G.1 a0), (1, .int a1), (2, .int a2), (3, .int a3), (4, .int a4)] [] M 0 0) {M : Mm} {l0 : Option Nat} {l1 : Int32} {l2 : Int32} {l3 : Int32} {l4 : Int32} (h : f_X12_best_119 k52 M l0 l1 l2 l3 l4 = some ans) : Wt G X j_X12_best b_X12_best 119 [(0, rf G.1 l0), (1, .int l1), (2, .int l2), (3, .int l3), (4, .int l4)] [] M 0 0 := by
  unfold f_X12_best_119 at h
  refine wt_iinc (pc := 119) (d := 1) (ls' := [(4, .int (l4 + 1)), (0, rf G.1 l0), (1, .int l1), (2, .int l2), (3, .int l3)]) 4 dX12_best_119 rfl (by decide) (by decide) rfl ?_
  refine wt_goto (pc := 122) (tgt := 52) dX12_best_122 (by decide) ?_
  refine wt_sub (ls' := [(0, rf G.1 l0), (1, .int l1), (2, .int l2), (3, .int l3), (4, .int (l4 + 1))]) [1, 2, 3, 4, 0] rfl ?_
  exact hk52 _ _ _ _ _ _ h
set_option maxHeartbeats 4000000 in
set_option maxRecDepth 100000 in
theorem t_X12_best_116 {G : GG} {X : CX} {ans : Int32 × Mm} (he : EndI G X j_X12_best b_X12_best ans) {k52 : Mm → Option Nat → Int32 → Int32 → Int32 → Int32 → Option (Int32 × Mm)} (hk52 : ∀ (M : Mm) (a0 : Option Nat) (a1 : Int32) (a2 : Int32) (a3 : Int32) (a4 : Int32), k52 M a0 a1 a2 a3 a4 = some ans → Wt G X j_X12_best b_X12_best 52 [(0, rf G.1 a0), (1, .int a1), (2, .int a2), (3, .int a3), (4, .int a4)] [] M 0 0) {M : Mm} {l0 : Option Nat} {l1 : Int32} {l2 : Int32} {l4 : Int32} (h : f_X12_best_116 k52 M l0 l1 l2 l4 = some ans) : Wt G X j_X12_best b_X12_best 116 [(0, rf G.1 l0), (1, .int l1), (2, .int l2), (4, .int l4)] [] M 0 0 := by
  unfold f_X12_best_116 at h
  refine wt_iload (pc := 116) 3 dX12_best_116 rfl ?_
  refine wt_istore_n (pc := 118) (i := 3) (ls' := [(3, .int l4), (0, rf G.1 l0), (1, .int l1), (2, .int l2), (4, .int l4)]) rfl dX12_best_118 (by decide) rfl ?_
  refine wt_sub (ls' := [(0, rf G.1 l0), (1, .int l1), (2, .int l2), (3, .int l4), (4, .int l4)]) [1, 2, 3, 0, 4] rfl ?_
  exact t_X12_best_119 he (fun _ _ _ _ _ _ h => hk52 _ _ _ _ _ _ h) h
set_option maxHeartbeats 4000000 in
set_option maxRecDepth 100000 in
theorem t_X12_best_52 {G : GG} {X : CX} {ans : Int32 × Mm} (he : EndI G X j_X12_best b_X12_best ans) : ∀ (n : Nat) {M : Mm} {l0 : Option Nat} {l1 : Int32} {l2 : Int32} {l3 : Int32} {l4 : Int32}, f_X12_best_52 n M l0 l1 l2 l3 l4 = some ans → Wt G X j_X12_best b_X12_best 52 [(0, rf G.1 l0), (1, .int l1), (2, .int l2), (3, .int l3), (4, .int l4)] [] M 0 0 := by
  intro n
  induction n with
  | zero =>
    intro M l0 l1 l2 l3 l4 h
    rw [f_X12_best_52] at h
    cases h
  | succ n ih =>
    intro M l0 l1 l2 l3 l4 h
    rw [f_X12_best_52] at h
    refine wt_iload (pc := 52) 4 dX12_best_52 rfl ?_
    refine wt_sipush (pc := 54) (v := 256) dX12_best_54 (by decide) ?_
    refine wt_icmp_ge (pc := 57) (tgt := 125) dX12_best_57 (by decide) (fun q => ?_) (fun q => ?_)
    · have h := ite_t q h
      refine wt_aload_n (pc := 125) 0 dX12_best_125 rfl ?_
      refine wt_iload_n (pc := 126) 3 dX12_best_126 rfl ?_
      refine wt_putI (pc := 127) dX12_best_127 fl_X12_53 rfl rfl h (fun M127 h => ?_)
      refine wt_aload_n (pc := 130) 0 dX12_best_130 rfl ?_
      refine wt_iload_n (pc := 131) 3 dX12_best_131 rfl ?_
      refine wt_cVI (pc := 132) (J' := j_X12_worthIn) (As := [.int l3]) (st := []) (B' := b_X12_worthIn) (u' := 0) (w' := 0) dX12_best_132 ml_X12_428 mv_X12_worthIn (fun v9 M9 e9 => c_X12_worthIn e9) rfl (by decide) rfl rfl (by decide) (by decide) (by decide) rfl h (fun v132 M132 h => ?_)
      cases h
      exact he 135 _ _ _ dX12_best_135 (by decide) (by decide)
    · have h := ite_f q h
      refine wt_aload_n (pc := 60) 0 dX12_best_60 rfl ?_
      refine wt_getR (pc := 61) dX12_best_61 fl_X12_47 (fun _ _ _ => rfl) h (fun v61 h => ?_)
      refine wt_sipush (pc := 64) (v := 256) dX12_best_64 (by decide) ?_
      refine wt_iload_n (pc := 67) 1 dX12_best_67 rfl ?_
      refine wt_imul (pc := 68) dX12_best_68 ?_
      refine wt_iload (pc := 69) 4 dX12_best_69 rfl ?_
      refine wt_iadd (pc := 71) dX12_best_71 ?_
      refine wt_iaload (pc := 72) (kd := 21) dX12_best_72 rfl rfl h (fun v72 h => ?_)
      refine wt_iload_n (pc := 73) 2 dX12_best_73 rfl ?_
      refine wt_icmp_le (pc := 74) (tgt := 80) dX12_best_74 (by decide) (fun q => ?_) (fun q => ?_)
      · have h := ite_t q h
        refine wt_aload_n (pc := 80) 0 dX12_best_80 rfl ?_
        refine wt_iload (pc := 81) 4 dX12_best_81 rfl ?_
        refine wt_cVI (pc := 83) (J' := j_X12_worthIn) (As := [.int l4]) (st := []) (B' := b_X12_worthIn) (u' := 0) (w' := 0) dX12_best_83 ml_X12_428 mv_X12_worthIn (fun v9 M9 e9 => c_X12_worthIn e9) rfl (by decide) rfl rfl (by decide) (by decide) (by decide) rfl h (fun v83 M83 h => ?_)
        refine wt_aload_n (pc := 86) 0 dX12_best_86 rfl ?_
        refine wt_iload_n (pc := 87) 3 dX12_best_87 rfl ?_
        refine wt_cVI (pc := 88) (J' := j_X12_worthIn) (As := [.int l3]) (st := [.int v83]) (B' := b_X12_worthIn) (u' := 0) (w' := 0) dX12_best_88 ml_X12_428 mv_X12_worthIn (fun v9 M9 e9 => c_X12_worthIn e9) rfl (by decide) rfl rfl (by decide) (by decide) (by simp [rf_cat, cat_i, cat_l, cat_r]) rfl h (fun v88 M88 h => ?_)
        refine wt_isub (pc := 91) dX12_best_91 ?_
        refine wt_nmI h (fun x92 h => ?_)
        refine wt_istore (pc := 92) (i := 5) (ls' := [(5, .int x92), (0, rf G.1 l0), (1, .int l1), (2, .int l2), (3, .int l3), (4, .int l4)]) dX12_best_92 (by decide) rfl ?_
        refine wt_iload (pc := 94) 0 dX12_best_94 rfl ?_
        refine wt_if_gt (pc := 96) (tgt := 116) dX12_best_96 (by decide) (fun q => ?_) (fun q => ?_)
        · have h := ite_t q h
          refine wt_sub (ls' := [(0, rf G.1 l0), (1, .int l1), (2, .int l2), (4, .int l4)]) [1, 2, 3, 5] rfl ?_
          exact t_X12_best_116 he (fun _ _ _ _ _ _ h => ih h) h
        · have h := ite_f q h
          refine wt_iload (pc := 99) 0 dX12_best_99 rfl ?_
          refine wt_if_ne (pc := 101) (tgt := 119) dX12_best_101 (by decide) (fun q => ?_) (fun q => ?_)
          · have h := ite_f q h
            refine wt_sub (ls' := [(0, rf G.1 l0), (1, .int l1), (2, .int l2), (3, .int l3), (4, .int l4)]) [1, 2, 3, 4, 5] rfl ?_
            exact t_X12_best_119 he (fun _ _ _ _ _ _ h => ih h) h
          · have h := ite_t q h
            refine wt_iload (pc := 104) 5 dX12_best_104 rfl ?_
            refine wt_cSI (pc := 106) (J' := j_X12_sizeOf) (As := [.int l4]) (st := []) (B' := b_X12_sizeOf) (u' := 0) (w' := 0) dX12_best_106 ml_X12_401 ms_X12_sizeOf (fun v9 M9 e9 => c_X12_sizeOf e9) rfl (by decide) rfl rfl (by decide) (by decide) (by decide) rfl h (fun v106 M106 h => ?_)
            refine wt_iload_n (pc := 109) 4 dX12_best_109 rfl ?_
            refine wt_cSI (pc := 110) (J' := j_X12_sizeOf) (As := [.int l3]) (st := [.int v106]) (B' := b_X12_sizeOf) (u' := 0) (w' := 0) dX12_best_110 ml_X12_401 ms_X12_sizeOf (fun v9 M9 e9 => c_X12_sizeOf e9) rfl (by decide) rfl rfl (by decide) (by decide) (by simp [rf_cat, cat_i, cat_l, cat_r]) rfl h (fun v110 M110 h => ?_)
            refine wt_icmp_ge (pc := 113) (tgt := 119) dX12_best_113 (by decide) (fun q => ?_) (fun q => ?_)
            · have h := ite_t q h
              refine wt_sub (ls' := [(0, rf G.1 l0), (1, .int l1), (2, .int l2), (3, .int l3), (4, .int l4)]) [1, 2, 3, 4, 5] rfl ?_
              exact t_X12_best_119 he (fun _ _ _ _ _ _ h => ih h) h
            · have h := ite_f q h
              refine wt_sub (ls' := [(0, rf G.1 l0), (1, .int l1), (2, .int l2), (4, .int l4)]) [1, 2, 3, 5] rfl ?_
              exact t_X12_best_116 he (fun _ _ _ _ _ _ h => ih h) h
      · have h := ite_f q h
        refine wt_goto (pc := 77) (tgt := 119) dX12_best_77 (by decide) ?_
        exact t_X12_best_119 he (fun _ _ _ _ _ _ h => ih h) h
set_option maxHeartbeats 4000000 in
set_option maxRecDepth 100000 in
theorem t_X12_best_e {G : GG} {X : CX} {ans : Int32 × Mm} (he : EndI G X j_X12_best b_X12_best ans) {M : Mm} {l0 : Option Nat} {l1 : Int32} {l2 : Int32} (h : f_X12_best M l0 l1 l2 = some ans) : Wt G X j_X12_best b_X12_best 0 [(0, rf G.1 l0), (1, .int l1), (2, .int l2)] [] M 0 0 := by
  unfold f_X12_best at h
  refine wt_aload_n (pc := 0) 0 dX12_best_0 rfl ?_
  refine wt_iconst (pc := 1) (v := 0) dX12_best_1 (by decide) ?_
  refine wt_putI (pc := 2) dX12_best_2 fl_X12_68 rfl rfl h (fun M2 h => ?_)
  refine wt_aload_n (pc := 5) 0 dX12_best_5 rfl ?_
  refine wt_iconst (pc := 6) (v := 0) dX12_best_6 (by decide) ?_
  refine wt_putI (pc := 7) dX12_best_7 fl_X12_71 rfl rfl h (fun M7 h => ?_)
  refine wt_aload_n (pc := 10) 0 dX12_best_10 rfl ?_
  refine wt_iload_n (pc := 11) 1 dX12_best_11 rfl ?_
  refine wt_cVI (pc := 12) (J' := j_X12_isGangAt) (As := [.int l1]) (st := []) (B' := b_X12_isGangAt) (u' := 0) (w' := 0) dX12_best_12 ml_X12_352 mv_X12_isGangAt (fun v9 M9 e9 => c_X12_isGangAt e9) rfl (by decide) rfl rfl (by decide) (by decide) (by decide) rfl h (fun v12 M12 h => ?_)
  refine wt_if_ne (pc := 15) (tgt := 24) dX12_best_15 (by decide) (fun q => ?_) (fun q => ?_)
  · have h := ite_f q h
    refine wt_iload_n (pc := 24) 2 dX12_best_24 rfl ?_
    refine wt_i2l (pc := 25) dX12_best_25 ?_
    refine wt_lconst (pc := 26) (v := 0) dX12_best_26 (by decide) ?_
    refine wt_ldc2 (pc := 27) dX12_best_27 kc_X12_393 ?_
    refine wt_cSI (pc := 30) (J' := j_X12_isIn) (As := [.long (Int32.toInt64 l2), .long 0, .long 240]) (st := []) (B' := b_X12_isIn) (u' := 0) (w' := 0) dX12_best_30 ml_X12_103 ms_X12_isIn (fun v9 M9 e9 => c_X12_isIn e9) rfl (by decide) rfl rfl (by decide) (by decide) (by decide) rfl h (fun v30 M30 h => ?_)
    refine wt_if_ne (pc := 33) (tgt := 42) dX12_best_33 (by decide) (fun q => ?_) (fun q => ?_)
    · have h := ite_f q h
      refine wt_aload_n (pc := 42) 0 dX12_best_42 rfl ?_
      refine wt_iload_n (pc := 43) 1 dX12_best_43 rfl ?_
      refine wt_cVV (pc := 44) (J' := j_X12_fill) (As := [.int l1]) (st := []) (B' := b_X12_fill) (u' := 0) (w' := 0) dX12_best_44 ml_X12_441 mv_X12_fill (fun M9 e9 => c_X12_fill e9) rfl (by decide) rfl rfl (by decide) (by decide) (by decide) rfl h (fun M44 h => ?_)
      refine wt_iconst (pc := 47) (v := 0) dX12_best_47 (by decide) ?_
      refine wt_istore_n (pc := 48) (i := 3) (ls' := [(3, .int 0), (0, rf G.1 l0), (1, .int l1), (2, .int l2)]) rfl dX12_best_48 (by decide) rfl ?_
      refine wt_iconst (pc := 49) (v := 1) dX12_best_49 (by decide) ?_
      refine wt_istore (pc := 50) (i := 4) (ls' := [(4, .int 1), (3, .int 0), (0, rf G.1 l0), (1, .int l1), (2, .int l2)]) dX12_best_50 (by decide) rfl ?_
      refine wt_sub (ls' := [(0, rf G.1 l0), (1, .int l1), (2, .int l2), (3, .int 0), (4, .int 1)]) [2, 3, 4, 1, 0] rfl ?_
      exact t_X12_best_52 he  fu h
    · have h := ite_t q h
      refine wt_aload_n (pc := 36) 0 dX12_best_36 rfl ?_
      refine wt_iconst (pc := 37) (v := 5) dX12_best_37 (by decide) ?_
      refine wt_cVI (pc := 38) (J' := j_X12_refuse) (As := [.int 5]) (st := []) (B' := b_X12_refuse) (u' := 0) (w' := 0) dX12_best_38 ml_X12_331 mv_X12_refuse (fun v9 M9 e9 => c_X12_refuse e9) rfl (by decide) rfl rfl (by decide) (by decide) (by decide) rfl h (fun v38 M38 h => ?_)
      cases h
      exact he 41 _ _ _ dX12_best_41 (by decide) (by decide)
  · have h := ite_t q h
    refine wt_aload_n (pc := 18) 0 dX12_best_18 rfl ?_
    refine wt_iconst (pc := 19) (v := 2) dX12_best_19 (by decide) ?_
    refine wt_cVI (pc := 20) (J' := j_X12_refuse) (As := [.int 2]) (st := []) (B' := b_X12_refuse) (u' := 0) (w' := 0) dX12_best_20 ml_X12_331 mv_X12_refuse (fun v9 M9 e9 => c_X12_refuse e9) rfl (by decide) rfl rfl (by decide) (by decide) (by decide) rfl h (fun v20 M20 h => ?_)
    cases h
    exact he 23 _ _ _ dX12_best_23 (by decide) (by decide)
set_option maxHeartbeats 4000000 in
set_option maxRecDepth 100000 in
theorem c_X12_best {G : GG} {M : Mm} {l0 : Option Nat} {l1 : Int32} {l2 : Int32} {r : Int32 × Mm} (h : f_X12_best M l0 l1 l2 = some r) (l : Launch) : Ct l G j_X12_best b_X12_best [rf G.1 l0, .int l1, .int l2] M (some (.int r.1)) r.2 := cf_I (by decide +kernel) (by simp [lg_sl, rf_cat, cat_i, cat_l, j_X12_best]) rfl (by simp [lv_args, rf_cat, cat_i, cat_l]) (fun X he => t_X12_best_e he h)
def f_X12_bestSet (M : Mm) (l0 : Option Nat) : Option (Int32 × Mm) := pfI M l0 12 1 0 fun M2 => pfI M2 l0 12 0 0 fun M7 => gfI M7 l0 12 30 fun v11 => if 0 ≤ v11 then (gfI M7 l0 12 30 fun v27 => some (v27, M7)) else (ck M7 l0 12 <| bd (f_X12_refuse M7 l0 8) fun v20 M20 => some (v20, M20))
set_option maxHeartbeats 4000000 in
set_option maxRecDepth 100000 in
theorem t_X12_bestSet_e {G : GG} {X : CX} {ans : Int32 × Mm} (he : EndI G X j_X12_bestSet b_X12_bestSet ans) {M : Mm} {l0 : Option Nat} (h : f_X12_bestSet M l0 = some ans) : Wt G X j_X12_bestSet b_X12_bestSet 0 [(0, rf G.1 l0)] [] M 0 0 := by
  unfold f_X12_bestSet at h
  refine wt_aload_n (pc := 0) 0 dX12_bestSet_0 rfl ?_
  refine wt_iconst (pc := 1) (v := 0) dX12_bestSet_1 (by decide) ?_
  refine wt_putI (pc := 2) dX12_bestSet_2 fl_X12_68 rfl rfl h (fun M2 h => ?_)
  refine wt_aload_n (pc := 5) 0 dX12_bestSet_5 rfl ?_
  refine wt_iconst (pc := 6) (v := 0) dX12_bestSet_6 (by decide) ?_
  refine wt_putI (pc := 7) dX12_bestSet_7 fl_X12_71 rfl rfl h (fun M7 h => ?_)
  refine wt_aload_n (pc := 10) 0 dX12_bestSet_10 rfl ?_
  refine wt_getI (pc := 11) dX12_bestSet_11 fl_X12_53 (fun _ _ _ => rfl) h (fun v11 h => ?_)
  refine wt_if_ge (pc := 14) (tgt := 26) dX12_bestSet_14 (by decide) (fun q => ?_) (fun q => ?_)
  · have h := ite_t q h
    refine wt_aload_n (pc := 26) 0 dX12_bestSet_26 rfl ?_
    refine wt_getI (pc := 27) dX12_bestSet_27 fl_X12_53 (fun _ _ _ => rfl) h (fun v27 h => ?_)
    cases h
    exact he 30 _ _ _ dX12_bestSet_30 (by decide) (by decide)
  · have h := ite_f q h
    refine wt_aload_n (pc := 17) 0 dX12_bestSet_17 rfl ?_
    refine wt_bipush (pc := 18) (v := 8) dX12_bestSet_18 (by decide) ?_
    refine wt_cVI (pc := 20) (J' := j_X12_refuse) (As := [.int 8]) (st := []) (B' := b_X12_refuse) (u' := 0) (w' := 0) dX12_bestSet_20 ml_X12_331 mv_X12_refuse (fun v9 M9 e9 => c_X12_refuse e9) rfl (by decide) rfl rfl (by decide) (by decide) (by decide) rfl h (fun v20 M20 h => ?_)
    refine wt_goto (pc := 23) (tgt := 30) dX12_bestSet_23 (by decide) ?_
    cases h
    exact he 30 _ _ _ dX12_bestSet_30 (by decide) (by decide)
set_option maxHeartbeats 4000000 in
set_option maxRecDepth 100000 in
theorem c_X12_bestSet {G : GG} {M : Mm} {l0 : Option Nat} {r : Int32 × Mm} (h : f_X12_bestSet M l0 = some r) (l : Launch) : Ct l G j_X12_bestSet b_X12_bestSet [rf G.1 l0] M (some (.int r.1)) r.2 := cf_I (by decide +kernel) (by simp [lg_sl, rf_cat, cat_i, cat_l, j_X12_bestSet]) rfl (by simp [lv_args, rf_cat, cat_i, cat_l]) (fun X he => t_X12_bestSet_e he h)
def f_X12_goesOn_144 (rc : Mm → Option Nat → Int32 → Int32 → Int32 → Int32 → Int32 → Option (Mm)) (k60 : Mm → Option Nat → Int32 → Int32 → Int32 → Int32 → Int32 → Int32 → Option (Mm)) (M : Mm) (l0 : Option Nat) (l1 : Int32) (l2 : Int32) (l3 : Int32) (l4 : Int32) (l5 : Int32) (l6 : Int32) : Option (Mm) := k60 M l0 l1 l2 l3 l4 l5 (l6 + 1)
def f_X12_goesOn_132 (rc : Mm → Option Nat → Int32 → Int32 → Int32 → Int32 → Int32 → Option (Mm)) (k60 : Mm → Option Nat → Int32 → Int32 → Int32 → Int32 → Int32 → Int32 → Option (Mm)) (M : Mm) (l0 : Option Nat) (l1 : Int32) (l2 : Int32) (l3 : Int32) (l4 : Int32) (l5 : Int32) (l6 : Int32) (s0 : Option Nat) (s1 : Int32) (s2 : Int32) (s3 : Int32) (s4 : Int32) (s5 : Int32) (s6 : Int32) : Option (Mm) := ck M l0 12 <| bd (f_X12_liftOf M l0 l1 l6) fun v137 M137 => ck M137 s0 12 <| bv (rc M137 s0 s1 s2 s3 s4 ((s5 + s6) + v137)) fun M141 => f_X12_goesOn_144 rc k60 M141 l0 l1 l2 l3 l4 l5 l6
def f_X12_goesOn_60 (rc : Mm → Option Nat → Int32 → Int32 → Int32 → Int32 → Int32 → Option (Mm)) : Nat → Mm → Option Nat → Int32 → Int32 → Int32 → Int32 → Int32 → Int32 → Option (Mm)
  | 0, _, _, _, _, _, _, _, _ => none
  | n + 1, M, l0, l1, l2, l3, l4, l5, l6 => gfR M l0 12 20 fun v63 => alI M v63 21 0 fun v67 => if v67 ≤ l6 then (some M) else (bd (f_X12_has M l2 l6) fun v74 M74 => if v74 = 0 then (f_X12_goesOn_144 rc (f_X12_goesOn_60 rc n) M74 l0 l1 l2 l3 l4 l5 l6) else (gfR M74 l0 12 32 fun v84 => asI M74 v84 21 l3 l6 fun M90 => if 0 ≤ l4 then (ck M90 l0 12 <| bd (f_X12_between M90 l0 l1 l4 l6) fun v129 M129 => f_X12_goesOn_132 rc (f_X12_goesOn_60 rc n) M129 l0 l1 l2 l3 l4 l5 l6 l0 l1 (l2 &&& ((1 <<< (l6 &&& 31)) ^^^ (-1))) (l3 + 1) l6 l5 v129) else (ck M90 l0 12 <| bd (f_X12_walkOf M90 l0 l1 l6) fun v117 M117 => f_X12_goesOn_132 rc (f_X12_goesOn_60 rc n) M117 l0 l1 l2 l3 l4 l5 l6 l0 l1 (l2 &&& ((1 <<< (l6 &&& 31)) ^^^ (-1))) (l3 + 1) l6 l5 v117)))
def f_X12_goesOn_30 (rc : Mm → Option Nat → Int32 → Int32 → Int32 → Int32 → Int32 → Option (Mm)) : Nat → Mm → Option Nat → Int32 → Int32 → Option (Mm)
  | 0, _, _, _, _ => none
  | n + 1, M, l0, l3, l6 => if l3 ≤ l6 then (some M) else (gfR M l0 12 31 fun v37 => gfR M l0 12 32 fun v43 => alI M v43 21 l6 fun v48 => asI M v37 21 l6 v48 fun M49 => f_X12_goesOn_30 rc n M49 l0 l3 (l6 + 1))
def f_X12_goesOn_21 (rc : Mm → Option Nat → Int32 → Int32 → Int32 → Int32 → Int32 → Option (Mm)) (M : Mm) (l0 : Option Nat) (l3 : Int32) (l5 : Int32) : Option (Mm) := pfI M l0 12 34 l5 fun M24 => f_X12_goesOn_30 rc  fu M24 l0 l3 0
def g_X12_goesOn (rc : Mm → Option Nat → Int32 → Int32 → Int32 → Int32 → Int32 → Option (Mm)) (M : Mm) (l0 : Option Nat) (l1 : Int32) (l2 : Int32) (l3 : Int32) (l4 : Int32) (l5 : Int32) : Option (Mm) := if l2 = 0 then (gfI M l0 12 34 fun v5 => if v5 < 0 then (f_X12_goesOn_21 rc  M l0 l3 l5) else (gfI M l0 12 34 fun v14 => if l5 < v14 then (f_X12_goesOn_21 rc  M l0 l3 l5) else (some M))) else (f_X12_goesOn_60 rc  fu M l0 l1 l2 l3 l4 l5 0)
def f_X12_goesOn : Nat → Mm → Option Nat → Int32 → Int32 → Int32 → Int32 → Int32 → Option (Mm)
  | 0, _, _, _, _, _, _, _ => none
  | d + 1, M, l0, l1, l2, l3, l4, l5 => g_X12_goesOn (f_X12_goesOn d) M l0 l1 l2 l3 l4 l5
set_option maxHeartbeats 4000000 in
set_option maxRecDepth 100000 in
theorem t_X12_goesOn_144 {G : GG} {X : CX} {d : Nat} {ans : Mm} (he : EndV G X j_X12_goesOn (b_X12_goesOn (d + 1)) ans) {rc : Mm → Option Nat → Int32 → Int32 → Int32 → Int32 → Int32 → Option (Mm)} (hrc : ∀ {M : Mm} {l0 : Option Nat} {l1 : Int32} {l2 : Int32} {l3 : Int32} {l4 : Int32} {l5 : Int32} {r : Mm}, rc M l0 l1 l2 l3 l4 l5 = some r → ∀ l, Ct l G j_X12_goesOn (b_X12_goesOn d) [rf G.1 l0, .int l1, .int l2, .int l3, .int l4, .int l5] M none r) {k60 : Mm → Option Nat → Int32 → Int32 → Int32 → Int32 → Int32 → Int32 → Option (Mm)} (hk60 : ∀ (M : Mm) (a0 : Option Nat) (a1 : Int32) (a2 : Int32) (a3 : Int32) (a4 : Int32) (a5 : Int32) (a6 : Int32), k60 M a0 a1 a2 a3 a4 a5 a6 = some ans → Wt G X j_X12_goesOn (b_X12_goesOn (d + 1)) 60 [(0, rf G.1 a0), (1, .int a1), (2, .int a2), (3, .int a3), (4, .int a4), (5, .int a5), (6, .int a6)] [] M 0 0) {M : Mm} {l0 : Option Nat} {l1 : Int32} {l2 : Int32} {l3 : Int32} {l4 : Int32} {l5 : Int32} {l6 : Int32} (h : f_X12_goesOn_144 rc k60 M l0 l1 l2 l3 l4 l5 l6 = some ans) : Wt G X j_X12_goesOn (b_X12_goesOn (d + 1)) 144 [(0, rf G.1 l0), (1, .int l1), (2, .int l2), (3, .int l3), (4, .int l4), (5, .int l5), (6, .int l6)] [] M 0 0 := by
  unfold f_X12_goesOn_144 at h
  refine wt_iinc (pc := 144) (d := 1) (ls' := [(6, .int (l6 + 1)), (0, rf G.1 l0), (1, .int l1), (2, .int l2), (3, .int l3), (4, .int l4), (5, .int l5)]) 6 dX12_goesOn_144 rfl (by decide) (by decide) rfl ?_
  refine wt_goto (pc := 147) (tgt := 60) dX12_goesOn_147 (by decide) ?_
  refine wt_sub (ls' := [(0, rf G.1 l0), (1, .int l1), (2, .int l2), (3, .int l3), (4, .int l4), (5, .int l5), (6, .int (l6 + 1))]) [1, 2, 3, 4, 5, 6, 0] rfl ?_
  exact hk60 _ _ _ _ _ _ _ _ h
set_option maxHeartbeats 4000000 in
set_option maxRecDepth 100000 in
theorem t_X12_goesOn_132 {G : GG} {X : CX} {d : Nat} {ans : Mm} (he : EndV G X j_X12_goesOn (b_X12_goesOn (d + 1)) ans) {rc : Mm → Option Nat → Int32 → Int32 → Int32 → Int32 → Int32 → Option (Mm)} (hrc : ∀ {M : Mm} {l0 : Option Nat} {l1 : Int32} {l2 : Int32} {l3 : Int32} {l4 : Int32} {l5 : Int32} {r : Mm}, rc M l0 l1 l2 l3 l4 l5 = some r → ∀ l, Ct l G j_X12_goesOn (b_X12_goesOn d) [rf G.1 l0, .int l1, .int l2, .int l3, .int l4, .int l5] M none r) {k60 : Mm → Option Nat → Int32 → Int32 → Int32 → Int32 → Int32 → Int32 → Option (Mm)} (hk60 : ∀ (M : Mm) (a0 : Option Nat) (a1 : Int32) (a2 : Int32) (a3 : Int32) (a4 : Int32) (a5 : Int32) (a6 : Int32), k60 M a0 a1 a2 a3 a4 a5 a6 = some ans → Wt G X j_X12_goesOn (b_X12_goesOn (d + 1)) 60 [(0, rf G.1 a0), (1, .int a1), (2, .int a2), (3, .int a3), (4, .int a4), (5, .int a5), (6, .int a6)] [] M 0 0) {M : Mm} {l0 : Option Nat} {l1 : Int32} {l2 : Int32} {l3 : Int32} {l4 : Int32} {l5 : Int32} {l6 : Int32} {s0 : Option Nat} {s1 : Int32} {s2 : Int32} {s3 : Int32} {s4 : Int32} {s5 : Int32} {s6 : Int32} (h : f_X12_goesOn_132 rc k60 M l0 l1 l2 l3 l4 l5 l6 s0 s1 s2 s3 s4 s5 s6 = some ans) : Wt G X j_X12_goesOn (b_X12_goesOn (d + 1)) 132 [(0, rf G.1 l0), (1, .int l1), (2, .int l2), (3, .int l3), (4, .int l4), (5, .int l5), (6, .int l6)] [.int s6, .int s5, .int s4, .int s3, .int s2, .int s1, rf G.1 s0] M 0 0 := by
  unfold f_X12_goesOn_132 at h
  refine wt_iadd (pc := 132) dX12_goesOn_132 ?_
  refine wt_aload_n (pc := 133) 0 dX12_goesOn_133 rfl ?_
  refine wt_iload_n (pc := 134) 1 dX12_goesOn_134 rfl ?_
  refine wt_iload (pc := 135) 6 dX12_goesOn_135 rfl ?_
  refine wt_cVI (pc := 137) (J' := j_X12_liftOf) (As := [.int l1, .int l6]) (st := [.int (s5 + s6), .int s4, .int s3, .int s2, .int s1, rf G.1 s0]) (B' := b_X12_liftOf) (u' := 0) (w' := 0) dX12_goesOn_137 ml_X12_435 mv_X12_liftOf (fun v9 M9 e9 => c_X12_liftOf e9) rfl (by simp only [b_X12_goesOn, b_X12_liftOf]; omega) rfl rfl (Nat.zero_le _) (Nat.zero_le _) (by simp [rf_cat, cat_i, cat_l, cat_r]) rfl h (fun v137 M137 h => ?_)
  refine wt_iadd (pc := 140) dX12_goesOn_140 ?_
  refine wt_cVV (pc := 141) (J' := j_X12_goesOn) (As := [.int s1, .int s2, .int s3, .int s4, .int ((s5 + s6) + v137)]) (st := []) (B' := (b_X12_goesOn d)) (u' := 0) (w' := 0) dX12_goesOn_141 ml_X12_447 mv_X12_goesOn (fun M9 e9 => hrc e9) rfl (by simp only [b_X12_goesOn]; omega) rfl rfl (Nat.zero_le _) (Nat.zero_le _) (by decide) rfl h (fun M141 h => ?_)
  exact t_X12_goesOn_144 he hrc (fun _ _ _ _ _ _ _ _ h => hk60 _ _ _ _ _ _ _ _ h) h
set_option maxHeartbeats 4000000 in
set_option maxRecDepth 100000 in
theorem t_X12_goesOn_60 {G : GG} {X : CX} {d : Nat} {ans : Mm} (he : EndV G X j_X12_goesOn (b_X12_goesOn (d + 1)) ans) {rc : Mm → Option Nat → Int32 → Int32 → Int32 → Int32 → Int32 → Option (Mm)} (hrc : ∀ {M : Mm} {l0 : Option Nat} {l1 : Int32} {l2 : Int32} {l3 : Int32} {l4 : Int32} {l5 : Int32} {r : Mm}, rc M l0 l1 l2 l3 l4 l5 = some r → ∀ l, Ct l G j_X12_goesOn (b_X12_goesOn d) [rf G.1 l0, .int l1, .int l2, .int l3, .int l4, .int l5] M none r) : ∀ (n : Nat) {M : Mm} {l0 : Option Nat} {l1 : Int32} {l2 : Int32} {l3 : Int32} {l4 : Int32} {l5 : Int32} {l6 : Int32}, f_X12_goesOn_60 rc n M l0 l1 l2 l3 l4 l5 l6 = some ans → Wt G X j_X12_goesOn (b_X12_goesOn (d + 1)) 60 [(0, rf G.1 l0), (1, .int l1), (2, .int l2), (3, .int l3), (4, .int l4), (5, .int l5), (6, .int l6)] [] M 0 0 := by
  intro n
  induction n with
  | zero =>
    intro M l0 l1 l2 l3 l4 l5 l6 h
    rw [f_X12_goesOn_60] at h
    cases h
  | succ n ih =>
    intro M l0 l1 l2 l3 l4 l5 l6 h
    rw [f_X12_goesOn_60] at h
    refine wt_iload (pc := 60) 6 dX12_goesOn_60 rfl ?_
    refine wt_aload_n (pc := 62) 0 dX12_goesOn_62 rfl ?_
    refine wt_getR (pc := 63) dX12_goesOn_63 fl_X12_35 (fun _ _ _ => rfl) h (fun v63 h => ?_)
    refine wt_iconst (pc := 66) (v := 0) dX12_goesOn_66 (by decide) ?_
    refine wt_iaload (pc := 67) (kd := 21) dX12_goesOn_67 rfl rfl h (fun v67 h => ?_)
    refine wt_icmp_ge (pc := 68) (tgt := 150) dX12_goesOn_68 (by decide) (fun q => ?_) (fun q => ?_)
    · have h := ite_t q h
      cases h
      exact he 150 _ _ _ dX12_goesOn_150 (Nat.zero_le _) (Nat.zero_le _)
    · have h := ite_f q h
      refine wt_iload_n (pc := 71) 2 dX12_goesOn_71 rfl ?_
      refine wt_iload (pc := 72) 6 dX12_goesOn_72 rfl ?_
      refine wt_cSI (pc := 74) (J' := j_X12_has) (As := [.int l2, .int l6]) (st := []) (B' := b_X12_has) (u' := 0) (w' := 0) dX12_goesOn_74 ml_X12_107 ms_X12_has (fun v9 M9 e9 => c_X12_has e9) rfl (by simp only [b_X12_goesOn, b_X12_has]; omega) rfl rfl (Nat.zero_le _) (Nat.zero_le _) (by decide) rfl h (fun v74 M74 h => ?_)
      refine wt_if_ne (pc := 77) (tgt := 83) dX12_goesOn_77 (by decide) (fun q => ?_) (fun q => ?_)
      · have h := ite_f q h
        refine wt_aload_n (pc := 83) 0 dX12_goesOn_83 rfl ?_
        refine wt_getR (pc := 84) dX12_goesOn_84 fl_X12_59 (fun _ _ _ => rfl) h (fun v84 h => ?_)
        refine wt_iload_n (pc := 87) 3 dX12_goesOn_87 rfl ?_
        refine wt_iload (pc := 88) 6 dX12_goesOn_88 rfl ?_
        refine wt_iastore (pc := 90) (kd := 21) dX12_goesOn_90 rfl rfl h (fun M90 h => ?_)
        refine wt_aload_n (pc := 91) 0 dX12_goesOn_91 rfl ?_
        refine wt_iload_n (pc := 92) 1 dX12_goesOn_92 rfl ?_
        refine wt_iload_n (pc := 93) 2 dX12_goesOn_93 rfl ?_
        refine wt_iconst (pc := 94) (v := 1) dX12_goesOn_94 (by decide) ?_
        refine wt_iload (pc := 95) 6 dX12_goesOn_95 rfl ?_
        refine wt_ishl (pc := 97) dX12_goesOn_97 ?_
        refine wt_iconst (pc := 98) (v := (-1)) dX12_goesOn_98 (by decide) ?_
        refine wt_ixor (pc := 99) dX12_goesOn_99 ?_
        refine wt_iand (pc := 100) dX12_goesOn_100 ?_
        refine wt_iload_n (pc := 101) 3 dX12_goesOn_101 rfl ?_
        refine wt_iconst (pc := 102) (v := 1) dX12_goesOn_102 (by decide) ?_
        refine wt_iadd (pc := 103) dX12_goesOn_103 ?_
        refine wt_iload (pc := 104) 6 dX12_goesOn_104 rfl ?_
        refine wt_iload (pc := 106) 5 dX12_goesOn_106 rfl ?_
        refine wt_iload (pc := 108) 4 dX12_goesOn_108 rfl ?_
        refine wt_if_ge (pc := 110) (tgt := 123) dX12_goesOn_110 (by decide) (fun q => ?_) (fun q => ?_)
        · have h := ite_t q h
          refine wt_aload_n (pc := 123) 0 dX12_goesOn_123 rfl ?_
          refine wt_iload_n (pc := 124) 1 dX12_goesOn_124 rfl ?_
          refine wt_iload (pc := 125) 4 dX12_goesOn_125 rfl ?_
          refine wt_iload (pc := 127) 6 dX12_goesOn_127 rfl ?_
          refine wt_cVI (pc := 129) (J' := j_X12_between) (As := [.int l1, .int l4, .int l6]) (st := [.int l5, .int l6, .int (l3 + 1), .int (l2 &&& ((1 <<< (l6 &&& 31)) ^^^ (-1))), .int l1, rf G.1 l0]) (B' := b_X12_between) (u' := 0) (w' := 0) dX12_goesOn_129 ml_X12_438 mv_X12_between (fun v9 M9 e9 => c_X12_between e9) rfl (by simp only [b_X12_goesOn, b_X12_between]; omega) rfl rfl (Nat.zero_le _) (Nat.zero_le _) (by simp [rf_cat, cat_i, cat_l, cat_r]) rfl h (fun v129 M129 h => ?_)
          exact t_X12_goesOn_132 he hrc (fun _ _ _ _ _ _ _ _ h => ih h) h
        · have h := ite_f q h
          refine wt_aload_n (pc := 113) 0 dX12_goesOn_113 rfl ?_
          refine wt_iload_n (pc := 114) 1 dX12_goesOn_114 rfl ?_
          refine wt_iload (pc := 115) 6 dX12_goesOn_115 rfl ?_
          refine wt_cVI (pc := 117) (J' := j_X12_walkOf) (As := [.int l1, .int l6]) (st := [.int l5, .int l6, .int (l3 + 1), .int (l2 &&& ((1 <<< (l6 &&& 31)) ^^^ (-1))), .int l1, rf G.1 l0]) (B' := b_X12_walkOf) (u' := 0) (w' := 0) dX12_goesOn_117 ml_X12_360 mv_X12_walkOf (fun v9 M9 e9 => c_X12_walkOf e9) rfl (by simp only [b_X12_goesOn, b_X12_walkOf]; omega) rfl rfl (Nat.zero_le _) (Nat.zero_le _) (by simp [rf_cat, cat_i, cat_l, cat_r]) rfl h (fun v117 M117 h => ?_)
          refine wt_goto (pc := 120) (tgt := 132) dX12_goesOn_120 (by decide) ?_
          exact t_X12_goesOn_132 he hrc (fun _ _ _ _ _ _ _ _ h => ih h) h
      · have h := ite_t q h
        refine wt_goto (pc := 80) (tgt := 144) dX12_goesOn_80 (by decide) ?_
        exact t_X12_goesOn_144 he hrc (fun _ _ _ _ _ _ _ _ h => ih h) h
set_option maxHeartbeats 4000000 in
set_option maxRecDepth 100000 in
theorem t_X12_goesOn_30 {G : GG} {X : CX} {d : Nat} {ans : Mm} (he : EndV G X j_X12_goesOn (b_X12_goesOn (d + 1)) ans) {rc : Mm → Option Nat → Int32 → Int32 → Int32 → Int32 → Int32 → Option (Mm)} (hrc : ∀ {M : Mm} {l0 : Option Nat} {l1 : Int32} {l2 : Int32} {l3 : Int32} {l4 : Int32} {l5 : Int32} {r : Mm}, rc M l0 l1 l2 l3 l4 l5 = some r → ∀ l, Ct l G j_X12_goesOn (b_X12_goesOn d) [rf G.1 l0, .int l1, .int l2, .int l3, .int l4, .int l5] M none r) : ∀ (n : Nat) {M : Mm} {l0 : Option Nat} {l3 : Int32} {l6 : Int32}, f_X12_goesOn_30 rc n M l0 l3 l6 = some ans → Wt G X j_X12_goesOn (b_X12_goesOn (d + 1)) 30 [(0, rf G.1 l0), (3, .int l3), (6, .int l6)] [] M 0 0 := by
  intro n
  induction n with
  | zero =>
    intro M l0 l3 l6 h
    rw [f_X12_goesOn_30] at h
    cases h
  | succ n ih =>
    intro M l0 l3 l6 h
    rw [f_X12_goesOn_30] at h
    refine wt_iload (pc := 30) 2 dX12_goesOn_30 rfl ?_
    refine wt_iload_n (pc := 32) 1 dX12_goesOn_32 rfl ?_
    refine wt_icmp_ge (pc := 33) (tgt := 56) dX12_goesOn_33 (by decide) (fun q => ?_) (fun q => ?_)
    · have h := ite_t q h
      cases h
      exact he 56 _ _ _ dX12_goesOn_56 (Nat.zero_le _) (Nat.zero_le _)
    · have h := ite_f q h
      refine wt_aload_n (pc := 36) 0 dX12_goesOn_36 rfl ?_
      refine wt_getR (pc := 37) dX12_goesOn_37 fl_X12_56 (fun _ _ _ => rfl) h (fun v37 h => ?_)
      refine wt_iload (pc := 40) 2 dX12_goesOn_40 rfl ?_
      refine wt_aload_n (pc := 42) 0 dX12_goesOn_42 rfl ?_
      refine wt_getR (pc := 43) dX12_goesOn_43 fl_X12_59 (fun _ _ _ => rfl) h (fun v43 h => ?_)
      refine wt_iload (pc := 46) 2 dX12_goesOn_46 rfl ?_
      refine wt_iaload (pc := 48) (kd := 21) dX12_goesOn_48 rfl rfl h (fun v48 h => ?_)
      refine wt_iastore (pc := 49) (kd := 21) dX12_goesOn_49 rfl rfl h (fun M49 h => ?_)
      refine wt_iinc (pc := 50) (d := 1) (ls' := [(6, .int (l6 + 1)), (0, rf G.1 l0), (3, .int l3)]) 2 dX12_goesOn_50 rfl (by decide) (by decide) rfl ?_
      refine wt_goto (pc := 53) (tgt := 30) dX12_goesOn_53 (by decide) ?_
      refine wt_sub (ls' := [(0, rf G.1 l0), (3, .int l3), (6, .int (l6 + 1))]) [1, 2, 0] rfl ?_
      exact ih h
set_option maxHeartbeats 4000000 in
set_option maxRecDepth 100000 in
theorem t_X12_goesOn_21 {G : GG} {X : CX} {d : Nat} {ans : Mm} (he : EndV G X j_X12_goesOn (b_X12_goesOn (d + 1)) ans) {rc : Mm → Option Nat → Int32 → Int32 → Int32 → Int32 → Int32 → Option (Mm)} (hrc : ∀ {M : Mm} {l0 : Option Nat} {l1 : Int32} {l2 : Int32} {l3 : Int32} {l4 : Int32} {l5 : Int32} {r : Mm}, rc M l0 l1 l2 l3 l4 l5 = some r → ∀ l, Ct l G j_X12_goesOn (b_X12_goesOn d) [rf G.1 l0, .int l1, .int l2, .int l3, .int l4, .int l5] M none r) {M : Mm} {l0 : Option Nat} {l3 : Int32} {l5 : Int32} (h : f_X12_goesOn_21 rc M l0 l3 l5 = some ans) : Wt G X j_X12_goesOn (b_X12_goesOn (d + 1)) 21 [(0, rf G.1 l0), (3, .int l3), (5, .int l5)] [] M 0 0 := by
  unfold f_X12_goesOn_21 at h
  refine wt_aload_n (pc := 21) 0 dX12_goesOn_21 rfl ?_
  refine wt_iload (pc := 22) 2 dX12_goesOn_22 rfl ?_
  refine wt_putI (pc := 24) dX12_goesOn_24 fl_X12_444 rfl rfl h (fun M24 h => ?_)
  refine wt_iconst (pc := 27) (v := 0) dX12_goesOn_27 (by decide) ?_
  refine wt_istore (pc := 28) (i := 6) (ls' := [(6, .int 0), (0, rf G.1 l0), (3, .int l3), (5, .int l5)]) dX12_goesOn_28 (by decide) rfl ?_
  refine wt_sub (ls' := [(0, rf G.1 l0), (3, .int l3), (6, .int 0)]) [1, 2, 0] rfl ?_
  exact t_X12_goesOn_30 he hrc  fu h
set_option maxHeartbeats 4000000 in
set_option maxRecDepth 100000 in
theorem t_X12_goesOn_e {G : GG} {X : CX} {d : Nat} {ans : Mm} (he : EndV G X j_X12_goesOn (b_X12_goesOn (d + 1)) ans) {rc : Mm → Option Nat → Int32 → Int32 → Int32 → Int32 → Int32 → Option (Mm)} (hrc : ∀ {M : Mm} {l0 : Option Nat} {l1 : Int32} {l2 : Int32} {l3 : Int32} {l4 : Int32} {l5 : Int32} {r : Mm}, rc M l0 l1 l2 l3 l4 l5 = some r → ∀ l, Ct l G j_X12_goesOn (b_X12_goesOn d) [rf G.1 l0, .int l1, .int l2, .int l3, .int l4, .int l5] M none r) {M : Mm} {l0 : Option Nat} {l1 : Int32} {l2 : Int32} {l3 : Int32} {l4 : Int32} {l5 : Int32} (h : g_X12_goesOn rc M l0 l1 l2 l3 l4 l5 = some ans) : Wt G X j_X12_goesOn (b_X12_goesOn (d + 1)) 0 [(0, rf G.1 l0), (1, .int l1), (2, .int l2), (3, .int l3), (4, .int l4), (5, .int l5)] [] M 0 0 := by
  unfold g_X12_goesOn at h
  refine wt_iload_n (pc := 0) 2 dX12_goesOn_0 rfl ?_
  refine wt_if_ne (pc := 1) (tgt := 57) dX12_goesOn_1 (by decide) (fun q => ?_) (fun q => ?_)
  · have h := ite_f q h
    refine wt_iconst (pc := 57) (v := 0) dX12_goesOn_57 (by decide) ?_
    refine wt_istore (pc := 58) (i := 6) (ls' := [(6, .int 0), (0, rf G.1 l0), (1, .int l1), (2, .int l2), (3, .int l3), (4, .int l4), (5, .int l5)]) dX12_goesOn_58 (by decide) rfl ?_
    refine wt_sub (ls' := [(0, rf G.1 l0), (1, .int l1), (2, .int l2), (3, .int l3), (4, .int l4), (5, .int l5), (6, .int 0)]) [1, 2, 3, 4, 5, 6, 0] rfl ?_
    exact t_X12_goesOn_60 he hrc  fu h
  · have h := ite_t q h
    refine wt_aload_n (pc := 4) 0 dX12_goesOn_4 rfl ?_
    refine wt_getI (pc := 5) dX12_goesOn_5 fl_X12_444 (fun _ _ _ => rfl) h (fun v5 h => ?_)
    refine wt_if_lt (pc := 8) (tgt := 21) dX12_goesOn_8 (by decide) (fun q => ?_) (fun q => ?_)
    · have h := ite_t q h
      refine wt_sub (ls' := [(0, rf G.1 l0), (3, .int l3), (5, .int l5)]) [0, 3, 5] rfl ?_
      exact t_X12_goesOn_21 he hrc  h
    · have h := ite_f q h
      refine wt_iload (pc := 11) 5 dX12_goesOn_11 rfl ?_
      refine wt_aload_n (pc := 13) 0 dX12_goesOn_13 rfl ?_
      refine wt_getI (pc := 14) dX12_goesOn_14 fl_X12_444 (fun _ _ _ => rfl) h (fun v14 h => ?_)
      refine wt_icmp_lt (pc := 17) (tgt := 21) dX12_goesOn_17 (by decide) (fun q => ?_) (fun q => ?_)
      · have h := ite_t q h
        refine wt_sub (ls' := [(0, rf G.1 l0), (3, .int l3), (5, .int l5)]) [0, 3, 5] rfl ?_
        exact t_X12_goesOn_21 he hrc  h
      · have h := ite_f q h
        cases h
        exact he 20 _ _ _ dX12_goesOn_20 (Nat.zero_le _) (Nat.zero_le _)
set_option maxHeartbeats 4000000 in
set_option maxRecDepth 100000 in
theorem c_X12_goesOn {G : GG} : ∀ {d : Nat} {M : Mm} {l0 : Option Nat} {l1 : Int32} {l2 : Int32} {l3 : Int32} {l4 : Int32} {l5 : Int32} {r : Mm}, f_X12_goesOn d M l0 l1 l2 l3 l4 l5 = some r → ∀ l : Launch, Ct l G j_X12_goesOn (b_X12_goesOn d) [rf G.1 l0, .int l1, .int l2, .int l3, .int l4, .int l5] M none r := by
  intro d
  induction d with
  | zero =>
    intro M l0 l1 l2 l3 l4 l5 r h
    rw [f_X12_goesOn] at h
    cases h
  | succ d ih =>
    intro M l0 l1 l2 l3 l4 l5 r h l
    rw [f_X12_goesOn] at h
    exact cf_V (by decide +kernel) (by simp [lg_sl, rf_cat, cat_i, cat_l, j_X12_goesOn]) rfl (by simp [lv_args, rf_cat, cat_i, cat_l]) (fun X he => t_X12_goesOn_e he (fun h => ih h) h)
def f_X12_soonest (M : Mm) (l0 : Option Nat) (l1 : Int32) (l2 : Int32) : Option (Int32 × Mm) := pfI M l0 12 1 0 fun M2 => pfI M2 l0 12 0 0 fun M7 => ck M7 l0 12 <| bd (f_X12_isGangAt M7 l0 l1) fun v12 M12 => if v12 = 0 then (ck M12 l0 12 <| bd (f_X12_refuse M12 l0 2) fun v20 M20 => some (v20, M20)) else (gfR M12 l0 12 20 fun v29 => alI M12 v29 21 0 fun v33 => bd (f_X12_isIn M12 (Int32.toInt64 l2) 0 (Int32.toInt64 ((1 <<< (v33 &&& 31)) - 1))) fun v38 M38 => if v38 = 0 then (ck M38 l0 12 <| bd (f_X12_refuse M38 l0 5) fun v46 M46 => some (v46, M46)) else (ck M38 l0 12 <| bd (f_X12_onSet M38 l0) fun v52 M52 => if (l2 &&& (v52 ^^^ (-1))) = 0 then (pfI M52 l0 12 34 (-1) fun M70 => bd (f_X12_sizeOf M70 l2) fun v75 M75 => pfI M75 l0 12 33 v75 fun M78 => ck M78 l0 12 <| bv (f_X12_goesOn 12 M78 l0 l1 l2 0 (-1) 0) fun M87 => gfI M87 l0 12 34 fun v91 => some (v91, M87)) else (ck M52 l0 12 <| bd (f_X12_refuse M52 l0 9) fun v64 M64 => some (v64, M64))))
set_option maxHeartbeats 4000000 in
set_option maxRecDepth 100000 in
theorem t_X12_soonest_e {G : GG} {X : CX} {ans : Int32 × Mm} (he : EndI G X j_X12_soonest b_X12_soonest ans) {M : Mm} {l0 : Option Nat} {l1 : Int32} {l2 : Int32} (h : f_X12_soonest M l0 l1 l2 = some ans) : Wt G X j_X12_soonest b_X12_soonest 0 [(0, rf G.1 l0), (1, .int l1), (2, .int l2)] [] M 0 0 := by
  unfold f_X12_soonest at h
  refine wt_aload_n (pc := 0) 0 dX12_soonest_0 rfl ?_
  refine wt_iconst (pc := 1) (v := 0) dX12_soonest_1 (by decide) ?_
  refine wt_putI (pc := 2) dX12_soonest_2 fl_X12_68 rfl rfl h (fun M2 h => ?_)
  refine wt_aload_n (pc := 5) 0 dX12_soonest_5 rfl ?_
  refine wt_iconst (pc := 6) (v := 0) dX12_soonest_6 (by decide) ?_
  refine wt_putI (pc := 7) dX12_soonest_7 fl_X12_71 rfl rfl h (fun M7 h => ?_)
  refine wt_aload_n (pc := 10) 0 dX12_soonest_10 rfl ?_
  refine wt_iload_n (pc := 11) 1 dX12_soonest_11 rfl ?_
  refine wt_cVI (pc := 12) (J' := j_X12_isGangAt) (As := [.int l1]) (st := []) (B' := b_X12_isGangAt) (u' := 0) (w' := 0) dX12_soonest_12 ml_X12_352 mv_X12_isGangAt (fun v9 M9 e9 => c_X12_isGangAt e9) rfl (by decide) rfl rfl (by decide) (by decide) (by decide) rfl h (fun v12 M12 h => ?_)
  refine wt_if_ne (pc := 15) (tgt := 24) dX12_soonest_15 (by decide) (fun q => ?_) (fun q => ?_)
  · have h := ite_f q h
    refine wt_iload_n (pc := 24) 2 dX12_soonest_24 rfl ?_
    refine wt_i2l (pc := 25) dX12_soonest_25 ?_
    refine wt_lconst (pc := 26) (v := 0) dX12_soonest_26 (by decide) ?_
    refine wt_iconst (pc := 27) (v := 1) dX12_soonest_27 (by decide) ?_
    refine wt_aload_n (pc := 28) 0 dX12_soonest_28 rfl ?_
    refine wt_getR (pc := 29) dX12_soonest_29 fl_X12_35 (fun _ _ _ => rfl) h (fun v29 h => ?_)
    refine wt_iconst (pc := 32) (v := 0) dX12_soonest_32 (by decide) ?_
    refine wt_iaload (pc := 33) (kd := 21) dX12_soonest_33 rfl rfl h (fun v33 h => ?_)
    refine wt_ishl (pc := 34) dX12_soonest_34 ?_
    refine wt_iconst (pc := 35) (v := 1) dX12_soonest_35 (by decide) ?_
    refine wt_isub (pc := 36) dX12_soonest_36 ?_
    refine wt_i2l (pc := 37) dX12_soonest_37 ?_
    refine wt_cSI (pc := 38) (J' := j_X12_isIn) (As := [.long (Int32.toInt64 l2), .long 0, .long (Int32.toInt64 ((1 <<< (v33 &&& 31)) - 1))]) (st := []) (B' := b_X12_isIn) (u' := 0) (w' := 0) dX12_soonest_38 ml_X12_103 ms_X12_isIn (fun v9 M9 e9 => c_X12_isIn e9) rfl (by decide) rfl rfl (by decide) (by decide) (by decide) rfl h (fun v38 M38 h => ?_)
    refine wt_if_ne (pc := 41) (tgt := 50) dX12_soonest_41 (by decide) (fun q => ?_) (fun q => ?_)
    · have h := ite_f q h
      refine wt_iload_n (pc := 50) 2 dX12_soonest_50 rfl ?_
      refine wt_aload_n (pc := 51) 0 dX12_soonest_51 rfl ?_
      refine wt_cVI (pc := 52) (J' := j_X12_onSet) (As := []) (st := [.int l2]) (B' := b_X12_onSet) (u' := 0) (w' := 0) dX12_soonest_52 ml_X12_431 mv_X12_onSet (fun v9 M9 e9 => c_X12_onSet e9) rfl (by decide) rfl rfl (by decide) (by decide) (by simp [rf_cat, cat_i, cat_l, cat_r]) rfl h (fun v52 M52 h => ?_)
      refine wt_iconst (pc := 55) (v := (-1)) dX12_soonest_55 (by decide) ?_
      refine wt_ixor (pc := 56) dX12_soonest_56 ?_
      refine wt_iand (pc := 57) dX12_soonest_57 ?_
      refine wt_if_eq (pc := 58) (tgt := 68) dX12_soonest_58 (by decide) (fun q => ?_) (fun q => ?_)
      · have h := ite_t q h
        refine wt_aload_n (pc := 68) 0 dX12_soonest_68 rfl ?_
        refine wt_iconst (pc := 69) (v := (-1)) dX12_soonest_69 (by decide) ?_
        refine wt_putI (pc := 70) dX12_soonest_70 fl_X12_444 rfl rfl h (fun M70 h => ?_)
        refine wt_aload_n (pc := 73) 0 dX12_soonest_73 rfl ?_
        refine wt_iload_n (pc := 74) 2 dX12_soonest_74 rfl ?_
        refine wt_cSI (pc := 75) (J' := j_X12_sizeOf) (As := [.int l2]) (st := [rf G.1 l0]) (B' := b_X12_sizeOf) (u' := 0) (w' := 0) dX12_soonest_75 ml_X12_401 ms_X12_sizeOf (fun v9 M9 e9 => c_X12_sizeOf e9) rfl (by decide) rfl rfl (by decide) (by decide) (by simp [rf_cat, cat_i, cat_l, cat_r]) rfl h (fun v75 M75 h => ?_)
        refine wt_putI (pc := 78) dX12_soonest_78 fl_X12_62 rfl rfl h (fun M78 h => ?_)
        refine wt_aload_n (pc := 81) 0 dX12_soonest_81 rfl ?_
        refine wt_iload_n (pc := 82) 1 dX12_soonest_82 rfl ?_
        refine wt_iload_n (pc := 83) 2 dX12_soonest_83 rfl ?_
        refine wt_iconst (pc := 84) (v := 0) dX12_soonest_84 (by decide) ?_
        refine wt_iconst (pc := 85) (v := (-1)) dX12_soonest_85 (by decide) ?_
        refine wt_iconst (pc := 86) (v := 0) dX12_soonest_86 (by decide) ?_
        refine wt_cVV (pc := 87) (J' := j_X12_goesOn) (As := [.int l1, .int l2, .int 0, .int (-1), .int 0]) (st := []) (B' := (b_X12_goesOn 12)) (u' := 0) (w' := 0) dX12_soonest_87 ml_X12_447 mv_X12_goesOn (fun M9 e9 => c_X12_goesOn e9) rfl (by decide) rfl rfl (by decide) (by decide) (by decide) rfl h (fun M87 h => ?_)
        refine wt_aload_n (pc := 90) 0 dX12_soonest_90 rfl ?_
        refine wt_getI (pc := 91) dX12_soonest_91 fl_X12_444 (fun _ _ _ => rfl) h (fun v91 h => ?_)
        cases h
        exact he 94 _ _ _ dX12_soonest_94 (by decide) (by decide)
      · have h := ite_f q h
        refine wt_aload_n (pc := 61) 0 dX12_soonest_61 rfl ?_
        refine wt_bipush (pc := 62) (v := 9) dX12_soonest_62 (by decide) ?_
        refine wt_cVI (pc := 64) (J' := j_X12_refuse) (As := [.int 9]) (st := []) (B' := b_X12_refuse) (u' := 0) (w' := 0) dX12_soonest_64 ml_X12_331 mv_X12_refuse (fun v9 M9 e9 => c_X12_refuse e9) rfl (by decide) rfl rfl (by decide) (by decide) (by decide) rfl h (fun v64 M64 h => ?_)
        cases h
        exact he 67 _ _ _ dX12_soonest_67 (by decide) (by decide)
    · have h := ite_t q h
      refine wt_aload_n (pc := 44) 0 dX12_soonest_44 rfl ?_
      refine wt_iconst (pc := 45) (v := 5) dX12_soonest_45 (by decide) ?_
      refine wt_cVI (pc := 46) (J' := j_X12_refuse) (As := [.int 5]) (st := []) (B' := b_X12_refuse) (u' := 0) (w' := 0) dX12_soonest_46 ml_X12_331 mv_X12_refuse (fun v9 M9 e9 => c_X12_refuse e9) rfl (by decide) rfl rfl (by decide) (by decide) (by decide) rfl h (fun v46 M46 h => ?_)
      cases h
      exact he 49 _ _ _ dX12_soonest_49 (by decide) (by decide)
  · have h := ite_t q h
    refine wt_aload_n (pc := 18) 0 dX12_soonest_18 rfl ?_
    refine wt_iconst (pc := 19) (v := 2) dX12_soonest_19 (by decide) ?_
    refine wt_cVI (pc := 20) (J' := j_X12_refuse) (As := [.int 2]) (st := []) (B' := b_X12_refuse) (u' := 0) (w' := 0) dX12_soonest_20 ml_X12_331 mv_X12_refuse (fun v9 M9 e9 => c_X12_refuse e9) rfl (by decide) rfl rfl (by decide) (by decide) (by decide) rfl h (fun v20 M20 h => ?_)
    cases h
    exact he 23 _ _ _ dX12_soonest_23 (by decide) (by decide)
set_option maxHeartbeats 4000000 in
set_option maxRecDepth 100000 in
theorem c_X12_soonest {G : GG} {M : Mm} {l0 : Option Nat} {l1 : Int32} {l2 : Int32} {r : Int32 × Mm} (h : f_X12_soonest M l0 l1 l2 = some r) (l : Launch) : Ct l G j_X12_soonest b_X12_soonest [rf G.1 l0, .int l1, .int l2] M (some (.int r.1)) r.2 := cf_I (by decide +kernel) (by simp [lg_sl, rf_cat, cat_i, cat_l, j_X12_soonest]) rfl (by simp [lv_args, rf_cat, cat_i, cat_l]) (fun X he => t_X12_soonest_e he h)
def f_X12_order (M : Mm) (l0 : Option Nat) (l1 : Int32) : Option (Int32 × Mm) := pfI M l0 12 1 0 fun M2 => pfI M2 l0 12 0 0 fun M7 => gfI M7 l0 12 33 fun v14 => bd (f_X12_isIn M7 (Int32.toInt64 l1) 0 (Int32.toInt64 (v14 - 1))) fun v20 M20 => if v20 = 0 then (ck M20 l0 12 <| bd (f_X12_refuse M20 l0 8) fun v38 M38 => some (v38, M38)) else (gfR M20 l0 12 31 fun v27 => alI M20 v27 21 l1 fun v31 => some (v31, M20))
set_option maxHeartbeats 4000000 in
set_option maxRecDepth 100000 in
theorem t_X12_order_e {G : GG} {X : CX} {ans : Int32 × Mm} (he : EndI G X j_X12_order b_X12_order ans) {M : Mm} {l0 : Option Nat} {l1 : Int32} (h : f_X12_order M l0 l1 = some ans) : Wt G X j_X12_order b_X12_order 0 [(0, rf G.1 l0), (1, .int l1)] [] M 0 0 := by
  unfold f_X12_order at h
  refine wt_aload_n (pc := 0) 0 dX12_order_0 rfl ?_
  refine wt_iconst (pc := 1) (v := 0) dX12_order_1 (by decide) ?_
  refine wt_putI (pc := 2) dX12_order_2 fl_X12_68 rfl rfl h (fun M2 h => ?_)
  refine wt_aload_n (pc := 5) 0 dX12_order_5 rfl ?_
  refine wt_iconst (pc := 6) (v := 0) dX12_order_6 (by decide) ?_
  refine wt_putI (pc := 7) dX12_order_7 fl_X12_71 rfl rfl h (fun M7 h => ?_)
  refine wt_iload_n (pc := 10) 1 dX12_order_10 rfl ?_
  refine wt_i2l (pc := 11) dX12_order_11 ?_
  refine wt_lconst (pc := 12) (v := 0) dX12_order_12 (by decide) ?_
  refine wt_aload_n (pc := 13) 0 dX12_order_13 rfl ?_
  refine wt_getI (pc := 14) dX12_order_14 fl_X12_62 (fun _ _ _ => rfl) h (fun v14 h => ?_)
  refine wt_iconst (pc := 17) (v := 1) dX12_order_17 (by decide) ?_
  refine wt_isub (pc := 18) dX12_order_18 ?_
  refine wt_i2l (pc := 19) dX12_order_19 ?_
  refine wt_cSI (pc := 20) (J' := j_X12_isIn) (As := [.long (Int32.toInt64 l1), .long 0, .long (Int32.toInt64 (v14 - 1))]) (st := []) (B' := b_X12_isIn) (u' := 0) (w' := 0) dX12_order_20 ml_X12_103 ms_X12_isIn (fun v9 M9 e9 => c_X12_isIn e9) rfl (by decide) rfl rfl (by decide) (by decide) (by decide) rfl h (fun v20 M20 h => ?_)
  refine wt_if_eq (pc := 23) (tgt := 35) dX12_order_23 (by decide) (fun q => ?_) (fun q => ?_)
  · have h := ite_t q h
    refine wt_aload_n (pc := 35) 0 dX12_order_35 rfl ?_
    refine wt_bipush (pc := 36) (v := 8) dX12_order_36 (by decide) ?_
    refine wt_cVI (pc := 38) (J' := j_X12_refuse) (As := [.int 8]) (st := []) (B' := b_X12_refuse) (u' := 0) (w' := 0) dX12_order_38 ml_X12_331 mv_X12_refuse (fun v9 M9 e9 => c_X12_refuse e9) rfl (by decide) rfl rfl (by decide) (by decide) (by decide) rfl h (fun v38 M38 h => ?_)
    cases h
    exact he 41 _ _ _ dX12_order_41 (by decide) (by decide)
  · have h := ite_f q h
    refine wt_aload_n (pc := 26) 0 dX12_order_26 rfl ?_
    refine wt_getR (pc := 27) dX12_order_27 fl_X12_56 (fun _ _ _ => rfl) h (fun v27 h => ?_)
    refine wt_iload_n (pc := 30) 1 dX12_order_30 rfl ?_
    refine wt_iaload (pc := 31) (kd := 21) dX12_order_31 rfl rfl h (fun v31 h => ?_)
    refine wt_goto (pc := 32) (tgt := 41) dX12_order_32 (by decide) ?_
    cases h
    exact he 41 _ _ _ dX12_order_41 (by decide) (by decide)
set_option maxHeartbeats 4000000 in
set_option maxRecDepth 100000 in
theorem c_X12_order {G : GG} {M : Mm} {l0 : Option Nat} {l1 : Int32} {r : Int32 × Mm} (h : f_X12_order M l0 l1 = some r) (l : Launch) : Ct l G j_X12_order b_X12_order [rf G.1 l0, .int l1] M (some (.int r.1)) r.2 := cf_I (by decide +kernel) (by simp [lg_sl, rf_cat, cat_i, cat_l, j_X12_order]) rfl (by simp [lv_args, rf_cat, cat_i, cat_l]) (fun X he => t_X12_order_e he h)
def f_X12_fillAll_2 : Nat → Mm → Option Nat → Int32 → Option (Mm)
  | 0, _, _, _ => none
  | n + 1, M, l0, l1 => gfR M l0 12 20 fun v4 => alI M v4 21 1 fun v8 => if v8 ≤ l1 then (some M) else (ck M l0 12 <| bv (f_X12_fill M l0 l1) fun M14 => f_X12_fillAll_2 n M14 l0 (l1 + 1))
def f_X12_fillAll (M : Mm) (l0 : Option Nat) : Option (Mm) := f_X12_fillAll_2  fu M l0 0
set_option maxHeartbeats 4000000 in
set_option maxRecDepth 100000 in
theorem t_X12_fillAll_2 {G : GG} {X : CX} {ans : Mm} (he : EndV G X j_X12_fillAll b_X12_fillAll ans) : ∀ (n : Nat) {M : Mm} {l0 : Option Nat} {l1 : Int32}, f_X12_fillAll_2 n M l0 l1 = some ans → Wt G X j_X12_fillAll b_X12_fillAll 2 [(0, rf G.1 l0), (1, .int l1)] [] M 0 0 := by
  intro n
  induction n with
  | zero =>
    intro M l0 l1 h
    rw [f_X12_fillAll_2] at h
    cases h
  | succ n ih =>
    intro M l0 l1 h
    rw [f_X12_fillAll_2] at h
    refine wt_iload_n (pc := 2) 1 dX12_fillAll_2 rfl ?_
    refine wt_aload_n (pc := 3) 0 dX12_fillAll_3 rfl ?_
    refine wt_getR (pc := 4) dX12_fillAll_4 fl_X12_35 (fun _ _ _ => rfl) h (fun v4 h => ?_)
    refine wt_iconst (pc := 7) (v := 1) dX12_fillAll_7 (by decide) ?_
    refine wt_iaload (pc := 8) (kd := 21) dX12_fillAll_8 rfl rfl h (fun v8 h => ?_)
    refine wt_icmp_ge (pc := 9) (tgt := 23) dX12_fillAll_9 (by decide) (fun q => ?_) (fun q => ?_)
    · have h := ite_t q h
      cases h
      exact he 23 _ _ _ dX12_fillAll_23 (by decide) (by decide)
    · have h := ite_f q h
      refine wt_aload_n (pc := 12) 0 dX12_fillAll_12 rfl ?_
      refine wt_iload_n (pc := 13) 1 dX12_fillAll_13 rfl ?_
      refine wt_cVV (pc := 14) (J' := j_X12_fill) (As := [.int l1]) (st := []) (B' := b_X12_fill) (u' := 0) (w' := 0) dX12_fillAll_14 ml_X12_441 mv_X12_fill (fun M9 e9 => c_X12_fill e9) rfl (by decide) rfl rfl (by decide) (by decide) (by decide) rfl h (fun M14 h => ?_)
      refine wt_iinc (pc := 17) (d := 1) (ls' := [(1, .int (l1 + 1)), (0, rf G.1 l0)]) 1 dX12_fillAll_17 rfl (by decide) (by decide) (by simp [rf_cat, cat_i, cat_l, cat_r]) ?_
      refine wt_goto (pc := 20) (tgt := 2) dX12_fillAll_20 (by decide) ?_
      refine wt_sub (ls' := [(0, rf G.1 l0), (1, .int (l1 + 1))]) [1, 0] rfl ?_
      exact ih h
set_option maxHeartbeats 4000000 in
set_option maxRecDepth 100000 in
theorem t_X12_fillAll_e {G : GG} {X : CX} {ans : Mm} (he : EndV G X j_X12_fillAll b_X12_fillAll ans) {M : Mm} {l0 : Option Nat} (h : f_X12_fillAll M l0 = some ans) : Wt G X j_X12_fillAll b_X12_fillAll 0 [(0, rf G.1 l0)] [] M 0 0 := by
  unfold f_X12_fillAll at h
  refine wt_iconst (pc := 0) (v := 0) dX12_fillAll_0 (by decide) ?_
  refine wt_istore_n (pc := 1) (i := 1) (ls' := [(1, .int 0), (0, rf G.1 l0)]) rfl dX12_fillAll_1 (by decide) (by simp [rf_cat, cat_i, cat_l, cat_r]) ?_
  refine wt_sub (ls' := [(0, rf G.1 l0), (1, .int 0)]) [1, 0] rfl ?_
  exact t_X12_fillAll_2 he  fu h
set_option maxHeartbeats 4000000 in
set_option maxRecDepth 100000 in
theorem c_X12_fillAll {G : GG} {M : Mm} {l0 : Option Nat} {r : Mm} (h : f_X12_fillAll M l0 = some r) (l : Launch) : Ct l G j_X12_fillAll b_X12_fillAll [rf G.1 l0] M none r := cf_V (by decide +kernel) (by simp [lg_sl, rf_cat, cat_i, cat_l, j_X12_fillAll]) rfl (by simp [lv_args, rf_cat, cat_i, cat_l]) (fun X he => t_X12_fillAll_e he h)
def f_X12_shared_192 (k165 : Mm → Option Nat → Int32 → Int32 → Option (Int32 × Mm)) (M : Mm) (l0 : Option Nat) (l2 : Int32) (l3 : Int32) : Option (Int32 × Mm) := k165 M l0 l2 (l3 + 1)
def f_X12_shared_165 : Nat → Mm → Option Nat → Int32 → Int32 → Option (Int32 × Mm)
  | 0, _, _, _, _ => none
  | n + 1, M, l0, l2, l3 => if 256 ≤ l3 then (some (l2, M)) else (gfR M l0 12 29 fun v173 => alI M v173 21 l3 fun v177 => if v177 = 1 then (ck M l0 12 <| bd (f_X12_worthIn M l0 l3) fun v185 M185 => nmI (mxI l2 v185) fun x191 => f_X12_shared_192 (f_X12_shared_165 n) M185 l0 x191 l3) else (f_X12_shared_192 (f_X12_shared_165 n) M l0 l2 l3))
def f_X12_shared_149 (k64 : Mm → Option Nat → Int32 → Int32 → Option (Int32 × Mm)) (k78 : Mm → Option Nat → Int32 → Int32 → Int32 → Option (Int32 × Mm)) (M : Mm) (l0 : Option Nat) (l1 : Int32) (l2 : Int32) (l3 : Int32) : Option (Int32 × Mm) := k78 M l0 l1 l2 (l3 + (-1))
def f_X12_shared_138 (k64 : Mm → Option Nat → Int32 → Int32 → Option (Int32 × Mm)) (k78 : Mm → Option Nat → Int32 → Int32 → Int32 → Option (Int32 × Mm)) (k85 : Mm → Option Nat → Int32 → Int32 → Int32 → Int32 → Option (Int32 × Mm)) (M : Mm) (l0 : Option Nat) (l1 : Int32) (l2 : Int32) (l3 : Int32) (l4 : Int32) : Option (Int32 × Mm) := nmI ((l4 - 1) &&& l3) fun x144 => k85 M l0 l1 l2 l3 x144
def f_X12_shared_85 (k64 : Mm → Option Nat → Int32 → Int32 → Option (Int32 × Mm)) (k78 : Mm → Option Nat → Int32 → Int32 → Int32 → Option (Int32 × Mm)) : Nat → Mm → Option Nat → Int32 → Int32 → Int32 → Int32 → Option (Int32 × Mm)
  | 0, _, _, _, _, _, _ => none
  | n + 1, M, l0, l1, l2, l3, l4 => if l4 ≤ 0 then (f_X12_shared_149 k64 k78 M l0 l1 l2 l3) else (gfR M l0 12 29 fun v91 => alI M v91 21 l3 fun v95 => if v95 = 0 then (gfR M l0 12 28 fun v100 => alI M v100 21 ((256 * l2) + l4) fun v111 => if l1 < v111 then (f_X12_shared_138 k64 k78 (f_X12_shared_85 k64 k78 n) M l0 l1 l2 l3 l4) else (gfR M l0 12 29 fun v117 => alI M v117 21 (l3 &&& (l4 ^^^ (-1))) fun v126 => if v126 = 1 then (gfR M l0 12 29 fun v132 => asI M v132 21 l3 1 fun M137 => f_X12_shared_138 k64 k78 (f_X12_shared_85 k64 k78 n) M137 l0 l1 l2 l3 l4) else (f_X12_shared_138 k64 k78 (f_X12_shared_85 k64 k78 n) M l0 l1 l2 l3 l4))) else (f_X12_shared_149 k64 k78 M l0 l1 l2 l3))
def f_X12_shared_78 (k64 : Mm → Option Nat → Int32 → Int32 → Option (Int32 × Mm)) : Nat → Mm → Option Nat → Int32 → Int32 → Int32 → Option (Int32 × Mm)
  | 0, _, _, _, _, _ => none
  | n + 1, M, l0, l1, l2, l3 => if l3 ≤ 0 then (k64 M l0 l1 (l2 + 1)) else (f_X12_shared_85 k64 (f_X12_shared_78 k64 n) fu M l0 l1 l2 l3 l3)
def f_X12_shared_64 : Nat → Mm → Option Nat → Int32 → Int32 → Option (Int32 × Mm)
  | 0, _, _, _, _ => none
  | n + 1, M, l0, l1, l2 => gfR M l0 12 20 fun v66 => alI M v66 21 1 fun v70 => if v70 ≤ l2 then (f_X12_shared_165  fu M l0 0 0) else (f_X12_shared_78 (f_X12_shared_64 n) fu M l0 l1 l2 255)
def f_X12_shared_55 (k34 : Mm → Option Nat → Int32 → Int32 → Option (Int32 × Mm)) (M : Mm) (l0 : Option Nat) (l1 : Int32) (l2 : Int32) (s0 : Option Nat) (s1 : Int32) (s2 : Int32) : Option (Int32 × Mm) := asI M s0 21 s1 s2 fun M55 => k34 M55 l0 l1 (l2 + 1)
def f_X12_shared_34 : Nat → Mm → Option Nat → Int32 → Int32 → Option (Int32 × Mm)
  | 0, _, _, _, _ => none
  | n + 1, M, l0, l1, l2 => if 256 ≤ l2 then (f_X12_shared_64  fu M l0 l1 0) else (gfR M l0 12 29 fun v42 => if l2 = 0 then (f_X12_shared_55 (f_X12_shared_34 n) M l0 l1 l2 v42 l2 1) else (f_X12_shared_55 (f_X12_shared_34 n) M l0 l1 l2 v42 l2 0))
def f_X12_shared (M : Mm) (l0 : Option Nat) (l1 : Int32) : Option (Int32 × Mm) := pfI M l0 12 1 0 fun M2 => pfI M2 l0 12 0 0 fun M7 => bd (f_X12_isIn M7 (Int32.toInt64 l1) 0 240) fun v16 M16 => if v16 = 0 then (ck M16 l0 12 <| bd (f_X12_refuse M16 l0 5) fun v24 M24 => some (v24, M24)) else (ck M16 l0 12 <| bv (f_X12_fillAll M16 l0) fun M29 => f_X12_shared_34  fu M29 l0 l1 0)
set_option maxHeartbeats 4000000 in
set_option maxRecDepth 100000 in
theorem t_X12_shared_192 {G : GG} {X : CX} {ans : Int32 × Mm} (he : EndI G X j_X12_shared b_X12_shared ans) {k165 : Mm → Option Nat → Int32 → Int32 → Option (Int32 × Mm)} (hk165 : ∀ (M : Mm) (a0 : Option Nat) (a2 : Int32) (a3 : Int32), k165 M a0 a2 a3 = some ans → Wt G X j_X12_shared b_X12_shared 165 [(0, rf G.1 a0), (2, .int a2), (3, .int a3)] [] M 0 0) {M : Mm} {l0 : Option Nat} {l2 : Int32} {l3 : Int32} (h : f_X12_shared_192 k165 M l0 l2 l3 = some ans) : Wt G X j_X12_shared b_X12_shared 192 [(0, rf G.1 l0), (2, .int l2), (3, .int l3)] [] M 0 0 := by
  unfold f_X12_shared_192 at h
  refine wt_iinc (pc := 192) (d := 1) (ls' := [(3, .int (l3 + 1)), (0, rf G.1 l0), (2, .int l2)]) 2 dX12_shared_192 rfl (by decide) (by decide) rfl ?_
  refine wt_goto (pc := 195) (tgt := 165) dX12_shared_195 (by decide) ?_
  refine wt_sub (ls' := [(0, rf G.1 l0), (2, .int l2), (3, .int (l3 + 1))]) [1, 2, 0] rfl ?_
  exact hk165 _ _ _ _ h
set_option maxHeartbeats 4000000 in
set_option maxRecDepth 100000 in
theorem t_X12_shared_165 {G : GG} {X : CX} {ans : Int32 × Mm} (he : EndI G X j_X12_shared b_X12_shared ans) : ∀ (n : Nat) {M : Mm} {l0 : Option Nat} {l2 : Int32} {l3 : Int32}, f_X12_shared_165 n M l0 l2 l3 = some ans → Wt G X j_X12_shared b_X12_shared 165 [(0, rf G.1 l0), (2, .int l2), (3, .int l3)] [] M 0 0 := by
  intro n
  induction n with
  | zero =>
    intro M l0 l2 l3 h
    rw [f_X12_shared_165] at h
    cases h
  | succ n ih =>
    intro M l0 l2 l3 h
    rw [f_X12_shared_165] at h
    refine wt_iload_n (pc := 165) 2 dX12_shared_165 rfl ?_
    refine wt_sipush (pc := 166) (v := 256) dX12_shared_166 (by decide) ?_
    refine wt_icmp_ge (pc := 169) (tgt := 198) dX12_shared_169 (by decide) (fun q => ?_) (fun q => ?_)
    · have h := ite_t q h
      refine wt_iload_n (pc := 198) 1 dX12_shared_198 rfl ?_
      cases h
      exact he 199 _ _ _ dX12_shared_199 (by decide) (by decide)
    · have h := ite_f q h
      refine wt_aload_n (pc := 172) 0 dX12_shared_172 rfl ?_
      refine wt_getR (pc := 173) dX12_shared_173 fl_X12_50 (fun _ _ _ => rfl) h (fun v173 h => ?_)
      refine wt_iload_n (pc := 176) 2 dX12_shared_176 rfl ?_
      refine wt_iaload (pc := 177) (kd := 21) dX12_shared_177 rfl rfl h (fun v177 h => ?_)
      refine wt_iconst (pc := 178) (v := 1) dX12_shared_178 (by decide) ?_
      refine wt_icmp_ne (pc := 179) (tgt := 192) dX12_shared_179 (by decide) (fun q => ?_) (fun q => ?_)
      · have h := ite_f q h
        exact t_X12_shared_192 he (fun _ _ _ _ h => ih h) h
      · have h := ite_t q h
        refine wt_iload_n (pc := 182) 1 dX12_shared_182 rfl ?_
        refine wt_aload_n (pc := 183) 0 dX12_shared_183 rfl ?_
        refine wt_iload_n (pc := 184) 2 dX12_shared_184 rfl ?_
        refine wt_cVI (pc := 185) (J' := j_X12_worthIn) (As := [.int l3]) (st := [.int l2]) (B' := b_X12_worthIn) (u' := 0) (w' := 0) dX12_shared_185 ml_X12_428 mv_X12_worthIn (fun v9 M9 e9 => c_X12_worthIn e9) rfl (by decide) rfl rfl (by decide) (by decide) (by simp [rf_cat, cat_i, cat_l, cat_r]) rfl h (fun v185 M185 h => ?_)
        refine wt_mmax (pc := 188) dX12_shared_188 bi_X12_264 mw_max.1 mw_max.2.1 mw_max.2.2 (by decide) (by decide) (by decide) (by decide) ?_
        refine wt_nmI h (fun x191 h => ?_)
        refine wt_istore_n (pc := 191) (i := 2) (ls' := [(2, .int x191), (0, rf G.1 l0), (3, .int l3)]) rfl dX12_shared_191 (by decide) rfl ?_
        refine wt_sub (ls' := [(0, rf G.1 l0), (2, .int x191), (3, .int l3)]) [1, 0, 2] rfl ?_
        exact t_X12_shared_192 he (fun _ _ _ _ h => ih h) h
set_option maxHeartbeats 4000000 in
set_option maxRecDepth 100000 in
theorem t_X12_shared_149 {G : GG} {X : CX} {ans : Int32 × Mm} (he : EndI G X j_X12_shared b_X12_shared ans) {k64 : Mm → Option Nat → Int32 → Int32 → Option (Int32 × Mm)} {k78 : Mm → Option Nat → Int32 → Int32 → Int32 → Option (Int32 × Mm)} (hk64 : ∀ (M : Mm) (a0 : Option Nat) (a1 : Int32) (a2 : Int32), k64 M a0 a1 a2 = some ans → Wt G X j_X12_shared b_X12_shared 64 [(0, rf G.1 a0), (1, .int a1), (2, .int a2)] [] M 0 0) (hk78 : ∀ (M : Mm) (a0 : Option Nat) (a1 : Int32) (a2 : Int32) (a3 : Int32), k78 M a0 a1 a2 a3 = some ans → Wt G X j_X12_shared b_X12_shared 78 [(0, rf G.1 a0), (1, .int a1), (2, .int a2), (3, .int a3)] [] M 0 0) {M : Mm} {l0 : Option Nat} {l1 : Int32} {l2 : Int32} {l3 : Int32} (h : f_X12_shared_149 k64 k78 M l0 l1 l2 l3 = some ans) : Wt G X j_X12_shared b_X12_shared 149 [(0, rf G.1 l0), (1, .int l1), (2, .int l2), (3, .int l3)] [] M 0 0 := by
  unfold f_X12_shared_149 at h
  refine wt_iinc (pc := 149) (d := (-1)) (ls' := [(3, .int (l3 + (-1))), (0, rf G.1 l0), (1, .int l1), (2, .int l2)]) 3 dX12_shared_149 rfl (by decide) (by decide) rfl ?_
  refine wt_goto (pc := 152) (tgt := 78) dX12_shared_152 (by decide) ?_
  refine wt_sub (ls' := [(0, rf G.1 l0), (1, .int l1), (2, .int l2), (3, .int (l3 + (-1)))]) [1, 2, 3, 0] rfl ?_
  exact hk78 _ _ _ _ _ h
set_option maxHeartbeats 4000000 in
set_option maxRecDepth 100000 in
theorem t_X12_shared_138 {G : GG} {X : CX} {ans : Int32 × Mm} (he : EndI G X j_X12_shared b_X12_shared ans) {k64 : Mm → Option Nat → Int32 → Int32 → Option (Int32 × Mm)} {k78 : Mm → Option Nat → Int32 → Int32 → Int32 → Option (Int32 × Mm)} {k85 : Mm → Option Nat → Int32 → Int32 → Int32 → Int32 → Option (Int32 × Mm)} (hk64 : ∀ (M : Mm) (a0 : Option Nat) (a1 : Int32) (a2 : Int32), k64 M a0 a1 a2 = some ans → Wt G X j_X12_shared b_X12_shared 64 [(0, rf G.1 a0), (1, .int a1), (2, .int a2)] [] M 0 0) (hk78 : ∀ (M : Mm) (a0 : Option Nat) (a1 : Int32) (a2 : Int32) (a3 : Int32), k78 M a0 a1 a2 a3 = some ans → Wt G X j_X12_shared b_X12_shared 78 [(0, rf G.1 a0), (1, .int a1), (2, .int a2), (3, .int a3)] [] M 0 0) (hk85 : ∀ (M : Mm) (a0 : Option Nat) (a1 : Int32) (a2 : Int32) (a3 : Int32) (a4 : Int32), k85 M a0 a1 a2 a3 a4 = some ans → Wt G X j_X12_shared b_X12_shared 85 [(0, rf G.1 a0), (1, .int a1), (2, .int a2), (3, .int a3), (4, .int a4)] [] M 0 0) {M : Mm} {l0 : Option Nat} {l1 : Int32} {l2 : Int32} {l3 : Int32} {l4 : Int32} (h : f_X12_shared_138 k64 k78 k85 M l0 l1 l2 l3 l4 = some ans) : Wt G X j_X12_shared b_X12_shared 138 [(0, rf G.1 l0), (1, .int l1), (2, .int l2), (3, .int l3), (4, .int l4)] [] M 0 0 := by
  unfold f_X12_shared_138 at h
  refine wt_iload (pc := 138) 4 dX12_shared_138 rfl ?_
  refine wt_iconst (pc := 140) (v := 1) dX12_shared_140 (by decide) ?_
  refine wt_isub (pc := 141) dX12_shared_141 ?_
  refine wt_iload_n (pc := 142) 3 dX12_shared_142 rfl ?_
  refine wt_iand (pc := 143) dX12_shared_143 ?_
  refine wt_nmI h (fun x144 h => ?_)
  refine wt_istore (pc := 144) (i := 4) (ls' := [(4, .int x144), (0, rf G.1 l0), (1, .int l1), (2, .int l2), (3, .int l3)]) dX12_shared_144 (by decide) rfl ?_
  refine wt_goto (pc := 146) (tgt := 85) dX12_shared_146 (by decide) ?_
  refine wt_sub (ls' := [(0, rf G.1 l0), (1, .int l1), (2, .int l2), (3, .int l3), (4, .int x144)]) [1, 2, 3, 4, 0] rfl ?_
  exact hk85 _ _ _ _ _ _ h
set_option maxHeartbeats 4000000 in
set_option maxRecDepth 100000 in
theorem t_X12_shared_85 {G : GG} {X : CX} {ans : Int32 × Mm} (he : EndI G X j_X12_shared b_X12_shared ans) {k64 : Mm → Option Nat → Int32 → Int32 → Option (Int32 × Mm)} {k78 : Mm → Option Nat → Int32 → Int32 → Int32 → Option (Int32 × Mm)} (hk64 : ∀ (M : Mm) (a0 : Option Nat) (a1 : Int32) (a2 : Int32), k64 M a0 a1 a2 = some ans → Wt G X j_X12_shared b_X12_shared 64 [(0, rf G.1 a0), (1, .int a1), (2, .int a2)] [] M 0 0) (hk78 : ∀ (M : Mm) (a0 : Option Nat) (a1 : Int32) (a2 : Int32) (a3 : Int32), k78 M a0 a1 a2 a3 = some ans → Wt G X j_X12_shared b_X12_shared 78 [(0, rf G.1 a0), (1, .int a1), (2, .int a2), (3, .int a3)] [] M 0 0) : ∀ (n : Nat) {M : Mm} {l0 : Option Nat} {l1 : Int32} {l2 : Int32} {l3 : Int32} {l4 : Int32}, f_X12_shared_85 k64 k78 n M l0 l1 l2 l3 l4 = some ans → Wt G X j_X12_shared b_X12_shared 85 [(0, rf G.1 l0), (1, .int l1), (2, .int l2), (3, .int l3), (4, .int l4)] [] M 0 0 := by
  intro n
  induction n with
  | zero =>
    intro M l0 l1 l2 l3 l4 h
    rw [f_X12_shared_85] at h
    cases h
  | succ n ih =>
    intro M l0 l1 l2 l3 l4 h
    rw [f_X12_shared_85] at h
    refine wt_iload (pc := 85) 4 dX12_shared_85 rfl ?_
    refine wt_if_le (pc := 87) (tgt := 149) dX12_shared_87 (by decide) (fun q => ?_) (fun q => ?_)
    · have h := ite_t q h
      refine wt_sub (ls' := [(0, rf G.1 l0), (1, .int l1), (2, .int l2), (3, .int l3)]) [0, 1, 2, 3] rfl ?_
      exact t_X12_shared_149 he (fun _ _ _ _ h => hk64 _ _ _ _ h) (fun _ _ _ _ _ h => hk78 _ _ _ _ _ h) h
    · have h := ite_f q h
      refine wt_aload_n (pc := 90) 0 dX12_shared_90 rfl ?_
      refine wt_getR (pc := 91) dX12_shared_91 fl_X12_50 (fun _ _ _ => rfl) h (fun v91 h => ?_)
      refine wt_iload_n (pc := 94) 3 dX12_shared_94 rfl ?_
      refine wt_iaload (pc := 95) (kd := 21) dX12_shared_95 rfl rfl h (fun v95 h => ?_)
      refine wt_if_ne (pc := 96) (tgt := 149) dX12_shared_96 (by decide) (fun q => ?_) (fun q => ?_)
      · have h := ite_f q h
        refine wt_sub (ls' := [(0, rf G.1 l0), (1, .int l1), (2, .int l2), (3, .int l3)]) [0, 1, 2, 3] rfl ?_
        exact t_X12_shared_149 he (fun _ _ _ _ h => hk64 _ _ _ _ h) (fun _ _ _ _ _ h => hk78 _ _ _ _ _ h) h
      · have h := ite_t q h
        refine wt_aload_n (pc := 99) 0 dX12_shared_99 rfl ?_
        refine wt_getR (pc := 100) dX12_shared_100 fl_X12_47 (fun _ _ _ => rfl) h (fun v100 h => ?_)
        refine wt_sipush (pc := 103) (v := 256) dX12_shared_103 (by decide) ?_
        refine wt_iload_n (pc := 106) 2 dX12_shared_106 rfl ?_
        refine wt_imul (pc := 107) dX12_shared_107 ?_
        refine wt_iload (pc := 108) 4 dX12_shared_108 rfl ?_
        refine wt_iadd (pc := 110) dX12_shared_110 ?_
        refine wt_iaload (pc := 111) (kd := 21) dX12_shared_111 rfl rfl h (fun v111 h => ?_)
        refine wt_iload_n (pc := 112) 1 dX12_shared_112 rfl ?_
        refine wt_icmp_gt (pc := 113) (tgt := 138) dX12_shared_113 (by decide) (fun q => ?_) (fun q => ?_)
        · have h := ite_t q h
          exact t_X12_shared_138 he (fun _ _ _ _ h => hk64 _ _ _ _ h) (fun _ _ _ _ _ h => hk78 _ _ _ _ _ h) (fun _ _ _ _ _ _ h => ih h) h
        · have h := ite_f q h
          refine wt_aload_n (pc := 116) 0 dX12_shared_116 rfl ?_
          refine wt_getR (pc := 117) dX12_shared_117 fl_X12_50 (fun _ _ _ => rfl) h (fun v117 h => ?_)
          refine wt_iload_n (pc := 120) 3 dX12_shared_120 rfl ?_
          refine wt_iload (pc := 121) 4 dX12_shared_121 rfl ?_
          refine wt_iconst (pc := 123) (v := (-1)) dX12_shared_123 (by decide) ?_
          refine wt_ixor (pc := 124) dX12_shared_124 ?_
          refine wt_iand (pc := 125) dX12_shared_125 ?_
          refine wt_iaload (pc := 126) (kd := 21) dX12_shared_126 rfl rfl h (fun v126 h => ?_)
          refine wt_iconst (pc := 127) (v := 1) dX12_shared_127 (by decide) ?_
          refine wt_icmp_ne (pc := 128) (tgt := 138) dX12_shared_128 (by decide) (fun q => ?_) (fun q => ?_)
          · have h := ite_f q h
            exact t_X12_shared_138 he (fun _ _ _ _ h => hk64 _ _ _ _ h) (fun _ _ _ _ _ h => hk78 _ _ _ _ _ h) (fun _ _ _ _ _ _ h => ih h) h
          · have h := ite_t q h
            refine wt_aload_n (pc := 131) 0 dX12_shared_131 rfl ?_
            refine wt_getR (pc := 132) dX12_shared_132 fl_X12_50 (fun _ _ _ => rfl) h (fun v132 h => ?_)
            refine wt_iload_n (pc := 135) 3 dX12_shared_135 rfl ?_
            refine wt_iconst (pc := 136) (v := 1) dX12_shared_136 (by decide) ?_
            refine wt_iastore (pc := 137) (kd := 21) dX12_shared_137 rfl rfl h (fun M137 h => ?_)
            exact t_X12_shared_138 he (fun _ _ _ _ h => hk64 _ _ _ _ h) (fun _ _ _ _ _ h => hk78 _ _ _ _ _ h) (fun _ _ _ _ _ _ h => ih h) h
set_option maxHeartbeats 4000000 in
set_option maxRecDepth 100000 in
theorem t_X12_shared_78 {G : GG} {X : CX} {ans : Int32 × Mm} (he : EndI G X j_X12_shared b_X12_shared ans) {k64 : Mm → Option Nat → Int32 → Int32 → Option (Int32 × Mm)} (hk64 : ∀ (M : Mm) (a0 : Option Nat) (a1 : Int32) (a2 : Int32), k64 M a0 a1 a2 = some ans → Wt G X j_X12_shared b_X12_shared 64 [(0, rf G.1 a0), (1, .int a1), (2, .int a2)] [] M 0 0) : ∀ (n : Nat) {M : Mm} {l0 : Option Nat} {l1 : Int32} {l2 : Int32} {l3 : Int32}, f_X12_shared_78 k64 n M l0 l1 l2 l3 = some ans → Wt G X j_X12_shared b_X12_shared 78 [(0, rf G.1 l0), (1, .int l1), (2, .int l2), (3, .int l3)] [] M 0 0 := by
  intro n
  induction n with
  | zero =>
    intro M l0 l1 l2 l3 h
    rw [f_X12_shared_78] at h
    cases h
  | succ n ih =>
    intro M l0 l1 l2 l3 h
    rw [f_X12_shared_78] at h
    refine wt_iload_n (pc := 78) 3 dX12_shared_78 rfl ?_
    refine wt_if_le (pc := 79) (tgt := 155) dX12_shared_79 (by decide) (fun q => ?_) (fun q => ?_)
    · have h := ite_t q h
      refine wt_iinc (pc := 155) (d := 1) (ls' := [(2, .int (l2 + 1)), (0, rf G.1 l0), (1, .int l1), (3, .int l3)]) 2 dX12_shared_155 rfl (by decide) (by decide) rfl ?_
      refine wt_goto (pc := 158) (tgt := 64) dX12_shared_158 (by decide) ?_
      refine wt_sub (ls' := [(0, rf G.1 l0), (1, .int l1), (2, .int (l2 + 1))]) [1, 2, 0] rfl ?_
      exact hk64 _ _ _ _ h
    · have h := ite_f q h
      refine wt_iload_n (pc := 82) 3 dX12_shared_82 rfl ?_
      refine wt_istore (pc := 83) (i := 4) (ls' := [(4, .int l3), (0, rf G.1 l0), (1, .int l1), (2, .int l2), (3, .int l3)]) dX12_shared_83 (by decide) rfl ?_
      refine wt_sub (ls' := [(0, rf G.1 l0), (1, .int l1), (2, .int l2), (3, .int l3), (4, .int l3)]) [1, 2, 3, 4, 0] rfl ?_
      exact t_X12_shared_85 he (fun _ _ _ _ h => hk64 _ _ _ _ h) (fun _ _ _ _ _ h => ih h) fu h
set_option maxHeartbeats 4000000 in
set_option maxRecDepth 100000 in
theorem t_X12_shared_64 {G : GG} {X : CX} {ans : Int32 × Mm} (he : EndI G X j_X12_shared b_X12_shared ans) : ∀ (n : Nat) {M : Mm} {l0 : Option Nat} {l1 : Int32} {l2 : Int32}, f_X12_shared_64 n M l0 l1 l2 = some ans → Wt G X j_X12_shared b_X12_shared 64 [(0, rf G.1 l0), (1, .int l1), (2, .int l2)] [] M 0 0 := by
  intro n
  induction n with
  | zero =>
    intro M l0 l1 l2 h
    rw [f_X12_shared_64] at h
    cases h
  | succ n ih =>
    intro M l0 l1 l2 h
    rw [f_X12_shared_64] at h
    refine wt_iload_n (pc := 64) 2 dX12_shared_64 rfl ?_
    refine wt_aload_n (pc := 65) 0 dX12_shared_65 rfl ?_
    refine wt_getR (pc := 66) dX12_shared_66 fl_X12_35 (fun _ _ _ => rfl) h (fun v66 h => ?_)
    refine wt_iconst (pc := 69) (v := 1) dX12_shared_69 (by decide) ?_
    refine wt_iaload (pc := 70) (kd := 21) dX12_shared_70 rfl rfl h (fun v70 h => ?_)
    refine wt_icmp_ge (pc := 71) (tgt := 161) dX12_shared_71 (by decide) (fun q => ?_) (fun q => ?_)
    · have h := ite_t q h
      refine wt_iconst (pc := 161) (v := 0) dX12_shared_161 (by decide) ?_
      refine wt_istore_n (pc := 162) (i := 2) (ls' := [(2, .int 0), (0, rf G.1 l0), (1, .int l1)]) rfl dX12_shared_162 (by decide) rfl ?_
      refine wt_iconst (pc := 163) (v := 0) dX12_shared_163 (by decide) ?_
      refine wt_istore_n (pc := 164) (i := 3) (ls' := [(3, .int 0), (2, .int 0), (0, rf G.1 l0), (1, .int l1)]) rfl dX12_shared_164 (by decide) rfl ?_
      refine wt_sub (ls' := [(0, rf G.1 l0), (2, .int 0), (3, .int 0)]) [2, 1, 0] rfl ?_
      exact t_X12_shared_165 he  fu h
    · have h := ite_f q h
      refine wt_sipush (pc := 74) (v := 255) dX12_shared_74 (by decide) ?_
      refine wt_istore_n (pc := 77) (i := 3) (ls' := [(3, .int 255), (0, rf G.1 l0), (1, .int l1), (2, .int l2)]) rfl dX12_shared_77 (by decide) rfl ?_
      refine wt_sub (ls' := [(0, rf G.1 l0), (1, .int l1), (2, .int l2), (3, .int 255)]) [1, 2, 3, 0] rfl ?_
      exact t_X12_shared_78 he (fun _ _ _ _ h => ih h) fu h
set_option maxHeartbeats 4000000 in
set_option maxRecDepth 100000 in
theorem t_X12_shared_55 {G : GG} {X : CX} {ans : Int32 × Mm} (he : EndI G X j_X12_shared b_X12_shared ans) {k34 : Mm → Option Nat → Int32 → Int32 → Option (Int32 × Mm)} (hk34 : ∀ (M : Mm) (a0 : Option Nat) (a1 : Int32) (a2 : Int32), k34 M a0 a1 a2 = some ans → Wt G X j_X12_shared b_X12_shared 34 [(0, rf G.1 a0), (1, .int a1), (2, .int a2)] [] M 0 0) {M : Mm} {l0 : Option Nat} {l1 : Int32} {l2 : Int32} {s0 : Option Nat} {s1 : Int32} {s2 : Int32} (h : f_X12_shared_55 k34 M l0 l1 l2 s0 s1 s2 = some ans) : Wt G X j_X12_shared b_X12_shared 55 [(0, rf G.1 l0), (1, .int l1), (2, .int l2)] [.int s2, .int s1, rf G.1 s0] M 0 0 := by
  unfold f_X12_shared_55 at h
  refine wt_iastore (pc := 55) (kd := 21) dX12_shared_55 rfl rfl h (fun M55 h => ?_)
  refine wt_iinc (pc := 56) (d := 1) (ls' := [(2, .int (l2 + 1)), (0, rf G.1 l0), (1, .int l1)]) 2 dX12_shared_56 rfl (by decide) (by decide) rfl ?_
  refine wt_goto (pc := 59) (tgt := 34) dX12_shared_59 (by decide) ?_
  refine wt_sub (ls' := [(0, rf G.1 l0), (1, .int l1), (2, .int (l2 + 1))]) [1, 2, 0] rfl ?_
  exact hk34 _ _ _ _ h
set_option maxHeartbeats 4000000 in
set_option maxRecDepth 100000 in
theorem t_X12_shared_34 {G : GG} {X : CX} {ans : Int32 × Mm} (he : EndI G X j_X12_shared b_X12_shared ans) : ∀ (n : Nat) {M : Mm} {l0 : Option Nat} {l1 : Int32} {l2 : Int32}, f_X12_shared_34 n M l0 l1 l2 = some ans → Wt G X j_X12_shared b_X12_shared 34 [(0, rf G.1 l0), (1, .int l1), (2, .int l2)] [] M 0 0 := by
  intro n
  induction n with
  | zero =>
    intro M l0 l1 l2 h
    rw [f_X12_shared_34] at h
    cases h
  | succ n ih =>
    intro M l0 l1 l2 h
    rw [f_X12_shared_34] at h
    refine wt_iload_n (pc := 34) 2 dX12_shared_34 rfl ?_
    refine wt_sipush (pc := 35) (v := 256) dX12_shared_35 (by decide) ?_
    refine wt_icmp_ge (pc := 38) (tgt := 62) dX12_shared_38 (by decide) (fun q => ?_) (fun q => ?_)
    · have h := ite_t q h
      refine wt_iconst (pc := 62) (v := 0) dX12_shared_62 (by decide) ?_
      refine wt_istore_n (pc := 63) (i := 2) (ls' := [(2, .int 0), (0, rf G.1 l0), (1, .int l1)]) rfl dX12_shared_63 (by decide) rfl ?_
      refine wt_sub (ls' := [(0, rf G.1 l0), (1, .int l1), (2, .int 0)]) [1, 2, 0] rfl ?_
      exact t_X12_shared_64 he  fu h
    · have h := ite_f q h
      refine wt_aload_n (pc := 41) 0 dX12_shared_41 rfl ?_
      refine wt_getR (pc := 42) dX12_shared_42 fl_X12_50 (fun _ _ _ => rfl) h (fun v42 h => ?_)
      refine wt_iload_n (pc := 45) 2 dX12_shared_45 rfl ?_
      refine wt_iload_n (pc := 46) 2 dX12_shared_46 rfl ?_
      refine wt_if_ne (pc := 47) (tgt := 54) dX12_shared_47 (by decide) (fun q => ?_) (fun q => ?_)
      · have h := ite_f q h
        refine wt_iconst (pc := 54) (v := 0) dX12_shared_54 (by decide) ?_
        exact t_X12_shared_55 he (fun _ _ _ _ h => ih h) h
      · have h := ite_t q h
        refine wt_iconst (pc := 50) (v := 1) dX12_shared_50 (by decide) ?_
        refine wt_goto (pc := 51) (tgt := 55) dX12_shared_51 (by decide) ?_
        exact t_X12_shared_55 he (fun _ _ _ _ h => ih h) h
set_option maxHeartbeats 4000000 in
set_option maxRecDepth 100000 in
theorem t_X12_shared_e {G : GG} {X : CX} {ans : Int32 × Mm} (he : EndI G X j_X12_shared b_X12_shared ans) {M : Mm} {l0 : Option Nat} {l1 : Int32} (h : f_X12_shared M l0 l1 = some ans) : Wt G X j_X12_shared b_X12_shared 0 [(0, rf G.1 l0), (1, .int l1)] [] M 0 0 := by
  unfold f_X12_shared at h
  refine wt_aload_n (pc := 0) 0 dX12_shared_0 rfl ?_
  refine wt_iconst (pc := 1) (v := 0) dX12_shared_1 (by decide) ?_
  refine wt_putI (pc := 2) dX12_shared_2 fl_X12_68 rfl rfl h (fun M2 h => ?_)
  refine wt_aload_n (pc := 5) 0 dX12_shared_5 rfl ?_
  refine wt_iconst (pc := 6) (v := 0) dX12_shared_6 (by decide) ?_
  refine wt_putI (pc := 7) dX12_shared_7 fl_X12_71 rfl rfl h (fun M7 h => ?_)
  refine wt_iload_n (pc := 10) 1 dX12_shared_10 rfl ?_
  refine wt_i2l (pc := 11) dX12_shared_11 ?_
  refine wt_lconst (pc := 12) (v := 0) dX12_shared_12 (by decide) ?_
  refine wt_ldc2 (pc := 13) dX12_shared_13 kc_X12_393 ?_
  refine wt_cSI (pc := 16) (J' := j_X12_isIn) (As := [.long (Int32.toInt64 l1), .long 0, .long 240]) (st := []) (B' := b_X12_isIn) (u' := 0) (w' := 0) dX12_shared_16 ml_X12_103 ms_X12_isIn (fun v9 M9 e9 => c_X12_isIn e9) rfl (by decide) rfl rfl (by decide) (by decide) (by decide) rfl h (fun v16 M16 h => ?_)
  refine wt_if_ne (pc := 19) (tgt := 28) dX12_shared_19 (by decide) (fun q => ?_) (fun q => ?_)
  · have h := ite_f q h
    refine wt_aload_n (pc := 28) 0 dX12_shared_28 rfl ?_
    refine wt_cVV (pc := 29) (J' := j_X12_fillAll) (As := []) (st := []) (B' := b_X12_fillAll) (u' := 0) (w' := 0) dX12_shared_29 ml_X12_451 mv_X12_fillAll (fun M9 e9 => c_X12_fillAll e9) rfl (by decide) rfl rfl (by decide) (by decide) (by decide) rfl h (fun M29 h => ?_)
    refine wt_iconst (pc := 32) (v := 0) dX12_shared_32 (by decide) ?_
    refine wt_istore_n (pc := 33) (i := 2) (ls' := [(2, .int 0), (0, rf G.1 l0), (1, .int l1)]) rfl dX12_shared_33 (by decide) rfl ?_
    refine wt_sub (ls' := [(0, rf G.1 l0), (1, .int l1), (2, .int 0)]) [1, 2, 0] rfl ?_
    exact t_X12_shared_34 he  fu h
  · have h := ite_t q h
    refine wt_aload_n (pc := 22) 0 dX12_shared_22 rfl ?_
    refine wt_iconst (pc := 23) (v := 5) dX12_shared_23 (by decide) ?_
    refine wt_cVI (pc := 24) (J' := j_X12_refuse) (As := [.int 5]) (st := []) (B' := b_X12_refuse) (u' := 0) (w' := 0) dX12_shared_24 ml_X12_331 mv_X12_refuse (fun v9 M9 e9 => c_X12_refuse e9) rfl (by decide) rfl rfl (by decide) (by decide) (by decide) rfl h (fun v24 M24 h => ?_)
    cases h
    exact he 27 _ _ _ dX12_shared_27 (by decide) (by decide)
set_option maxHeartbeats 4000000 in
set_option maxRecDepth 100000 in
theorem c_X12_shared {G : GG} {M : Mm} {l0 : Option Nat} {l1 : Int32} {r : Int32 × Mm} (h : f_X12_shared M l0 l1 = some r) (l : Launch) : Ct l G j_X12_shared b_X12_shared [rf G.1 l0, .int l1] M (some (.int r.1)) r.2 := cf_I (by decide +kernel) (by simp [lg_sl, rf_cat, cat_i, cat_l, j_X12_shared]) rfl (by simp [lv_args, rf_cat, cat_i, cat_l]) (fun X he => t_X12_shared_e he h)
def f_X12_allOff_68 (k48 : Mm → Option Nat → Int32 → Option (Int32 × Mm)) (k62 : Mm → Option Nat → Int32 → Int32 → Option (Int32 × Mm)) : Nat → Mm → Option Nat → Int32 → Int32 → Int32 → Option (Int32 × Mm)
  | 0, _, _, _, _, _ => none
  | n + 1, M, l0, l1, l2, l3 => if l3 ≤ 0 then (k62 M l0 l1 (l2 + (-1))) else (gfR M l0 12 29 fun v73 => gfR M l0 12 29 fun v78 => alI M v78 21 l2 fun v82 => gfR M l0 12 28 fun v84 => alI M v84 21 ((256 * l1) + l3) fun v94 => gfR M l0 12 29 fun v96 => alI M v96 21 (l2 &&& (l3 ^^^ (-1))) fun v104 => asI M v73 21 l2 (mnI v82 (mxI v94 v104)) fun M111 => nmI ((l3 - 1) &&& l2) fun x117 => f_X12_allOff_68 k48 k62 n M111 l0 l1 l2 x117)
def f_X12_allOff_62 (k48 : Mm → Option Nat → Int32 → Option (Int32 × Mm)) : Nat → Mm → Option Nat → Int32 → Int32 → Option (Int32 × Mm)
  | 0, _, _, _, _ => none
  | n + 1, M, l0, l1, l2 => if l2 ≤ 0 then (k48 M l0 (l1 + 1)) else (f_X12_allOff_68 k48 (f_X12_allOff_62 k48 n) fu M l0 l1 l2 l2)
def f_X12_allOff_48 : Nat → Mm → Option Nat → Int32 → Option (Int32 × Mm)
  | 0, _, _, _ => none
  | n + 1, M, l0, l1 => gfR M l0 12 20 fun v50 => alI M v50 21 1 fun v54 => if v54 ≤ l1 then (gfR M l0 12 29 fun v134 => ck M l0 12 <| bd (f_X12_onSet M l0) fun v138 M138 => alI M138 v134 21 v138 fun v141 => if v141 ≤ 999 then (gfR M138 l0 12 29 fun v158 => ck M138 l0 12 <| bd (f_X12_onSet M138 l0) fun v162 M162 => alI M162 v158 21 v162 fun v165 => some (v165, M162)) else (ck M138 l0 12 <| bd (f_X12_refuse M138 l0 8) fun v151 M151 => some (v151, M151))) else (f_X12_allOff_62 (f_X12_allOff_48 n) fu M l0 l1 255)
def f_X12_allOff_39 (k16 : Mm → Option Nat → Int32 → Option (Int32 × Mm)) (M : Mm) (l0 : Option Nat) (l1 : Int32) (s0 : Option Nat) (s1 : Int32) (s2 : Int32) : Option (Int32 × Mm) := asI M s0 21 s1 s2 fun M39 => k16 M39 l0 (l1 + 1)
def f_X12_allOff_16 : Nat → Mm → Option Nat → Int32 → Option (Int32 × Mm)
  | 0, _, _, _ => none
  | n + 1, M, l0, l1 => if 256 ≤ l1 then (f_X12_allOff_48  fu M l0 0) else (gfR M l0 12 29 fun v24 => if l1 = 0 then (f_X12_allOff_39 (f_X12_allOff_16 n) M l0 l1 v24 l1 0) else (f_X12_allOff_39 (f_X12_allOff_16 n) M l0 l1 v24 l1 99999))
def f_X12_allOff (M : Mm) (l0 : Option Nat) : Option (Int32 × Mm) := pfI M l0 12 1 0 fun M2 => pfI M2 l0 12 0 0 fun M7 => ck M7 l0 12 <| bv (f_X12_fillAll M7 l0) fun M11 => f_X12_allOff_16  fu M11 l0 0
set_option maxHeartbeats 4000000 in
set_option maxRecDepth 100000 in
theorem t_X12_allOff_68 {G : GG} {X : CX} {ans : Int32 × Mm} (he : EndI G X j_X12_allOff b_X12_allOff ans) {k48 : Mm → Option Nat → Int32 → Option (Int32 × Mm)} {k62 : Mm → Option Nat → Int32 → Int32 → Option (Int32 × Mm)} (hk48 : ∀ (M : Mm) (a0 : Option Nat) (a1 : Int32), k48 M a0 a1 = some ans → Wt G X j_X12_allOff b_X12_allOff 48 [(0, rf G.1 a0), (1, .int a1)] [] M 0 0) (hk62 : ∀ (M : Mm) (a0 : Option Nat) (a1 : Int32) (a2 : Int32), k62 M a0 a1 a2 = some ans → Wt G X j_X12_allOff b_X12_allOff 62 [(0, rf G.1 a0), (1, .int a1), (2, .int a2)] [] M 0 0) : ∀ (n : Nat) {M : Mm} {l0 : Option Nat} {l1 : Int32} {l2 : Int32} {l3 : Int32}, f_X12_allOff_68 k48 k62 n M l0 l1 l2 l3 = some ans → Wt G X j_X12_allOff b_X12_allOff 68 [(0, rf G.1 l0), (1, .int l1), (2, .int l2), (3, .int l3)] [] M 0 0 := by
  intro n
  induction n with
  | zero =>
    intro M l0 l1 l2 l3 h
    rw [f_X12_allOff_68] at h
    cases h
  | succ n ih =>
    intro M l0 l1 l2 l3 h
    rw [f_X12_allOff_68] at h
    refine wt_iload_n (pc := 68) 3 dX12_allOff_68 rfl ?_
    refine wt_if_le (pc := 69) (tgt := 121) dX12_allOff_69 (by decide) (fun q => ?_) (fun q => ?_)
    · have h := ite_t q h
      refine wt_iinc (pc := 121) (d := (-1)) (ls' := [(2, .int (l2 + (-1))), (0, rf G.1 l0), (1, .int l1), (3, .int l3)]) 2 dX12_allOff_121 rfl (by decide) (by decide) rfl ?_
      refine wt_goto (pc := 124) (tgt := 62) dX12_allOff_124 (by decide) ?_
      refine wt_sub (ls' := [(0, rf G.1 l0), (1, .int l1), (2, .int (l2 + (-1)))]) [1, 2, 0] rfl ?_
      exact hk62 _ _ _ _ h
    · have h := ite_f q h
      refine wt_aload_n (pc := 72) 0 dX12_allOff_72 rfl ?_
      refine wt_getR (pc := 73) dX12_allOff_73 fl_X12_50 (fun _ _ _ => rfl) h (fun v73 h => ?_)
      refine wt_iload_n (pc := 76) 2 dX12_allOff_76 rfl ?_
      refine wt_aload_n (pc := 77) 0 dX12_allOff_77 rfl ?_
      refine wt_getR (pc := 78) dX12_allOff_78 fl_X12_50 (fun _ _ _ => rfl) h (fun v78 h => ?_)
      refine wt_iload_n (pc := 81) 2 dX12_allOff_81 rfl ?_
      refine wt_iaload (pc := 82) (kd := 21) dX12_allOff_82 rfl rfl h (fun v82 h => ?_)
      refine wt_aload_n (pc := 83) 0 dX12_allOff_83 rfl ?_
      refine wt_getR (pc := 84) dX12_allOff_84 fl_X12_47 (fun _ _ _ => rfl) h (fun v84 h => ?_)
      refine wt_sipush (pc := 87) (v := 256) dX12_allOff_87 (by decide) ?_
      refine wt_iload_n (pc := 90) 1 dX12_allOff_90 rfl ?_
      refine wt_imul (pc := 91) dX12_allOff_91 ?_
      refine wt_iload_n (pc := 92) 3 dX12_allOff_92 rfl ?_
      refine wt_iadd (pc := 93) dX12_allOff_93 ?_
      refine wt_iaload (pc := 94) (kd := 21) dX12_allOff_94 rfl rfl h (fun v94 h => ?_)
      refine wt_aload_n (pc := 95) 0 dX12_allOff_95 rfl ?_
      refine wt_getR (pc := 96) dX12_allOff_96 fl_X12_50 (fun _ _ _ => rfl) h (fun v96 h => ?_)
      refine wt_iload_n (pc := 99) 2 dX12_allOff_99 rfl ?_
      refine wt_iload_n (pc := 100) 3 dX12_allOff_100 rfl ?_
      refine wt_iconst (pc := 101) (v := (-1)) dX12_allOff_101 (by decide) ?_
      refine wt_ixor (pc := 102) dX12_allOff_102 ?_
      refine wt_iand (pc := 103) dX12_allOff_103 ?_
      refine wt_iaload (pc := 104) (kd := 21) dX12_allOff_104 rfl rfl h (fun v104 h => ?_)
      refine wt_mmax (pc := 105) dX12_allOff_105 bi_X12_264 mw_max.1 mw_max.2.1 mw_max.2.2 (by decide) (by decide) (by decide) (by simp [rf_cat, cat_i, cat_l, cat_r]) ?_
      refine wt_mmin (pc := 108) dX12_allOff_108 bi_X12_387 mw_min.1 mw_min.2.1 mw_min.2.2 (by decide) (by decide) (by decide) (by simp [rf_cat, cat_i, cat_l, cat_r]) ?_
      refine wt_iastore (pc := 111) (kd := 21) dX12_allOff_111 rfl rfl h (fun M111 h => ?_)
      refine wt_iload_n (pc := 112) 3 dX12_allOff_112 rfl ?_
      refine wt_iconst (pc := 113) (v := 1) dX12_allOff_113 (by decide) ?_
      refine wt_isub (pc := 114) dX12_allOff_114 ?_
      refine wt_iload_n (pc := 115) 2 dX12_allOff_115 rfl ?_
      refine wt_iand (pc := 116) dX12_allOff_116 ?_
      refine wt_nmI h (fun x117 h => ?_)
      refine wt_istore_n (pc := 117) (i := 3) (ls' := [(3, .int x117), (0, rf G.1 l0), (1, .int l1), (2, .int l2)]) rfl dX12_allOff_117 (by decide) rfl ?_
      refine wt_goto (pc := 118) (tgt := 68) dX12_allOff_118 (by decide) ?_
      refine wt_sub (ls' := [(0, rf G.1 l0), (1, .int l1), (2, .int l2), (3, .int x117)]) [1, 2, 3, 0] rfl ?_
      exact ih h
set_option maxHeartbeats 4000000 in
set_option maxRecDepth 100000 in
theorem t_X12_allOff_62 {G : GG} {X : CX} {ans : Int32 × Mm} (he : EndI G X j_X12_allOff b_X12_allOff ans) {k48 : Mm → Option Nat → Int32 → Option (Int32 × Mm)} (hk48 : ∀ (M : Mm) (a0 : Option Nat) (a1 : Int32), k48 M a0 a1 = some ans → Wt G X j_X12_allOff b_X12_allOff 48 [(0, rf G.1 a0), (1, .int a1)] [] M 0 0) : ∀ (n : Nat) {M : Mm} {l0 : Option Nat} {l1 : Int32} {l2 : Int32}, f_X12_allOff_62 k48 n M l0 l1 l2 = some ans → Wt G X j_X12_allOff b_X12_allOff 62 [(0, rf G.1 l0), (1, .int l1), (2, .int l2)] [] M 0 0 := by
  intro n
  induction n with
  | zero =>
    intro M l0 l1 l2 h
    rw [f_X12_allOff_62] at h
    cases h
  | succ n ih =>
    intro M l0 l1 l2 h
    rw [f_X12_allOff_62] at h
    refine wt_iload_n (pc := 62) 2 dX12_allOff_62 rfl ?_
    refine wt_if_le (pc := 63) (tgt := 127) dX12_allOff_63 (by decide) (fun q => ?_) (fun q => ?_)
    · have h := ite_t q h
      refine wt_iinc (pc := 127) (d := 1) (ls' := [(1, .int (l1 + 1)), (0, rf G.1 l0), (2, .int l2)]) 1 dX12_allOff_127 rfl (by decide) (by decide) (by simp [rf_cat, cat_i, cat_l, cat_r]) ?_
      refine wt_goto (pc := 130) (tgt := 48) dX12_allOff_130 (by decide) ?_
      refine wt_sub (ls' := [(0, rf G.1 l0), (1, .int (l1 + 1))]) [1, 0] rfl ?_
      exact hk48 _ _ _ h
    · have h := ite_f q h
      refine wt_iload_n (pc := 66) 2 dX12_allOff_66 rfl ?_
      refine wt_istore_n (pc := 67) (i := 3) (ls' := [(3, .int l2), (0, rf G.1 l0), (1, .int l1), (2, .int l2)]) rfl dX12_allOff_67 (by decide) rfl ?_
      refine wt_sub (ls' := [(0, rf G.1 l0), (1, .int l1), (2, .int l2), (3, .int l2)]) [1, 2, 3, 0] rfl ?_
      exact t_X12_allOff_68 he (fun _ _ _ h => hk48 _ _ _ h) (fun _ _ _ _ h => ih h) fu h
set_option maxHeartbeats 4000000 in
set_option maxRecDepth 100000 in
theorem t_X12_allOff_48 {G : GG} {X : CX} {ans : Int32 × Mm} (he : EndI G X j_X12_allOff b_X12_allOff ans) : ∀ (n : Nat) {M : Mm} {l0 : Option Nat} {l1 : Int32}, f_X12_allOff_48 n M l0 l1 = some ans → Wt G X j_X12_allOff b_X12_allOff 48 [(0, rf G.1 l0), (1, .int l1)] [] M 0 0 := by
  intro n
  induction n with
  | zero =>
    intro M l0 l1 h
    rw [f_X12_allOff_48] at h
    cases h
  | succ n ih =>
    intro M l0 l1 h
    rw [f_X12_allOff_48] at h
    refine wt_iload_n (pc := 48) 1 dX12_allOff_48 rfl ?_
    refine wt_aload_n (pc := 49) 0 dX12_allOff_49 rfl ?_
    refine wt_getR (pc := 50) dX12_allOff_50 fl_X12_35 (fun _ _ _ => rfl) h (fun v50 h => ?_)
    refine wt_iconst (pc := 53) (v := 1) dX12_allOff_53 (by decide) ?_
    refine wt_iaload (pc := 54) (kd := 21) dX12_allOff_54 rfl rfl h (fun v54 h => ?_)
    refine wt_icmp_ge (pc := 55) (tgt := 133) dX12_allOff_55 (by decide) (fun q => ?_) (fun q => ?_)
    · have h := ite_t q h
      refine wt_aload_n (pc := 133) 0 dX12_allOff_133 rfl ?_
      refine wt_getR (pc := 134) dX12_allOff_134 fl_X12_50 (fun _ _ _ => rfl) h (fun v134 h => ?_)
      refine wt_aload_n (pc := 137) 0 dX12_allOff_137 rfl ?_
      refine wt_cVI (pc := 138) (J' := j_X12_onSet) (As := []) (st := [rf G.1 v134]) (B' := b_X12_onSet) (u' := 0) (w' := 0) dX12_allOff_138 ml_X12_431 mv_X12_onSet (fun v9 M9 e9 => c_X12_onSet e9) rfl (by decide) rfl rfl (by decide) (by decide) (by simp [rf_cat, cat_i, cat_l, cat_r]) rfl h (fun v138 M138 h => ?_)
      refine wt_iaload (pc := 141) (kd := 21) dX12_allOff_141 rfl rfl h (fun v141 h => ?_)
      refine wt_sipush (pc := 142) (v := 999) dX12_allOff_142 (by decide) ?_
      refine wt_icmp_le (pc := 145) (tgt := 157) dX12_allOff_145 (by decide) (fun q => ?_) (fun q => ?_)
      · have h := ite_t q h
        refine wt_aload_n (pc := 157) 0 dX12_allOff_157 rfl ?_
        refine wt_getR (pc := 158) dX12_allOff_158 fl_X12_50 (fun _ _ _ => rfl) h (fun v158 h => ?_)
        refine wt_aload_n (pc := 161) 0 dX12_allOff_161 rfl ?_
        refine wt_cVI (pc := 162) (J' := j_X12_onSet) (As := []) (st := [rf G.1 v158]) (B' := b_X12_onSet) (u' := 0) (w' := 0) dX12_allOff_162 ml_X12_431 mv_X12_onSet (fun v9 M9 e9 => c_X12_onSet e9) rfl (by decide) rfl rfl (by decide) (by decide) (by simp [rf_cat, cat_i, cat_l, cat_r]) rfl h (fun v162 M162 h => ?_)
        refine wt_iaload (pc := 165) (kd := 21) dX12_allOff_165 rfl rfl h (fun v165 h => ?_)
        cases h
        exact he 166 _ _ _ dX12_allOff_166 (by decide) (by decide)
      · have h := ite_f q h
        refine wt_aload_n (pc := 148) 0 dX12_allOff_148 rfl ?_
        refine wt_bipush (pc := 149) (v := 8) dX12_allOff_149 (by decide) ?_
        refine wt_cVI (pc := 151) (J' := j_X12_refuse) (As := [.int 8]) (st := []) (B' := b_X12_refuse) (u' := 0) (w' := 0) dX12_allOff_151 ml_X12_331 mv_X12_refuse (fun v9 M9 e9 => c_X12_refuse e9) rfl (by decide) rfl rfl (by decide) (by decide) (by decide) rfl h (fun v151 M151 h => ?_)
        refine wt_goto (pc := 154) (tgt := 166) dX12_allOff_154 (by decide) ?_
        cases h
        exact he 166 _ _ _ dX12_allOff_166 (by decide) (by decide)
    · have h := ite_f q h
      refine wt_sipush (pc := 58) (v := 255) dX12_allOff_58 (by decide) ?_
      refine wt_istore_n (pc := 61) (i := 2) (ls' := [(2, .int 255), (0, rf G.1 l0), (1, .int l1)]) rfl dX12_allOff_61 (by decide) rfl ?_
      refine wt_sub (ls' := [(0, rf G.1 l0), (1, .int l1), (2, .int 255)]) [1, 2, 0] rfl ?_
      exact t_X12_allOff_62 he (fun _ _ _ h => ih h) fu h
set_option maxHeartbeats 4000000 in
set_option maxRecDepth 100000 in
theorem t_X12_allOff_39 {G : GG} {X : CX} {ans : Int32 × Mm} (he : EndI G X j_X12_allOff b_X12_allOff ans) {k16 : Mm → Option Nat → Int32 → Option (Int32 × Mm)} (hk16 : ∀ (M : Mm) (a0 : Option Nat) (a1 : Int32), k16 M a0 a1 = some ans → Wt G X j_X12_allOff b_X12_allOff 16 [(0, rf G.1 a0), (1, .int a1)] [] M 0 0) {M : Mm} {l0 : Option Nat} {l1 : Int32} {s0 : Option Nat} {s1 : Int32} {s2 : Int32} (h : f_X12_allOff_39 k16 M l0 l1 s0 s1 s2 = some ans) : Wt G X j_X12_allOff b_X12_allOff 39 [(0, rf G.1 l0), (1, .int l1)] [.int s2, .int s1, rf G.1 s0] M 0 0 := by
  unfold f_X12_allOff_39 at h
  refine wt_iastore (pc := 39) (kd := 21) dX12_allOff_39 rfl rfl h (fun M39 h => ?_)
  refine wt_iinc (pc := 40) (d := 1) (ls' := [(1, .int (l1 + 1)), (0, rf G.1 l0)]) 1 dX12_allOff_40 rfl (by decide) (by decide) (by simp [rf_cat, cat_i, cat_l, cat_r]) ?_
  refine wt_goto (pc := 43) (tgt := 16) dX12_allOff_43 (by decide) ?_
  refine wt_sub (ls' := [(0, rf G.1 l0), (1, .int (l1 + 1))]) [1, 0] rfl ?_
  exact hk16 _ _ _ h
set_option maxHeartbeats 4000000 in
set_option maxRecDepth 100000 in
theorem t_X12_allOff_16 {G : GG} {X : CX} {ans : Int32 × Mm} (he : EndI G X j_X12_allOff b_X12_allOff ans) : ∀ (n : Nat) {M : Mm} {l0 : Option Nat} {l1 : Int32}, f_X12_allOff_16 n M l0 l1 = some ans → Wt G X j_X12_allOff b_X12_allOff 16 [(0, rf G.1 l0), (1, .int l1)] [] M 0 0 := by
  intro n
  induction n with
  | zero =>
    intro M l0 l1 h
    rw [f_X12_allOff_16] at h
    cases h
  | succ n ih =>
    intro M l0 l1 h
    rw [f_X12_allOff_16] at h
    refine wt_iload_n (pc := 16) 1 dX12_allOff_16 rfl ?_
    refine wt_sipush (pc := 17) (v := 256) dX12_allOff_17 (by decide) ?_
    refine wt_icmp_ge (pc := 20) (tgt := 46) dX12_allOff_20 (by decide) (fun q => ?_) (fun q => ?_)
    · have h := ite_t q h
      refine wt_iconst (pc := 46) (v := 0) dX12_allOff_46 (by decide) ?_
      refine wt_istore_n (pc := 47) (i := 1) (ls' := [(1, .int 0), (0, rf G.1 l0)]) rfl dX12_allOff_47 (by decide) (by simp [rf_cat, cat_i, cat_l, cat_r]) ?_
      refine wt_sub (ls' := [(0, rf G.1 l0), (1, .int 0)]) [1, 0] rfl ?_
      exact t_X12_allOff_48 he  fu h
    · have h := ite_f q h
      refine wt_aload_n (pc := 23) 0 dX12_allOff_23 rfl ?_
      refine wt_getR (pc := 24) dX12_allOff_24 fl_X12_50 (fun _ _ _ => rfl) h (fun v24 h => ?_)
      refine wt_iload_n (pc := 27) 1 dX12_allOff_27 rfl ?_
      refine wt_iload_n (pc := 28) 1 dX12_allOff_28 rfl ?_
      refine wt_if_ne (pc := 29) (tgt := 36) dX12_allOff_29 (by decide) (fun q => ?_) (fun q => ?_)
      · have h := ite_f q h
        refine wt_ldcw (pc := 36) dX12_allOff_36 kc_X12_434 ?_
        exact t_X12_allOff_39 he (fun _ _ _ h => ih h) h
      · have h := ite_t q h
        refine wt_iconst (pc := 32) (v := 0) dX12_allOff_32 (by decide) ?_
        refine wt_goto (pc := 33) (tgt := 39) dX12_allOff_33 (by decide) ?_
        exact t_X12_allOff_39 he (fun _ _ _ h => ih h) h
set_option maxHeartbeats 4000000 in
set_option maxRecDepth 100000 in
theorem t_X12_allOff_e {G : GG} {X : CX} {ans : Int32 × Mm} (he : EndI G X j_X12_allOff b_X12_allOff ans) {M : Mm} {l0 : Option Nat} (h : f_X12_allOff M l0 = some ans) : Wt G X j_X12_allOff b_X12_allOff 0 [(0, rf G.1 l0)] [] M 0 0 := by
  unfold f_X12_allOff at h
  refine wt_aload_n (pc := 0) 0 dX12_allOff_0 rfl ?_
  refine wt_iconst (pc := 1) (v := 0) dX12_allOff_1 (by decide) ?_
  refine wt_putI (pc := 2) dX12_allOff_2 fl_X12_68 rfl rfl h (fun M2 h => ?_)
  refine wt_aload_n (pc := 5) 0 dX12_allOff_5 rfl ?_
  refine wt_iconst (pc := 6) (v := 0) dX12_allOff_6 (by decide) ?_
  refine wt_putI (pc := 7) dX12_allOff_7 fl_X12_71 rfl rfl h (fun M7 h => ?_)
  refine wt_aload_n (pc := 10) 0 dX12_allOff_10 rfl ?_
  refine wt_cVV (pc := 11) (J' := j_X12_fillAll) (As := []) (st := []) (B' := b_X12_fillAll) (u' := 0) (w' := 0) dX12_allOff_11 ml_X12_451 mv_X12_fillAll (fun M9 e9 => c_X12_fillAll e9) rfl (by decide) rfl rfl (by decide) (by decide) (by decide) rfl h (fun M11 h => ?_)
  refine wt_iconst (pc := 14) (v := 0) dX12_allOff_14 (by decide) ?_
  refine wt_istore_n (pc := 15) (i := 1) (ls' := [(1, .int 0), (0, rf G.1 l0)]) rfl dX12_allOff_15 (by decide) (by simp [rf_cat, cat_i, cat_l, cat_r]) ?_
  refine wt_sub (ls' := [(0, rf G.1 l0), (1, .int 0)]) [1, 0] rfl ?_
  exact t_X12_allOff_16 he  fu h
set_option maxHeartbeats 4000000 in
set_option maxRecDepth 100000 in
theorem c_X12_allOff {G : GG} {M : Mm} {l0 : Option Nat} {r : Int32 × Mm} (h : f_X12_allOff M l0 = some r) (l : Launch) : Ct l G j_X12_allOff b_X12_allOff [rf G.1 l0] M (some (.int r.1)) r.2 := cf_I (by decide +kernel) (by simp [lg_sl, rf_cat, cat_i, cat_l, j_X12_allOff]) rfl (by simp [lv_args, rf_cat, cat_i, cat_l]) (fun X he => t_X12_allOff_e he h)
def f_X12_whyNoScore_77 : Nat → Mm → Option Nat → Int32 → Int32 → Int32 → Int32 → Option (Int32 × Mm)
  | 0, _, _, _, _, _, _ => none
  | n + 1, M, l0, l1, l2, l3, l4 => if l3 ≤ l4 then (some (0, M)) else (ck M l0 12 <| bd (f_X12_numberOf M l0 l1 l4) fun v87 M87 => bd (f_X12_isIn M87 v87 0 100) fun v94 M94 => if v94 = 0 then (some (5, M94)) else (ck M94 l0 12 <| bd (f_X12_numberOf M94 l0 l2 l4) fun v104 M104 => bd (f_X12_isIn M104 v104 0 1) fun v109 M109 => if v109 = 0 then (some (5, M109)) else (f_X12_whyNoScore_77 n M109 l0 l1 l2 l3 (l4 + 1))))
def f_X12_whyNoScore (M : Mm) (l0 : Option Nat) (l1 : Int32) (l2 : Int32) (l3 : Int32) : Option (Int32 × Mm) := ck M l0 12 <| bd (f_X12_isTray M l0 l1) fun v2 M2 => if v2 = 0 then (some (1, M2)) else (ck M2 l0 12 <| bd (f_X12_isTray M2 l0 l2) fun v10 M10 => if v10 = 0 then (some (1, M10)) else (gfR M10 l0 12 5 fun v19 => alI M10 v19 21 l1 fun v23 => if v23 < 0 then (some (3, M10)) else (gfR M10 l0 12 5 fun v28 => alI M10 v28 21 l2 fun v32 => if 0 ≤ v32 then (gfR M10 l0 12 5 fun v39 => alI M10 v39 21 l1 fun v43 => if v43 < l3 then (some (4, M10)) else (gfR M10 l0 12 5 fun v49 => alI M10 v49 21 l2 fun v53 => if l3 ≤ v53 then (bd (f_X12_isIn M10 (Int32.toInt64 l3) 1 60) fun v66 M66 => if v66 = 0 then (some (5, M66)) else (f_X12_whyNoScore_77  fu M66 l0 l1 l2 l3 0)) else (some (4, M10)))) else (some (3, M10)))))
set_option maxHeartbeats 4000000 in
set_option maxRecDepth 100000 in
theorem t_X12_whyNoScore_77 {G : GG} {X : CX} {ans : Int32 × Mm} (he : EndI G X j_X12_whyNoScore b_X12_whyNoScore ans) : ∀ (n : Nat) {M : Mm} {l0 : Option Nat} {l1 : Int32} {l2 : Int32} {l3 : Int32} {l4 : Int32}, f_X12_whyNoScore_77 n M l0 l1 l2 l3 l4 = some ans → Wt G X j_X12_whyNoScore b_X12_whyNoScore 77 [(0, rf G.1 l0), (1, .int l1), (2, .int l2), (3, .int l3), (4, .int l4)] [] M 0 0 := by
  intro n
  induction n with
  | zero =>
    intro M l0 l1 l2 l3 l4 h
    rw [f_X12_whyNoScore_77] at h
    cases h
  | succ n ih =>
    intro M l0 l1 l2 l3 l4 h
    rw [f_X12_whyNoScore_77] at h
    refine wt_iload (pc := 77) 4 dX12_whyNoScore_77 rfl ?_
    refine wt_iload_n (pc := 79) 3 dX12_whyNoScore_79 rfl ?_
    refine wt_icmp_ge (pc := 80) (tgt := 123) dX12_whyNoScore_80 (by decide) (fun q => ?_) (fun q => ?_)
    · have h := ite_t q h
      refine wt_iconst (pc := 123) (v := 0) dX12_whyNoScore_123 (by decide) ?_
      cases h
      exact he 124 _ _ _ dX12_whyNoScore_124 (by decide) (by decide)
    · have h := ite_f q h
      refine wt_aload_n (pc := 83) 0 dX12_whyNoScore_83 rfl ?_
      refine wt_iload_n (pc := 84) 1 dX12_whyNoScore_84 rfl ?_
      refine wt_iload (pc := 85) 4 dX12_whyNoScore_85 rfl ?_
      refine wt_cVL (pc := 87) (J' := j_X12_numberOf) (As := [.int l1, .int l4]) (st := []) (B' := b_X12_numberOf) (u' := 0) (w' := 0) dX12_whyNoScore_87 ml_X12_459 mv_X12_numberOf (fun v9 M9 e9 => c_X12_numberOf e9) rfl (by decide) rfl rfl (by decide) (by decide) (by decide) rfl h (fun v87 M87 h => ?_)
      refine wt_lconst (pc := 90) (v := 0) dX12_whyNoScore_90 (by decide) ?_
      refine wt_ldc2 (pc := 91) dX12_whyNoScore_91 kc_X12_463 ?_
      refine wt_cSI (pc := 94) (J' := j_X12_isIn) (As := [.long v87, .long 0, .long 100]) (st := []) (B' := b_X12_isIn) (u' := 0) (w' := 0) dX12_whyNoScore_94 ml_X12_103 ms_X12_isIn (fun v9 M9 e9 => c_X12_isIn e9) rfl (by decide) rfl rfl (by decide) (by decide) (by decide) rfl h (fun v94 M94 h => ?_)
      refine wt_if_eq (pc := 97) (tgt := 115) dX12_whyNoScore_97 (by decide) (fun q => ?_) (fun q => ?_)
      · have h := ite_t q h
        refine wt_iconst (pc := 115) (v := 5) dX12_whyNoScore_115 (by decide) ?_
        cases h
        exact he 116 _ _ _ dX12_whyNoScore_116 (by decide) (by decide)
      · have h := ite_f q h
        refine wt_aload_n (pc := 100) 0 dX12_whyNoScore_100 rfl ?_
        refine wt_iload_n (pc := 101) 2 dX12_whyNoScore_101 rfl ?_
        refine wt_iload (pc := 102) 4 dX12_whyNoScore_102 rfl ?_
        refine wt_cVL (pc := 104) (J' := j_X12_numberOf) (As := [.int l2, .int l4]) (st := []) (B' := b_X12_numberOf) (u' := 0) (w' := 0) dX12_whyNoScore_104 ml_X12_459 mv_X12_numberOf (fun v9 M9 e9 => c_X12_numberOf e9) rfl (by decide) rfl rfl (by decide) (by decide) (by decide) rfl h (fun v104 M104 h => ?_)
        refine wt_lconst (pc := 107) (v := 0) dX12_whyNoScore_107 (by decide) ?_
        refine wt_lconst (pc := 108) (v := 1) dX12_whyNoScore_108 (by decide) ?_
        refine wt_cSI (pc := 109) (J' := j_X12_isIn) (As := [.long v104, .long 0, .long 1]) (st := []) (B' := b_X12_isIn) (u' := 0) (w' := 0) dX12_whyNoScore_109 ml_X12_103 ms_X12_isIn (fun v9 M9 e9 => c_X12_isIn e9) rfl (by decide) rfl rfl (by decide) (by decide) (by decide) rfl h (fun v109 M109 h => ?_)
        refine wt_if_ne (pc := 112) (tgt := 117) dX12_whyNoScore_112 (by decide) (fun q => ?_) (fun q => ?_)
        · have h := ite_f q h
          refine wt_iinc (pc := 117) (d := 1) (ls' := [(4, .int (l4 + 1)), (0, rf G.1 l0), (1, .int l1), (2, .int l2), (3, .int l3)]) 4 dX12_whyNoScore_117 rfl (by decide) (by decide) rfl ?_
          refine wt_goto (pc := 120) (tgt := 77) dX12_whyNoScore_120 (by decide) ?_
          refine wt_sub (ls' := [(0, rf G.1 l0), (1, .int l1), (2, .int l2), (3, .int l3), (4, .int (l4 + 1))]) [1, 2, 3, 4, 0] rfl ?_
          exact ih h
        · have h := ite_t q h
          refine wt_iconst (pc := 115) (v := 5) dX12_whyNoScore_115 (by decide) ?_
          cases h
          exact he 116 _ _ _ dX12_whyNoScore_116 (by decide) (by decide)
set_option maxHeartbeats 4000000 in
set_option maxRecDepth 100000 in
theorem t_X12_whyNoScore_e {G : GG} {X : CX} {ans : Int32 × Mm} (he : EndI G X j_X12_whyNoScore b_X12_whyNoScore ans) {M : Mm} {l0 : Option Nat} {l1 : Int32} {l2 : Int32} {l3 : Int32} (h : f_X12_whyNoScore M l0 l1 l2 l3 = some ans) : Wt G X j_X12_whyNoScore b_X12_whyNoScore 0 [(0, rf G.1 l0), (1, .int l1), (2, .int l2), (3, .int l3)] [] M 0 0 := by
  unfold f_X12_whyNoScore at h
  refine wt_aload_n (pc := 0) 0 dX12_whyNoScore_0 rfl ?_
  refine wt_iload_n (pc := 1) 1 dX12_whyNoScore_1 rfl ?_
  refine wt_cVI (pc := 2) (J' := j_X12_isTray) (As := [.int l1]) (st := []) (B' := b_X12_isTray) (u' := 0) (w' := 0) dX12_whyNoScore_2 ml_X12_454 mv_X12_isTray (fun v9 M9 e9 => c_X12_isTray e9) rfl (by decide) rfl rfl (by decide) (by decide) (by decide) rfl h (fun v2 M2 h => ?_)
  refine wt_if_eq (pc := 5) (tgt := 16) dX12_whyNoScore_5 (by decide) (fun q => ?_) (fun q => ?_)
  · have h := ite_t q h
    refine wt_iconst (pc := 16) (v := 1) dX12_whyNoScore_16 (by decide) ?_
    cases h
    exact he 17 _ _ _ dX12_whyNoScore_17 (by decide) (by decide)
  · have h := ite_f q h
    refine wt_aload_n (pc := 8) 0 dX12_whyNoScore_8 rfl ?_
    refine wt_iload_n (pc := 9) 2 dX12_whyNoScore_9 rfl ?_
    refine wt_cVI (pc := 10) (J' := j_X12_isTray) (As := [.int l2]) (st := []) (B' := b_X12_isTray) (u' := 0) (w' := 0) dX12_whyNoScore_10 ml_X12_454 mv_X12_isTray (fun v9 M9 e9 => c_X12_isTray e9) rfl (by decide) rfl rfl (by decide) (by decide) (by decide) rfl h (fun v10 M10 h => ?_)
    refine wt_if_ne (pc := 13) (tgt := 18) dX12_whyNoScore_13 (by decide) (fun q => ?_) (fun q => ?_)
    · have h := ite_f q h
      refine wt_aload_n (pc := 18) 0 dX12_whyNoScore_18 rfl ?_
      refine wt_getR (pc := 19) dX12_whyNoScore_19 fl_X12_17 (fun _ _ _ => rfl) h (fun v19 h => ?_)
      refine wt_iload_n (pc := 22) 1 dX12_whyNoScore_22 rfl ?_
      refine wt_iaload (pc := 23) (kd := 21) dX12_whyNoScore_23 rfl rfl h (fun v23 h => ?_)
      refine wt_if_lt (pc := 24) (tgt := 36) dX12_whyNoScore_24 (by decide) (fun q => ?_) (fun q => ?_)
      · have h := ite_t q h
        refine wt_iconst (pc := 36) (v := 3) dX12_whyNoScore_36 (by decide) ?_
        cases h
        exact he 37 _ _ _ dX12_whyNoScore_37 (by decide) (by decide)
      · have h := ite_f q h
        refine wt_aload_n (pc := 27) 0 dX12_whyNoScore_27 rfl ?_
        refine wt_getR (pc := 28) dX12_whyNoScore_28 fl_X12_17 (fun _ _ _ => rfl) h (fun v28 h => ?_)
        refine wt_iload_n (pc := 31) 2 dX12_whyNoScore_31 rfl ?_
        refine wt_iaload (pc := 32) (kd := 21) dX12_whyNoScore_32 rfl rfl h (fun v32 h => ?_)
        refine wt_if_ge (pc := 33) (tgt := 38) dX12_whyNoScore_33 (by decide) (fun q => ?_) (fun q => ?_)
        · have h := ite_t q h
          refine wt_aload_n (pc := 38) 0 dX12_whyNoScore_38 rfl ?_
          refine wt_getR (pc := 39) dX12_whyNoScore_39 fl_X12_17 (fun _ _ _ => rfl) h (fun v39 h => ?_)
          refine wt_iload_n (pc := 42) 1 dX12_whyNoScore_42 rfl ?_
          refine wt_iaload (pc := 43) (kd := 21) dX12_whyNoScore_43 rfl rfl h (fun v43 h => ?_)
          refine wt_iload_n (pc := 44) 3 dX12_whyNoScore_44 rfl ?_
          refine wt_icmp_lt (pc := 45) (tgt := 58) dX12_whyNoScore_45 (by decide) (fun q => ?_) (fun q => ?_)
          · have h := ite_t q h
            refine wt_iconst (pc := 58) (v := 4) dX12_whyNoScore_58 (by decide) ?_
            cases h
            exact he 59 _ _ _ dX12_whyNoScore_59 (by decide) (by decide)
          · have h := ite_f q h
            refine wt_aload_n (pc := 48) 0 dX12_whyNoScore_48 rfl ?_
            refine wt_getR (pc := 49) dX12_whyNoScore_49 fl_X12_17 (fun _ _ _ => rfl) h (fun v49 h => ?_)
            refine wt_iload_n (pc := 52) 2 dX12_whyNoScore_52 rfl ?_
            refine wt_iaload (pc := 53) (kd := 21) dX12_whyNoScore_53 rfl rfl h (fun v53 h => ?_)
            refine wt_iload_n (pc := 54) 3 dX12_whyNoScore_54 rfl ?_
            refine wt_icmp_ge (pc := 55) (tgt := 60) dX12_whyNoScore_55 (by decide) (fun q => ?_) (fun q => ?_)
            · have h := ite_t q h
              refine wt_iload_n (pc := 60) 3 dX12_whyNoScore_60 rfl ?_
              refine wt_i2l (pc := 61) dX12_whyNoScore_61 ?_
              refine wt_lconst (pc := 62) (v := 1) dX12_whyNoScore_62 (by decide) ?_
              refine wt_ldc2 (pc := 63) dX12_whyNoScore_63 kc_X12_457 ?_
              refine wt_cSI (pc := 66) (J' := j_X12_isIn) (As := [.long (Int32.toInt64 l3), .long 1, .long 60]) (st := []) (B' := b_X12_isIn) (u' := 0) (w' := 0) dX12_whyNoScore_66 ml_X12_103 ms_X12_isIn (fun v9 M9 e9 => c_X12_isIn e9) rfl (by decide) rfl rfl (by decide) (by decide) (by decide) rfl h (fun v66 M66 h => ?_)
              refine wt_if_ne (pc := 69) (tgt := 74) dX12_whyNoScore_69 (by decide) (fun q => ?_) (fun q => ?_)
              · have h := ite_f q h
                refine wt_iconst (pc := 74) (v := 0) dX12_whyNoScore_74 (by decide) ?_
                refine wt_istore (pc := 75) (i := 4) (ls' := [(4, .int 0), (0, rf G.1 l0), (1, .int l1), (2, .int l2), (3, .int l3)]) dX12_whyNoScore_75 (by decide) rfl ?_
                refine wt_sub (ls' := [(0, rf G.1 l0), (1, .int l1), (2, .int l2), (3, .int l3), (4, .int 0)]) [1, 2, 3, 4, 0] rfl ?_
                exact t_X12_whyNoScore_77 he  fu h
              · have h := ite_t q h
                refine wt_iconst (pc := 72) (v := 5) dX12_whyNoScore_72 (by decide) ?_
                cases h
                exact he 73 _ _ _ dX12_whyNoScore_73 (by decide) (by decide)
            · have h := ite_f q h
              refine wt_iconst (pc := 58) (v := 4) dX12_whyNoScore_58 (by decide) ?_
              cases h
              exact he 59 _ _ _ dX12_whyNoScore_59 (by decide) (by decide)
        · have h := ite_f q h
          refine wt_iconst (pc := 36) (v := 3) dX12_whyNoScore_36 (by decide) ?_
          cases h
          exact he 37 _ _ _ dX12_whyNoScore_37 (by decide) (by decide)
    · have h := ite_t q h
      refine wt_iconst (pc := 16) (v := 1) dX12_whyNoScore_16 (by decide) ?_
      cases h
      exact he 17 _ _ _ dX12_whyNoScore_17 (by decide) (by decide)
set_option maxHeartbeats 4000000 in
set_option maxRecDepth 100000 in
theorem c_X12_whyNoScore {G : GG} {M : Mm} {l0 : Option Nat} {l1 : Int32} {l2 : Int32} {l3 : Int32} {r : Int32 × Mm} (h : f_X12_whyNoScore M l0 l1 l2 l3 = some r) (l : Launch) : Ct l G j_X12_whyNoScore b_X12_whyNoScore [rf G.1 l0, .int l1, .int l2, .int l3] M (some (.int r.1)) r.2 := cf_I (by decide +kernel) (by simp [lg_sl, rf_cat, cat_i, cat_l, j_X12_whyNoScore]) rfl (by simp [lv_args, rf_cat, cat_i, cat_l]) (fun X he => t_X12_whyNoScore_e he h)
def f_X12_square (M : Mm) (l0 : Int32) : Option (Int32 × Mm) := some ((l0 * l0), M)
set_option maxHeartbeats 4000000 in
set_option maxRecDepth 100000 in
theorem t_X12_square_e {G : GG} {X : CX} {ans : Int32 × Mm} (he : EndI G X j_X12_square b_X12_square ans) {M : Mm} {l0 : Int32} (h : f_X12_square M l0 = some ans) : Wt G X j_X12_square b_X12_square 0 [(0, .int l0)] [] M 0 0 := by
  unfold f_X12_square at h
  refine wt_iload_n (pc := 0) 0 dX12_square_0 rfl ?_
  refine wt_iload_n (pc := 1) 0 dX12_square_1 rfl ?_
  refine wt_imul (pc := 2) dX12_square_2 ?_
  cases h
  exact he 3 _ _ _ dX12_square_3 (by decide) (by decide)
set_option maxHeartbeats 4000000 in
set_option maxRecDepth 100000 in
theorem c_X12_square {G : GG} {M : Mm} {l0 : Int32} {r : Int32 × Mm} (h : f_X12_square M l0 = some r) (l : Launch) : Ct l G j_X12_square b_X12_square [.int l0] M (some (.int r.1)) r.2 := cf_I (by decide +kernel) (by simp [lg_sl, rf_cat, cat_i, cat_l, j_X12_square]) rfl (by simp [lv_args, rf_cat, cat_i, cat_l]) (fun X he => t_X12_square_e he h)
def f_X12_scoreOf_6 : Nat → Mm → Option Nat → Int32 → Int32 → Int32 → Int32 → Int32 → Option (Int32 × Mm)
  | 0, _, _, _, _, _, _, _ => none
  | n + 1, M, l0, l1, l2, l3, l4, l5 => if l3 ≤ l5 then (some (l4, M)) else (ck M l0 12 <| bd (f_X12_numberOf M l0 l1 l5) fun v18 M18 => ck M18 l0 12 <| bd (f_X12_numberOf M18 l0 l2 l5) fun v28 M28 => bd (f_X12_square M28 (Int64.toInt32 (v18 - (100 * v28)))) fun v34 M34 => nmI (l4 + v34) fun x38 => f_X12_scoreOf_6 n M34 l0 l1 l2 l3 x38 (l5 + 1))
def f_X12_scoreOf (M : Mm) (l0 : Option Nat) (l1 : Int32) (l2 : Int32) (l3 : Int32) : Option (Int32 × Mm) := f_X12_scoreOf_6  fu M l0 l1 l2 l3 0 0
set_option maxHeartbeats 4000000 in
set_option maxRecDepth 100000 in
theorem t_X12_scoreOf_6 {G : GG} {X : CX} {ans : Int32 × Mm} (he : EndI G X j_X12_scoreOf b_X12_scoreOf ans) : ∀ (n : Nat) {M : Mm} {l0 : Option Nat} {l1 : Int32} {l2 : Int32} {l3 : Int32} {l4 : Int32} {l5 : Int32}, f_X12_scoreOf_6 n M l0 l1 l2 l3 l4 l5 = some ans → Wt G X j_X12_scoreOf b_X12_scoreOf 6 [(0, rf G.1 l0), (1, .int l1), (2, .int l2), (3, .int l3), (4, .int l4), (5, .int l5)] [] M 0 0 := by
  intro n
  induction n with
  | zero =>
    intro M l0 l1 l2 l3 l4 l5 h
    rw [f_X12_scoreOf_6] at h
    cases h
  | succ n ih =>
    intro M l0 l1 l2 l3 l4 l5 h
    rw [f_X12_scoreOf_6] at h
    refine wt_iload (pc := 6) 5 dX12_scoreOf_6 rfl ?_
    refine wt_iload_n (pc := 8) 3 dX12_scoreOf_8 rfl ?_
    refine wt_icmp_ge (pc := 9) (tgt := 46) dX12_scoreOf_9 (by decide) (fun q => ?_) (fun q => ?_)
    · have h := ite_t q h
      refine wt_iload (pc := 46) 4 dX12_scoreOf_46 rfl ?_
      cases h
      exact he 48 _ _ _ dX12_scoreOf_48 (by decide) (by decide)
    · have h := ite_f q h
      refine wt_iload (pc := 12) 4 dX12_scoreOf_12 rfl ?_
      refine wt_aload_n (pc := 14) 0 dX12_scoreOf_14 rfl ?_
      refine wt_iload_n (pc := 15) 1 dX12_scoreOf_15 rfl ?_
      refine wt_iload (pc := 16) 5 dX12_scoreOf_16 rfl ?_
      refine wt_cVL (pc := 18) (J' := j_X12_numberOf) (As := [.int l1, .int l5]) (st := [.int l4]) (B' := b_X12_numberOf) (u' := 0) (w' := 0) dX12_scoreOf_18 ml_X12_459 mv_X12_numberOf (fun v9 M9 e9 => c_X12_numberOf e9) rfl (by decide) rfl rfl (by decide) (by decide) (by simp [rf_cat, cat_i, cat_l, cat_r]) rfl h (fun v18 M18 h => ?_)
      refine wt_ldc2 (pc := 21) dX12_scoreOf_21 kc_X12_463 ?_
      refine wt_aload_n (pc := 24) 0 dX12_scoreOf_24 rfl ?_
      refine wt_iload_n (pc := 25) 2 dX12_scoreOf_25 rfl ?_
      refine wt_iload (pc := 26) 5 dX12_scoreOf_26 rfl ?_
      refine wt_cVL (pc := 28) (J' := j_X12_numberOf) (As := [.int l2, .int l5]) (st := [.long 100, .long v18, .int l4]) (B' := b_X12_numberOf) (u' := 0) (w' := 0) dX12_scoreOf_28 ml_X12_459 mv_X12_numberOf (fun v9 M9 e9 => c_X12_numberOf e9) rfl (by decide) rfl rfl (by decide) (by decide) (by simp [rf_cat, cat_i, cat_l, cat_r]) rfl h (fun v28 M28 h => ?_)
      refine wt_lmul (pc := 31) dX12_scoreOf_31 ?_
      refine wt_lsub (pc := 32) dX12_scoreOf_32 ?_
      refine wt_l2i (pc := 33) dX12_scoreOf_33 ?_
      refine wt_cSI (pc := 34) (J' := j_X12_square) (As := [.int (Int64.toInt32 (v18 - (100 * v28)))]) (st := [.int l4]) (B' := b_X12_square) (u' := 0) (w' := 0) dX12_scoreOf_34 ml_X12_465 ms_X12_square (fun v9 M9 e9 => c_X12_square e9) rfl (by decide) rfl rfl (by decide) (by decide) (by simp [rf_cat, cat_i, cat_l, cat_r]) rfl h (fun v34 M34 h => ?_)
      refine wt_iadd (pc := 37) dX12_scoreOf_37 ?_
      refine wt_nmI h (fun x38 h => ?_)
      refine wt_istore (pc := 38) (i := 4) (ls' := [(4, .int x38), (0, rf G.1 l0), (1, .int l1), (2, .int l2), (3, .int l3), (5, .int l5)]) dX12_scoreOf_38 (by decide) rfl ?_
      refine wt_iinc (pc := 40) (d := 1) (ls' := [(5, .int (l5 + 1)), (4, .int x38), (0, rf G.1 l0), (1, .int l1), (2, .int l2), (3, .int l3)]) 5 dX12_scoreOf_40 rfl (by decide) (by decide) rfl ?_
      refine wt_goto (pc := 43) (tgt := 6) dX12_scoreOf_43 (by decide) ?_
      refine wt_sub (ls' := [(0, rf G.1 l0), (1, .int l1), (2, .int l2), (3, .int l3), (4, .int x38), (5, .int (l5 + 1))]) [2, 3, 4, 5, 1, 0] rfl ?_
      exact ih h
set_option maxHeartbeats 4000000 in
set_option maxRecDepth 100000 in
theorem t_X12_scoreOf_e {G : GG} {X : CX} {ans : Int32 × Mm} (he : EndI G X j_X12_scoreOf b_X12_scoreOf ans) {M : Mm} {l0 : Option Nat} {l1 : Int32} {l2 : Int32} {l3 : Int32} (h : f_X12_scoreOf M l0 l1 l2 l3 = some ans) : Wt G X j_X12_scoreOf b_X12_scoreOf 0 [(0, rf G.1 l0), (1, .int l1), (2, .int l2), (3, .int l3)] [] M 0 0 := by
  unfold f_X12_scoreOf at h
  refine wt_iconst (pc := 0) (v := 0) dX12_scoreOf_0 (by decide) ?_
  refine wt_istore (pc := 1) (i := 4) (ls' := [(4, .int 0), (0, rf G.1 l0), (1, .int l1), (2, .int l2), (3, .int l3)]) dX12_scoreOf_1 (by decide) rfl ?_
  refine wt_iconst (pc := 3) (v := 0) dX12_scoreOf_3 (by decide) ?_
  refine wt_istore (pc := 4) (i := 5) (ls' := [(5, .int 0), (4, .int 0), (0, rf G.1 l0), (1, .int l1), (2, .int l2), (3, .int l3)]) dX12_scoreOf_4 (by decide) rfl ?_
  refine wt_sub (ls' := [(0, rf G.1 l0), (1, .int l1), (2, .int l2), (3, .int l3), (4, .int 0), (5, .int 0)]) [2, 3, 4, 5, 1, 0] rfl ?_
  exact t_X12_scoreOf_6 he  fu h
set_option maxHeartbeats 4000000 in
set_option maxRecDepth 100000 in
theorem c_X12_scoreOf {G : GG} {M : Mm} {l0 : Option Nat} {l1 : Int32} {l2 : Int32} {l3 : Int32} {r : Int32 × Mm} (h : f_X12_scoreOf M l0 l1 l2 l3 = some r) (l : Launch) : Ct l G j_X12_scoreOf b_X12_scoreOf [rf G.1 l0, .int l1, .int l2, .int l3] M (some (.int r.1)) r.2 := cf_I (by decide +kernel) (by simp [lg_sl, rf_cat, cat_i, cat_l, j_X12_scoreOf]) rfl (by simp [lv_args, rf_cat, cat_i, cat_l]) (fun X he => t_X12_scoreOf_e he h)
def f_X12_score (M : Mm) (l0 : Option Nat) (l1 : Int32) (l2 : Int32) (l3 : Int32) : Option (Int32 × Mm) := pfI M l0 12 1 0 fun M2 => ck M2 l0 12 <| bd (f_X12_whyNoScore M2 l0 l1 l2 l3) fun v10 M10 => pfI M10 l0 12 0 v10 fun M13 => gfI M13 l0 12 0 fun v17 => if v17 ≤ 0 then (ck M13 l0 12 <| bd (f_X12_scoreOf M13 l0 l1 l2 l3) fun v31 M31 => some (v31, M31)) else (some ((-1), M13))
set_option maxHeartbeats 4000000 in
set_option maxRecDepth 100000 in
theorem t_X12_score_e {G : GG} {X : CX} {ans : Int32 × Mm} (he : EndI G X j_X12_score b_X12_score ans) {M : Mm} {l0 : Option Nat} {l1 : Int32} {l2 : Int32} {l3 : Int32} (h : f_X12_score M l0 l1 l2 l3 = some ans) : Wt G X j_X12_score b_X12_score 0 [(0, rf G.1 l0), (1, .int l1), (2, .int l2), (3, .int l3)] [] M 0 0 := by
  unfold f_X12_score at h
  refine wt_aload_n (pc := 0) 0 dX12_score_0 rfl ?_
  refine wt_iconst (pc := 1) (v := 0) dX12_score_1 (by decide) ?_
  refine wt_putI (pc := 2) dX12_score_2 fl_X12_68 rfl rfl h (fun M2 h => ?_)
  refine wt_aload_n (pc := 5) 0 dX12_score_5 rfl ?_
  refine wt_aload_n (pc := 6) 0 dX12_score_6 rfl ?_
  refine wt_iload_n (pc := 7) 1 dX12_score_7 rfl ?_
  refine wt_iload_n (pc := 8) 2 dX12_score_8 rfl ?_
  refine wt_iload_n (pc := 9) 3 dX12_score_9 rfl ?_
  refine wt_cVI (pc := 10) (J' := j_X12_whyNoScore) (As := [.int l1, .int l2, .int l3]) (st := [rf G.1 l0]) (B' := b_X12_whyNoScore) (u' := 0) (w' := 0) dX12_score_10 ml_X12_468 mv_X12_whyNoScore (fun v9 M9 e9 => c_X12_whyNoScore e9) rfl (by decide) rfl rfl (by decide) (by decide) (by simp [rf_cat, cat_i, cat_l, cat_r]) rfl h (fun v10 M10 h => ?_)
  refine wt_putI (pc := 13) dX12_score_13 fl_X12_71 rfl rfl h (fun M13 h => ?_)
  refine wt_aload_n (pc := 16) 0 dX12_score_16 rfl ?_
  refine wt_getI (pc := 17) dX12_score_17 fl_X12_71 (fun _ _ _ => rfl) h (fun v17 h => ?_)
  refine wt_if_le (pc := 20) (tgt := 27) dX12_score_20 (by decide) (fun q => ?_) (fun q => ?_)
  · have h := ite_t q h
    refine wt_aload_n (pc := 27) 0 dX12_score_27 rfl ?_
    refine wt_iload_n (pc := 28) 1 dX12_score_28 rfl ?_
    refine wt_iload_n (pc := 29) 2 dX12_score_29 rfl ?_
    refine wt_iload_n (pc := 30) 3 dX12_score_30 rfl ?_
    refine wt_cVI (pc := 31) (J' := j_X12_scoreOf) (As := [.int l1, .int l2, .int l3]) (st := []) (B' := b_X12_scoreOf) (u' := 0) (w' := 0) dX12_score_31 ml_X12_471 mv_X12_scoreOf (fun v9 M9 e9 => c_X12_scoreOf e9) rfl (by decide) rfl rfl (by decide) (by decide) (by decide) rfl h (fun v31 M31 h => ?_)
    cases h
    exact he 34 _ _ _ dX12_score_34 (by decide) (by decide)
  · have h := ite_f q h
    refine wt_iconst (pc := 23) (v := (-1)) dX12_score_23 (by decide) ?_
    refine wt_goto (pc := 24) (tgt := 34) dX12_score_24 (by decide) ?_
    cases h
    exact he 34 _ _ _ dX12_score_34 (by decide) (by decide)
set_option maxHeartbeats 4000000 in
set_option maxRecDepth 100000 in
theorem c_X12_score {G : GG} {M : Mm} {l0 : Option Nat} {l1 : Int32} {l2 : Int32} {l3 : Int32} {r : Int32 × Mm} (h : f_X12_score M l0 l1 l2 l3 = some r) (l : Launch) : Ct l G j_X12_score b_X12_score [rf G.1 l0, .int l1, .int l2, .int l3] M (some (.int r.1)) r.2 := cf_I (by decide +kernel) (by simp [lg_sl, rf_cat, cat_i, cat_l, j_X12_score]) rfl (by simp [lv_args, rf_cat, cat_i, cat_l]) (fun X he => t_X12_score_e he h)
def f_X12_words_31 : Nat → Mm → Option Nat → Int32 → Int32 → Int32 → Int32 → Int32 → Option (Int32 × Mm)
  | 0, _, _, _, _, _, _, _ => none
  | n + 1, M, l0, l1, l2, l3, l4, l5 => if l3 ≤ l5 then (dvI l3 <| nmI ((100 * l4) / l3) fun x63 => bd (f_X12_square M (x63 - 100)) fun v72 M72 => bd (f_X12_square M72 x63) fun v82 M82 => ck M82 l0 12 <| bd (f_X12_scoreOf M82 l0 l1 l2 l3) fun v91 M91 => some ((((l4 * v72) + ((l3 - l4) * v82)) - v91), M91)) else (ck M l0 12 <| bd (f_X12_numberOf M l0 l2 l5) fun v43 M43 => nmI (l4 + (Int64.toInt32 v43)) fun x48 => f_X12_words_31 n M43 l0 l1 l2 l3 x48 (l5 + 1))
def f_X12_words (M : Mm) (l0 : Option Nat) (l1 : Int32) (l2 : Int32) (l3 : Int32) : Option (Int32 × Mm) := pfI M l0 12 1 0 fun M2 => ck M2 l0 12 <| bd (f_X12_whyNoScore M2 l0 l1 l2 l3) fun v10 M10 => pfI M10 l0 12 0 v10 fun M13 => gfI M13 l0 12 0 fun v17 => if v17 ≤ 0 then (f_X12_words_31  fu M13 l0 l1 l2 l3 0 0) else (some ((-1), M13))
set_option maxHeartbeats 4000000 in
set_option maxRecDepth 100000 in
theorem t_X12_words_31 {G : GG} {X : CX} {ans : Int32 × Mm} (he : EndI G X j_X12_words b_X12_words ans) : ∀ (n : Nat) {M : Mm} {l0 : Option Nat} {l1 : Int32} {l2 : Int32} {l3 : Int32} {l4 : Int32} {l5 : Int32}, f_X12_words_31 n M l0 l1 l2 l3 l4 l5 = some ans → Wt G X j_X12_words b_X12_words 31 [(0, rf G.1 l0), (1, .int l1), (2, .int l2), (3, .int l3), (4, .int l4), (5, .int l5)] [] M 0 0 := by
  intro n
  induction n with
  | zero =>
    intro M l0 l1 l2 l3 l4 l5 h
    rw [f_X12_words_31] at h
    cases h
  | succ n ih =>
    intro M l0 l1 l2 l3 l4 l5 h
    rw [f_X12_words_31] at h
    refine wt_iload (pc := 31) 5 dX12_words_31 rfl ?_
    refine wt_iload_n (pc := 33) 3 dX12_words_33 rfl ?_
    refine wt_icmp_ge (pc := 34) (tgt := 56) dX12_words_34 (by decide) (fun q => ?_) (fun q => ?_)
    · have h := ite_t q h
      refine wt_bipush (pc := 56) (v := 100) dX12_words_56 (by decide) ?_
      refine wt_iload (pc := 58) 4 dX12_words_58 rfl ?_
      refine wt_imul (pc := 60) dX12_words_60 ?_
      refine wt_iload_n (pc := 61) 3 dX12_words_61 rfl ?_
      obtain ⟨qd, h⟩ := dvI_spec h
      refine wt_idiv (pc := 62) dX12_words_62 qd ?_
      refine wt_nmI h (fun x63 h => ?_)
      refine wt_istore (pc := 63) (i := 5) (ls' := [(5, .int x63), (0, rf G.1 l0), (1, .int l1), (2, .int l2), (3, .int l3), (4, .int l4)]) dX12_words_63 (by decide) rfl ?_
      refine wt_iload (pc := 65) 5 dX12_words_65 rfl ?_
      refine wt_iload (pc := 67) 0 dX12_words_67 rfl ?_
      refine wt_bipush (pc := 69) (v := 100) dX12_words_69 (by decide) ?_
      refine wt_isub (pc := 71) dX12_words_71 ?_
      refine wt_cSI (pc := 72) (J' := j_X12_square) (As := [.int (x63 - 100)]) (st := [.int l4]) (B' := b_X12_square) (u' := 0) (w' := 0) dX12_words_72 ml_X12_465 ms_X12_square (fun v9 M9 e9 => c_X12_square e9) rfl (by decide) rfl rfl (by decide) (by decide) (by simp [rf_cat, cat_i, cat_l, cat_r]) rfl h (fun v72 M72 h => ?_)
      refine wt_imul (pc := 75) dX12_words_75 ?_
      refine wt_iload_n (pc := 76) 4 dX12_words_76 rfl ?_
      refine wt_iload (pc := 77) 5 dX12_words_77 rfl ?_
      refine wt_isub (pc := 79) dX12_words_79 ?_
      refine wt_iload (pc := 80) 0 dX12_words_80 rfl ?_
      refine wt_cSI (pc := 82) (J' := j_X12_square) (As := [.int x63]) (st := [.int (l3 - l4), .int (l4 * v72)]) (B' := b_X12_square) (u' := 0) (w' := 0) dX12_words_82 ml_X12_465 ms_X12_square (fun v9 M9 e9 => c_X12_square e9) rfl (by decide) rfl rfl (by decide) (by decide) (by simp [rf_cat, cat_i, cat_l, cat_r]) rfl h (fun v82 M82 h => ?_)
      refine wt_imul (pc := 85) dX12_words_85 ?_
      refine wt_iadd (pc := 86) dX12_words_86 ?_
      refine wt_aload_n (pc := 87) 1 dX12_words_87 rfl ?_
      refine wt_iload_n (pc := 88) 2 dX12_words_88 rfl ?_
      refine wt_iload_n (pc := 89) 3 dX12_words_89 rfl ?_
      refine wt_iload_n (pc := 90) 4 dX12_words_90 rfl ?_
      refine wt_cVI (pc := 91) (J' := j_X12_scoreOf) (As := [.int l1, .int l2, .int l3]) (st := [.int ((l4 * v72) + ((l3 - l4) * v82))]) (B' := b_X12_scoreOf) (u' := 0) (w' := 0) dX12_words_91 ml_X12_471 mv_X12_scoreOf (fun v9 M9 e9 => c_X12_scoreOf e9) rfl (by decide) rfl rfl (by decide) (by decide) (by simp [rf_cat, cat_i, cat_l, cat_r]) rfl h (fun v91 M91 h => ?_)
      refine wt_isub (pc := 94) dX12_words_94 ?_
      cases h
      exact he 95 _ _ _ dX12_words_95 (by decide) (by decide)
    · have h := ite_f q h
      refine wt_iload (pc := 37) 4 dX12_words_37 rfl ?_
      refine wt_aload_n (pc := 39) 0 dX12_words_39 rfl ?_
      refine wt_iload_n (pc := 40) 2 dX12_words_40 rfl ?_
      refine wt_iload (pc := 41) 5 dX12_words_41 rfl ?_
      refine wt_cVL (pc := 43) (J' := j_X12_numberOf) (As := [.int l2, .int l5]) (st := [.int l4]) (B' := b_X12_numberOf) (u' := 0) (w' := 0) dX12_words_43 ml_X12_459 mv_X12_numberOf (fun v9 M9 e9 => c_X12_numberOf e9) rfl (by decide) rfl rfl (by decide) (by decide) (by simp [rf_cat, cat_i, cat_l, cat_r]) rfl h (fun v43 M43 h => ?_)
      refine wt_l2i (pc := 46) dX12_words_46 ?_
      refine wt_iadd (pc := 47) dX12_words_47 ?_
      refine wt_nmI h (fun x48 h => ?_)
      refine wt_istore (pc := 48) (i := 4) (ls' := [(4, .int x48), (0, rf G.1 l0), (1, .int l1), (2, .int l2), (3, .int l3), (5, .int l5)]) dX12_words_48 (by decide) rfl ?_
      refine wt_iinc (pc := 50) (d := 1) (ls' := [(5, .int (l5 + 1)), (4, .int x48), (0, rf G.1 l0), (1, .int l1), (2, .int l2), (3, .int l3)]) 5 dX12_words_50 rfl (by decide) (by decide) rfl ?_
      refine wt_goto (pc := 53) (tgt := 31) dX12_words_53 (by decide) ?_
      refine wt_sub (ls' := [(0, rf G.1 l0), (1, .int l1), (2, .int l2), (3, .int l3), (4, .int x48), (5, .int (l5 + 1))]) [2, 3, 4, 5, 1, 0] rfl ?_
      exact ih h
set_option maxHeartbeats 4000000 in
set_option maxRecDepth 100000 in
theorem t_X12_words_e {G : GG} {X : CX} {ans : Int32 × Mm} (he : EndI G X j_X12_words b_X12_words ans) {M : Mm} {l0 : Option Nat} {l1 : Int32} {l2 : Int32} {l3 : Int32} (h : f_X12_words M l0 l1 l2 l3 = some ans) : Wt G X j_X12_words b_X12_words 0 [(0, rf G.1 l0), (1, .int l1), (2, .int l2), (3, .int l3)] [] M 0 0 := by
  unfold f_X12_words at h
  refine wt_aload_n (pc := 0) 0 dX12_words_0 rfl ?_
  refine wt_iconst (pc := 1) (v := 0) dX12_words_1 (by decide) ?_
  refine wt_putI (pc := 2) dX12_words_2 fl_X12_68 rfl rfl h (fun M2 h => ?_)
  refine wt_aload_n (pc := 5) 0 dX12_words_5 rfl ?_
  refine wt_aload_n (pc := 6) 0 dX12_words_6 rfl ?_
  refine wt_iload_n (pc := 7) 1 dX12_words_7 rfl ?_
  refine wt_iload_n (pc := 8) 2 dX12_words_8 rfl ?_
  refine wt_iload_n (pc := 9) 3 dX12_words_9 rfl ?_
  refine wt_cVI (pc := 10) (J' := j_X12_whyNoScore) (As := [.int l1, .int l2, .int l3]) (st := [rf G.1 l0]) (B' := b_X12_whyNoScore) (u' := 0) (w' := 0) dX12_words_10 ml_X12_468 mv_X12_whyNoScore (fun v9 M9 e9 => c_X12_whyNoScore e9) rfl (by decide) rfl rfl (by decide) (by decide) (by simp [rf_cat, cat_i, cat_l, cat_r]) rfl h (fun v10 M10 h => ?_)
  refine wt_putI (pc := 13) dX12_words_13 fl_X12_71 rfl rfl h (fun M13 h => ?_)
  refine wt_aload_n (pc := 16) 0 dX12_words_16 rfl ?_
  refine wt_getI (pc := 17) dX12_words_17 fl_X12_71 (fun _ _ _ => rfl) h (fun v17 h => ?_)
  refine wt_if_le (pc := 20) (tgt := 25) dX12_words_20 (by decide) (fun q => ?_) (fun q => ?_)
  · have h := ite_t q h
    refine wt_iconst (pc := 25) (v := 0) dX12_words_25 (by decide) ?_
    refine wt_istore (pc := 26) (i := 4) (ls' := [(4, .int 0), (0, rf G.1 l0), (1, .int l1), (2, .int l2), (3, .int l3)]) dX12_words_26 (by decide) rfl ?_
    refine wt_iconst (pc := 28) (v := 0) dX12_words_28 (by decide) ?_
    refine wt_istore (pc := 29) (i := 5) (ls' := [(5, .int 0), (4, .int 0), (0, rf G.1 l0), (1, .int l1), (2, .int l2), (3, .int l3)]) dX12_words_29 (by decide) rfl ?_
    refine wt_sub (ls' := [(0, rf G.1 l0), (1, .int l1), (2, .int l2), (3, .int l3), (4, .int 0), (5, .int 0)]) [2, 3, 4, 5, 1, 0] rfl ?_
    exact t_X12_words_31 he  fu h
  · have h := ite_f q h
    refine wt_iconst (pc := 23) (v := (-1)) dX12_words_23 (by decide) ?_
    cases h
    exact he 24 _ _ _ dX12_words_24 (by decide) (by decide)
set_option maxHeartbeats 4000000 in
set_option maxRecDepth 100000 in
theorem c_X12_words {G : GG} {M : Mm} {l0 : Option Nat} {l1 : Int32} {l2 : Int32} {l3 : Int32} {r : Int32 × Mm} (h : f_X12_words M l0 l1 l2 l3 = some r) (l : Launch) : Ct l G j_X12_words b_X12_words [rf G.1 l0, .int l1, .int l2, .int l3] M (some (.int r.1)) r.2 := cf_I (by decide +kernel) (by simp [lg_sl, rf_cat, cat_i, cat_l, j_X12_words]) rfl (by simp [lv_args, rf_cat, cat_i, cat_l]) (fun X he => t_X12_words_e he h)
def f_X12_owed_43 (k14 : Mm → Option Nat → Int32 → Int32 → Option (Int32 × Mm)) (M : Mm) (l0 : Option Nat) (l1 : Int32) (l2 : Int32) : Option (Int32 × Mm) := k14 M l0 l1 (l2 + 1)
def f_X12_owed_41 (k14 : Mm → Option Nat → Int32 → Int32 → Option (Int32 × Mm)) (M : Mm) (l0 : Option Nat) (l2 : Int32) : Option (Int32 × Mm) := f_X12_owed_43 k14 M l0 l2 l2
def f_X12_owed_14 : Nat → Mm → Option Nat → Int32 → Int32 → Option (Int32 × Mm)
  | 0, _, _, _, _ => none
  | n + 1, M, l0, l1, l2 => gfR M l0 12 20 fun v16 => alI M v16 21 0 fun v20 => if v20 ≤ l2 then (if 0 ≤ l1 then (some (l1, M)) else (ck M l0 12 <| bd (f_X12_refuse M l0 8) fun v56 M56 => some (v56, M56))) else (if l1 < 0 then (f_X12_owed_41 (f_X12_owed_14 n) M l0 l2) else (ck M l0 12 <| bd (f_X12_dueOf M l0 l2) fun v30 M30 => ck M30 l0 12 <| bd (f_X12_dueOf M30 l0 l1) fun v35 M35 => if v30 ≤ v35 then (f_X12_owed_43 (f_X12_owed_14 n) M35 l0 l1 l2) else (f_X12_owed_41 (f_X12_owed_14 n) M35 l0 l2)))
def f_X12_owed (M : Mm) (l0 : Option Nat) : Option (Int32 × Mm) := pfI M l0 12 1 0 fun M2 => pfI M2 l0 12 0 0 fun M7 => f_X12_owed_14  fu M7 l0 (-1) 0
set_option maxHeartbeats 4000000 in
set_option maxRecDepth 100000 in
theorem t_X12_owed_43 {G : GG} {X : CX} {ans : Int32 × Mm} (he : EndI G X j_X12_owed b_X12_owed ans) {k14 : Mm → Option Nat → Int32 → Int32 → Option (Int32 × Mm)} (hk14 : ∀ (M : Mm) (a0 : Option Nat) (a1 : Int32) (a2 : Int32), k14 M a0 a1 a2 = some ans → Wt G X j_X12_owed b_X12_owed 14 [(0, rf G.1 a0), (1, .int a1), (2, .int a2)] [] M 0 0) {M : Mm} {l0 : Option Nat} {l1 : Int32} {l2 : Int32} (h : f_X12_owed_43 k14 M l0 l1 l2 = some ans) : Wt G X j_X12_owed b_X12_owed 43 [(0, rf G.1 l0), (1, .int l1), (2, .int l2)] [] M 0 0 := by
  unfold f_X12_owed_43 at h
  refine wt_iinc (pc := 43) (d := 1) (ls' := [(2, .int (l2 + 1)), (0, rf G.1 l0), (1, .int l1)]) 2 dX12_owed_43 rfl (by decide) (by decide) rfl ?_
  refine wt_goto (pc := 46) (tgt := 14) dX12_owed_46 (by decide) ?_
  refine wt_sub (ls' := [(0, rf G.1 l0), (1, .int l1), (2, .int (l2 + 1))]) [1, 2, 0] rfl ?_
  exact hk14 _ _ _ _ h
set_option maxHeartbeats 4000000 in
set_option maxRecDepth 100000 in
theorem t_X12_owed_41 {G : GG} {X : CX} {ans : Int32 × Mm} (he : EndI G X j_X12_owed b_X12_owed ans) {k14 : Mm → Option Nat → Int32 → Int32 → Option (Int32 × Mm)} (hk14 : ∀ (M : Mm) (a0 : Option Nat) (a1 : Int32) (a2 : Int32), k14 M a0 a1 a2 = some ans → Wt G X j_X12_owed b_X12_owed 14 [(0, rf G.1 a0), (1, .int a1), (2, .int a2)] [] M 0 0) {M : Mm} {l0 : Option Nat} {l2 : Int32} (h : f_X12_owed_41 k14 M l0 l2 = some ans) : Wt G X j_X12_owed b_X12_owed 41 [(0, rf G.1 l0), (2, .int l2)] [] M 0 0 := by
  unfold f_X12_owed_41 at h
  refine wt_iload_n (pc := 41) 1 dX12_owed_41 rfl ?_
  refine wt_istore_n (pc := 42) (i := 1) (ls' := [(1, .int l2), (0, rf G.1 l0), (2, .int l2)]) rfl dX12_owed_42 (by decide) (by simp [rf_cat, cat_i, cat_l, cat_r]) ?_
  refine wt_sub (ls' := [(0, rf G.1 l0), (1, .int l2), (2, .int l2)]) [1, 0, 2] rfl ?_
  exact t_X12_owed_43 he (fun _ _ _ _ h => hk14 _ _ _ _ h) h
set_option maxHeartbeats 4000000 in
set_option maxRecDepth 100000 in
theorem t_X12_owed_14 {G : GG} {X : CX} {ans : Int32 × Mm} (he : EndI G X j_X12_owed b_X12_owed ans) : ∀ (n : Nat) {M : Mm} {l0 : Option Nat} {l1 : Int32} {l2 : Int32}, f_X12_owed_14 n M l0 l1 l2 = some ans → Wt G X j_X12_owed b_X12_owed 14 [(0, rf G.1 l0), (1, .int l1), (2, .int l2)] [] M 0 0 := by
  intro n
  induction n with
  | zero =>
    intro M l0 l1 l2 h
    rw [f_X12_owed_14] at h
    cases h
  | succ n ih =>
    intro M l0 l1 l2 h
    rw [f_X12_owed_14] at h
    refine wt_iload_n (pc := 14) 2 dX12_owed_14 rfl ?_
    refine wt_aload_n (pc := 15) 0 dX12_owed_15 rfl ?_
    refine wt_getR (pc := 16) dX12_owed_16 fl_X12_35 (fun _ _ _ => rfl) h (fun v16 h => ?_)
    refine wt_iconst (pc := 19) (v := 0) dX12_owed_19 (by decide) ?_
    refine wt_iaload (pc := 20) (kd := 21) dX12_owed_20 rfl rfl h (fun v20 h => ?_)
    refine wt_icmp_ge (pc := 21) (tgt := 49) dX12_owed_21 (by decide) (fun q => ?_) (fun q => ?_)
    · have h := ite_t q h
      refine wt_iload_n (pc := 49) 1 dX12_owed_49 rfl ?_
      refine wt_if_ge (pc := 50) (tgt := 62) dX12_owed_50 (by decide) (fun q => ?_) (fun q => ?_)
      · have h := ite_t q h
        refine wt_iload_n (pc := 62) 1 dX12_owed_62 rfl ?_
        cases h
        exact he 63 _ _ _ dX12_owed_63 (by decide) (by decide)
      · have h := ite_f q h
        refine wt_aload_n (pc := 53) 0 dX12_owed_53 rfl ?_
        refine wt_bipush (pc := 54) (v := 8) dX12_owed_54 (by decide) ?_
        refine wt_cVI (pc := 56) (J' := j_X12_refuse) (As := [.int 8]) (st := []) (B' := b_X12_refuse) (u' := 0) (w' := 0) dX12_owed_56 ml_X12_331 mv_X12_refuse (fun v9 M9 e9 => c_X12_refuse e9) rfl (by decide) rfl rfl (by decide) (by decide) (by decide) rfl h (fun v56 M56 h => ?_)
        refine wt_goto (pc := 59) (tgt := 63) dX12_owed_59 (by decide) ?_
        cases h
        exact he 63 _ _ _ dX12_owed_63 (by decide) (by decide)
    · have h := ite_f q h
      refine wt_iload_n (pc := 24) 1 dX12_owed_24 rfl ?_
      refine wt_if_lt (pc := 25) (tgt := 41) dX12_owed_25 (by decide) (fun q => ?_) (fun q => ?_)
      · have h := ite_t q h
        refine wt_sub (ls' := [(0, rf G.1 l0), (2, .int l2)]) [0, 2] rfl ?_
        exact t_X12_owed_41 he (fun _ _ _ _ h => ih h) h
      · have h := ite_f q h
        refine wt_aload_n (pc := 28) 0 dX12_owed_28 rfl ?_
        refine wt_iload_n (pc := 29) 2 dX12_owed_29 rfl ?_
        refine wt_cVI (pc := 30) (J' := j_X12_dueOf) (As := [.int l2]) (st := []) (B' := b_X12_dueOf) (u' := 0) (w' := 0) dX12_owed_30 ml_X12_346 mv_X12_dueOf (fun v9 M9 e9 => c_X12_dueOf e9) rfl (by decide) rfl rfl (by decide) (by decide) (by decide) rfl h (fun v30 M30 h => ?_)
        refine wt_aload_n (pc := 33) 0 dX12_owed_33 rfl ?_
        refine wt_iload_n (pc := 34) 1 dX12_owed_34 rfl ?_
        refine wt_cVI (pc := 35) (J' := j_X12_dueOf) (As := [.int l1]) (st := [.int v30]) (B' := b_X12_dueOf) (u' := 0) (w' := 0) dX12_owed_35 ml_X12_346 mv_X12_dueOf (fun v9 M9 e9 => c_X12_dueOf e9) rfl (by decide) rfl rfl (by decide) (by decide) (by simp [rf_cat, cat_i, cat_l, cat_r]) rfl h (fun v35 M35 h => ?_)
        refine wt_icmp_le (pc := 38) (tgt := 43) dX12_owed_38 (by decide) (fun q => ?_) (fun q => ?_)
        · have h := ite_t q h
          exact t_X12_owed_43 he (fun _ _ _ _ h => ih h) h
        · have h := ite_f q h
          refine wt_sub (ls' := [(0, rf G.1 l0), (2, .int l2)]) [0, 2] rfl ?_
          exact t_X12_owed_41 he (fun _ _ _ _ h => ih h) h
set_option maxHeartbeats 4000000 in
set_option maxRecDepth 100000 in
theorem t_X12_owed_e {G : GG} {X : CX} {ans : Int32 × Mm} (he : EndI G X j_X12_owed b_X12_owed ans) {M : Mm} {l0 : Option Nat} (h : f_X12_owed M l0 = some ans) : Wt G X j_X12_owed b_X12_owed 0 [(0, rf G.1 l0)] [] M 0 0 := by
  unfold f_X12_owed at h
  refine wt_aload_n (pc := 0) 0 dX12_owed_0 rfl ?_
  refine wt_iconst (pc := 1) (v := 0) dX12_owed_1 (by decide) ?_
  refine wt_putI (pc := 2) dX12_owed_2 fl_X12_68 rfl rfl h (fun M2 h => ?_)
  refine wt_aload_n (pc := 5) 0 dX12_owed_5 rfl ?_
  refine wt_iconst (pc := 6) (v := 0) dX12_owed_6 (by decide) ?_
  refine wt_putI (pc := 7) dX12_owed_7 fl_X12_71 rfl rfl h (fun M7 h => ?_)
  refine wt_iconst (pc := 10) (v := (-1)) dX12_owed_10 (by decide) ?_
  refine wt_istore_n (pc := 11) (i := 1) (ls' := [(1, .int (-1)), (0, rf G.1 l0)]) rfl dX12_owed_11 (by decide) (by simp [rf_cat, cat_i, cat_l, cat_r]) ?_
  refine wt_iconst (pc := 12) (v := 0) dX12_owed_12 (by decide) ?_
  refine wt_istore_n (pc := 13) (i := 2) (ls' := [(2, .int 0), (1, .int (-1)), (0, rf G.1 l0)]) rfl dX12_owed_13 (by decide) rfl ?_
  refine wt_sub (ls' := [(0, rf G.1 l0), (1, .int (-1)), (2, .int 0)]) [2, 1, 0] rfl ?_
  exact t_X12_owed_14 he  fu h
set_option maxHeartbeats 4000000 in
set_option maxRecDepth 100000 in
theorem c_X12_owed {G : GG} {M : Mm} {l0 : Option Nat} {r : Int32 × Mm} (h : f_X12_owed M l0 = some r) (l : Launch) : Ct l G j_X12_owed b_X12_owed [rf G.1 l0] M (some (.int r.1)) r.2 := cf_I (by decide +kernel) (by simp [lg_sl, rf_cat, cat_i, cat_l, j_X12_owed]) rfl (by simp [lv_args, rf_cat, cat_i, cat_l]) (fun X he => t_X12_owed_e he h)
def f_X12_helpedBy_39 (k4 : Mm → Option Nat → Int32 → Int32 → Int32 → Option (Int32 × Mm)) (M : Mm) (l0 : Option Nat) (l1 : Int32) (l3 : Int32) (s0 : Int32) (s1 : Int32) : Option (Int32 × Mm) := nmI (s0 ||| s1) fun x40 => k4 M l0 l1 x40 (l3 + 1)
def f_X12_helpedBy_4 : Nat → Mm → Option Nat → Int32 → Int32 → Int32 → Option (Int32 × Mm)
  | 0, _, _, _, _, _ => none
  | n + 1, M, l0, l1, l2, l3 => gfR M l0 12 20 fun v6 => alI M v6 21 0 fun v10 => if v10 ≤ l3 then (some (l2, M)) else (gfR M l0 12 20 fun v16 => alI M v16 21 ((69 + (8 * l3)) + l1) fun v28 => if v28 ≤ 0 then (f_X12_helpedBy_39 (f_X12_helpedBy_4 n) M l0 l1 l3 l2 0) else (f_X12_helpedBy_39 (f_X12_helpedBy_4 n) M l0 l1 l3 l2 (1 <<< (l3 &&& 31))))
def f_X12_helpedBy (M : Mm) (l0 : Option Nat) (l1 : Int32) : Option (Int32 × Mm) := f_X12_helpedBy_4  fu M l0 l1 0 0
set_option maxHeartbeats 4000000 in
set_option maxRecDepth 100000 in
theorem t_X12_helpedBy_39 {G : GG} {X : CX} {ans : Int32 × Mm} (he : EndI G X j_X12_helpedBy b_X12_helpedBy ans) {k4 : Mm → Option Nat → Int32 → Int32 → Int32 → Option (Int32 × Mm)} (hk4 : ∀ (M : Mm) (a0 : Option Nat) (a1 : Int32) (a2 : Int32) (a3 : Int32), k4 M a0 a1 a2 a3 = some ans → Wt G X j_X12_helpedBy b_X12_helpedBy 4 [(0, rf G.1 a0), (1, .int a1), (2, .int a2), (3, .int a3)] [] M 0 0) {M : Mm} {l0 : Option Nat} {l1 : Int32} {l3 : Int32} {s0 : Int32} {s1 : Int32} (h : f_X12_helpedBy_39 k4 M l0 l1 l3 s0 s1 = some ans) : Wt G X j_X12_helpedBy b_X12_helpedBy 39 [(0, rf G.1 l0), (1, .int l1), (3, .int l3)] [.int s1, .int s0] M 0 0 := by
  unfold f_X12_helpedBy_39 at h
  refine wt_ior (pc := 39) dX12_helpedBy_39 ?_
  refine wt_nmI h (fun x40 h => ?_)
  refine wt_istore_n (pc := 40) (i := 2) (ls' := [(2, .int x40), (0, rf G.1 l0), (1, .int l1), (3, .int l3)]) rfl dX12_helpedBy_40 (by decide) rfl ?_
  refine wt_iinc (pc := 41) (d := 1) (ls' := [(3, .int (l3 + 1)), (2, .int x40), (0, rf G.1 l0), (1, .int l1)]) 3 dX12_helpedBy_41 rfl (by decide) (by decide) rfl ?_
  refine wt_goto (pc := 44) (tgt := 4) dX12_helpedBy_44 (by decide) ?_
  refine wt_sub (ls' := [(0, rf G.1 l0), (1, .int l1), (2, .int x40), (3, .int (l3 + 1))]) [2, 3, 1, 0] rfl ?_
  exact hk4 _ _ _ _ _ h
set_option maxHeartbeats 4000000 in
set_option maxRecDepth 100000 in
theorem t_X12_helpedBy_4 {G : GG} {X : CX} {ans : Int32 × Mm} (he : EndI G X j_X12_helpedBy b_X12_helpedBy ans) : ∀ (n : Nat) {M : Mm} {l0 : Option Nat} {l1 : Int32} {l2 : Int32} {l3 : Int32}, f_X12_helpedBy_4 n M l0 l1 l2 l3 = some ans → Wt G X j_X12_helpedBy b_X12_helpedBy 4 [(0, rf G.1 l0), (1, .int l1), (2, .int l2), (3, .int l3)] [] M 0 0 := by
  intro n
  induction n with
  | zero =>
    intro M l0 l1 l2 l3 h
    rw [f_X12_helpedBy_4] at h
    cases h
  | succ n ih =>
    intro M l0 l1 l2 l3 h
    rw [f_X12_helpedBy_4] at h
    refine wt_iload_n (pc := 4) 3 dX12_helpedBy_4 rfl ?_
    refine wt_aload_n (pc := 5) 0 dX12_helpedBy_5 rfl ?_
    refine wt_getR (pc := 6) dX12_helpedBy_6 fl_X12_35 (fun _ _ _ => rfl) h (fun v6 h => ?_)
    refine wt_iconst (pc := 9) (v := 0) dX12_helpedBy_9 (by decide) ?_
    refine wt_iaload (pc := 10) (kd := 21) dX12_helpedBy_10 rfl rfl h (fun v10 h => ?_)
    refine wt_icmp_ge (pc := 11) (tgt := 47) dX12_helpedBy_11 (by decide) (fun q => ?_) (fun q => ?_)
    · have h := ite_t q h
      refine wt_iload_n (pc := 47) 2 dX12_helpedBy_47 rfl ?_
      cases h
      exact he 48 _ _ _ dX12_helpedBy_48 (by decide) (by decide)
    · have h := ite_f q h
      refine wt_iload_n (pc := 14) 2 dX12_helpedBy_14 rfl ?_
      refine wt_aload_n (pc := 15) 0 dX12_helpedBy_15 rfl ?_
      refine wt_getR (pc := 16) dX12_helpedBy_16 fl_X12_35 (fun _ _ _ => rfl) h (fun v16 h => ?_)
      refine wt_bipush (pc := 19) (v := 69) dX12_helpedBy_19 (by decide) ?_
      refine wt_bipush (pc := 21) (v := 8) dX12_helpedBy_21 (by decide) ?_
      refine wt_iload_n (pc := 23) 3 dX12_helpedBy_23 rfl ?_
      refine wt_imul (pc := 24) dX12_helpedBy_24 ?_
      refine wt_iadd (pc := 25) dX12_helpedBy_25 ?_
      refine wt_iload_n (pc := 26) 1 dX12_helpedBy_26 rfl ?_
      refine wt_iadd (pc := 27) dX12_helpedBy_27 ?_
      refine wt_iaload (pc := 28) (kd := 21) dX12_helpedBy_28 rfl rfl h (fun v28 h => ?_)
      refine wt_if_le (pc := 29) (tgt := 38) dX12_helpedBy_29 (by decide) (fun q => ?_) (fun q => ?_)
      · have h := ite_t q h
        refine wt_iconst (pc := 38) (v := 0) dX12_helpedBy_38 (by decide) ?_
        refine wt_sub (ls' := [(0, rf G.1 l0), (1, .int l1), (3, .int l3)]) [0, 1, 3] rfl ?_
        exact t_X12_helpedBy_39 he (fun _ _ _ _ _ h => ih h) h
      · have h := ite_f q h
        refine wt_iconst (pc := 32) (v := 1) dX12_helpedBy_32 (by decide) ?_
        refine wt_iload_n (pc := 33) 3 dX12_helpedBy_33 rfl ?_
        refine wt_ishl (pc := 34) dX12_helpedBy_34 ?_
        refine wt_goto (pc := 35) (tgt := 39) dX12_helpedBy_35 (by decide) ?_
        refine wt_sub (ls' := [(0, rf G.1 l0), (1, .int l1), (3, .int l3)]) [0, 1, 3] rfl ?_
        exact t_X12_helpedBy_39 he (fun _ _ _ _ _ h => ih h) h
set_option maxHeartbeats 4000000 in
set_option maxRecDepth 100000 in
theorem t_X12_helpedBy_e {G : GG} {X : CX} {ans : Int32 × Mm} (he : EndI G X j_X12_helpedBy b_X12_helpedBy ans) {M : Mm} {l0 : Option Nat} {l1 : Int32} (h : f_X12_helpedBy M l0 l1 = some ans) : Wt G X j_X12_helpedBy b_X12_helpedBy 0 [(0, rf G.1 l0), (1, .int l1)] [] M 0 0 := by
  unfold f_X12_helpedBy at h
  refine wt_iconst (pc := 0) (v := 0) dX12_helpedBy_0 (by decide) ?_
  refine wt_istore_n (pc := 1) (i := 2) (ls' := [(2, .int 0), (0, rf G.1 l0), (1, .int l1)]) rfl dX12_helpedBy_1 (by decide) rfl ?_
  refine wt_iconst (pc := 2) (v := 0) dX12_helpedBy_2 (by decide) ?_
  refine wt_istore_n (pc := 3) (i := 3) (ls' := [(3, .int 0), (2, .int 0), (0, rf G.1 l0), (1, .int l1)]) rfl dX12_helpedBy_3 (by decide) rfl ?_
  refine wt_sub (ls' := [(0, rf G.1 l0), (1, .int l1), (2, .int 0), (3, .int 0)]) [2, 3, 1, 0] rfl ?_
  exact t_X12_helpedBy_4 he  fu h
set_option maxHeartbeats 4000000 in
set_option maxRecDepth 100000 in
theorem c_X12_helpedBy {G : GG} {M : Mm} {l0 : Option Nat} {l1 : Int32} {r : Int32 × Mm} (h : f_X12_helpedBy M l0 l1 = some r) (l : Launch) : Ct l G j_X12_helpedBy b_X12_helpedBy [rf G.1 l0, .int l1] M (some (.int r.1)) r.2 := cf_I (by decide +kernel) (by simp [lg_sl, rf_cat, cat_i, cat_l, j_X12_helpedBy]) rfl (by simp [lv_args, rf_cat, cat_i, cat_l]) (fun X he => t_X12_helpedBy_e he h)
def f_X12_riders_84 (k14 : Mm → Option Nat → Int32 → Int32 → Option (Int32 × Mm)) (M : Mm) (l0 : Option Nat) (l2 : Int32) (s0 : Int32) (s1 : Int32) : Option (Int32 × Mm) := nmI (s0 ||| s1) fun x85 => k14 M l0 x85 (l2 + 1)
def f_X12_riders_83 (k14 : Mm → Option Nat → Int32 → Int32 → Option (Int32 × Mm)) (M : Mm) (l0 : Option Nat) (l2 : Int32) (s0 : Int32) : Option (Int32 × Mm) := f_X12_riders_84 k14 M l0 l2 s0 0
def f_X12_riders_29 (k14 : Mm → Option Nat → Int32 → Int32 → Option (Int32 × Mm)) : Nat → Mm → Option Nat → Int32 → Int32 → Int32 → Int32 → Option (Int32 × Mm)
  | 0, _, _, _, _, _, _ => none
  | n + 1, M, l0, l1, l2, l3, l4 => gfR M l0 12 20 fun v32 => alI M v32 21 0 fun v36 => if v36 ≤ l4 then (if l3 ≤ 0 then (f_X12_riders_83 k14 M l0 l2 l1) else (ck M l0 12 <| bd (f_X12_helpedBy M l0 l2) fun v71 M71 => if v71 = 0 then (f_X12_riders_84 k14 M71 l0 l2 l1 (1 <<< (l2 &&& 31))) else (f_X12_riders_83 k14 M71 l0 l2 l1))) else (gfR M l0 12 20 fun v42 => alI M v42 21 ((69 + (8 * l2)) + l4) fun v55 => nmI (l3 + v55) fun x57 => f_X12_riders_29 k14 n M l0 l1 l2 x57 (l4 + 1))
def f_X12_riders_14 : Nat → Mm → Option Nat → Int32 → Int32 → Option (Int32 × Mm)
  | 0, _, _, _, _ => none
  | n + 1, M, l0, l1, l2 => gfR M l0 12 20 fun v16 => alI M v16 21 0 fun v20 => if v20 ≤ l2 then (some (l1, M)) else (f_X12_riders_29 (f_X12_riders_14 n) fu M l0 l1 l2 0 0)
def f_X12_riders (M : Mm) (l0 : Option Nat) : Option (Int32 × Mm) := pfI M l0 12 1 0 fun M2 => pfI M2 l0 12 0 0 fun M7 => f_X12_riders_14  fu M7 l0 0 0
set_option maxHeartbeats 4000000 in
set_option maxRecDepth 100000 in
theorem t_X12_riders_84 {G : GG} {X : CX} {ans : Int32 × Mm} (he : EndI G X j_X12_riders b_X12_riders ans) {k14 : Mm → Option Nat → Int32 → Int32 → Option (Int32 × Mm)} (hk14 : ∀ (M : Mm) (a0 : Option Nat) (a1 : Int32) (a2 : Int32), k14 M a0 a1 a2 = some ans → Wt G X j_X12_riders b_X12_riders 14 [(0, rf G.1 a0), (1, .int a1), (2, .int a2)] [] M 0 0) {M : Mm} {l0 : Option Nat} {l2 : Int32} {s0 : Int32} {s1 : Int32} (h : f_X12_riders_84 k14 M l0 l2 s0 s1 = some ans) : Wt G X j_X12_riders b_X12_riders 84 [(0, rf G.1 l0), (2, .int l2)] [.int s1, .int s0] M 0 0 := by
  unfold f_X12_riders_84 at h
  refine wt_ior (pc := 84) dX12_riders_84 ?_
  refine wt_nmI h (fun x85 h => ?_)
  refine wt_istore_n (pc := 85) (i := 1) (ls' := [(1, .int x85), (0, rf G.1 l0), (2, .int l2)]) rfl dX12_riders_85 (by decide) (by simp [rf_cat, cat_i, cat_l, cat_r]) ?_
  refine wt_iinc (pc := 86) (d := 1) (ls' := [(2, .int (l2 + 1)), (1, .int x85), (0, rf G.1 l0)]) 2 dX12_riders_86 rfl (by decide) (by decide) rfl ?_
  refine wt_goto (pc := 89) (tgt := 14) dX12_riders_89 (by decide) ?_
  refine wt_sub (ls' := [(0, rf G.1 l0), (1, .int x85), (2, .int (l2 + 1))]) [2, 1, 0] rfl ?_
  exact hk14 _ _ _ _ h
set_option maxHeartbeats 4000000 in
set_option maxRecDepth 100000 in
theorem t_X12_riders_83 {G : GG} {X : CX} {ans : Int32 × Mm} (he : EndI G X j_X12_riders b_X12_riders ans) {k14 : Mm → Option Nat → Int32 → Int32 → Option (Int32 × Mm)} (hk14 : ∀ (M : Mm) (a0 : Option Nat) (a1 : Int32) (a2 : Int32), k14 M a0 a1 a2 = some ans → Wt G X j_X12_riders b_X12_riders 14 [(0, rf G.1 a0), (1, .int a1), (2, .int a2)] [] M 0 0) {M : Mm} {l0 : Option Nat} {l2 : Int32} {s0 : Int32} (h : f_X12_riders_83 k14 M l0 l2 s0 = some ans) : Wt G X j_X12_riders b_X12_riders 83 [(0, rf G.1 l0), (2, .int l2)] [.int s0] M 0 0 := by
  unfold f_X12_riders_83 at h
  refine wt_iconst (pc := 83) (v := 0) dX12_riders_83 (by decide) ?_
  exact t_X12_riders_84 he (fun _ _ _ _ h => hk14 _ _ _ _ h) h
set_option maxHeartbeats 4000000 in
set_option maxRecDepth 100000 in
theorem t_X12_riders_29 {G : GG} {X : CX} {ans : Int32 × Mm} (he : EndI G X j_X12_riders b_X12_riders ans) {k14 : Mm → Option Nat → Int32 → Int32 → Option (Int32 × Mm)} (hk14 : ∀ (M : Mm) (a0 : Option Nat) (a1 : Int32) (a2 : Int32), k14 M a0 a1 a2 = some ans → Wt G X j_X12_riders b_X12_riders 14 [(0, rf G.1 a0), (1, .int a1), (2, .int a2)] [] M 0 0) : ∀ (n : Nat) {M : Mm} {l0 : Option Nat} {l1 : Int32} {l2 : Int32} {l3 : Int32} {l4 : Int32}, f_X12_riders_29 k14 n M l0 l1 l2 l3 l4 = some ans → Wt G X j_X12_riders b_X12_riders 29 [(0, rf G.1 l0), (1, .int l1), (2, .int l2), (3, .int l3), (4, .int l4)] [] M 0 0 := by
  intro n
  induction n with
  | zero =>
    intro M l0 l1 l2 l3 l4 h
    rw [f_X12_riders_29] at h
    cases h
  | succ n ih =>
    intro M l0 l1 l2 l3 l4 h
    rw [f_X12_riders_29] at h
    refine wt_iload (pc := 29) 4 dX12_riders_29 rfl ?_
    refine wt_aload_n (pc := 31) 0 dX12_riders_31 rfl ?_
    refine wt_getR (pc := 32) dX12_riders_32 fl_X12_35 (fun _ _ _ => rfl) h (fun v32 h => ?_)
    refine wt_iconst (pc := 35) (v := 0) dX12_riders_35 (by decide) ?_
    refine wt_iaload (pc := 36) (kd := 21) dX12_riders_36 rfl rfl h (fun v36 h => ?_)
    refine wt_icmp_ge (pc := 37) (tgt := 64) dX12_riders_37 (by decide) (fun q => ?_) (fun q => ?_)
    · have h := ite_t q h
      refine wt_iload_n (pc := 64) 1 dX12_riders_64 rfl ?_
      refine wt_iload_n (pc := 65) 3 dX12_riders_65 rfl ?_
      refine wt_if_le (pc := 66) (tgt := 83) dX12_riders_66 (by decide) (fun q => ?_) (fun q => ?_)
      · have h := ite_t q h
        refine wt_sub (ls' := [(0, rf G.1 l0), (2, .int l2)]) [0, 2] rfl ?_
        exact t_X12_riders_83 he (fun _ _ _ _ h => hk14 _ _ _ _ h) h
      · have h := ite_f q h
        refine wt_aload_n (pc := 69) 0 dX12_riders_69 rfl ?_
        refine wt_iload_n (pc := 70) 2 dX12_riders_70 rfl ?_
        refine wt_cVI (pc := 71) (J' := j_X12_helpedBy) (As := [.int l2]) (st := [.int l1]) (B' := b_X12_helpedBy) (u' := 0) (w' := 0) dX12_riders_71 ml_X12_474 mv_X12_helpedBy (fun v9 M9 e9 => c_X12_helpedBy e9) rfl (by decide) rfl rfl (by decide) (by decide) (by simp [rf_cat, cat_i, cat_l, cat_r]) rfl h (fun v71 M71 h => ?_)
        refine wt_if_ne (pc := 74) (tgt := 83) dX12_riders_74 (by decide) (fun q => ?_) (fun q => ?_)
        · have h := ite_f q h
          refine wt_sub (ls' := [(0, rf G.1 l0), (2, .int l2)]) [0, 2] rfl ?_
          exact t_X12_riders_83 he (fun _ _ _ _ h => hk14 _ _ _ _ h) h
        · have h := ite_t q h
          refine wt_iconst (pc := 77) (v := 1) dX12_riders_77 (by decide) ?_
          refine wt_iload_n (pc := 78) 2 dX12_riders_78 rfl ?_
          refine wt_ishl (pc := 79) dX12_riders_79 ?_
          refine wt_goto (pc := 80) (tgt := 84) dX12_riders_80 (by decide) ?_
          refine wt_sub (ls' := [(0, rf G.1 l0), (2, .int l2)]) [0, 2] rfl ?_
          exact t_X12_riders_84 he (fun _ _ _ _ h => hk14 _ _ _ _ h) h
    · have h := ite_f q h
      refine wt_iload_n (pc := 40) 3 dX12_riders_40 rfl ?_
      refine wt_aload_n (pc := 41) 0 dX12_riders_41 rfl ?_
      refine wt_getR (pc := 42) dX12_riders_42 fl_X12_35 (fun _ _ _ => rfl) h (fun v42 h => ?_)
      refine wt_bipush (pc := 45) (v := 69) dX12_riders_45 (by decide) ?_
      refine wt_bipush (pc := 47) (v := 8) dX12_riders_47 (by decide) ?_
      refine wt_iload_n (pc := 49) 2 dX12_riders_49 rfl ?_
      refine wt_imul (pc := 50) dX12_riders_50 ?_
      refine wt_iadd (pc := 51) dX12_riders_51 ?_
      refine wt_iload (pc := 52) 4 dX12_riders_52 rfl ?_
      refine wt_iadd (pc := 54) dX12_riders_54 ?_
      refine wt_iaload (pc := 55) (kd := 21) dX12_riders_55 rfl rfl h (fun v55 h => ?_)
      refine wt_iadd (pc := 56) dX12_riders_56 ?_
      refine wt_nmI h (fun x57 h => ?_)
      refine wt_istore_n (pc := 57) (i := 3) (ls' := [(3, .int x57), (0, rf G.1 l0), (1, .int l1), (2, .int l2), (4, .int l4)]) rfl dX12_riders_57 (by decide) rfl ?_
      refine wt_iinc (pc := 58) (d := 1) (ls' := [(4, .int (l4 + 1)), (3, .int x57), (0, rf G.1 l0), (1, .int l1), (2, .int l2)]) 4 dX12_riders_58 rfl (by decide) (by decide) rfl ?_
      refine wt_goto (pc := 61) (tgt := 29) dX12_riders_61 (by decide) ?_
      refine wt_sub (ls' := [(0, rf G.1 l0), (1, .int l1), (2, .int l2), (3, .int x57), (4, .int (l4 + 1))]) [2, 3, 4, 1, 0] rfl ?_
      exact ih h
set_option maxHeartbeats 4000000 in
set_option maxRecDepth 100000 in
theorem t_X12_riders_14 {G : GG} {X : CX} {ans : Int32 × Mm} (he : EndI G X j_X12_riders b_X12_riders ans) : ∀ (n : Nat) {M : Mm} {l0 : Option Nat} {l1 : Int32} {l2 : Int32}, f_X12_riders_14 n M l0 l1 l2 = some ans → Wt G X j_X12_riders b_X12_riders 14 [(0, rf G.1 l0), (1, .int l1), (2, .int l2)] [] M 0 0 := by
  intro n
  induction n with
  | zero =>
    intro M l0 l1 l2 h
    rw [f_X12_riders_14] at h
    cases h
  | succ n ih =>
    intro M l0 l1 l2 h
    rw [f_X12_riders_14] at h
    refine wt_iload_n (pc := 14) 2 dX12_riders_14 rfl ?_
    refine wt_aload_n (pc := 15) 0 dX12_riders_15 rfl ?_
    refine wt_getR (pc := 16) dX12_riders_16 fl_X12_35 (fun _ _ _ => rfl) h (fun v16 h => ?_)
    refine wt_iconst (pc := 19) (v := 0) dX12_riders_19 (by decide) ?_
    refine wt_iaload (pc := 20) (kd := 21) dX12_riders_20 rfl rfl h (fun v20 h => ?_)
    refine wt_icmp_ge (pc := 21) (tgt := 92) dX12_riders_21 (by decide) (fun q => ?_) (fun q => ?_)
    · have h := ite_t q h
      refine wt_iload_n (pc := 92) 1 dX12_riders_92 rfl ?_
      cases h
      exact he 93 _ _ _ dX12_riders_93 (by decide) (by decide)
    · have h := ite_f q h
      refine wt_iconst (pc := 24) (v := 0) dX12_riders_24 (by decide) ?_
      refine wt_istore_n (pc := 25) (i := 3) (ls' := [(3, .int 0), (0, rf G.1 l0), (1, .int l1), (2, .int l2)]) rfl dX12_riders_25 (by decide) rfl ?_
      refine wt_iconst (pc := 26) (v := 0) dX12_riders_26 (by decide) ?_
      refine wt_istore (pc := 27) (i := 4) (ls' := [(4, .int 0), (3, .int 0), (0, rf G.1 l0), (1, .int l1), (2, .int l2)]) dX12_riders_27 (by decide) rfl ?_
      refine wt_sub (ls' := [(0, rf G.1 l0), (1, .int l1), (2, .int l2), (3, .int 0), (4, .int 0)]) [2, 3, 4, 1, 0] rfl ?_
      exact t_X12_riders_29 he (fun _ _ _ _ h => ih h) fu h
set_option maxHeartbeats 4000000 in
set_option maxRecDepth 100000 in
theorem t_X12_riders_e {G : GG} {X : CX} {ans : Int32 × Mm} (he : EndI G X j_X12_riders b_X12_riders ans) {M : Mm} {l0 : Option Nat} (h : f_X12_riders M l0 = some ans) : Wt G X j_X12_riders b_X12_riders 0 [(0, rf G.1 l0)] [] M 0 0 := by
  unfold f_X12_riders at h
  refine wt_aload_n (pc := 0) 0 dX12_riders_0 rfl ?_
  refine wt_iconst (pc := 1) (v := 0) dX12_riders_1 (by decide) ?_
  refine wt_putI (pc := 2) dX12_riders_2 fl_X12_68 rfl rfl h (fun M2 h => ?_)
  refine wt_aload_n (pc := 5) 0 dX12_riders_5 rfl ?_
  refine wt_iconst (pc := 6) (v := 0) dX12_riders_6 (by decide) ?_
  refine wt_putI (pc := 7) dX12_riders_7 fl_X12_71 rfl rfl h (fun M7 h => ?_)
  refine wt_iconst (pc := 10) (v := 0) dX12_riders_10 (by decide) ?_
  refine wt_istore_n (pc := 11) (i := 1) (ls' := [(1, .int 0), (0, rf G.1 l0)]) rfl dX12_riders_11 (by decide) (by simp [rf_cat, cat_i, cat_l, cat_r]) ?_
  refine wt_iconst (pc := 12) (v := 0) dX12_riders_12 (by decide) ?_
  refine wt_istore_n (pc := 13) (i := 2) (ls' := [(2, .int 0), (1, .int 0), (0, rf G.1 l0)]) rfl dX12_riders_13 (by decide) rfl ?_
  refine wt_sub (ls' := [(0, rf G.1 l0), (1, .int 0), (2, .int 0)]) [2, 1, 0] rfl ?_
  exact t_X12_riders_14 he  fu h
set_option maxHeartbeats 4000000 in
set_option maxRecDepth 100000 in
theorem c_X12_riders {G : GG} {M : Mm} {l0 : Option Nat} {r : Int32 × Mm} (h : f_X12_riders M l0 = some r) (l : Launch) : Ct l G j_X12_riders b_X12_riders [rf G.1 l0] M (some (.int r.1)) r.2 := cf_I (by decide +kernel) (by simp [lg_sl, rf_cat, cat_i, cat_l, j_X12_riders]) rfl (by simp [lv_args, rf_cat, cat_i, cat_l]) (fun X he => t_X12_riders_e he h)
def f_X12_chain_71 (k30 : Mm → Option Nat → Int32 → Int32 → Int32 → Option (Int32 × Mm)) (k40 : Mm → Option Nat → Int32 → Int32 → Int32 → Int32 → Option (Int32 × Mm)) (M : Mm) (l0 : Option Nat) (l1 : Int32) (l2 : Int32) (l4 : Int32) (s0 : Int32) (s1 : Int32) : Option (Int32 × Mm) := nmI (s0 ||| s1) fun x72 => k40 M l0 l1 l2 x72 (l4 + 1)
def f_X12_chain_40 (k30 : Mm → Option Nat → Int32 → Int32 → Int32 → Option (Int32 × Mm)) : Nat → Mm → Option Nat → Int32 → Int32 → Int32 → Int32 → Option (Int32 × Mm)
  | 0, _, _, _, _, _, _ => none
  | n + 1, M, l0, l1, l2, l3, l4 => gfR M l0 12 20 fun v43 => alI M v43 21 0 fun v47 => if v47 ≤ l4 then (k30 M l0 l1 l2 l3) else (bd (f_X12_has M l2 l4) fun v55 M55 => if v55 = 0 then (f_X12_chain_71 k30 (f_X12_chain_40 k30 n) M55 l0 l1 l2 l4 l3 0) else (ck M55 l0 12 <| bd (f_X12_helpedBy M55 l0 l4) fun v64 M64 => f_X12_chain_71 k30 (f_X12_chain_40 k30 n) M64 l0 l1 l2 l4 l3 v64))
def f_X12_chain_30 : Nat → Mm → Option Nat → Int32 → Int32 → Int32 → Option (Int32 × Mm)
  | 0, _, _, _, _, _ => none
  | n + 1, M, l0, l1, l2, l3 => if l3 = l2 then (some ((l2 &&& ((1 <<< (l1 &&& 31)) ^^^ (-1))), M)) else (f_X12_chain_40 (f_X12_chain_30 n) fu M l0 l1 l3 l3 0)
def f_X12_chain (M : Mm) (l0 : Option Nat) (l1 : Int32) : Option (Int32 × Mm) := pfI M l0 12 1 0 fun M2 => pfI M2 l0 12 0 0 fun M7 => ck M7 l0 12 <| bd (f_X12_isHouseAt M7 l0 l1) fun v12 M12 => if v12 = 0 then (ck M12 l0 12 <| bd (f_X12_refuse M12 l0 2) fun v20 M20 => some (v20, M20)) else (nmI (1 <<< (l1 &&& 31)) fun x29 => f_X12_chain_30  fu M12 l0 l1 0 x29)
set_option maxHeartbeats 4000000 in
set_option maxRecDepth 100000 in
theorem t_X12_chain_71 {G : GG} {X : CX} {ans : Int32 × Mm} (he : EndI G X j_X12_chain b_X12_chain ans) {k30 : Mm → Option Nat → Int32 → Int32 → Int32 → Option (Int32 × Mm)} {k40 : Mm → Option Nat → Int32 → Int32 → Int32 → Int32 → Option (Int32 × Mm)} (hk30 : ∀ (M : Mm) (a0 : Option Nat) (a1 : Int32) (a2 : Int32) (a3 : Int32), k30 M a0 a1 a2 a3 = some ans → Wt G X j_X12_chain b_X12_chain 30 [(0, rf G.1 a0), (1, .int a1), (2, .int a2), (3, .int a3)] [] M 0 0) (hk40 : ∀ (M : Mm) (a0 : Option Nat) (a1 : Int32) (a2 : Int32) (a3 : Int32) (a4 : Int32), k40 M a0 a1 a2 a3 a4 = some ans → Wt G X j_X12_chain b_X12_chain 40 [(0, rf G.1 a0), (1, .int a1), (2, .int a2), (3, .int a3), (4, .int a4)] [] M 0 0) {M : Mm} {l0 : Option Nat} {l1 : Int32} {l2 : Int32} {l4 : Int32} {s0 : Int32} {s1 : Int32} (h : f_X12_chain_71 k30 k40 M l0 l1 l2 l4 s0 s1 = some ans) : Wt G X j_X12_chain b_X12_chain 71 [(0, rf G.1 l0), (1, .int l1), (2, .int l2), (4, .int l4)] [.int s1, .int s0] M 0 0 := by
  unfold f_X12_chain_71 at h
  refine wt_ior (pc := 71) dX12_chain_71 ?_
  refine wt_nmI h (fun x72 h => ?_)
  refine wt_istore_n (pc := 72) (i := 3) (ls' := [(3, .int x72), (0, rf G.1 l0), (1, .int l1), (2, .int l2), (4, .int l4)]) rfl dX12_chain_72 (by decide) rfl ?_
  refine wt_iinc (pc := 73) (d := 1) (ls' := [(4, .int (l4 + 1)), (3, .int x72), (0, rf G.1 l0), (1, .int l1), (2, .int l2)]) 4 dX12_chain_73 rfl (by decide) (by decide) rfl ?_
  refine wt_goto (pc := 76) (tgt := 40) dX12_chain_76 (by decide) ?_
  refine wt_sub (ls' := [(0, rf G.1 l0), (1, .int l1), (2, .int l2), (3, .int x72), (4, .int (l4 + 1))]) [2, 3, 4, 1, 0] rfl ?_
  exact hk40 _ _ _ _ _ _ h
set_option maxHeartbeats 4000000 in
set_option maxRecDepth 100000 in
theorem t_X12_chain_40 {G : GG} {X : CX} {ans : Int32 × Mm} (he : EndI G X j_X12_chain b_X12_chain ans) {k30 : Mm → Option Nat → Int32 → Int32 → Int32 → Option (Int32 × Mm)} (hk30 : ∀ (M : Mm) (a0 : Option Nat) (a1 : Int32) (a2 : Int32) (a3 : Int32), k30 M a0 a1 a2 a3 = some ans → Wt G X j_X12_chain b_X12_chain 30 [(0, rf G.1 a0), (1, .int a1), (2, .int a2), (3, .int a3)] [] M 0 0) : ∀ (n : Nat) {M : Mm} {l0 : Option Nat} {l1 : Int32} {l2 : Int32} {l3 : Int32} {l4 : Int32}, f_X12_chain_40 k30 n M l0 l1 l2 l3 l4 = some ans → Wt G X j_X12_chain b_X12_chain 40 [(0, rf G.1 l0), (1, .int l1), (2, .int l2), (3, .int l3), (4, .int l4)] [] M 0 0 := by
  intro n
  induction n with
  | zero =>
    intro M l0 l1 l2 l3 l4 h
    rw [f_X12_chain_40] at h
    cases h
  | succ n ih =>
    intro M l0 l1 l2 l3 l4 h
    rw [f_X12_chain_40] at h
    refine wt_iload (pc := 40) 4 dX12_chain_40 rfl ?_
    refine wt_aload_n (pc := 42) 0 dX12_chain_42 rfl ?_
    refine wt_getR (pc := 43) dX12_chain_43 fl_X12_35 (fun _ _ _ => rfl) h (fun v43 h => ?_)
    refine wt_iconst (pc := 46) (v := 0) dX12_chain_46 (by decide) ?_
    refine wt_iaload (pc := 47) (kd := 21) dX12_chain_47 rfl rfl h (fun v47 h => ?_)
    refine wt_icmp_ge (pc := 48) (tgt := 79) dX12_chain_48 (by decide) (fun q => ?_) (fun q => ?_)
    · have h := ite_t q h
      refine wt_goto (pc := 79) (tgt := 30) dX12_chain_79 (by decide) ?_
      refine wt_sub (ls' := [(0, rf G.1 l0), (1, .int l1), (2, .int l2), (3, .int l3)]) [0, 1, 2, 3] rfl ?_
      exact hk30 _ _ _ _ _ h
    · have h := ite_f q h
      refine wt_iload_n (pc := 51) 3 dX12_chain_51 rfl ?_
      refine wt_iload_n (pc := 52) 2 dX12_chain_52 rfl ?_
      refine wt_iload (pc := 53) 4 dX12_chain_53 rfl ?_
      refine wt_cSI (pc := 55) (J' := j_X12_has) (As := [.int l2, .int l4]) (st := [.int l3]) (B' := b_X12_has) (u' := 0) (w' := 0) dX12_chain_55 ml_X12_107 ms_X12_has (fun v9 M9 e9 => c_X12_has e9) rfl (by decide) rfl rfl (by decide) (by decide) (by simp [rf_cat, cat_i, cat_l, cat_r]) rfl h (fun v55 M55 h => ?_)
      refine wt_if_eq (pc := 58) (tgt := 70) dX12_chain_58 (by decide) (fun q => ?_) (fun q => ?_)
      · have h := ite_t q h
        refine wt_iconst (pc := 70) (v := 0) dX12_chain_70 (by decide) ?_
        refine wt_sub (ls' := [(0, rf G.1 l0), (1, .int l1), (2, .int l2), (4, .int l4)]) [0, 1, 2, 4] rfl ?_
        exact t_X12_chain_71 he (fun _ _ _ _ _ h => hk30 _ _ _ _ _ h) (fun _ _ _ _ _ _ h => ih h) h
      · have h := ite_f q h
        refine wt_aload_n (pc := 61) 0 dX12_chain_61 rfl ?_
        refine wt_iload (pc := 62) 4 dX12_chain_62 rfl ?_
        refine wt_cVI (pc := 64) (J' := j_X12_helpedBy) (As := [.int l4]) (st := [.int l3]) (B' := b_X12_helpedBy) (u' := 0) (w' := 0) dX12_chain_64 ml_X12_474 mv_X12_helpedBy (fun v9 M9 e9 => c_X12_helpedBy e9) rfl (by decide) rfl rfl (by decide) (by decide) (by simp [rf_cat, cat_i, cat_l, cat_r]) rfl h (fun v64 M64 h => ?_)
        refine wt_goto (pc := 67) (tgt := 71) dX12_chain_67 (by decide) ?_
        refine wt_sub (ls' := [(0, rf G.1 l0), (1, .int l1), (2, .int l2), (4, .int l4)]) [0, 1, 2, 4] rfl ?_
        exact t_X12_chain_71 he (fun _ _ _ _ _ h => hk30 _ _ _ _ _ h) (fun _ _ _ _ _ _ h => ih h) h
set_option maxHeartbeats 4000000 in
set_option maxRecDepth 100000 in
theorem t_X12_chain_30 {G : GG} {X : CX} {ans : Int32 × Mm} (he : EndI G X j_X12_chain b_X12_chain ans) : ∀ (n : Nat) {M : Mm} {l0 : Option Nat} {l1 : Int32} {l2 : Int32} {l3 : Int32}, f_X12_chain_30 n M l0 l1 l2 l3 = some ans → Wt G X j_X12_chain b_X12_chain 30 [(0, rf G.1 l0), (1, .int l1), (2, .int l2), (3, .int l3)] [] M 0 0 := by
  intro n
  induction n with
  | zero =>
    intro M l0 l1 l2 l3 h
    rw [f_X12_chain_30] at h
    cases h
  | succ n ih =>
    intro M l0 l1 l2 l3 h
    rw [f_X12_chain_30] at h
    refine wt_iload_n (pc := 30) 3 dX12_chain_30 rfl ?_
    refine wt_iload_n (pc := 31) 2 dX12_chain_31 rfl ?_
    refine wt_icmp_eq (pc := 32) (tgt := 82) dX12_chain_32 (by decide) (fun q => ?_) (fun q => ?_)
    · have h := ite_t q h
      refine wt_iload_n (pc := 82) 2 dX12_chain_82 rfl ?_
      refine wt_iconst (pc := 83) (v := 1) dX12_chain_83 (by decide) ?_
      refine wt_iload_n (pc := 84) 1 dX12_chain_84 rfl ?_
      refine wt_ishl (pc := 85) dX12_chain_85 ?_
      refine wt_iconst (pc := 86) (v := (-1)) dX12_chain_86 (by decide) ?_
      refine wt_ixor (pc := 87) dX12_chain_87 ?_
      refine wt_iand (pc := 88) dX12_chain_88 ?_
      cases h
      exact he 89 _ _ _ dX12_chain_89 (by decide) (by decide)
    · have h := ite_f q h
      refine wt_iload_n (pc := 35) 3 dX12_chain_35 rfl ?_
      refine wt_istore_n (pc := 36) (i := 2) (ls' := [(2, .int l3), (0, rf G.1 l0), (1, .int l1), (3, .int l3)]) rfl dX12_chain_36 (by decide) rfl ?_
      refine wt_iconst (pc := 37) (v := 0) dX12_chain_37 (by decide) ?_
      refine wt_istore (pc := 38) (i := 4) (ls' := [(4, .int 0), (2, .int l3), (0, rf G.1 l0), (1, .int l1), (3, .int l3)]) dX12_chain_38 (by decide) rfl ?_
      refine wt_sub (ls' := [(0, rf G.1 l0), (1, .int l1), (2, .int l3), (3, .int l3), (4, .int 0)]) [2, 3, 1, 4, 0] rfl ?_
      exact t_X12_chain_40 he (fun _ _ _ _ _ h => ih h) fu h
set_option maxHeartbeats 4000000 in
set_option maxRecDepth 100000 in
theorem t_X12_chain_e {G : GG} {X : CX} {ans : Int32 × Mm} (he : EndI G X j_X12_chain b_X12_chain ans) {M : Mm} {l0 : Option Nat} {l1 : Int32} (h : f_X12_chain M l0 l1 = some ans) : Wt G X j_X12_chain b_X12_chain 0 [(0, rf G.1 l0), (1, .int l1)] [] M 0 0 := by
  unfold f_X12_chain at h
  refine wt_aload_n (pc := 0) 0 dX12_chain_0 rfl ?_
  refine wt_iconst (pc := 1) (v := 0) dX12_chain_1 (by decide) ?_
  refine wt_putI (pc := 2) dX12_chain_2 fl_X12_68 rfl rfl h (fun M2 h => ?_)
  refine wt_aload_n (pc := 5) 0 dX12_chain_5 rfl ?_
  refine wt_iconst (pc := 6) (v := 0) dX12_chain_6 (by decide) ?_
  refine wt_putI (pc := 7) dX12_chain_7 fl_X12_71 rfl rfl h (fun M7 h => ?_)
  refine wt_aload_n (pc := 10) 0 dX12_chain_10 rfl ?_
  refine wt_iload_n (pc := 11) 1 dX12_chain_11 rfl ?_
  refine wt_cVI (pc := 12) (J' := j_X12_isHouseAt) (As := [.int l1]) (st := []) (B' := b_X12_isHouseAt) (u' := 0) (w' := 0) dX12_chain_12 ml_X12_341 mv_X12_isHouseAt (fun v9 M9 e9 => c_X12_isHouseAt e9) rfl (by decide) rfl rfl (by decide) (by decide) (by decide) rfl h (fun v12 M12 h => ?_)
  refine wt_if_ne (pc := 15) (tgt := 24) dX12_chain_15 (by decide) (fun q => ?_) (fun q => ?_)
  · have h := ite_f q h
    refine wt_iconst (pc := 24) (v := 0) dX12_chain_24 (by decide) ?_
    refine wt_istore_n (pc := 25) (i := 2) (ls' := [(2, .int 0), (0, rf G.1 l0), (1, .int l1)]) rfl dX12_chain_25 (by decide) rfl ?_
    refine wt_iconst (pc := 26) (v := 1) dX12_chain_26 (by decide) ?_
    refine wt_iload_n (pc := 27) 2 dX12_chain_27 rfl ?_
    refine wt_ishl (pc := 28) dX12_chain_28 ?_
    refine wt_nmI h (fun x29 h => ?_)
    refine wt_istore_n (pc := 29) (i := 3) (ls' := [(3, .int x29), (2, .int 0), (0, rf G.1 l0), (1, .int l1)]) rfl dX12_chain_29 (by decide) rfl ?_
    refine wt_sub (ls' := [(0, rf G.1 l0), (1, .int l1), (2, .int 0), (3, .int x29)]) [2, 3, 1, 0] rfl ?_
    exact t_X12_chain_30 he  fu h
  · have h := ite_t q h
    refine wt_aload_n (pc := 18) 0 dX12_chain_18 rfl ?_
    refine wt_iconst (pc := 19) (v := 2) dX12_chain_19 (by decide) ?_
    refine wt_cVI (pc := 20) (J' := j_X12_refuse) (As := [.int 2]) (st := []) (B' := b_X12_refuse) (u' := 0) (w' := 0) dX12_chain_20 ml_X12_331 mv_X12_refuse (fun v9 M9 e9 => c_X12_refuse e9) rfl (by decide) rfl rfl (by decide) (by decide) (by decide) rfl h (fun v20 M20 h => ?_)
    cases h
    exact he 23 _ _ _ dX12_chain_23 (by decide) (by decide)
set_option maxHeartbeats 4000000 in
set_option maxRecDepth 100000 in
theorem c_X12_chain {G : GG} {M : Mm} {l0 : Option Nat} {l1 : Int32} {r : Int32 × Mm} (h : f_X12_chain M l0 l1 = some r) (l : Launch) : Ct l G j_X12_chain b_X12_chain [rf G.1 l0, .int l1] M (some (.int r.1)) r.2 := cf_I (by decide +kernel) (by simp [lg_sl, rf_cat, cat_i, cat_l, j_X12_chain]) rfl (by simp [lv_args, rf_cat, cat_i, cat_l]) (fun X he => t_X12_chain_e he h)
def f_X12_quits_26 (M : Mm) (l0 : Option Nat) : Option (Int32 × Mm) := ck M l0 12 <| bd (f_X12_refuse M l0 2) fun v28 M28 => some (v28, M28)
def f_X12_quits (M : Mm) (l0 : Option Nat) (l1 : Int32) (l2 : Int32) : Option (Int32 × Mm) := pfI M l0 12 1 0 fun M2 => pfI M2 l0 12 0 0 fun M7 => ck M7 l0 12 <| bd (f_X12_isHouseAt M7 l0 l1) fun v12 M12 => if v12 = 0 then (f_X12_quits_26  M12 l0) else (ck M12 l0 12 <| bd (f_X12_isHouseAt M12 l0 l2) fun v20 M20 => if v20 = 0 then (f_X12_quits_26  M20 l0) else (if l1 = l2 then (ck M20 l0 12 <| bd (f_X12_refuse M20 l0 5) fun v39 M39 => some (v39, M39)) else (gfR M20 l0 12 20 fun v46 => alI M20 v46 21 ((69 + (8 * l1)) + l2) fun v58 => gfR M20 l0 12 20 fun v60 => alI M20 v60 21 ((69 + (8 * l2)) + l1) fun v72 => some ((v58 - v72), M20))))
set_option maxHeartbeats 4000000 in
set_option maxRecDepth 100000 in
theorem t_X12_quits_26 {G : GG} {X : CX} {ans : Int32 × Mm} (he : EndI G X j_X12_quits b_X12_quits ans) {M : Mm} {l0 : Option Nat} (h : f_X12_quits_26 M l0 = some ans) : Wt G X j_X12_quits b_X12_quits 26 [(0, rf G.1 l0)] [] M 0 0 := by
  unfold f_X12_quits_26 at h
  refine wt_aload_n (pc := 26) 0 dX12_quits_26 rfl ?_
  refine wt_iconst (pc := 27) (v := 2) dX12_quits_27 (by decide) ?_
  refine wt_cVI (pc := 28) (J' := j_X12_refuse) (As := [.int 2]) (st := []) (B' := b_X12_refuse) (u' := 0) (w' := 0) dX12_quits_28 ml_X12_331 mv_X12_refuse (fun v9 M9 e9 => c_X12_refuse e9) rfl (by decide) rfl rfl (by decide) (by decide) (by decide) rfl h (fun v28 M28 h => ?_)
  cases h
  exact he 31 _ _ _ dX12_quits_31 (by decide) (by decide)
set_option maxHeartbeats 4000000 in
set_option maxRecDepth 100000 in
theorem t_X12_quits_e {G : GG} {X : CX} {ans : Int32 × Mm} (he : EndI G X j_X12_quits b_X12_quits ans) {M : Mm} {l0 : Option Nat} {l1 : Int32} {l2 : Int32} (h : f_X12_quits M l0 l1 l2 = some ans) : Wt G X j_X12_quits b_X12_quits 0 [(0, rf G.1 l0), (1, .int l1), (2, .int l2)] [] M 0 0 := by
  unfold f_X12_quits at h
  refine wt_aload_n (pc := 0) 0 dX12_quits_0 rfl ?_
  refine wt_iconst (pc := 1) (v := 0) dX12_quits_1 (by decide) ?_
  refine wt_putI (pc := 2) dX12_quits_2 fl_X12_68 rfl rfl h (fun M2 h => ?_)
  refine wt_aload_n (pc := 5) 0 dX12_quits_5 rfl ?_
  refine wt_iconst (pc := 6) (v := 0) dX12_quits_6 (by decide) ?_
  refine wt_putI (pc := 7) dX12_quits_7 fl_X12_71 rfl rfl h (fun M7 h => ?_)
  refine wt_aload_n (pc := 10) 0 dX12_quits_10 rfl ?_
  refine wt_iload_n (pc := 11) 1 dX12_quits_11 rfl ?_
  refine wt_cVI (pc := 12) (J' := j_X12_isHouseAt) (As := [.int l1]) (st := []) (B' := b_X12_isHouseAt) (u' := 0) (w' := 0) dX12_quits_12 ml_X12_341 mv_X12_isHouseAt (fun v9 M9 e9 => c_X12_isHouseAt e9) rfl (by decide) rfl rfl (by decide) (by decide) (by decide) rfl h (fun v12 M12 h => ?_)
  refine wt_if_eq (pc := 15) (tgt := 26) dX12_quits_15 (by decide) (fun q => ?_) (fun q => ?_)
  · have h := ite_t q h
    refine wt_sub (ls' := [(0, rf G.1 l0)]) [0] rfl ?_
    exact t_X12_quits_26 he  h
  · have h := ite_f q h
    refine wt_aload_n (pc := 18) 0 dX12_quits_18 rfl ?_
    refine wt_iload_n (pc := 19) 2 dX12_quits_19 rfl ?_
    refine wt_cVI (pc := 20) (J' := j_X12_isHouseAt) (As := [.int l2]) (st := []) (B' := b_X12_isHouseAt) (u' := 0) (w' := 0) dX12_quits_20 ml_X12_341 mv_X12_isHouseAt (fun v9 M9 e9 => c_X12_isHouseAt e9) rfl (by decide) rfl rfl (by decide) (by decide) (by decide) rfl h (fun v20 M20 h => ?_)
    refine wt_if_ne (pc := 23) (tgt := 32) dX12_quits_23 (by decide) (fun q => ?_) (fun q => ?_)
    · have h := ite_f q h
      refine wt_iload_n (pc := 32) 1 dX12_quits_32 rfl ?_
      refine wt_iload_n (pc := 33) 2 dX12_quits_33 rfl ?_
      refine wt_icmp_ne (pc := 34) (tgt := 45) dX12_quits_34 (by decide) (fun q => ?_) (fun q => ?_)
      · have h := ite_f q h
        refine wt_aload_n (pc := 45) 0 dX12_quits_45 rfl ?_
        refine wt_getR (pc := 46) dX12_quits_46 fl_X12_35 (fun _ _ _ => rfl) h (fun v46 h => ?_)
        refine wt_bipush (pc := 49) (v := 69) dX12_quits_49 (by decide) ?_
        refine wt_bipush (pc := 51) (v := 8) dX12_quits_51 (by decide) ?_
        refine wt_iload_n (pc := 53) 1 dX12_quits_53 rfl ?_
        refine wt_imul (pc := 54) dX12_quits_54 ?_
        refine wt_iadd (pc := 55) dX12_quits_55 ?_
        refine wt_iload_n (pc := 56) 2 dX12_quits_56 rfl ?_
        refine wt_iadd (pc := 57) dX12_quits_57 ?_
        refine wt_iaload (pc := 58) (kd := 21) dX12_quits_58 rfl rfl h (fun v58 h => ?_)
        refine wt_aload_n (pc := 59) 0 dX12_quits_59 rfl ?_
        refine wt_getR (pc := 60) dX12_quits_60 fl_X12_35 (fun _ _ _ => rfl) h (fun v60 h => ?_)
        refine wt_bipush (pc := 63) (v := 69) dX12_quits_63 (by decide) ?_
        refine wt_bipush (pc := 65) (v := 8) dX12_quits_65 (by decide) ?_
        refine wt_iload_n (pc := 67) 2 dX12_quits_67 rfl ?_
        refine wt_imul (pc := 68) dX12_quits_68 ?_
        refine wt_iadd (pc := 69) dX12_quits_69 ?_
        refine wt_iload_n (pc := 70) 1 dX12_quits_70 rfl ?_
        refine wt_iadd (pc := 71) dX12_quits_71 ?_
        refine wt_iaload (pc := 72) (kd := 21) dX12_quits_72 rfl rfl h (fun v72 h => ?_)
        refine wt_isub (pc := 73) dX12_quits_73 ?_
        cases h
        exact he 74 _ _ _ dX12_quits_74 (by decide) (by decide)
      · have h := ite_t q h
        refine wt_aload_n (pc := 37) 0 dX12_quits_37 rfl ?_
        refine wt_iconst (pc := 38) (v := 5) dX12_quits_38 (by decide) ?_
        refine wt_cVI (pc := 39) (J' := j_X12_refuse) (As := [.int 5]) (st := []) (B' := b_X12_refuse) (u' := 0) (w' := 0) dX12_quits_39 ml_X12_331 mv_X12_refuse (fun v9 M9 e9 => c_X12_refuse e9) rfl (by decide) rfl rfl (by decide) (by decide) (by decide) rfl h (fun v39 M39 h => ?_)
        refine wt_goto (pc := 42) (tgt := 74) dX12_quits_42 (by decide) ?_
        cases h
        exact he 74 _ _ _ dX12_quits_74 (by decide) (by decide)
    · have h := ite_t q h
      refine wt_sub (ls' := [(0, rf G.1 l0)]) [0] rfl ?_
      exact t_X12_quits_26 he  h
set_option maxHeartbeats 4000000 in
set_option maxRecDepth 100000 in
theorem c_X12_quits {G : GG} {M : Mm} {l0 : Option Nat} {l1 : Int32} {l2 : Int32} {r : Int32 × Mm} (h : f_X12_quits M l0 l1 l2 = some r) (l : Launch) : Ct l G j_X12_quits b_X12_quits [rf G.1 l0, .int l1, .int l2] M (some (.int r.1)) r.2 := cf_I (by decide +kernel) (by simp [lg_sl, rf_cat, cat_i, cat_l, j_X12_quits]) rfl (by simp [lv_args, rf_cat, cat_i, cat_l]) (fun X he => t_X12_quits_e he h)

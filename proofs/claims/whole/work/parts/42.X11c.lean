theorem dX11_scoreOf_0 : decode cX11_scoreOf 0 = .ok (.iconst 0, 1) := by decide +kernel
theorem dX11_scoreOf_1 : decode cX11_scoreOf 1 = .ok (.istore 4, 2) := by decide +kernel
theorem dX11_scoreOf_3 : decode cX11_scoreOf 3 = .ok (.iconst 0, 1) := by decide +kernel
theorem dX11_scoreOf_4 : decode cX11_scoreOf 4 = .ok (.istore 5, 2) := by decide +kernel
theorem dX11_scoreOf_6 : decode cX11_scoreOf 6 = .ok (.iload 5, 2) := by decide +kernel
theorem dX11_scoreOf_8 : decode cX11_scoreOf 8 = .ok (.iload_n 3, 1) := by decide +kernel
theorem dX11_scoreOf_9 : decode cX11_scoreOf 9 = .ok (.if_icmp .ge 51, 3) := by decide +kernel
theorem dX11_scoreOf_12 : decode cX11_scoreOf 12 = .ok (.aload_n 0, 1) := by decide +kernel
theorem dX11_scoreOf_13 : decode cX11_scoreOf 13 = .ok (.getfield 30, 3) := by decide +kernel
theorem dX11_scoreOf_16 : decode cX11_scoreOf 16 = .ok (.getfield 135, 3) := by decide +kernel
theorem dX11_scoreOf_19 : decode cX11_scoreOf 19 = .ok (.iload_n 1, 1) := by decide +kernel
theorem dX11_scoreOf_20 : decode cX11_scoreOf 20 = .ok (.aaload, 1) := by decide +kernel
theorem dX11_scoreOf_21 : decode cX11_scoreOf 21 = .ok (.iload 5, 2) := by decide +kernel
theorem dX11_scoreOf_23 : decode cX11_scoreOf 23 = .ok (.laload, 1) := by decide +kernel
theorem dX11_scoreOf_24 : decode cX11_scoreOf 24 = .ok (.ldc2_w 387, 3) := by decide +kernel
theorem dX11_scoreOf_27 : decode cX11_scoreOf 27 = .ok (.aload_n 0, 1) := by decide +kernel
theorem dX11_scoreOf_28 : decode cX11_scoreOf 28 = .ok (.getfield 30, 3) := by decide +kernel
theorem dX11_scoreOf_31 : decode cX11_scoreOf 31 = .ok (.getfield 135, 3) := by decide +kernel
theorem dX11_scoreOf_34 : decode cX11_scoreOf 34 = .ok (.iload_n 2, 1) := by decide +kernel
theorem dX11_scoreOf_35 : decode cX11_scoreOf 35 = .ok (.aaload, 1) := by decide +kernel
theorem dX11_scoreOf_36 : decode cX11_scoreOf 36 = .ok (.iload 5, 2) := by decide +kernel
theorem dX11_scoreOf_38 : decode cX11_scoreOf 38 = .ok (.laload, 1) := by decide +kernel
theorem dX11_scoreOf_39 : decode cX11_scoreOf 39 = .ok (.lmul, 1) := by decide +kernel
theorem dX11_scoreOf_40 : decode cX11_scoreOf 40 = .ok (.lsub, 1) := by decide +kernel
theorem dX11_scoreOf_41 : decode cX11_scoreOf 41 = .ok (.l2i, 1) := by decide +kernel
theorem dX11_scoreOf_42 : decode cX11_scoreOf 42 = .ok (.istore 6, 2) := by decide +kernel
theorem dX11_scoreOf_44 : decode cX11_scoreOf 44 = .ok (.iload 4, 2) := by decide +kernel
theorem dX11_scoreOf_46 : decode cX11_scoreOf 46 = .ok (.iload 6, 2) := by decide +kernel
theorem dX11_scoreOf_48 : decode cX11_scoreOf 48 = .ok (.iload 6, 2) := by decide +kernel
theorem dX11_scoreOf_50 : decode cX11_scoreOf 50 = .ok (.imul, 1) := by decide +kernel
theorem dX11_scoreOf_51 : decode cX11_scoreOf 51 = .ok (.iadd, 1) := by decide +kernel
theorem dX11_scoreOf_52 : decode cX11_scoreOf 52 = .ok (.istore 4, 2) := by decide +kernel
theorem dX11_scoreOf_54 : decode cX11_scoreOf 54 = .ok (.iinc 5 1, 3) := by decide +kernel
theorem dX11_scoreOf_57 : decode cX11_scoreOf 57 = .ok (.goto (-51), 3) := by decide +kernel
theorem dX11_scoreOf_60 : decode cX11_scoreOf 60 = .ok (.iload 4, 2) := by decide +kernel
theorem dX11_scoreOf_62 : decode cX11_scoreOf 62 = .ok (.ireturn, 1) := by decide +kernel
def j_X11_scoreOf : JD := (yX11_scoreOf, cX11_scoreOf, 7, (some .int))
def b_X11_scoreOf : BD := (0, 0, 0)
theorem dX11_score_0 : decode cX11_score 0 = .ok (.aload_n 0, 1) := by decide +kernel
theorem dX11_score_1 : decode cX11_score 1 = .ok (.iload_n 1, 1) := by decide +kernel
theorem dX11_score_2 : decode cX11_score 2 = .ok (.iload_n 2, 1) := by decide +kernel
theorem dX11_score_3 : decode cX11_score 3 = .ok (.iload_n 3, 1) := by decide +kernel
theorem dX11_score_4 : decode cX11_score 4 = .ok (.invokevirtual 372, 3) := by decide +kernel
theorem dX11_score_7 : decode cX11_score 7 = .ok (.istore 4, 2) := by decide +kernel
theorem dX11_score_9 : decode cX11_score 9 = .ok (.iload 4, 2) := by decide +kernel
theorem dX11_score_11 : decode cX11_score 11 = .ok (.ifCond .eq 10, 3) := by decide +kernel
theorem dX11_score_14 : decode cX11_score 14 = .ok (.aload_n 0, 1) := by decide +kernel
theorem dX11_score_15 : decode cX11_score 15 = .ok (.iload 4, 2) := by decide +kernel
theorem dX11_score_17 : decode cX11_score 17 = .ok (.invokevirtual 131, 3) := by decide +kernel
theorem dX11_score_20 : decode cX11_score 20 = .ok (.ireturn, 1) := by decide +kernel
theorem dX11_score_21 : decode cX11_score 21 = .ok (.aload_n 0, 1) := by decide +kernel
theorem dX11_score_22 : decode cX11_score 22 = .ok (.aload_n 0, 1) := by decide +kernel
theorem dX11_score_23 : decode cX11_score 23 = .ok (.iload_n 1, 1) := by decide +kernel
theorem dX11_score_24 : decode cX11_score 24 = .ok (.iload_n 2, 1) := by decide +kernel
theorem dX11_score_25 : decode cX11_score 25 = .ok (.iload_n 3, 1) := by decide +kernel
theorem dX11_score_26 : decode cX11_score 26 = .ok (.invokevirtual 375, 3) := by decide +kernel
theorem dX11_score_29 : decode cX11_score 29 = .ok (.invokevirtual 176, 3) := by decide +kernel
theorem dX11_score_32 : decode cX11_score 32 = .ok (.ireturn, 1) := by decide +kernel
def j_X11_score : JD := (yX11_score, cX11_score, 5, (some .int))
def b_X11_score : BD := (2, 0, 0)
theorem dX11_scoreOfMean_0 : decode cX11_scoreOfMean 0 = .ok (.iconst 0, 1) := by decide +kernel
theorem dX11_scoreOfMean_1 : decode cX11_scoreOfMean 1 = .ok (.istore_n 3, 1) := by decide +kernel
theorem dX11_scoreOfMean_2 : decode cX11_scoreOfMean 2 = .ok (.iconst 0, 1) := by decide +kernel
theorem dX11_scoreOfMean_3 : decode cX11_scoreOfMean 3 = .ok (.istore 4, 2) := by decide +kernel
theorem dX11_scoreOfMean_5 : decode cX11_scoreOfMean 5 = .ok (.iload 4, 2) := by decide +kernel
theorem dX11_scoreOfMean_7 : decode cX11_scoreOfMean 7 = .ok (.iload_n 2, 1) := by decide +kernel
theorem dX11_scoreOfMean_8 : decode cX11_scoreOfMean 8 = .ok (.if_icmp .ge 25, 3) := by decide +kernel
theorem dX11_scoreOfMean_11 : decode cX11_scoreOfMean 11 = .ok (.iload_n 3, 1) := by decide +kernel
theorem dX11_scoreOfMean_12 : decode cX11_scoreOfMean 12 = .ok (.aload_n 0, 1) := by decide +kernel
theorem dX11_scoreOfMean_13 : decode cX11_scoreOfMean 13 = .ok (.getfield 30, 3) := by decide +kernel
theorem dX11_scoreOfMean_16 : decode cX11_scoreOfMean 16 = .ok (.getfield 135, 3) := by decide +kernel
theorem dX11_scoreOfMean_19 : decode cX11_scoreOfMean 19 = .ok (.iload_n 1, 1) := by decide +kernel
theorem dX11_scoreOfMean_20 : decode cX11_scoreOfMean 20 = .ok (.aaload, 1) := by decide +kernel
theorem dX11_scoreOfMean_21 : decode cX11_scoreOfMean 21 = .ok (.iload 4, 2) := by decide +kernel
theorem dX11_scoreOfMean_23 : decode cX11_scoreOfMean 23 = .ok (.laload, 1) := by decide +kernel
theorem dX11_scoreOfMean_24 : decode cX11_scoreOfMean 24 = .ok (.l2i, 1) := by decide +kernel
theorem dX11_scoreOfMean_25 : decode cX11_scoreOfMean 25 = .ok (.iadd, 1) := by decide +kernel
theorem dX11_scoreOfMean_26 : decode cX11_scoreOfMean 26 = .ok (.istore_n 3, 1) := by decide +kernel
theorem dX11_scoreOfMean_27 : decode cX11_scoreOfMean 27 = .ok (.iinc 4 1, 3) := by decide +kernel
theorem dX11_scoreOfMean_30 : decode cX11_scoreOfMean 30 = .ok (.goto (-25), 3) := by decide +kernel
theorem dX11_scoreOfMean_33 : decode cX11_scoreOfMean 33 = .ok (.bipush 100, 2) := by decide +kernel
theorem dX11_scoreOfMean_35 : decode cX11_scoreOfMean 35 = .ok (.iload_n 3, 1) := by decide +kernel
theorem dX11_scoreOfMean_36 : decode cX11_scoreOfMean 36 = .ok (.imul, 1) := by decide +kernel
theorem dX11_scoreOfMean_37 : decode cX11_scoreOfMean 37 = .ok (.iconst 1, 1) := by decide +kernel
theorem dX11_scoreOfMean_38 : decode cX11_scoreOfMean 38 = .ok (.iload_n 2, 1) := by decide +kernel
theorem dX11_scoreOfMean_39 : decode cX11_scoreOfMean 39 = .ok (.invokestatic 389, 3) := by decide +kernel
theorem dX11_scoreOfMean_42 : decode cX11_scoreOfMean 42 = .ok (.idiv, 1) := by decide +kernel
theorem dX11_scoreOfMean_43 : decode cX11_scoreOfMean 43 = .ok (.istore 4, 2) := by decide +kernel
theorem dX11_scoreOfMean_45 : decode cX11_scoreOfMean 45 = .ok (.iload_n 3, 1) := by decide +kernel
theorem dX11_scoreOfMean_46 : decode cX11_scoreOfMean 46 = .ok (.bipush 100, 2) := by decide +kernel
theorem dX11_scoreOfMean_48 : decode cX11_scoreOfMean 48 = .ok (.iload 4, 2) := by decide +kernel
theorem dX11_scoreOfMean_50 : decode cX11_scoreOfMean 50 = .ok (.isub, 1) := by decide +kernel
theorem dX11_scoreOfMean_51 : decode cX11_scoreOfMean 51 = .ok (.imul, 1) := by decide +kernel
theorem dX11_scoreOfMean_52 : decode cX11_scoreOfMean 52 = .ok (.bipush 100, 2) := by decide +kernel
theorem dX11_scoreOfMean_54 : decode cX11_scoreOfMean 54 = .ok (.iload 4, 2) := by decide +kernel
theorem dX11_scoreOfMean_56 : decode cX11_scoreOfMean 56 = .ok (.isub, 1) := by decide +kernel
theorem dX11_scoreOfMean_57 : decode cX11_scoreOfMean 57 = .ok (.imul, 1) := by decide +kernel
theorem dX11_scoreOfMean_58 : decode cX11_scoreOfMean 58 = .ok (.iload_n 2, 1) := by decide +kernel
theorem dX11_scoreOfMean_59 : decode cX11_scoreOfMean 59 = .ok (.iload_n 3, 1) := by decide +kernel
theorem dX11_scoreOfMean_60 : decode cX11_scoreOfMean 60 = .ok (.isub, 1) := by decide +kernel
theorem dX11_scoreOfMean_61 : decode cX11_scoreOfMean 61 = .ok (.iload 4, 2) := by decide +kernel
theorem dX11_scoreOfMean_63 : decode cX11_scoreOfMean 63 = .ok (.imul, 1) := by decide +kernel
theorem dX11_scoreOfMean_64 : decode cX11_scoreOfMean 64 = .ok (.iload 4, 2) := by decide +kernel
theorem dX11_scoreOfMean_66 : decode cX11_scoreOfMean 66 = .ok (.imul, 1) := by decide +kernel
theorem dX11_scoreOfMean_67 : decode cX11_scoreOfMean 67 = .ok (.iadd, 1) := by decide +kernel
theorem dX11_scoreOfMean_68 : decode cX11_scoreOfMean 68 = .ok (.ireturn, 1) := by decide +kernel
def j_X11_scoreOfMean : JD := (yX11_scoreOfMean, cX11_scoreOfMean, 5, (some .int))
def b_X11_scoreOfMean : BD := (1, 0, 0)
theorem dX11_words_0 : decode cX11_words 0 = .ok (.aload_n 0, 1) := by decide +kernel
theorem dX11_words_1 : decode cX11_words 1 = .ok (.iload_n 1, 1) := by decide +kernel
theorem dX11_words_2 : decode cX11_words 2 = .ok (.iload_n 2, 1) := by decide +kernel
theorem dX11_words_3 : decode cX11_words 3 = .ok (.iload_n 3, 1) := by decide +kernel
theorem dX11_words_4 : decode cX11_words 4 = .ok (.invokevirtual 372, 3) := by decide +kernel
theorem dX11_words_7 : decode cX11_words 7 = .ok (.istore 4, 2) := by decide +kernel
theorem dX11_words_9 : decode cX11_words 9 = .ok (.iload 4, 2) := by decide +kernel
theorem dX11_words_11 : decode cX11_words 11 = .ok (.ifCond .eq 10, 3) := by decide +kernel
theorem dX11_words_14 : decode cX11_words 14 = .ok (.aload_n 0, 1) := by decide +kernel
theorem dX11_words_15 : decode cX11_words 15 = .ok (.iload 4, 2) := by decide +kernel
theorem dX11_words_17 : decode cX11_words 17 = .ok (.invokevirtual 131, 3) := by decide +kernel
theorem dX11_words_20 : decode cX11_words 20 = .ok (.ireturn, 1) := by decide +kernel
theorem dX11_words_21 : decode cX11_words 21 = .ok (.aload_n 0, 1) := by decide +kernel
theorem dX11_words_22 : decode cX11_words 22 = .ok (.aload_n 0, 1) := by decide +kernel
theorem dX11_words_23 : decode cX11_words 23 = .ok (.iload_n 2, 1) := by decide +kernel
theorem dX11_words_24 : decode cX11_words 24 = .ok (.iload_n 3, 1) := by decide +kernel
theorem dX11_words_25 : decode cX11_words 25 = .ok (.invokevirtual 378, 3) := by decide +kernel
theorem dX11_words_28 : decode cX11_words 28 = .ok (.aload_n 0, 1) := by decide +kernel
theorem dX11_words_29 : decode cX11_words 29 = .ok (.iload_n 1, 1) := by decide +kernel
theorem dX11_words_30 : decode cX11_words 30 = .ok (.iload_n 2, 1) := by decide +kernel
theorem dX11_words_31 : decode cX11_words 31 = .ok (.iload_n 3, 1) := by decide +kernel
theorem dX11_words_32 : decode cX11_words 32 = .ok (.invokevirtual 375, 3) := by decide +kernel
theorem dX11_words_35 : decode cX11_words 35 = .ok (.isub, 1) := by decide +kernel
theorem dX11_words_36 : decode cX11_words 36 = .ok (.invokevirtual 176, 3) := by decide +kernel
theorem dX11_words_39 : decode cX11_words 39 = .ok (.ireturn, 1) := by decide +kernel
def j_X11_words : JD := (yX11_words, cX11_words, 5, (some .int))
def b_X11_words : BD := (2, 0, 0)
theorem dX11_owed_0 : decode cX11_owed 0 = .ok (.iconst (-1), 1) := by decide +kernel
theorem dX11_owed_1 : decode cX11_owed 1 = .ok (.istore_n 1, 1) := by decide +kernel
theorem dX11_owed_2 : decode cX11_owed 2 = .ok (.iconst 0, 1) := by decide +kernel
theorem dX11_owed_3 : decode cX11_owed 3 = .ok (.istore_n 2, 1) := by decide +kernel
theorem dX11_owed_4 : decode cX11_owed 4 = .ok (.iconst 0, 1) := by decide +kernel
theorem dX11_owed_5 : decode cX11_owed 5 = .ok (.istore_n 3, 1) := by decide +kernel
theorem dX11_owed_6 : decode cX11_owed 6 = .ok (.iload_n 3, 1) := by decide +kernel
theorem dX11_owed_7 : decode cX11_owed 7 = .ok (.aload_n 0, 1) := by decide +kernel
theorem dX11_owed_8 : decode cX11_owed 8 = .ok (.getfield 37, 3) := by decide +kernel
theorem dX11_owed_11 : decode cX11_owed 11 = .ok (.getfield 102, 3) := by decide +kernel
theorem dX11_owed_14 : decode cX11_owed 14 = .ok (.if_icmp .ge 35, 3) := by decide +kernel
theorem dX11_owed_17 : decode cX11_owed 17 = .ok (.aload_n 0, 1) := by decide +kernel
theorem dX11_owed_18 : decode cX11_owed 18 = .ok (.getfield 37, 3) := by decide +kernel
theorem dX11_owed_21 : decode cX11_owed 21 = .ok (.iload_n 3, 1) := by decide +kernel
theorem dX11_owed_22 : decode cX11_owed 22 = .ok (.invokevirtual 249, 3) := by decide +kernel
theorem dX11_owed_25 : decode cX11_owed 25 = .ok (.istore 4, 2) := by decide +kernel
theorem dX11_owed_27 : decode cX11_owed 27 = .ok (.iload_n 1, 1) := by decide +kernel
theorem dX11_owed_28 : decode cX11_owed 28 = .ok (.iconst (-1), 1) := by decide +kernel
theorem dX11_owed_29 : decode cX11_owed 29 = .ok (.if_icmp .eq 9, 3) := by decide +kernel
theorem dX11_owed_32 : decode cX11_owed 32 = .ok (.iload 4, 2) := by decide +kernel
theorem dX11_owed_34 : decode cX11_owed 34 = .ok (.iload_n 2, 1) := by decide +kernel
theorem dX11_owed_35 : decode cX11_owed 35 = .ok (.if_icmp .le 8, 3) := by decide +kernel
theorem dX11_owed_38 : decode cX11_owed 38 = .ok (.iload 4, 2) := by decide +kernel
theorem dX11_owed_40 : decode cX11_owed 40 = .ok (.istore_n 2, 1) := by decide +kernel
theorem dX11_owed_41 : decode cX11_owed 41 = .ok (.iload_n 3, 1) := by decide +kernel
theorem dX11_owed_42 : decode cX11_owed 42 = .ok (.istore_n 1, 1) := by decide +kernel
theorem dX11_owed_43 : decode cX11_owed 43 = .ok (.iinc 3 1, 3) := by decide +kernel
theorem dX11_owed_46 : decode cX11_owed 46 = .ok (.goto (-40), 3) := by decide +kernel
theorem dX11_owed_49 : decode cX11_owed 49 = .ok (.iload_n 1, 1) := by decide +kernel
theorem dX11_owed_50 : decode cX11_owed 50 = .ok (.iconst (-1), 1) := by decide +kernel
theorem dX11_owed_51 : decode cX11_owed 51 = .ok (.if_icmp .ne 12, 3) := by decide +kernel
theorem dX11_owed_54 : decode cX11_owed 54 = .ok (.aload_n 0, 1) := by decide +kernel
theorem dX11_owed_55 : decode cX11_owed 55 = .ok (.bipush 8, 2) := by decide +kernel
theorem dX11_owed_57 : decode cX11_owed 57 = .ok (.invokevirtual 131, 3) := by decide +kernel
theorem dX11_owed_60 : decode cX11_owed 60 = .ok (.goto 8, 3) := by decide +kernel
theorem dX11_owed_63 : decode cX11_owed 63 = .ok (.aload_n 0, 1) := by decide +kernel
theorem dX11_owed_64 : decode cX11_owed 64 = .ok (.iload_n 1, 1) := by decide +kernel
theorem dX11_owed_65 : decode cX11_owed 65 = .ok (.invokevirtual 176, 3) := by decide +kernel
theorem dX11_owed_68 : decode cX11_owed 68 = .ok (.ireturn, 1) := by decide +kernel
def j_X11_owed : JD := (yX11_owed, cX11_owed, 5, (some .int))
def b_X11_owed : BD := (1, 0, 0)
theorem dX11_riders_0 : decode cX11_riders 0 = .ok (.iconst 0, 1) := by decide +kernel
theorem dX11_riders_1 : decode cX11_riders 1 = .ok (.istore_n 1, 1) := by decide +kernel
theorem dX11_riders_2 : decode cX11_riders 2 = .ok (.iconst 0, 1) := by decide +kernel
theorem dX11_riders_3 : decode cX11_riders 3 = .ok (.istore_n 2, 1) := by decide +kernel
theorem dX11_riders_4 : decode cX11_riders 4 = .ok (.iload_n 2, 1) := by decide +kernel
theorem dX11_riders_5 : decode cX11_riders 5 = .ok (.aload_n 0, 1) := by decide +kernel
theorem dX11_riders_6 : decode cX11_riders 6 = .ok (.getfield 37, 3) := by decide +kernel
theorem dX11_riders_9 : decode cX11_riders 9 = .ok (.getfield 102, 3) := by decide +kernel
theorem dX11_riders_12 : decode cX11_riders 12 = .ok (.if_icmp .ge 37, 3) := by decide +kernel
theorem dX11_riders_15 : decode cX11_riders 15 = .ok (.aload_n 0, 1) := by decide +kernel
theorem dX11_riders_16 : decode cX11_riders 16 = .ok (.getfield 37, 3) := by decide +kernel
theorem dX11_riders_19 : decode cX11_riders 19 = .ok (.iload_n 2, 1) := by decide +kernel
theorem dX11_riders_20 : decode cX11_riders 20 = .ok (.invokevirtual 391, 3) := by decide +kernel
theorem dX11_riders_23 : decode cX11_riders 23 = .ok (.ifCond .le 20, 3) := by decide +kernel
theorem dX11_riders_26 : decode cX11_riders 26 = .ok (.aload_n 0, 1) := by decide +kernel
theorem dX11_riders_27 : decode cX11_riders 27 = .ok (.getfield 37, 3) := by decide +kernel
theorem dX11_riders_30 : decode cX11_riders 30 = .ok (.iload_n 2, 1) := by decide +kernel
theorem dX11_riders_31 : decode cX11_riders 31 = .ok (.invokevirtual 394, 3) := by decide +kernel
theorem dX11_riders_34 : decode cX11_riders 34 = .ok (.ifCond .ne 9, 3) := by decide +kernel
theorem dX11_riders_37 : decode cX11_riders 37 = .ok (.iload_n 1, 1) := by decide +kernel
theorem dX11_riders_38 : decode cX11_riders 38 = .ok (.iconst 1, 1) := by decide +kernel
theorem dX11_riders_39 : decode cX11_riders 39 = .ok (.iload_n 2, 1) := by decide +kernel
theorem dX11_riders_40 : decode cX11_riders 40 = .ok (.ishl, 1) := by decide +kernel
theorem dX11_riders_41 : decode cX11_riders 41 = .ok (.ior, 1) := by decide +kernel
theorem dX11_riders_42 : decode cX11_riders 42 = .ok (.istore_n 1, 1) := by decide +kernel
theorem dX11_riders_43 : decode cX11_riders 43 = .ok (.iinc 2 1, 3) := by decide +kernel
theorem dX11_riders_46 : decode cX11_riders 46 = .ok (.goto (-42), 3) := by decide +kernel
theorem dX11_riders_49 : decode cX11_riders 49 = .ok (.aload_n 0, 1) := by decide +kernel
theorem dX11_riders_50 : decode cX11_riders 50 = .ok (.iload_n 1, 1) := by decide +kernel
theorem dX11_riders_51 : decode cX11_riders 51 = .ok (.invokevirtual 176, 3) := by decide +kernel
theorem dX11_riders_54 : decode cX11_riders 54 = .ok (.ireturn, 1) := by decide +kernel
def j_X11_riders : JD := (yX11_riders, cX11_riders, 3, (some .int))
def b_X11_riders : BD := (1, 0, 0)
theorem dX11_chain_0 : decode cX11_chain 0 = .ok (.aload_n 0, 1) := by decide +kernel
theorem dX11_chain_1 : decode cX11_chain 1 = .ok (.iload_n 1, 1) := by decide +kernel
theorem dX11_chain_2 : decode cX11_chain 2 = .ok (.invokevirtual 216, 3) := by decide +kernel
theorem dX11_chain_5 : decode cX11_chain 5 = .ok (.ifCond .ne 9, 3) := by decide +kernel
theorem dX11_chain_8 : decode cX11_chain 8 = .ok (.aload_n 0, 1) := by decide +kernel
theorem dX11_chain_9 : decode cX11_chain 9 = .ok (.iconst 2, 1) := by decide +kernel
theorem dX11_chain_10 : decode cX11_chain 10 = .ok (.invokevirtual 131, 3) := by decide +kernel
theorem dX11_chain_13 : decode cX11_chain 13 = .ok (.ireturn, 1) := by decide +kernel
theorem dX11_chain_14 : decode cX11_chain 14 = .ok (.aload_n 0, 1) := by decide +kernel
theorem dX11_chain_15 : decode cX11_chain 15 = .ok (.aload_n 0, 1) := by decide +kernel
theorem dX11_chain_16 : decode cX11_chain 16 = .ok (.getfield 37, 3) := by decide +kernel
theorem dX11_chain_19 : decode cX11_chain 19 = .ok (.iload_n 1, 1) := by decide +kernel
theorem dX11_chain_20 : decode cX11_chain 20 = .ok (.invokevirtual 397, 3) := by decide +kernel
theorem dX11_chain_23 : decode cX11_chain 23 = .ok (.iconst 1, 1) := by decide +kernel
theorem dX11_chain_24 : decode cX11_chain 24 = .ok (.iload_n 1, 1) := by decide +kernel
theorem dX11_chain_25 : decode cX11_chain 25 = .ok (.ishl, 1) := by decide +kernel
theorem dX11_chain_26 : decode cX11_chain 26 = .ok (.iconst (-1), 1) := by decide +kernel
theorem dX11_chain_27 : decode cX11_chain 27 = .ok (.ixor, 1) := by decide +kernel
theorem dX11_chain_28 : decode cX11_chain 28 = .ok (.iand, 1) := by decide +kernel
theorem dX11_chain_29 : decode cX11_chain 29 = .ok (.invokevirtual 176, 3) := by decide +kernel
theorem dX11_chain_32 : decode cX11_chain 32 = .ok (.ireturn, 1) := by decide +kernel
def j_X11_chain : JD := (yX11_chain, cX11_chain, 2, (some .int))
def b_X11_chain : BD := (2, 0, 0)
theorem dX11_quits_0 : decode cX11_quits 0 = .ok (.aload_n 0, 1) := by decide +kernel
theorem dX11_quits_1 : decode cX11_quits 1 = .ok (.iload_n 1, 1) := by decide +kernel
theorem dX11_quits_2 : decode cX11_quits 2 = .ok (.invokevirtual 216, 3) := by decide +kernel
theorem dX11_quits_5 : decode cX11_quits 5 = .ok (.ifCond .eq 11, 3) := by decide +kernel
theorem dX11_quits_8 : decode cX11_quits 8 = .ok (.aload_n 0, 1) := by decide +kernel
theorem dX11_quits_9 : decode cX11_quits 9 = .ok (.iload_n 2, 1) := by decide +kernel
theorem dX11_quits_10 : decode cX11_quits 10 = .ok (.invokevirtual 216, 3) := by decide +kernel
theorem dX11_quits_13 : decode cX11_quits 13 = .ok (.ifCond .ne 9, 3) := by decide +kernel
theorem dX11_quits_16 : decode cX11_quits 16 = .ok (.aload_n 0, 1) := by decide +kernel
theorem dX11_quits_17 : decode cX11_quits 17 = .ok (.iconst 2, 1) := by decide +kernel
theorem dX11_quits_18 : decode cX11_quits 18 = .ok (.invokevirtual 131, 3) := by decide +kernel
theorem dX11_quits_21 : decode cX11_quits 21 = .ok (.ireturn, 1) := by decide +kernel
theorem dX11_quits_22 : decode cX11_quits 22 = .ok (.iload_n 1, 1) := by decide +kernel
theorem dX11_quits_23 : decode cX11_quits 23 = .ok (.iload_n 2, 1) := by decide +kernel
theorem dX11_quits_24 : decode cX11_quits 24 = .ok (.if_icmp .ne 9, 3) := by decide +kernel
theorem dX11_quits_27 : decode cX11_quits 27 = .ok (.aload_n 0, 1) := by decide +kernel
theorem dX11_quits_28 : decode cX11_quits 28 = .ok (.iconst 5, 1) := by decide +kernel
theorem dX11_quits_29 : decode cX11_quits 29 = .ok (.invokevirtual 131, 3) := by decide +kernel
theorem dX11_quits_32 : decode cX11_quits 32 = .ok (.ireturn, 1) := by decide +kernel
theorem dX11_quits_33 : decode cX11_quits 33 = .ok (.aload_n 0, 1) := by decide +kernel
theorem dX11_quits_34 : decode cX11_quits 34 = .ok (.aload_n 0, 1) := by decide +kernel
theorem dX11_quits_35 : decode cX11_quits 35 = .ok (.getfield 37, 3) := by decide +kernel
theorem dX11_quits_38 : decode cX11_quits 38 = .ok (.getfield 289, 3) := by decide +kernel
theorem dX11_quits_41 : decode cX11_quits 41 = .ok (.iload_n 1, 1) := by decide +kernel
theorem dX11_quits_42 : decode cX11_quits 42 = .ok (.aaload, 1) := by decide +kernel
theorem dX11_quits_43 : decode cX11_quits 43 = .ok (.iload_n 2, 1) := by decide +kernel
theorem dX11_quits_44 : decode cX11_quits 44 = .ok (.iaload, 1) := by decide +kernel
theorem dX11_quits_45 : decode cX11_quits 45 = .ok (.aload_n 0, 1) := by decide +kernel
theorem dX11_quits_46 : decode cX11_quits 46 = .ok (.getfield 37, 3) := by decide +kernel
theorem dX11_quits_49 : decode cX11_quits 49 = .ok (.getfield 289, 3) := by decide +kernel
theorem dX11_quits_52 : decode cX11_quits 52 = .ok (.iload_n 2, 1) := by decide +kernel
theorem dX11_quits_53 : decode cX11_quits 53 = .ok (.aaload, 1) := by decide +kernel
theorem dX11_quits_54 : decode cX11_quits 54 = .ok (.iload_n 1, 1) := by decide +kernel
theorem dX11_quits_55 : decode cX11_quits 55 = .ok (.iaload, 1) := by decide +kernel
theorem dX11_quits_56 : decode cX11_quits 56 = .ok (.isub, 1) := by decide +kernel
theorem dX11_quits_57 : decode cX11_quits 57 = .ok (.invokevirtual 176, 3) := by decide +kernel
theorem dX11_quits_60 : decode cX11_quits 60 = .ok (.ireturn, 1) := by decide +kernel
def j_X11_quits : JD := (yX11_quits, cX11_quits, 3, (some .int))
def b_X11_quits : BD := (2, 0, 0)
theorem dX11_ground_0 : decode cX11_ground 0 = .ok (.iload_n 1, 1) := by decide +kernel
theorem dX11_ground_1 : decode cX11_ground 1 = .ok (.iconst 1, 1) := by decide +kernel
theorem dX11_ground_2 : decode cX11_ground 2 = .ok (.bipush 99, 2) := by decide +kernel
theorem dX11_ground_4 : decode cX11_ground 4 = .ok (.invokestatic 105, 3) := by decide +kernel
theorem dX11_ground_7 : decode cX11_ground 7 = .ok (.ifCond .ne 9, 3) := by decide +kernel
theorem dX11_ground_10 : decode cX11_ground 10 = .ok (.aload_n 0, 1) := by decide +kernel
theorem dX11_ground_11 : decode cX11_ground 11 = .ok (.iconst 5, 1) := by decide +kernel
theorem dX11_ground_12 : decode cX11_ground 12 = .ok (.invokevirtual 131, 3) := by decide +kernel
theorem dX11_ground_15 : decode cX11_ground 15 = .ok (.ireturn, 1) := by decide +kernel
theorem dX11_ground_16 : decode cX11_ground 16 = .ok (.aload_n 0, 1) := by decide +kernel
theorem dX11_ground_17 : decode cX11_ground 17 = .ok (.getfield 37, 3) := by decide +kernel
theorem dX11_ground_20 : decode cX11_ground 20 = .ok (.invokevirtual 207, 3) := by decide +kernel
theorem dX11_ground_23 : decode cX11_ground 23 = .ok (.istore_n 2, 1) := by decide +kernel
theorem dX11_ground_24 : decode cX11_ground 24 = .ok (.iconst 0, 1) := by decide +kernel
theorem dX11_ground_25 : decode cX11_ground 25 = .ok (.istore_n 3, 1) := by decide +kernel
theorem dX11_ground_26 : decode cX11_ground 26 = .ok (.iload_n 3, 1) := by decide +kernel
theorem dX11_ground_27 : decode cX11_ground 27 = .ok (.aload_n 0, 1) := by decide +kernel
theorem dX11_ground_28 : decode cX11_ground 28 = .ok (.getfield 37, 3) := by decide +kernel
theorem dX11_ground_31 : decode cX11_ground 31 = .ok (.getfield 102, 3) := by decide +kernel
theorem dX11_ground_34 : decode cX11_ground 34 = .ok (.if_icmp .ge 41, 3) := by decide +kernel
theorem dX11_ground_37 : decode cX11_ground 37 = .ok (.iload_n 2, 1) := by decide +kernel
theorem dX11_ground_38 : decode cX11_ground 38 = .ok (.iload_n 3, 1) := by decide +kernel
theorem dX11_ground_39 : decode cX11_ground 39 = .ok (.ishr, 1) := by decide +kernel
theorem dX11_ground_40 : decode cX11_ground 40 = .ok (.iconst 1, 1) := by decide +kernel
theorem dX11_ground_41 : decode cX11_ground 41 = .ok (.iand, 1) := by decide +kernel
theorem dX11_ground_42 : decode cX11_ground 42 = .ok (.iconst 1, 1) := by decide +kernel
theorem dX11_ground_43 : decode cX11_ground 43 = .ok (.if_icmp .ne 26, 3) := by decide +kernel
theorem dX11_ground_46 : decode cX11_ground 46 = .ok (.aload_n 0, 1) := by decide +kernel
theorem dX11_ground_47 : decode cX11_ground 47 = .ok (.getfield 37, 3) := by decide +kernel
theorem dX11_ground_50 : decode cX11_ground 50 = .ok (.getfield 219, 3) := by decide +kernel
theorem dX11_ground_53 : decode cX11_ground 53 = .ok (.iload_n 3, 1) := by decide +kernel
theorem dX11_ground_54 : decode cX11_ground 54 = .ok (.aaload, 1) := by decide +kernel
theorem dX11_ground_55 : decode cX11_ground 55 = .ok (.getfield 237, 3) := by decide +kernel
theorem dX11_ground_58 : decode cX11_ground 58 = .ok (.iload_n 1, 1) := by decide +kernel
theorem dX11_ground_59 : decode cX11_ground 59 = .ok (.if_icmp .le 10, 3) := by decide +kernel
theorem dX11_ground_62 : decode cX11_ground 62 = .ok (.aload_n 0, 1) := by decide +kernel
theorem dX11_ground_63 : decode cX11_ground 63 = .ok (.bipush 9, 2) := by decide +kernel
theorem dX11_ground_65 : decode cX11_ground 65 = .ok (.invokevirtual 131, 3) := by decide +kernel
theorem dX11_ground_68 : decode cX11_ground 68 = .ok (.ireturn, 1) := by decide +kernel
theorem dX11_ground_69 : decode cX11_ground 69 = .ok (.iinc 3 1, 3) := by decide +kernel
theorem dX11_ground_72 : decode cX11_ground 72 = .ok (.goto (-46), 3) := by decide +kernel
theorem dX11_ground_75 : decode cX11_ground 75 = .ok (.aload_n 0, 1) := by decide +kernel
theorem dX11_ground_76 : decode cX11_ground 76 = .ok (.aload_n 0, 1) := by decide +kernel
theorem dX11_ground_77 : decode cX11_ground 77 = .ok (.getfield 65, 3) := by decide +kernel
theorem dX11_ground_80 : decode cX11_ground 80 = .ok (.aload_n 0, 1) := by decide +kernel
theorem dX11_ground_81 : decode cX11_ground 81 = .ok (.getfield 37, 3) := by decide +kernel
theorem dX11_ground_84 : decode cX11_ground 84 = .ok (.iload_n 2, 1) := by decide +kernel
theorem dX11_ground_85 : decode cX11_ground 85 = .ok (.iload_n 1, 1) := by decide +kernel
theorem dX11_ground_86 : decode cX11_ground 86 = .ok (.invokevirtual 400, 3) := by decide +kernel
theorem dX11_ground_89 : decode cX11_ground 89 = .ok (.invokevirtual 176, 3) := by decide +kernel
theorem dX11_ground_92 : decode cX11_ground 92 = .ok (.ireturn, 1) := by decide +kernel
def j_X11_ground : JD := (yX11_ground, cX11_ground, 4, (some .int))
def b_X11_ground : BD := (3, 0, 0)
theorem dX11_signs_0 : decode cX11_signs 0 = .ok (.aload_n 0, 1) := by decide +kernel
theorem dX11_signs_1 : decode cX11_signs 1 = .ok (.getfield 30, 3) := by decide +kernel
theorem dX11_signs_4 : decode cX11_signs 4 = .ok (.iload_n 1, 1) := by decide +kernel
theorem dX11_signs_5 : decode cX11_signs 5 = .ok (.iconst 0, 1) := by decide +kernel
theorem dX11_signs_6 : decode cX11_signs 6 = .ok (.iconst 0, 1) := by decide +kernel
theorem dX11_signs_7 : decode cX11_signs 7 = .ok (.iload_n 2, 1) := by decide +kernel
theorem dX11_signs_8 : decode cX11_signs 8 = .ok (.invokestatic 389, 3) := by decide +kernel
theorem dX11_signs_11 : decode cX11_signs 11 = .ok (.invokevirtual 123, 3) := by decide +kernel
theorem dX11_signs_14 : decode cX11_signs 14 = .ok (.istore_n 3, 1) := by decide +kernel
theorem dX11_signs_15 : decode cX11_signs 15 = .ok (.iload_n 3, 1) := by decide +kernel
theorem dX11_signs_16 : decode cX11_signs 16 = .ok (.ifCond .eq 9, 3) := by decide +kernel
theorem dX11_signs_19 : decode cX11_signs 19 = .ok (.aload_n 0, 1) := by decide +kernel
theorem dX11_signs_20 : decode cX11_signs 20 = .ok (.iload_n 3, 1) := by decide +kernel
theorem dX11_signs_21 : decode cX11_signs 21 = .ok (.invokevirtual 131, 3) := by decide +kernel
theorem dX11_signs_24 : decode cX11_signs 24 = .ok (.ireturn, 1) := by decide +kernel
theorem dX11_signs_25 : decode cX11_signs 25 = .ok (.iload_n 2, 1) := by decide +kernel
theorem dX11_signs_26 : decode cX11_signs 26 = .ok (.iconst 1, 1) := by decide +kernel
theorem dX11_signs_27 : decode cX11_signs 27 = .ok (.if_icmp .ge 9, 3) := by decide +kernel
theorem dX11_signs_30 : decode cX11_signs 30 = .ok (.aload_n 0, 1) := by decide +kernel
theorem dX11_signs_31 : decode cX11_signs 31 = .ok (.iconst 5, 1) := by decide +kernel
theorem dX11_signs_32 : decode cX11_signs 32 = .ok (.invokevirtual 131, 3) := by decide +kernel
theorem dX11_signs_35 : decode cX11_signs 35 = .ok (.ireturn, 1) := by decide +kernel
theorem dX11_signs_36 : decode cX11_signs 36 = .ok (.aload_n 0, 1) := by decide +kernel
theorem dX11_signs_37 : decode cX11_signs 37 = .ok (.getfield 30, 3) := by decide +kernel
theorem dX11_signs_40 : decode cX11_signs 40 = .ok (.iload_n 1, 1) := by decide +kernel
theorem dX11_signs_41 : decode cX11_signs 41 = .ok (.iload_n 2, 1) := by decide +kernel
theorem dX11_signs_42 : decode cX11_signs 42 = .ok (.aload_n 0, 1) := by decide +kernel
theorem dX11_signs_43 : decode cX11_signs 43 = .ok (.getfield 37, 3) := by decide +kernel
theorem dX11_signs_46 : decode cX11_signs 46 = .ok (.getfield 102, 3) := by decide +kernel
theorem dX11_signs_49 : decode cX11_signs 49 = .ok (.iconst 1, 1) := by decide +kernel
theorem dX11_signs_50 : decode cX11_signs 50 = .ok (.isub, 1) := by decide +kernel
theorem dX11_signs_51 : decode cX11_signs 51 = .ok (.invokevirtual 384, 3) := by decide +kernel
theorem dX11_signs_54 : decode cX11_signs 54 = .ok (.ifCond .ne 9, 3) := by decide +kernel
theorem dX11_signs_57 : decode cX11_signs 57 = .ok (.aload_n 0, 1) := by decide +kernel
theorem dX11_signs_58 : decode cX11_signs 58 = .ok (.iconst 2, 1) := by decide +kernel
theorem dX11_signs_59 : decode cX11_signs 59 = .ok (.invokevirtual 131, 3) := by decide +kernel
theorem dX11_signs_62 : decode cX11_signs 62 = .ok (.ireturn, 1) := by decide +kernel
theorem dX11_signs_63 : decode cX11_signs 63 = .ok (.iconst 0, 1) := by decide +kernel
theorem dX11_signs_64 : decode cX11_signs 64 = .ok (.istore 4, 2) := by decide +kernel
theorem dX11_signs_66 : decode cX11_signs 66 = .ok (.iconst 0, 1) := by decide +kernel
theorem dX11_signs_67 : decode cX11_signs 67 = .ok (.istore 5, 2) := by decide +kernel
theorem dX11_signs_69 : decode cX11_signs 69 = .ok (.iload 5, 2) := by decide +kernel
theorem dX11_signs_71 : decode cX11_signs 71 = .ok (.aload_n 0, 1) := by decide +kernel
theorem dX11_signs_72 : decode cX11_signs 72 = .ok (.getfield 37, 3) := by decide +kernel
theorem dX11_signs_75 : decode cX11_signs 75 = .ok (.getfield 102, 3) := by decide +kernel
theorem dX11_signs_78 : decode cX11_signs 78 = .ok (.if_icmp .ge 43, 3) := by decide +kernel
theorem dX11_signs_81 : decode cX11_signs 81 = .ok (.iload 4, 2) := by decide +kernel
theorem dX11_signs_83 : decode cX11_signs 83 = .ok (.iconst 0, 1) := by decide +kernel
theorem dX11_signs_84 : decode cX11_signs 84 = .ok (.aload_n 0, 1) := by decide +kernel
theorem dX11_signs_85 : decode cX11_signs 85 = .ok (.getfield 30, 3) := by decide +kernel
theorem dX11_signs_88 : decode cX11_signs 88 = .ok (.iload_n 1, 1) := by decide +kernel
theorem dX11_signs_89 : decode cX11_signs 89 = .ok (.iload_n 2, 1) := by decide +kernel
theorem dX11_signs_90 : decode cX11_signs 90 = .ok (.iload 5, 2) := by decide +kernel
theorem dX11_signs_92 : decode cX11_signs 92 = .ok (.invokevirtual 403, 3) := by decide +kernel
theorem dX11_signs_95 : decode cX11_signs 95 = .ok (.aload_n 0, 1) := by decide +kernel
theorem dX11_signs_96 : decode cX11_signs 96 = .ok (.getfield 37, 3) := by decide +kernel
theorem dX11_signs_99 : decode cX11_signs 99 = .ok (.getfield 219, 3) := by decide +kernel
theorem dX11_signs_102 : decode cX11_signs 102 = .ok (.iload 5, 2) := by decide +kernel
theorem dX11_signs_104 : decode cX11_signs 104 = .ok (.aaload, 1) := by decide +kernel
theorem dX11_signs_105 : decode cX11_signs 105 = .ok (.getfield 231, 3) := by decide +kernel
theorem dX11_signs_108 : decode cX11_signs 108 = .ok (.isub, 1) := by decide +kernel
theorem dX11_signs_109 : decode cX11_signs 109 = .ok (.invokestatic 389, 3) := by decide +kernel
theorem dX11_signs_112 : decode cX11_signs 112 = .ok (.iadd, 1) := by decide +kernel
theorem dX11_signs_113 : decode cX11_signs 113 = .ok (.istore 4, 2) := by decide +kernel
theorem dX11_signs_115 : decode cX11_signs 115 = .ok (.iinc 5 1, 3) := by decide +kernel
theorem dX11_signs_118 : decode cX11_signs 118 = .ok (.goto (-49), 3) := by decide +kernel
theorem dX11_signs_121 : decode cX11_signs 121 = .ok (.aload_n 0, 1) := by decide +kernel
theorem dX11_signs_122 : decode cX11_signs 122 = .ok (.iload 4, 2) := by decide +kernel
theorem dX11_signs_124 : decode cX11_signs 124 = .ok (.invokevirtual 176, 3) := by decide +kernel
theorem dX11_signs_127 : decode cX11_signs 127 = .ok (.ireturn, 1) := by decide +kernel
def j_X11_signs : JD := (yX11_signs, cX11_signs, 6, (some .int))
def b_X11_signs : BD := (2, 0, 0)
theorem dX11_whyNotFlown_0 : decode cX11_whyNotFlown 0 = .ok (.aload_n 0, 1) := by decide +kernel
theorem dX11_whyNotFlown_1 : decode cX11_whyNotFlown 1 = .ok (.getfield 30, 3) := by decide +kernel
theorem dX11_whyNotFlown_4 : decode cX11_whyNotFlown 4 = .ok (.iload_n 1, 1) := by decide +kernel
theorem dX11_whyNotFlown_5 : decode cX11_whyNotFlown 5 = .ok (.iconst 0, 1) := by decide +kernel
theorem dX11_whyNotFlown_6 : decode cX11_whyNotFlown 6 = .ok (.aload_n 0, 1) := by decide +kernel
theorem dX11_whyNotFlown_7 : decode cX11_whyNotFlown 7 = .ok (.getfield 37, 3) := by decide +kernel
theorem dX11_whyNotFlown_10 : decode cX11_whyNotFlown 10 = .ok (.getfield 102, 3) := by decide +kernel
theorem dX11_whyNotFlown_13 : decode cX11_whyNotFlown 13 = .ok (.invokevirtual 123, 3) := by decide +kernel
theorem dX11_whyNotFlown_16 : decode cX11_whyNotFlown 16 = .ok (.istore_n 2, 1) := by decide +kernel
theorem dX11_whyNotFlown_17 : decode cX11_whyNotFlown 17 = .ok (.iload_n 2, 1) := by decide +kernel
theorem dX11_whyNotFlown_18 : decode cX11_whyNotFlown 18 = .ok (.ifCond .ne 24, 3) := by decide +kernel
theorem dX11_whyNotFlown_21 : decode cX11_whyNotFlown 21 = .ok (.aload_n 0, 1) := by decide +kernel
theorem dX11_whyNotFlown_22 : decode cX11_whyNotFlown 22 = .ok (.getfield 30, 3) := by decide +kernel
theorem dX11_whyNotFlown_25 : decode cX11_whyNotFlown 25 = .ok (.iload_n 1, 1) := by decide +kernel
theorem dX11_whyNotFlown_26 : decode cX11_whyNotFlown 26 = .ok (.aload_n 0, 1) := by decide +kernel
theorem dX11_whyNotFlown_27 : decode cX11_whyNotFlown 27 = .ok (.getfield 37, 3) := by decide +kernel
theorem dX11_whyNotFlown_30 : decode cX11_whyNotFlown 30 = .ok (.getfield 102, 3) := by decide +kernel
theorem dX11_whyNotFlown_33 : decode cX11_whyNotFlown 33 = .ok (.iconst 1, 1) := by decide +kernel
theorem dX11_whyNotFlown_34 : decode cX11_whyNotFlown 34 = .ok (.invokevirtual 384, 3) := by decide +kernel
theorem dX11_whyNotFlown_37 : decode cX11_whyNotFlown 37 = .ok (.ifCond .ne 5, 3) := by decide +kernel
theorem dX11_whyNotFlown_40 : decode cX11_whyNotFlown 40 = .ok (.iconst 5, 1) := by decide +kernel
theorem dX11_whyNotFlown_41 : decode cX11_whyNotFlown 41 = .ok (.istore_n 2, 1) := by decide +kernel
theorem dX11_whyNotFlown_42 : decode cX11_whyNotFlown 42 = .ok (.iload_n 2, 1) := by decide +kernel
theorem dX11_whyNotFlown_43 : decode cX11_whyNotFlown 43 = .ok (.ireturn, 1) := by decide +kernel
def j_X11_whyNotFlown : JD := (yX11_whyNotFlown, cX11_whyNotFlown, 3, (some .int))
def b_X11_whyNotFlown : BD := (2, 0, 0)
theorem dX11_windsThatFit_0 : decode cX11_windsThatFit 0 = .ok (.iconst 0, 1) := by decide +kernel
theorem dX11_windsThatFit_1 : decode cX11_windsThatFit 1 = .ok (.istore_n 2, 1) := by decide +kernel
theorem dX11_windsThatFit_2 : decode cX11_windsThatFit 2 = .ok (.iconst 0, 1) := by decide +kernel
theorem dX11_windsThatFit_3 : decode cX11_windsThatFit 3 = .ok (.istore_n 3, 1) := by decide +kernel
theorem dX11_windsThatFit_4 : decode cX11_windsThatFit 4 = .ok (.iload_n 3, 1) := by decide +kernel
theorem dX11_windsThatFit_5 : decode cX11_windsThatFit 5 = .ok (.aload_n 0, 1) := by decide +kernel
theorem dX11_windsThatFit_6 : decode cX11_windsThatFit 6 = .ok (.getfield 37, 3) := by decide +kernel
theorem dX11_windsThatFit_9 : decode cX11_windsThatFit 9 = .ok (.getfield 102, 3) := by decide +kernel
theorem dX11_windsThatFit_12 : decode cX11_windsThatFit 12 = .ok (.if_icmp .ge 26, 3) := by decide +kernel
theorem dX11_windsThatFit_15 : decode cX11_windsThatFit 15 = .ok (.iload_n 2, 1) := by decide +kernel
theorem dX11_windsThatFit_16 : decode cX11_windsThatFit 16 = .ok (.aload_n 0, 1) := by decide +kernel
theorem dX11_windsThatFit_17 : decode cX11_windsThatFit 17 = .ok (.getfield 30, 3) := by decide +kernel
theorem dX11_windsThatFit_20 : decode cX11_windsThatFit 20 = .ok (.getfield 135, 3) := by decide +kernel
theorem dX11_windsThatFit_23 : decode cX11_windsThatFit 23 = .ok (.iload_n 1, 1) := by decide +kernel
theorem dX11_windsThatFit_24 : decode cX11_windsThatFit 24 = .ok (.aaload, 1) := by decide +kernel
theorem dX11_windsThatFit_25 : decode cX11_windsThatFit 25 = .ok (.iload_n 3, 1) := by decide +kernel
theorem dX11_windsThatFit_26 : decode cX11_windsThatFit 26 = .ok (.laload, 1) := by decide +kernel
theorem dX11_windsThatFit_27 : decode cX11_windsThatFit 27 = .ok (.l2i, 1) := by decide +kernel
theorem dX11_windsThatFit_28 : decode cX11_windsThatFit 28 = .ok (.iload_n 3, 1) := by decide +kernel
theorem dX11_windsThatFit_29 : decode cX11_windsThatFit 29 = .ok (.ishl, 1) := by decide +kernel
theorem dX11_windsThatFit_30 : decode cX11_windsThatFit 30 = .ok (.ior, 1) := by decide +kernel
theorem dX11_windsThatFit_31 : decode cX11_windsThatFit 31 = .ok (.istore_n 2, 1) := by decide +kernel
theorem dX11_windsThatFit_32 : decode cX11_windsThatFit 32 = .ok (.iinc 3 1, 3) := by decide +kernel
theorem dX11_windsThatFit_35 : decode cX11_windsThatFit 35 = .ok (.goto (-31), 3) := by decide +kernel
theorem dX11_windsThatFit_38 : decode cX11_windsThatFit 38 = .ok (.iload_n 2, 1) := by decide +kernel
theorem dX11_windsThatFit_39 : decode cX11_windsThatFit 39 = .ok (.aload_n 0, 1) := by decide +kernel
theorem dX11_windsThatFit_40 : decode cX11_windsThatFit 40 = .ok (.getfield 37, 3) := by decide +kernel
theorem dX11_windsThatFit_43 : decode cX11_windsThatFit 43 = .ok (.invokevirtual 203, 3) := by decide +kernel
theorem dX11_windsThatFit_46 : decode cX11_windsThatFit 46 = .ok (.iand, 1) := by decide +kernel
theorem dX11_windsThatFit_47 : decode cX11_windsThatFit 47 = .ok (.istore_n 2, 1) := by decide +kernel
theorem dX11_windsThatFit_48 : decode cX11_windsThatFit 48 = .ok (.iconst 0, 1) := by decide +kernel
theorem dX11_windsThatFit_49 : decode cX11_windsThatFit 49 = .ok (.istore_n 3, 1) := by decide +kernel
theorem dX11_windsThatFit_50 : decode cX11_windsThatFit 50 = .ok (.iconst 0, 1) := by decide +kernel
theorem dX11_windsThatFit_51 : decode cX11_windsThatFit 51 = .ok (.istore 4, 2) := by decide +kernel
theorem dX11_windsThatFit_53 : decode cX11_windsThatFit 53 = .ok (.iload 4, 2) := by decide +kernel
theorem dX11_windsThatFit_55 : decode cX11_windsThatFit 55 = .ok (.aload_n 0, 1) := by decide +kernel
theorem dX11_windsThatFit_56 : decode cX11_windsThatFit 56 = .ok (.getfield 37, 3) := by decide +kernel
theorem dX11_windsThatFit_59 : decode cX11_windsThatFit 59 = .ok (.getfield 194, 3) := by decide +kernel
theorem dX11_windsThatFit_62 : decode cX11_windsThatFit 62 = .ok (.if_icmp .ge 40, 3) := by decide +kernel
theorem dX11_windsThatFit_65 : decode cX11_windsThatFit 65 = .ok (.aload_n 0, 1) := by decide +kernel
theorem dX11_windsThatFit_66 : decode cX11_windsThatFit 66 = .ok (.getfield 37, 3) := by decide +kernel
theorem dX11_windsThatFit_69 : decode cX11_windsThatFit 69 = .ok (.aload_n 0, 1) := by decide +kernel
theorem dX11_windsThatFit_70 : decode cX11_windsThatFit 70 = .ok (.getfield 37, 3) := by decide +kernel
theorem dX11_windsThatFit_73 : decode cX11_windsThatFit 73 = .ok (.getfield 277, 3) := by decide +kernel
theorem dX11_windsThatFit_76 : decode cX11_windsThatFit 76 = .ok (.iload 4, 2) := by decide +kernel
theorem dX11_windsThatFit_78 : decode cX11_windsThatFit 78 = .ok (.aaload, 1) := by decide +kernel
theorem dX11_windsThatFit_79 : decode cX11_windsThatFit 79 = .ok (.getfield 281, 3) := by decide +kernel
theorem dX11_windsThatFit_82 : decode cX11_windsThatFit 82 = .ok (.invokevirtual 322, 3) := by decide +kernel
theorem dX11_windsThatFit_85 : decode cX11_windsThatFit 85 = .ok (.iload_n 2, 1) := by decide +kernel
theorem dX11_windsThatFit_86 : decode cX11_windsThatFit 86 = .ok (.if_icmp .ne 10, 3) := by decide +kernel
theorem dX11_windsThatFit_89 : decode cX11_windsThatFit 89 = .ok (.iload_n 3, 1) := by decide +kernel
theorem dX11_windsThatFit_90 : decode cX11_windsThatFit 90 = .ok (.iconst 1, 1) := by decide +kernel
theorem dX11_windsThatFit_91 : decode cX11_windsThatFit 91 = .ok (.iload 4, 2) := by decide +kernel
theorem dX11_windsThatFit_93 : decode cX11_windsThatFit 93 = .ok (.ishl, 1) := by decide +kernel
theorem dX11_windsThatFit_94 : decode cX11_windsThatFit 94 = .ok (.ior, 1) := by decide +kernel
theorem dX11_windsThatFit_95 : decode cX11_windsThatFit 95 = .ok (.istore_n 3, 1) := by decide +kernel
theorem dX11_windsThatFit_96 : decode cX11_windsThatFit 96 = .ok (.iinc 4 1, 3) := by decide +kernel
theorem dX11_windsThatFit_99 : decode cX11_windsThatFit 99 = .ok (.goto (-46), 3) := by decide +kernel
theorem dX11_windsThatFit_102 : decode cX11_windsThatFit 102 = .ok (.iload_n 3, 1) := by decide +kernel
theorem dX11_windsThatFit_103 : decode cX11_windsThatFit 103 = .ok (.ireturn, 1) := by decide +kernel
def j_X11_windsThatFit : JD := (yX11_windsThatFit, cX11_windsThatFit, 5, (some .int))
def b_X11_windsThatFit : BD := (2, 0, 0)
theorem dX11_flown_0 : decode cX11_flown 0 = .ok (.aload_n 0, 1) := by decide +kernel
theorem dX11_flown_1 : decode cX11_flown 1 = .ok (.iload_n 1, 1) := by decide +kernel
theorem dX11_flown_2 : decode cX11_flown 2 = .ok (.invokevirtual 406, 3) := by decide +kernel
theorem dX11_flown_5 : decode cX11_flown 5 = .ok (.istore_n 2, 1) := by decide +kernel
theorem dX11_flown_6 : decode cX11_flown 6 = .ok (.iload_n 2, 1) := by decide +kernel
theorem dX11_flown_7 : decode cX11_flown 7 = .ok (.ifCond .ne 15, 3) := by decide +kernel
theorem dX11_flown_10 : decode cX11_flown 10 = .ok (.aload_n 0, 1) := by decide +kernel
theorem dX11_flown_11 : decode cX11_flown 11 = .ok (.aload_n 0, 1) := by decide +kernel
theorem dX11_flown_12 : decode cX11_flown 12 = .ok (.iload_n 1, 1) := by decide +kernel
theorem dX11_flown_13 : decode cX11_flown 13 = .ok (.invokevirtual 409, 3) := by decide +kernel
theorem dX11_flown_16 : decode cX11_flown 16 = .ok (.invokevirtual 176, 3) := by decide +kernel
theorem dX11_flown_19 : decode cX11_flown 19 = .ok (.goto 8, 3) := by decide +kernel
theorem dX11_flown_22 : decode cX11_flown 22 = .ok (.aload_n 0, 1) := by decide +kernel
theorem dX11_flown_23 : decode cX11_flown 23 = .ok (.iload_n 2, 1) := by decide +kernel
theorem dX11_flown_24 : decode cX11_flown 24 = .ok (.invokevirtual 131, 3) := by decide +kernel
theorem dX11_flown_27 : decode cX11_flown 27 = .ok (.ireturn, 1) := by decide +kernel
def j_X11_flown : JD := (yX11_flown, cX11_flown, 3, (some .int))
def b_X11_flown : BD := (3, 0, 0)
theorem dX11_likeliest_0 : decode cX11_likeliest 0 = .ok (.aload_n 0, 1) := by decide +kernel
theorem dX11_likeliest_1 : decode cX11_likeliest 1 = .ok (.iload_n 1, 1) := by decide +kernel
theorem dX11_likeliest_2 : decode cX11_likeliest 2 = .ok (.invokevirtual 406, 3) := by decide +kernel
theorem dX11_likeliest_5 : decode cX11_likeliest 5 = .ok (.istore_n 2, 1) := by decide +kernel
theorem dX11_likeliest_6 : decode cX11_likeliest 6 = .ok (.iload_n 2, 1) := by decide +kernel
theorem dX11_likeliest_7 : decode cX11_likeliest 7 = .ok (.ifCond .eq 9, 3) := by decide +kernel
theorem dX11_likeliest_10 : decode cX11_likeliest 10 = .ok (.aload_n 0, 1) := by decide +kernel
theorem dX11_likeliest_11 : decode cX11_likeliest 11 = .ok (.iload_n 2, 1) := by decide +kernel
theorem dX11_likeliest_12 : decode cX11_likeliest 12 = .ok (.invokevirtual 131, 3) := by decide +kernel
theorem dX11_likeliest_15 : decode cX11_likeliest 15 = .ok (.ireturn, 1) := by decide +kernel
theorem dX11_likeliest_16 : decode cX11_likeliest 16 = .ok (.aload_n 0, 1) := by decide +kernel
theorem dX11_likeliest_17 : decode cX11_likeliest 17 = .ok (.iload_n 1, 1) := by decide +kernel
theorem dX11_likeliest_18 : decode cX11_likeliest 18 = .ok (.invokevirtual 409, 3) := by decide +kernel
theorem dX11_likeliest_21 : decode cX11_likeliest 21 = .ok (.istore_n 3, 1) := by decide +kernel
theorem dX11_likeliest_22 : decode cX11_likeliest 22 = .ok (.iconst (-1), 1) := by decide +kernel
theorem dX11_likeliest_23 : decode cX11_likeliest 23 = .ok (.istore 4, 2) := by decide +kernel
theorem dX11_likeliest_25 : decode cX11_likeliest 25 = .ok (.iconst 0, 1) := by decide +kernel
theorem dX11_likeliest_26 : decode cX11_likeliest 26 = .ok (.istore 5, 2) := by decide +kernel
theorem dX11_likeliest_28 : decode cX11_likeliest 28 = .ok (.iconst 0, 1) := by decide +kernel
theorem dX11_likeliest_29 : decode cX11_likeliest 29 = .ok (.istore 6, 2) := by decide +kernel
theorem dX11_likeliest_31 : decode cX11_likeliest 31 = .ok (.iload 6, 2) := by decide +kernel
theorem dX11_likeliest_33 : decode cX11_likeliest 33 = .ok (.aload_n 0, 1) := by decide +kernel
theorem dX11_likeliest_34 : decode cX11_likeliest 34 = .ok (.getfield 37, 3) := by decide +kernel
theorem dX11_likeliest_37 : decode cX11_likeliest 37 = .ok (.getfield 194, 3) := by decide +kernel
theorem dX11_likeliest_40 : decode cX11_likeliest 40 = .ok (.if_icmp .ge 56, 3) := by decide +kernel
theorem dX11_likeliest_43 : decode cX11_likeliest 43 = .ok (.iload_n 3, 1) := by decide +kernel
theorem dX11_likeliest_44 : decode cX11_likeliest 44 = .ok (.iload 6, 2) := by decide +kernel
theorem dX11_likeliest_46 : decode cX11_likeliest 46 = .ok (.ishr, 1) := by decide +kernel
theorem dX11_likeliest_47 : decode cX11_likeliest 47 = .ok (.iconst 1, 1) := by decide +kernel
theorem dX11_likeliest_48 : decode cX11_likeliest 48 = .ok (.iand, 1) := by decide +kernel
theorem dX11_likeliest_49 : decode cX11_likeliest 49 = .ok (.iconst 1, 1) := by decide +kernel
theorem dX11_likeliest_50 : decode cX11_likeliest 50 = .ok (.if_icmp .ne 40, 3) := by decide +kernel
theorem dX11_likeliest_53 : decode cX11_likeliest 53 = .ok (.aload_n 0, 1) := by decide +kernel
theorem dX11_likeliest_54 : decode cX11_likeliest 54 = .ok (.getfield 37, 3) := by decide +kernel
theorem dX11_likeliest_57 : decode cX11_likeliest 57 = .ok (.getfield 277, 3) := by decide +kernel
theorem dX11_likeliest_60 : decode cX11_likeliest 60 = .ok (.iload 6, 2) := by decide +kernel
theorem dX11_likeliest_62 : decode cX11_likeliest 62 = .ok (.aaload, 1) := by decide +kernel
theorem dX11_likeliest_63 : decode cX11_likeliest 63 = .ok (.getfield 286, 3) := by decide +kernel
theorem dX11_likeliest_66 : decode cX11_likeliest 66 = .ok (.iload 5, 2) := by decide +kernel
theorem dX11_likeliest_68 : decode cX11_likeliest 68 = .ok (.if_icmp .le 22, 3) := by decide +kernel
theorem dX11_likeliest_71 : decode cX11_likeliest 71 = .ok (.aload_n 0, 1) := by decide +kernel
theorem dX11_likeliest_72 : decode cX11_likeliest 72 = .ok (.getfield 37, 3) := by decide +kernel
theorem dX11_likeliest_75 : decode cX11_likeliest 75 = .ok (.getfield 277, 3) := by decide +kernel
theorem dX11_likeliest_78 : decode cX11_likeliest 78 = .ok (.iload 6, 2) := by decide +kernel
theorem dX11_likeliest_80 : decode cX11_likeliest 80 = .ok (.aaload, 1) := by decide +kernel
theorem dX11_likeliest_81 : decode cX11_likeliest 81 = .ok (.getfield 286, 3) := by decide +kernel
theorem dX11_likeliest_84 : decode cX11_likeliest 84 = .ok (.istore 5, 2) := by decide +kernel
theorem dX11_likeliest_86 : decode cX11_likeliest 86 = .ok (.iload 6, 2) := by decide +kernel
theorem dX11_likeliest_88 : decode cX11_likeliest 88 = .ok (.istore 4, 2) := by decide +kernel
theorem dX11_likeliest_90 : decode cX11_likeliest 90 = .ok (.iinc 6 1, 3) := by decide +kernel
theorem dX11_likeliest_93 : decode cX11_likeliest 93 = .ok (.goto (-62), 3) := by decide +kernel
theorem dX11_likeliest_96 : decode cX11_likeliest 96 = .ok (.iload 4, 2) := by decide +kernel
theorem dX11_likeliest_98 : decode cX11_likeliest 98 = .ok (.iconst (-1), 1) := by decide +kernel
theorem dX11_likeliest_99 : decode cX11_likeliest 99 = .ok (.if_icmp .ne 12, 3) := by decide +kernel
theorem dX11_likeliest_102 : decode cX11_likeliest 102 = .ok (.aload_n 0, 1) := by decide +kernel
theorem dX11_likeliest_103 : decode cX11_likeliest 103 = .ok (.bipush 8, 2) := by decide +kernel
theorem dX11_likeliest_105 : decode cX11_likeliest 105 = .ok (.invokevirtual 131, 3) := by decide +kernel
theorem dX11_likeliest_108 : decode cX11_likeliest 108 = .ok (.goto 9, 3) := by decide +kernel
theorem dX11_likeliest_111 : decode cX11_likeliest 111 = .ok (.aload_n 0, 1) := by decide +kernel
theorem dX11_likeliest_112 : decode cX11_likeliest 112 = .ok (.iload 4, 2) := by decide +kernel
theorem dX11_likeliest_114 : decode cX11_likeliest 114 = .ok (.invokevirtual 176, 3) := by decide +kernel
theorem dX11_likeliest_117 : decode cX11_likeliest 117 = .ok (.ireturn, 1) := by decide +kernel
def j_X11_likeliest : JD := (yX11_likeliest, cX11_likeliest, 7, (some .int))
def b_X11_likeliest : BD := (3, 0, 0)
theorem dX11_neighbour_0 : decode cX11_neighbour 0 = .ok (.aload_n 0, 1) := by decide +kernel
theorem dX11_neighbour_1 : decode cX11_neighbour 1 = .ok (.iload_n 1, 1) := by decide +kernel
theorem dX11_neighbour_2 : decode cX11_neighbour 2 = .ok (.invokevirtual 216, 3) := by decide +kernel
theorem dX11_neighbour_5 : decode cX11_neighbour 5 = .ok (.ifCond .ne 9, 3) := by decide +kernel
theorem dX11_neighbour_8 : decode cX11_neighbour 8 = .ok (.aload_n 0, 1) := by decide +kernel
theorem dX11_neighbour_9 : decode cX11_neighbour 9 = .ok (.iconst 2, 1) := by decide +kernel
theorem dX11_neighbour_10 : decode cX11_neighbour 10 = .ok (.invokevirtual 131, 3) := by decide +kernel
theorem dX11_neighbour_13 : decode cX11_neighbour 13 = .ok (.ireturn, 1) := by decide +kernel
theorem dX11_neighbour_14 : decode cX11_neighbour 14 = .ok (.iconst (-1), 1) := by decide +kernel
theorem dX11_neighbour_15 : decode cX11_neighbour 15 = .ok (.istore_n 2, 1) := by decide +kernel
theorem dX11_neighbour_16 : decode cX11_neighbour 16 = .ok (.iconst 0, 1) := by decide +kernel
theorem dX11_neighbour_17 : decode cX11_neighbour 17 = .ok (.istore_n 3, 1) := by decide +kernel
theorem dX11_neighbour_18 : decode cX11_neighbour 18 = .ok (.iconst 0, 1) := by decide +kernel
theorem dX11_neighbour_19 : decode cX11_neighbour 19 = .ok (.istore 4, 2) := by decide +kernel
theorem dX11_neighbour_21 : decode cX11_neighbour 21 = .ok (.iload 4, 2) := by decide +kernel
theorem dX11_neighbour_23 : decode cX11_neighbour 23 = .ok (.aload_n 0, 1) := by decide +kernel
theorem dX11_neighbour_24 : decode cX11_neighbour 24 = .ok (.getfield 37, 3) := by decide +kernel
theorem dX11_neighbour_27 : decode cX11_neighbour 27 = .ok (.getfield 102, 3) := by decide +kernel
theorem dX11_neighbour_30 : decode cX11_neighbour 30 = .ok (.if_icmp .ge 79, 3) := by decide +kernel
theorem dX11_neighbour_33 : decode cX11_neighbour 33 = .ok (.aload_n 0, 1) := by decide +kernel
theorem dX11_neighbour_34 : decode cX11_neighbour 34 = .ok (.getfield 37, 3) := by decide +kernel
theorem dX11_neighbour_37 : decode cX11_neighbour 37 = .ok (.getfield 219, 3) := by decide +kernel
theorem dX11_neighbour_40 : decode cX11_neighbour 40 = .ok (.iload 4, 2) := by decide +kernel
theorem dX11_neighbour_42 : decode cX11_neighbour 42 = .ok (.aaload, 1) := by decide +kernel
theorem dX11_neighbour_43 : decode cX11_neighbour 43 = .ok (.getfield 223, 3) := by decide +kernel
theorem dX11_neighbour_46 : decode cX11_neighbour 46 = .ok (.aload_n 0, 1) := by decide +kernel
theorem dX11_neighbour_47 : decode cX11_neighbour 47 = .ok (.getfield 37, 3) := by decide +kernel
theorem dX11_neighbour_50 : decode cX11_neighbour 50 = .ok (.getfield 219, 3) := by decide +kernel
theorem dX11_neighbour_53 : decode cX11_neighbour 53 = .ok (.iload_n 1, 1) := by decide +kernel
theorem dX11_neighbour_54 : decode cX11_neighbour 54 = .ok (.aaload, 1) := by decide +kernel
theorem dX11_neighbour_55 : decode cX11_neighbour 55 = .ok (.getfield 223, 3) := by decide +kernel
theorem dX11_neighbour_58 : decode cX11_neighbour 58 = .ok (.isub, 1) := by decide +kernel
theorem dX11_neighbour_59 : decode cX11_neighbour 59 = .ok (.invokestatic 412, 3) := by decide +kernel
theorem dX11_neighbour_62 : decode cX11_neighbour 62 = .ok (.istore 5, 2) := by decide +kernel
theorem dX11_neighbour_64 : decode cX11_neighbour 64 = .ok (.iload 4, 2) := by decide +kernel
theorem dX11_neighbour_66 : decode cX11_neighbour 66 = .ok (.iload_n 1, 1) := by decide +kernel
theorem dX11_neighbour_67 : decode cX11_neighbour 67 = .ok (.if_icmp .eq 36, 3) := by decide +kernel
theorem dX11_neighbour_70 : decode cX11_neighbour 70 = .ok (.aload_n 0, 1) := by decide +kernel
theorem dX11_neighbour_71 : decode cX11_neighbour 71 = .ok (.getfield 37, 3) := by decide +kernel
theorem dX11_neighbour_74 : decode cX11_neighbour 74 = .ok (.getfield 219, 3) := by decide +kernel
theorem dX11_neighbour_77 : decode cX11_neighbour 77 = .ok (.iload 4, 2) := by decide +kernel
theorem dX11_neighbour_79 : decode cX11_neighbour 79 = .ok (.aaload, 1) := by decide +kernel
theorem dX11_neighbour_80 : decode cX11_neighbour 80 = .ok (.getfield 414, 3) := by decide +kernel
theorem dX11_neighbour_83 : decode cX11_neighbour 83 = .ok (.ifCond .eq 20, 3) := by decide +kernel
theorem dX11_neighbour_86 : decode cX11_neighbour 86 = .ok (.iload_n 2, 1) := by decide +kernel
theorem dX11_neighbour_87 : decode cX11_neighbour 87 = .ok (.iconst (-1), 1) := by decide +kernel
theorem dX11_neighbour_88 : decode cX11_neighbour 88 = .ok (.if_icmp .eq 9, 3) := by decide +kernel
theorem dX11_neighbour_91 : decode cX11_neighbour 91 = .ok (.iload 5, 2) := by decide +kernel
theorem dX11_neighbour_93 : decode cX11_neighbour 93 = .ok (.iload_n 3, 1) := by decide +kernel
theorem dX11_neighbour_94 : decode cX11_neighbour 94 = .ok (.if_icmp .ge 9, 3) := by decide +kernel
theorem dX11_neighbour_97 : decode cX11_neighbour 97 = .ok (.iload 5, 2) := by decide +kernel
theorem dX11_neighbour_99 : decode cX11_neighbour 99 = .ok (.istore_n 3, 1) := by decide +kernel
theorem dX11_neighbour_100 : decode cX11_neighbour 100 = .ok (.iload 4, 2) := by decide +kernel
theorem dX11_neighbour_102 : decode cX11_neighbour 102 = .ok (.istore_n 2, 1) := by decide +kernel
theorem dX11_neighbour_103 : decode cX11_neighbour 103 = .ok (.iinc 4 1, 3) := by decide +kernel
theorem dX11_neighbour_106 : decode cX11_neighbour 106 = .ok (.goto (-85), 3) := by decide +kernel
theorem dX11_neighbour_109 : decode cX11_neighbour 109 = .ok (.iload_n 2, 1) := by decide +kernel
theorem dX11_neighbour_110 : decode cX11_neighbour 110 = .ok (.iconst (-1), 1) := by decide +kernel
theorem dX11_neighbour_111 : decode cX11_neighbour 111 = .ok (.if_icmp .ne 12, 3) := by decide +kernel
theorem dX11_neighbour_114 : decode cX11_neighbour 114 = .ok (.aload_n 0, 1) := by decide +kernel
theorem dX11_neighbour_115 : decode cX11_neighbour 115 = .ok (.bipush 8, 2) := by decide +kernel
theorem dX11_neighbour_117 : decode cX11_neighbour 117 = .ok (.invokevirtual 131, 3) := by decide +kernel
theorem dX11_neighbour_120 : decode cX11_neighbour 120 = .ok (.goto 8, 3) := by decide +kernel
theorem dX11_neighbour_123 : decode cX11_neighbour 123 = .ok (.aload_n 0, 1) := by decide +kernel
theorem dX11_neighbour_124 : decode cX11_neighbour 124 = .ok (.iload_n 2, 1) := by decide +kernel
theorem dX11_neighbour_125 : decode cX11_neighbour 125 = .ok (.invokevirtual 176, 3) := by decide +kernel
theorem dX11_neighbour_128 : decode cX11_neighbour 128 = .ok (.ireturn, 1) := by decide +kernel
def j_X11_neighbour : JD := (yX11_neighbour, cX11_neighbour, 6, (some .int))
def b_X11_neighbour : BD := (2, 0, 0)
theorem dX11_live_0 : decode cX11_live 0 = .ok (.iload_n 1, 1) := by decide +kernel
theorem dX11_live_1 : decode cX11_live 1 = .ok (.iconst 0, 1) := by decide +kernel
theorem dX11_live_2 : decode cX11_live 2 = .ok (.sipush 9999, 3) := by decide +kernel
theorem dX11_live_5 : decode cX11_live 5 = .ok (.invokestatic 105, 3) := by decide +kernel
theorem dX11_live_8 : decode cX11_live 8 = .ok (.ifCond .ne 9, 3) := by decide +kernel
theorem dX11_live_11 : decode cX11_live 11 = .ok (.aload_n 0, 1) := by decide +kernel
theorem dX11_live_12 : decode cX11_live 12 = .ok (.iconst 5, 1) := by decide +kernel
theorem dX11_live_13 : decode cX11_live 13 = .ok (.invokevirtual 131, 3) := by decide +kernel
theorem dX11_live_16 : decode cX11_live 16 = .ok (.ireturn, 1) := by decide +kernel
theorem dX11_live_17 : decode cX11_live 17 = .ok (.aload_n 0, 1) := by decide +kernel
theorem dX11_live_18 : decode cX11_live 18 = .ok (.getfield 47, 3) := by decide +kernel
theorem dX11_live_21 : decode cX11_live 21 = .ok (.getfield 418, 3) := by decide +kernel
theorem dX11_live_24 : decode cX11_live 24 = .ok (.ifCond .ne 10, 3) := by decide +kernel
theorem dX11_live_27 : decode cX11_live 27 = .ok (.aload_n 0, 1) := by decide +kernel
theorem dX11_live_28 : decode cX11_live 28 = .ok (.bipush 8, 2) := by decide +kernel
theorem dX11_live_30 : decode cX11_live 30 = .ok (.invokevirtual 131, 3) := by decide +kernel
theorem dX11_live_33 : decode cX11_live 33 = .ok (.ireturn, 1) := by decide +kernel
theorem dX11_live_34 : decode cX11_live 34 = .ok (.aload_n 0, 1) := by decide +kernel
theorem dX11_live_35 : decode cX11_live 35 = .ok (.getfield 75, 3) := by decide +kernel
theorem dX11_live_38 : decode cX11_live 38 = .ok (.aload_n 0, 1) := by decide +kernel
theorem dX11_live_39 : decode cX11_live 39 = .ok (.getfield 37, 3) := by decide +kernel
theorem dX11_live_42 : decode cX11_live 42 = .ok (.aload_n 0, 1) := by decide +kernel
theorem dX11_live_43 : decode cX11_live 43 = .ok (.getfield 47, 3) := by decide +kernel
theorem dX11_live_46 : decode cX11_live 46 = .ok (.iload_n 1, 1) := by decide +kernel
theorem dX11_live_47 : decode cX11_live 47 = .ok (.invokevirtual 421, 3) := by decide +kernel
theorem dX11_live_50 : decode cX11_live 50 = .ok (.aload_n 0, 1) := by decide +kernel
theorem dX11_live_51 : decode cX11_live 51 = .ok (.iconst 1, 1) := by decide +kernel
theorem dX11_live_52 : decode cX11_live 52 = .ok (.putfield 425, 3) := by decide +kernel
theorem dX11_live_55 : decode cX11_live 55 = .ok (.aload_n 0, 1) := by decide +kernel
theorem dX11_live_56 : decode cX11_live 56 = .ok (.aload_n 0, 1) := by decide +kernel
theorem dX11_live_57 : decode cX11_live 57 = .ok (.getfield 75, 3) := by decide +kernel
theorem dX11_live_60 : decode cX11_live 60 = .ok (.getfield 428, 3) := by decide +kernel
theorem dX11_live_63 : decode cX11_live 63 = .ok (.invokevirtual 176, 3) := by decide +kernel
theorem dX11_live_66 : decode cX11_live 66 = .ok (.ireturn, 1) := by decide +kernel
def j_X11_live : JD := (yX11_live, cX11_live, 2, (some .int))
def b_X11_live : BD := (7, 0, 0)
theorem dX11_lived_0 : decode cX11_lived 0 = .ok (.iload_n 1, 1) := by decide +kernel
theorem dX11_lived_1 : decode cX11_lived 1 = .ok (.iconst 0, 1) := by decide +kernel
theorem dX11_lived_2 : decode cX11_lived 2 = .ok (.iconst 4, 1) := by decide +kernel
theorem dX11_lived_3 : decode cX11_lived 3 = .ok (.invokestatic 105, 3) := by decide +kernel
theorem dX11_lived_6 : decode cX11_lived 6 = .ok (.ifCond .ne 9, 3) := by decide +kernel
theorem dX11_lived_9 : decode cX11_lived 9 = .ok (.aload_n 0, 1) := by decide +kernel
theorem dX11_lived_10 : decode cX11_lived 10 = .ok (.iconst 5, 1) := by decide +kernel
theorem dX11_lived_11 : decode cX11_lived 11 = .ok (.invokevirtual 131, 3) := by decide +kernel
theorem dX11_lived_14 : decode cX11_lived 14 = .ok (.ireturn, 1) := by decide +kernel
theorem dX11_lived_15 : decode cX11_lived 15 = .ok (.aload_n 0, 1) := by decide +kernel
theorem dX11_lived_16 : decode cX11_lived 16 = .ok (.getfield 425, 3) := by decide +kernel
theorem dX11_lived_19 : decode cX11_lived 19 = .ok (.ifCond .ne 10, 3) := by decide +kernel
theorem dX11_lived_22 : decode cX11_lived 22 = .ok (.aload_n 0, 1) := by decide +kernel
theorem dX11_lived_23 : decode cX11_lived 23 = .ok (.bipush 8, 2) := by decide +kernel
theorem dX11_lived_25 : decode cX11_lived 25 = .ok (.invokevirtual 131, 3) := by decide +kernel
theorem dX11_lived_28 : decode cX11_lived 28 = .ok (.ireturn, 1) := by decide +kernel
theorem dX11_lived_29 : decode cX11_lived 29 = .ok (.iload_n 1, 1) := by decide +kernel
theorem dX11_lived_30 : decode cX11_lived 30 = .ok (.tableswitch 78 0 3 #[30, 42, 54, 66], 30) := by decide +kernel
theorem dX11_lived_60 : decode cX11_lived 60 = .ok (.aload_n 0, 1) := by decide +kernel
theorem dX11_lived_61 : decode cX11_lived 61 = .ok (.aload_n 0, 1) := by decide +kernel
theorem dX11_lived_62 : decode cX11_lived 62 = .ok (.getfield 75, 3) := by decide +kernel
theorem dX11_lived_65 : decode cX11_lived 65 = .ok (.getfield 429, 3) := by decide +kernel
theorem dX11_lived_68 : decode cX11_lived 68 = .ok (.invokevirtual 176, 3) := by decide +kernel
theorem dX11_lived_71 : decode cX11_lived 71 = .ok (.ireturn, 1) := by decide +kernel
theorem dX11_lived_72 : decode cX11_lived 72 = .ok (.aload_n 0, 1) := by decide +kernel
theorem dX11_lived_73 : decode cX11_lived 73 = .ok (.aload_n 0, 1) := by decide +kernel
theorem dX11_lived_74 : decode cX11_lived 74 = .ok (.getfield 75, 3) := by decide +kernel
theorem dX11_lived_77 : decode cX11_lived 77 = .ok (.getfield 432, 3) := by decide +kernel
theorem dX11_lived_80 : decode cX11_lived 80 = .ok (.invokevirtual 176, 3) := by decide +kernel
theorem dX11_lived_83 : decode cX11_lived 83 = .ok (.ireturn, 1) := by decide +kernel
theorem dX11_lived_84 : decode cX11_lived 84 = .ok (.aload_n 0, 1) := by decide +kernel
theorem dX11_lived_85 : decode cX11_lived 85 = .ok (.aload_n 0, 1) := by decide +kernel
theorem dX11_lived_86 : decode cX11_lived 86 = .ok (.getfield 75, 3) := by decide +kernel
theorem dX11_lived_89 : decode cX11_lived 89 = .ok (.getfield 435, 3) := by decide +kernel
theorem dX11_lived_92 : decode cX11_lived 92 = .ok (.invokevirtual 176, 3) := by decide +kernel
theorem dX11_lived_95 : decode cX11_lived 95 = .ok (.ireturn, 1) := by decide +kernel
theorem dX11_lived_96 : decode cX11_lived 96 = .ok (.aload_n 0, 1) := by decide +kernel
theorem dX11_lived_97 : decode cX11_lived 97 = .ok (.aload_n 0, 1) := by decide +kernel
theorem dX11_lived_98 : decode cX11_lived 98 = .ok (.getfield 75, 3) := by decide +kernel
theorem dX11_lived_101 : decode cX11_lived 101 = .ok (.getfield 438, 3) := by decide +kernel
theorem dX11_lived_104 : decode cX11_lived 104 = .ok (.invokevirtual 176, 3) := by decide +kernel
theorem dX11_lived_107 : decode cX11_lived 107 = .ok (.ireturn, 1) := by decide +kernel
theorem dX11_lived_108 : decode cX11_lived 108 = .ok (.aload_n 0, 1) := by decide +kernel
theorem dX11_lived_109 : decode cX11_lived 109 = .ok (.aload_n 0, 1) := by decide +kernel
theorem dX11_lived_110 : decode cX11_lived 110 = .ok (.getfield 75, 3) := by decide +kernel
theorem dX11_lived_113 : decode cX11_lived 113 = .ok (.getfield 441, 3) := by decide +kernel
theorem dX11_lived_116 : decode cX11_lived 116 = .ok (.invokevirtual 176, 3) := by decide +kernel
theorem dX11_lived_119 : decode cX11_lived 119 = .ok (.ireturn, 1) := by decide +kernel
def j_X11_lived : JD := (yX11_lived, cX11_lived, 2, (some .int))
def b_X11_lived : BD := (1, 0, 0)
theorem dX11_mean_0 : decode cX11_mean 0 = .ok (.iload_n 1, 1) := by decide +kernel
theorem dX11_mean_1 : decode cX11_mean 1 = .ok (.iconst 0, 1) := by decide +kernel
theorem dX11_mean_2 : decode cX11_mean 2 = .ok (.sipush 9999, 3) := by decide +kernel
theorem dX11_mean_5 : decode cX11_mean 5 = .ok (.invokestatic 105, 3) := by decide +kernel
theorem dX11_mean_8 : decode cX11_mean 8 = .ok (.ifCond .eq 24, 3) := by decide +kernel
theorem dX11_mean_11 : decode cX11_mean 11 = .ok (.iload_n 2, 1) := by decide +kernel
theorem dX11_mean_12 : decode cX11_mean 12 = .ok (.iconst 1, 1) := by decide +kernel
theorem dX11_mean_13 : decode cX11_mean 13 = .ok (.bipush 20, 2) := by decide +kernel
theorem dX11_mean_15 : decode cX11_mean 15 = .ok (.invokestatic 105, 3) := by decide +kernel
theorem dX11_mean_18 : decode cX11_mean 18 = .ok (.ifCond .eq 14, 3) := by decide +kernel
theorem dX11_mean_21 : decode cX11_mean 21 = .ok (.iload_n 1, 1) := by decide +kernel
theorem dX11_mean_22 : decode cX11_mean 22 = .ok (.iload_n 2, 1) := by decide +kernel
theorem dX11_mean_23 : decode cX11_mean 23 = .ok (.iadd, 1) := by decide +kernel
theorem dX11_mean_24 : decode cX11_mean 24 = .ok (.iconst 1, 1) := by decide +kernel
theorem dX11_mean_25 : decode cX11_mean 25 = .ok (.isub, 1) := by decide +kernel
theorem dX11_mean_26 : decode cX11_mean 26 = .ok (.sipush 9999, 3) := by decide +kernel
theorem dX11_mean_29 : decode cX11_mean 29 = .ok (.if_icmp .le 9, 3) := by decide +kernel
theorem dX11_mean_32 : decode cX11_mean 32 = .ok (.aload_n 0, 1) := by decide +kernel
theorem dX11_mean_33 : decode cX11_mean 33 = .ok (.iconst 5, 1) := by decide +kernel
theorem dX11_mean_34 : decode cX11_mean 34 = .ok (.invokevirtual 116, 3) := by decide +kernel
theorem dX11_mean_37 : decode cX11_mean 37 = .ok (.ireturn, 1) := by decide +kernel
theorem dX11_mean_38 : decode cX11_mean 38 = .ok (.aload_n 0, 1) := by decide +kernel
theorem dX11_mean_39 : decode cX11_mean 39 = .ok (.getfield 47, 3) := by decide +kernel
theorem dX11_mean_42 : decode cX11_mean 42 = .ok (.getfield 418, 3) := by decide +kernel
theorem dX11_mean_45 : decode cX11_mean 45 = .ok (.ifCond .ne 10, 3) := by decide +kernel
theorem dX11_mean_48 : decode cX11_mean 48 = .ok (.aload_n 0, 1) := by decide +kernel
theorem dX11_mean_49 : decode cX11_mean 49 = .ok (.bipush 8, 2) := by decide +kernel
theorem dX11_mean_51 : decode cX11_mean 51 = .ok (.invokevirtual 116, 3) := by decide +kernel
theorem dX11_mean_54 : decode cX11_mean 54 = .ok (.ireturn, 1) := by decide +kernel
theorem dX11_mean_55 : decode cX11_mean 55 = .ok (.iconst 0, 1) := by decide +kernel
theorem dX11_mean_56 : decode cX11_mean 56 = .ok (.istore_n 3, 1) := by decide +kernel
theorem dX11_mean_57 : decode cX11_mean 57 = .ok (.iconst 0, 1) := by decide +kernel
theorem dX11_mean_58 : decode cX11_mean 58 = .ok (.istore 4, 2) := by decide +kernel
theorem dX11_mean_60 : decode cX11_mean 60 = .ok (.iload 4, 2) := by decide +kernel
theorem dX11_mean_62 : decode cX11_mean 62 = .ok (.iload_n 2, 1) := by decide +kernel
theorem dX11_mean_63 : decode cX11_mean 63 = .ok (.if_icmp .ge 56, 3) := by decide +kernel
theorem dX11_mean_66 : decode cX11_mean 66 = .ok (.aload_n 0, 1) := by decide +kernel
theorem dX11_mean_67 : decode cX11_mean 67 = .ok (.getfield 41, 3) := by decide +kernel
theorem dX11_mean_70 : decode cX11_mean 70 = .ok (.aload_n 0, 1) := by decide +kernel
theorem dX11_mean_71 : decode cX11_mean 71 = .ok (.getfield 37, 3) := by decide +kernel
theorem dX11_mean_74 : decode cX11_mean 74 = .ok (.invokevirtual 335, 3) := by decide +kernel
theorem dX11_mean_77 : decode cX11_mean 77 = .ok (.aload_n 0, 1) := by decide +kernel
theorem dX11_mean_78 : decode cX11_mean 78 = .ok (.getfield 79, 3) := by decide +kernel
theorem dX11_mean_81 : decode cX11_mean 81 = .ok (.aload_n 0, 1) := by decide +kernel
theorem dX11_mean_82 : decode cX11_mean 82 = .ok (.getfield 41, 3) := by decide +kernel
theorem dX11_mean_85 : decode cX11_mean 85 = .ok (.aload_n 0, 1) := by decide +kernel
theorem dX11_mean_86 : decode cX11_mean 86 = .ok (.getfield 47, 3) := by decide +kernel
theorem dX11_mean_89 : decode cX11_mean 89 = .ok (.iload_n 1, 1) := by decide +kernel
theorem dX11_mean_90 : decode cX11_mean 90 = .ok (.iload 4, 2) := by decide +kernel
theorem dX11_mean_92 : decode cX11_mean 92 = .ok (.iadd, 1) := by decide +kernel
theorem dX11_mean_93 : decode cX11_mean 93 = .ok (.invokevirtual 421, 3) := by decide +kernel
theorem dX11_mean_96 : decode cX11_mean 96 = .ok (.iload_n 3, 1) := by decide +kernel
theorem dX11_mean_97 : decode cX11_mean 97 = .ok (.aload_n 0, 1) := by decide +kernel
theorem dX11_mean_98 : decode cX11_mean 98 = .ok (.getfield 41, 3) := by decide +kernel
theorem dX11_mean_101 : decode cX11_mean 101 = .ok (.aload_n 0, 1) := by decide +kernel
theorem dX11_mean_102 : decode cX11_mean 102 = .ok (.getfield 41, 3) := by decide +kernel
theorem dX11_mean_105 : decode cX11_mean 105 = .ok (.invokevirtual 203, 3) := by decide +kernel
theorem dX11_mean_108 : decode cX11_mean 108 = .ok (.invokevirtual 210, 3) := by decide +kernel
theorem dX11_mean_111 : decode cX11_mean 111 = .ok (.iadd, 1) := by decide +kernel
theorem dX11_mean_112 : decode cX11_mean 112 = .ok (.istore_n 3, 1) := by decide +kernel
theorem dX11_mean_113 : decode cX11_mean 113 = .ok (.iinc 4 1, 3) := by decide +kernel
theorem dX11_mean_116 : decode cX11_mean 116 = .ok (.goto (-56), 3) := by decide +kernel
theorem dX11_mean_119 : decode cX11_mean 119 = .ok (.aload_n 0, 1) := by decide +kernel
theorem dX11_mean_120 : decode cX11_mean 120 = .ok (.iload_n 3, 1) := by decide +kernel
theorem dX11_mean_121 : decode cX11_mean 121 = .ok (.i2l, 1) := by decide +kernel
theorem dX11_mean_122 : decode cX11_mean 122 = .ok (.iload_n 2, 1) := by decide +kernel
theorem dX11_mean_123 : decode cX11_mean 123 = .ok (.i2l, 1) := by decide +kernel
theorem dX11_mean_124 : decode cX11_mean 124 = .ok (.invokevirtual 328, 3) := by decide +kernel
theorem dX11_mean_127 : decode cX11_mean 127 = .ok (.ireturn, 1) := by decide +kernel
def j_X11_mean : JD := (yX11_mean, cX11_mean, 5, (some .boolean))
def b_X11_mean : BD := (7, 0, 0)
theorem dX11_mark_0 : decode cX11_mark 0 = .ok (.aload_n 0, 1) := by decide +kernel
theorem dX11_mark_1 : decode cX11_mark 1 = .ok (.getfield 444, 3) := by decide +kernel
theorem dX11_mark_4 : decode cX11_mark 4 = .ok (.iconst 3, 1) := by decide +kernel
theorem dX11_mark_5 : decode cX11_mark 5 = .ok (.if_icmp .lt 10, 3) := by decide +kernel
theorem dX11_mark_8 : decode cX11_mark 8 = .ok (.aload_n 0, 1) := by decide +kernel
theorem dX11_mark_9 : decode cX11_mark 9 = .ok (.bipush 7, 2) := by decide +kernel
theorem dX11_mark_11 : decode cX11_mark 11 = .ok (.invokevirtual 131, 3) := by decide +kernel
theorem dX11_mark_14 : decode cX11_mark 14 = .ok (.ireturn, 1) := by decide +kernel
theorem dX11_mark_15 : decode cX11_mark 15 = .ok (.aload_n 0, 1) := by decide +kernel
theorem dX11_mark_16 : decode cX11_mark 16 = .ok (.getfield 54, 3) := by decide +kernel
theorem dX11_mark_19 : decode cX11_mark 19 = .ok (.aload_n 0, 1) := by decide +kernel
theorem dX11_mark_20 : decode cX11_mark 20 = .ok (.getfield 444, 3) := by decide +kernel
theorem dX11_mark_23 : decode cX11_mark 23 = .ok (.aaload, 1) := by decide +kernel
theorem dX11_mark_24 : decode cX11_mark 24 = .ok (.aload_n 0, 1) := by decide +kernel
theorem dX11_mark_25 : decode cX11_mark 25 = .ok (.getfield 37, 3) := by decide +kernel
theorem dX11_mark_28 : decode cX11_mark 28 = .ok (.invokevirtual 335, 3) := by decide +kernel
theorem dX11_mark_31 : decode cX11_mark 31 = .ok (.aload_n 0, 1) := by decide +kernel
theorem dX11_mark_32 : decode cX11_mark 32 = .ok (.getfield 58, 3) := by decide +kernel
theorem dX11_mark_35 : decode cX11_mark 35 = .ok (.aload_n 0, 1) := by decide +kernel
theorem dX11_mark_36 : decode cX11_mark 36 = .ok (.getfield 444, 3) := by decide +kernel
theorem dX11_mark_39 : decode cX11_mark 39 = .ok (.aaload, 1) := by decide +kernel
theorem dX11_mark_40 : decode cX11_mark 40 = .ok (.aload_n 0, 1) := by decide +kernel
theorem dX11_mark_41 : decode cX11_mark 41 = .ok (.getfield 47, 3) := by decide +kernel
theorem dX11_mark_44 : decode cX11_mark 44 = .ok (.invokevirtual 447, 3) := by decide +kernel
theorem dX11_mark_47 : decode cX11_mark 47 = .ok (.aload_n 0, 1) := by decide +kernel
theorem dX11_mark_48 : decode cX11_mark 48 = .ok (.dup, 1) := by decide +kernel
theorem dX11_mark_49 : decode cX11_mark 49 = .ok (.getfield 444, 3) := by decide +kernel
theorem dX11_mark_52 : decode cX11_mark 52 = .ok (.iconst 1, 1) := by decide +kernel
theorem dX11_mark_53 : decode cX11_mark 53 = .ok (.iadd, 1) := by decide +kernel
theorem dX11_mark_54 : decode cX11_mark 54 = .ok (.putfield 444, 3) := by decide +kernel
theorem dX11_mark_57 : decode cX11_mark 57 = .ok (.aload_n 0, 1) := by decide +kernel
theorem dX11_mark_58 : decode cX11_mark 58 = .ok (.aload_n 0, 1) := by decide +kernel
theorem dX11_mark_59 : decode cX11_mark 59 = .ok (.getfield 444, 3) := by decide +kernel
theorem dX11_mark_62 : decode cX11_mark 62 = .ok (.invokevirtual 176, 3) := by decide +kernel
theorem dX11_mark_65 : decode cX11_mark 65 = .ok (.ireturn, 1) := by decide +kernel
def j_X11_mark : JD := (yX11_mark, cX11_mark, 1, (some .int))
def b_X11_mark : BD := (2, 0, 0)
theorem dX11_back_0 : decode cX11_back 0 = .ok (.aload_n 0, 1) := by decide +kernel
theorem dX11_back_1 : decode cX11_back 1 = .ok (.getfield 444, 3) := by decide +kernel
theorem dX11_back_4 : decode cX11_back 4 = .ok (.ifCond .gt 10, 3) := by decide +kernel
theorem dX11_back_7 : decode cX11_back 7 = .ok (.aload_n 0, 1) := by decide +kernel
theorem dX11_back_8 : decode cX11_back 8 = .ok (.bipush 8, 2) := by decide +kernel
theorem dX11_back_10 : decode cX11_back 10 = .ok (.invokevirtual 131, 3) := by decide +kernel
theorem dX11_back_13 : decode cX11_back 13 = .ok (.ireturn, 1) := by decide +kernel
theorem dX11_back_14 : decode cX11_back 14 = .ok (.aload_n 0, 1) := by decide +kernel
theorem dX11_back_15 : decode cX11_back 15 = .ok (.dup, 1) := by decide +kernel
theorem dX11_back_16 : decode cX11_back 16 = .ok (.getfield 444, 3) := by decide +kernel
theorem dX11_back_19 : decode cX11_back 19 = .ok (.iconst 1, 1) := by decide +kernel
theorem dX11_back_20 : decode cX11_back 20 = .ok (.isub, 1) := by decide +kernel
theorem dX11_back_21 : decode cX11_back 21 = .ok (.putfield 444, 3) := by decide +kernel
theorem dX11_back_24 : decode cX11_back 24 = .ok (.aload_n 0, 1) := by decide +kernel
theorem dX11_back_25 : decode cX11_back 25 = .ok (.getfield 37, 3) := by decide +kernel
theorem dX11_back_28 : decode cX11_back 28 = .ok (.aload_n 0, 1) := by decide +kernel
theorem dX11_back_29 : decode cX11_back 29 = .ok (.getfield 54, 3) := by decide +kernel
theorem dX11_back_32 : decode cX11_back 32 = .ok (.aload_n 0, 1) := by decide +kernel
theorem dX11_back_33 : decode cX11_back 33 = .ok (.getfield 444, 3) := by decide +kernel
theorem dX11_back_36 : decode cX11_back 36 = .ok (.aaload, 1) := by decide +kernel
theorem dX11_back_37 : decode cX11_back 37 = .ok (.invokevirtual 335, 3) := by decide +kernel
theorem dX11_back_40 : decode cX11_back 40 = .ok (.aload_n 0, 1) := by decide +kernel
theorem dX11_back_41 : decode cX11_back 41 = .ok (.getfield 47, 3) := by decide +kernel
theorem dX11_back_44 : decode cX11_back 44 = .ok (.aload_n 0, 1) := by decide +kernel
theorem dX11_back_45 : decode cX11_back 45 = .ok (.getfield 58, 3) := by decide +kernel
theorem dX11_back_48 : decode cX11_back 48 = .ok (.aload_n 0, 1) := by decide +kernel
theorem dX11_back_49 : decode cX11_back 49 = .ok (.getfield 444, 3) := by decide +kernel
theorem dX11_back_52 : decode cX11_back 52 = .ok (.aaload, 1) := by decide +kernel
theorem dX11_back_53 : decode cX11_back 53 = .ok (.invokevirtual 447, 3) := by decide +kernel
theorem dX11_back_56 : decode cX11_back 56 = .ok (.aload_n 0, 1) := by decide +kernel
theorem dX11_back_57 : decode cX11_back 57 = .ok (.aload_n 0, 1) := by decide +kernel
theorem dX11_back_58 : decode cX11_back 58 = .ok (.getfield 444, 3) := by decide +kernel
theorem dX11_back_61 : decode cX11_back 61 = .ok (.invokevirtual 176, 3) := by decide +kernel
theorem dX11_back_64 : decode cX11_back 64 = .ok (.ireturn, 1) := by decide +kernel
def j_X11_back : JD := (yX11_back, cX11_back, 1, (some .int))
def b_X11_back : BD := (2, 0, 0)
theorem mv_X11_scoreOf : MV j_X11_scoreOf 11 3 := ⟨⟨gw_at 1364 (by decide +kernel) rfl, gw_at 207 (by decide +kernel) rfl, ⟨by decide +kernel, by decide +kernel⟩, by decide +kernel, by decide, by decide +kernel⟩, ⟨_, rfl, rfl⟩, gw_at 1363 (by decide +kernel) rfl, gw_at 88 (by decide +kernel) rfl⟩
theorem mv_X11_scoreOfMean : MV j_X11_scoreOfMean 11 2 := ⟨⟨gw_at 1373 (by decide +kernel) rfl, gw_at 207 (by decide +kernel) rfl, ⟨by decide +kernel, by decide +kernel⟩, by decide +kernel, by decide, by decide +kernel⟩, ⟨_, rfl, rfl⟩, gw_at 1372 (by decide +kernel) rfl, gw_at 89 (by decide +kernel) rfl⟩
theorem mv_X11_whyNotFlown : MV j_X11_whyNotFlown 11 1 := ⟨⟨gw_at 1429 (by decide +kernel) rfl, gw_at 207 (by decide +kernel) rfl, ⟨by decide +kernel, by decide +kernel⟩, by decide +kernel, by decide, by decide +kernel⟩, ⟨_, rfl, rfl⟩, gw_at 1428 (by decide +kernel) rfl, gw_at 95 (by decide +kernel) rfl⟩
theorem mv_X11_windsThatFit : MV j_X11_windsThatFit 11 1 := ⟨⟨gw_at 1433 (by decide +kernel) rfl, gw_at 207 (by decide +kernel) rfl, ⟨by decide +kernel, by decide +kernel⟩, by decide +kernel, by decide, by decide +kernel⟩, ⟨_, rfl, rfl⟩, gw_at 1432 (by decide +kernel) rfl, gw_at 96 (by decide +kernel) rfl⟩
theorem ml_X11_372 : MLk RX11 372 j_X11_whyNoScore.1 := Or.inl (gw_at 1353 (by decide +kernel) rfl)
theorem ml_X11_375 : MLk RX11 375 j_X11_scoreOf.1 := Or.inl (gw_at 1361 (by decide +kernel) rfl)
theorem ml_X11_378 : MLk RX11 378 j_X11_scoreOfMean.1 := Or.inl (gw_at 1370 (by decide +kernel) rfl)
theorem ml_X11_391 : MLk RX11 391 j_X4_timesHelped.1 := Or.inr ⟨_, nw_at (w := Cond.methodLinkNest RX11 391 yX4_timesHelped "RoofGale") 1383 (by decide +kernel) rfl⟩
theorem ml_X11_394 : MLk RX11 394 j_X4_timesHelping.1 := Or.inr ⟨_, nw_at (w := Cond.methodLinkNest RX11 394 yX4_timesHelping "RoofGale") 1387 (by decide +kernel) rfl⟩
theorem ml_X11_397 : MLk RX11 397 j_X4_chainFrom.1 := Or.inr ⟨_, nw_at (w := Cond.methodLinkNest RX11 397 yX4_chainFrom "RoofGale") 1395 (by decide +kernel) rfl⟩
theorem ml_X11_400 : MLk RX11 400 j_X3_fewestRows.1 := Or.inr ⟨_, nw_at (w := Cond.methodLinkNest RX11 400 yX3_fewestRows "RoofGale") 1407 (by decide +kernel) rfl⟩
theorem ml_X11_403 : MLk RX11 403 j_X7_timesOf.1 := Or.inr ⟨_, nw_at (w := Cond.methodLinkNest RX11 403 yX7_timesOf "RoofGale") 1418 (by decide +kernel) rfl⟩
theorem ml_X11_406 : MLk RX11 406 j_X11_whyNotFlown.1 := Or.inl (gw_at 1426 (by decide +kernel) rfl)
theorem ml_X11_409 : MLk RX11 409 j_X11_windsThatFit.1 := Or.inl (gw_at 1430 (by decide +kernel) rfl)
theorem ml_X11_421 : MLk RX11 421 j_X2_run.1 := Or.inr ⟨_, nw_at (w := Cond.methodLinkNest RX11 421 yX2_run "RoofGale") 1447 (by decide +kernel) rfl⟩
theorem ml_X11_447 : MLk RX11 447 j_X9_copyFrom.1 := Or.inr ⟨_, nw_at (w := Cond.methodLinkNest RX11 447 yX9_copyFrom "RoofGale") 1499 (by decide +kernel) rfl⟩
def f_X11_scoreOf_6 : Nat → Mm → Option Nat → Int32 → Int32 → Int32 → Int32 → Int32 → Option (Int32 × Mm)
  | 0, _, _, _, _, _, _, _ => none
  | n + 1, M, l0, l1, l2, l3, l4, l5 => if l3 ≤ l5 then (some (l4, M)) else (gfR M l0 11 6 fun v13 => gfR M v13 7 0 fun v16 => alR M v16 51 l1 fun v20 => alL M v20 22 l5 fun v23 => gfR M l0 11 6 fun v28 => gfR M v28 7 0 fun v31 => alR M v31 51 l2 fun v35 => alL M v35 22 l5 fun v38 => nmI (Int64.toInt32 (v23 - (100 * v38))) fun x42 => nmI (l4 + (x42 * x42)) fun x52 => f_X11_scoreOf_6 n M l0 l1 l2 l3 x52 (l5 + 1))
def f_X11_scoreOf (M : Mm) (l0 : Option Nat) (l1 : Int32) (l2 : Int32) (l3 : Int32) : Option (Int32 × Mm) := f_X11_scoreOf_6  fu M l0 l1 l2 l3 0 0
set_option maxHeartbeats 4000000 in
set_option maxRecDepth 100000 in
theorem t_X11_scoreOf_6 {G : GG} {X : CX} {ans : Int32 × Mm} (he : EndI G X j_X11_scoreOf b_X11_scoreOf ans) : ∀ (n : Nat) {M : Mm} {l0 : Option Nat} {l1 : Int32} {l2 : Int32} {l3 : Int32} {l4 : Int32} {l5 : Int32}, f_X11_scoreOf_6 n M l0 l1 l2 l3 l4 l5 = some ans → Wt G X j_X11_scoreOf b_X11_scoreOf 6 [(0, rf G.1 l0), (1, .int l1), (2, .int l2), (3, .int l3), (4, .int l4), (5, .int l5)] [] M 0 0 := by
  intro n
  induction n with
  | zero =>
    intro M l0 l1 l2 l3 l4 l5 h
    rw [f_X11_scoreOf_6] at h
    cases h
  | succ n ih =>
    intro M l0 l1 l2 l3 l4 l5 h
    rw [f_X11_scoreOf_6] at h
    refine wt_iload (pc := 6) 5 dX11_scoreOf_6 rfl ?_
    refine wt_iload_n (pc := 8) 3 dX11_scoreOf_8 rfl ?_
    refine wt_icmp_ge (pc := 9) (tgt := 60) dX11_scoreOf_9 (by decide) (fun q => ?_) (fun q => ?_)
    · have h := ite_t q h
      refine wt_iload (pc := 60) 4 dX11_scoreOf_60 rfl ?_
      cases h
      exact he 62 _ _ _ dX11_scoreOf_62 (by decide) (by decide)
    · have h := ite_f q h
      refine wt_aload_n (pc := 12) 0 dX11_scoreOf_12 rfl ?_
      refine wt_getR (pc := 13) dX11_scoreOf_13 fl_X11_30 (fun _ _ _ => rfl) h (fun v13 h => ?_)
      refine wt_getR (pc := 16) dX11_scoreOf_16 fl_X11_135 (fun _ _ _ => rfl) h (fun v16 h => ?_)
      refine wt_iload_n (pc := 19) 1 dX11_scoreOf_19 rfl ?_
      refine wt_aaload (pc := 20) (kd := 51) dX11_scoreOf_20 rfl rfl (by decide) h (fun v20 h => ?_)
      refine wt_iload (pc := 21) 5 dX11_scoreOf_21 rfl ?_
      refine wt_laload (pc := 23) (kd := 22) dX11_scoreOf_23 rfl rfl h (fun v23 h => ?_)
      refine wt_ldc2 (pc := 24) dX11_scoreOf_24 kc_X11_387 ?_
      refine wt_aload_n (pc := 27) 0 dX11_scoreOf_27 rfl ?_
      refine wt_getR (pc := 28) dX11_scoreOf_28 fl_X11_30 (fun _ _ _ => rfl) h (fun v28 h => ?_)
      refine wt_getR (pc := 31) dX11_scoreOf_31 fl_X11_135 (fun _ _ _ => rfl) h (fun v31 h => ?_)
      refine wt_iload_n (pc := 34) 2 dX11_scoreOf_34 rfl ?_
      refine wt_aaload (pc := 35) (kd := 51) dX11_scoreOf_35 rfl rfl (by decide) h (fun v35 h => ?_)
      refine wt_iload (pc := 36) 5 dX11_scoreOf_36 rfl ?_
      refine wt_laload (pc := 38) (kd := 22) dX11_scoreOf_38 rfl rfl h (fun v38 h => ?_)
      refine wt_lmul (pc := 39) dX11_scoreOf_39 ?_
      refine wt_lsub (pc := 40) dX11_scoreOf_40 ?_
      refine wt_l2i (pc := 41) dX11_scoreOf_41 ?_
      refine wt_nmI h (fun x42 h => ?_)
      refine wt_istore (pc := 42) (i := 6) (ls' := [(6, .int x42), (0, rf G.1 l0), (1, .int l1), (2, .int l2), (3, .int l3), (4, .int l4), (5, .int l5)]) dX11_scoreOf_42 (by decide) rfl ?_
      refine wt_iload (pc := 44) 5 dX11_scoreOf_44 rfl ?_
      refine wt_iload (pc := 46) 0 dX11_scoreOf_46 rfl ?_
      refine wt_iload (pc := 48) 0 dX11_scoreOf_48 rfl ?_
      refine wt_imul (pc := 50) dX11_scoreOf_50 ?_
      refine wt_iadd (pc := 51) dX11_scoreOf_51 ?_
      refine wt_nmI h (fun x52 h => ?_)
      refine wt_istore (pc := 52) (i := 4) (ls' := [(4, .int x52), (6, .int x42), (0, rf G.1 l0), (1, .int l1), (2, .int l2), (3, .int l3), (5, .int l5)]) dX11_scoreOf_52 (by decide) rfl ?_
      refine wt_iinc (pc := 54) (d := 1) (ls' := [(5, .int (l5 + 1)), (4, .int x52), (6, .int x42), (0, rf G.1 l0), (1, .int l1), (2, .int l2), (3, .int l3)]) 6 dX11_scoreOf_54 rfl (by decide) (by decide) rfl ?_
      refine wt_goto (pc := 57) (tgt := 6) dX11_scoreOf_57 (by decide) ?_
      refine wt_sub (ls' := [(0, rf G.1 l0), (1, .int l1), (2, .int l2), (3, .int l3), (4, .int x52), (5, .int (l5 + 1))]) [3, 4, 5, 6, 1, 0] rfl ?_
      exact ih h
set_option maxHeartbeats 4000000 in
set_option maxRecDepth 100000 in
theorem t_X11_scoreOf_e {G : GG} {X : CX} {ans : Int32 × Mm} (he : EndI G X j_X11_scoreOf b_X11_scoreOf ans) {M : Mm} {l0 : Option Nat} {l1 : Int32} {l2 : Int32} {l3 : Int32} (h : f_X11_scoreOf M l0 l1 l2 l3 = some ans) : Wt G X j_X11_scoreOf b_X11_scoreOf 0 [(0, rf G.1 l0), (1, .int l1), (2, .int l2), (3, .int l3)] [] M 0 0 := by
  unfold f_X11_scoreOf at h
  refine wt_iconst (pc := 0) (v := 0) dX11_scoreOf_0 (by decide) ?_
  refine wt_istore (pc := 1) (i := 4) (ls' := [(4, .int 0), (0, rf G.1 l0), (1, .int l1), (2, .int l2), (3, .int l3)]) dX11_scoreOf_1 (by decide) rfl ?_
  refine wt_iconst (pc := 3) (v := 0) dX11_scoreOf_3 (by decide) ?_
  refine wt_istore (pc := 4) (i := 5) (ls' := [(5, .int 0), (4, .int 0), (0, rf G.1 l0), (1, .int l1), (2, .int l2), (3, .int l3)]) dX11_scoreOf_4 (by decide) rfl ?_
  refine wt_sub (ls' := [(0, rf G.1 l0), (1, .int l1), (2, .int l2), (3, .int l3), (4, .int 0), (5, .int 0)]) [2, 3, 4, 5, 1, 0] rfl ?_
  exact t_X11_scoreOf_6 he  fu h
set_option maxHeartbeats 4000000 in
set_option maxRecDepth 100000 in
theorem c_X11_scoreOf {G : GG} {M : Mm} {l0 : Option Nat} {l1 : Int32} {l2 : Int32} {l3 : Int32} {r : Int32 × Mm} (h : f_X11_scoreOf M l0 l1 l2 l3 = some r) (l : Launch) : Ct l G j_X11_scoreOf b_X11_scoreOf [rf G.1 l0, .int l1, .int l2, .int l3] M (some (.int r.1)) r.2 := cf_I (by decide +kernel) (by simp [lg_sl, rf_cat, cat_i, cat_l, j_X11_scoreOf]) rfl (by simp [lv_args, rf_cat, cat_i, cat_l]) (fun X he => t_X11_scoreOf_e he h)
def f_X11_score (M : Mm) (l0 : Option Nat) (l1 : Int32) (l2 : Int32) (l3 : Int32) : Option (Int32 × Mm) := ck M l0 11 <| bd (f_X11_whyNoScore M l0 l1 l2 l3) fun v4 M4 => if v4 = 0 then (ck M4 l0 11 <| bd (f_X11_scoreOf M4 l0 l1 l2 l3) fun v26 M26 => ck M26 l0 11 <| bd (f_X11_answer M26 l0 v26) fun v29 M29 => some (v29, M29)) else (ck M4 l0 11 <| bd (f_X11_none M4 l0 v4) fun v17 M17 => some (v17, M17))
set_option maxHeartbeats 4000000 in
set_option maxRecDepth 100000 in
theorem t_X11_score_e {G : GG} {X : CX} {ans : Int32 × Mm} (he : EndI G X j_X11_score b_X11_score ans) {M : Mm} {l0 : Option Nat} {l1 : Int32} {l2 : Int32} {l3 : Int32} (h : f_X11_score M l0 l1 l2 l3 = some ans) : Wt G X j_X11_score b_X11_score 0 [(0, rf G.1 l0), (1, .int l1), (2, .int l2), (3, .int l3)] [] M 0 0 := by
  unfold f_X11_score at h
  refine wt_aload_n (pc := 0) 0 dX11_score_0 rfl ?_
  refine wt_iload_n (pc := 1) 1 dX11_score_1 rfl ?_
  refine wt_iload_n (pc := 2) 2 dX11_score_2 rfl ?_
  refine wt_iload_n (pc := 3) 3 dX11_score_3 rfl ?_
  refine wt_cVI (pc := 4) (J' := j_X11_whyNoScore) (As := [.int l1, .int l2, .int l3]) (st := []) (B' := b_X11_whyNoScore) (u' := 0) (w' := 0) dX11_score_4 ml_X11_372 mv_X11_whyNoScore (fun v9 M9 e9 => c_X11_whyNoScore e9) rfl (by decide) rfl rfl (by decide) (by decide) (by decide) rfl h (fun v4 M4 h => ?_)
  refine wt_istore (pc := 7) (i := 4) (ls' := [(4, .int v4), (0, rf G.1 l0), (1, .int l1), (2, .int l2), (3, .int l3)]) dX11_score_7 (by decide) rfl ?_
  refine wt_iload (pc := 9) 0 dX11_score_9 rfl ?_
  refine wt_if_eq (pc := 11) (tgt := 21) dX11_score_11 (by decide) (fun q => ?_) (fun q => ?_)
  · have h := ite_t q h
    refine wt_aload_n (pc := 21) 1 dX11_score_21 rfl ?_
    refine wt_aload_n (pc := 22) 1 dX11_score_22 rfl ?_
    refine wt_iload_n (pc := 23) 2 dX11_score_23 rfl ?_
    refine wt_iload_n (pc := 24) 3 dX11_score_24 rfl ?_
    refine wt_iload_n (pc := 25) 4 dX11_score_25 rfl ?_
    refine wt_cVI (pc := 26) (J' := j_X11_scoreOf) (As := [.int l1, .int l2, .int l3]) (st := [rf G.1 l0]) (B' := b_X11_scoreOf) (u' := 0) (w' := 0) dX11_score_26 ml_X11_375 mv_X11_scoreOf (fun v9 M9 e9 => c_X11_scoreOf e9) rfl (by decide) rfl rfl (by decide) (by decide) (by simp [rf_cat, cat_i, cat_l, cat_r]) rfl h (fun v26 M26 h => ?_)
    refine wt_cVI (pc := 29) (J' := j_X11_answer) (As := [.int v26]) (st := []) (B' := b_X11_answer) (u' := 0) (w' := 0) dX11_score_29 ml_X11_176 mv_X11_answer (fun v9 M9 e9 => c_X11_answer e9) rfl (by decide) rfl rfl (by decide) (by decide) (by decide) rfl h (fun v29 M29 h => ?_)
    cases h
    exact he 32 _ _ _ dX11_score_32 (by decide) (by decide)
  · have h := ite_f q h
    refine wt_aload_n (pc := 14) 1 dX11_score_14 rfl ?_
    refine wt_iload (pc := 15) 0 dX11_score_15 rfl ?_
    refine wt_cVI (pc := 17) (J' := j_X11_none) (As := [.int v4]) (st := []) (B' := b_X11_none) (u' := 0) (w' := 0) dX11_score_17 ml_X11_131 mv_X11_none (fun v9 M9 e9 => c_X11_none e9) rfl (by decide) rfl rfl (by decide) (by decide) (by decide) rfl h (fun v17 M17 h => ?_)
    cases h
    exact he 20 _ _ _ dX11_score_20 (by decide) (by decide)
set_option maxHeartbeats 4000000 in
set_option maxRecDepth 100000 in
theorem c_X11_score {G : GG} {M : Mm} {l0 : Option Nat} {l1 : Int32} {l2 : Int32} {l3 : Int32} {r : Int32 × Mm} (h : f_X11_score M l0 l1 l2 l3 = some r) (l : Launch) : Ct l G j_X11_score b_X11_score [rf G.1 l0, .int l1, .int l2, .int l3] M (some (.int r.1)) r.2 := cf_I (by decide +kernel) (by simp [lg_sl, rf_cat, cat_i, cat_l, j_X11_score]) rfl (by simp [lv_args, rf_cat, cat_i, cat_l]) (fun X he => t_X11_score_e he h)
def f_X11_scoreOfMean_5 : Nat → Mm → Option Nat → Int32 → Int32 → Int32 → Int32 → Option (Int32 × Mm)
  | 0, _, _, _, _, _, _ => none
  | n + 1, M, l0, l1, l2, l3, l4 => if l2 ≤ l4 then (dvI (mxI 1 l2) <| nmI ((100 * l3) / (mxI 1 l2)) fun x43 => some ((((l3 * (100 - x43)) * (100 - x43)) + (((l2 - l3) * x43) * x43)), M)) else (gfR M l0 11 6 fun v13 => gfR M v13 7 0 fun v16 => alR M v16 51 l1 fun v20 => alL M v20 22 l4 fun v23 => nmI (l3 + (Int64.toInt32 v23)) fun x26 => f_X11_scoreOfMean_5 n M l0 l1 l2 x26 (l4 + 1))
def f_X11_scoreOfMean (M : Mm) (l0 : Option Nat) (l1 : Int32) (l2 : Int32) : Option (Int32 × Mm) := f_X11_scoreOfMean_5  fu M l0 l1 l2 0 0
set_option maxHeartbeats 4000000 in
set_option maxRecDepth 100000 in
theorem t_X11_scoreOfMean_5 {G : GG} {X : CX} {ans : Int32 × Mm} (he : EndI G X j_X11_scoreOfMean b_X11_scoreOfMean ans) : ∀ (n : Nat) {M : Mm} {l0 : Option Nat} {l1 : Int32} {l2 : Int32} {l3 : Int32} {l4 : Int32}, f_X11_scoreOfMean_5 n M l0 l1 l2 l3 l4 = some ans → Wt G X j_X11_scoreOfMean b_X11_scoreOfMean 5 [(0, rf G.1 l0), (1, .int l1), (2, .int l2), (3, .int l3), (4, .int l4)] [] M 0 0 := by
  intro n
  induction n with
  | zero =>
    intro M l0 l1 l2 l3 l4 h
    rw [f_X11_scoreOfMean_5] at h
    cases h
  | succ n ih =>
    intro M l0 l1 l2 l3 l4 h
    rw [f_X11_scoreOfMean_5] at h
    refine wt_iload (pc := 5) 4 dX11_scoreOfMean_5 rfl ?_
    refine wt_iload_n (pc := 7) 2 dX11_scoreOfMean_7 rfl ?_
    refine wt_icmp_ge (pc := 8) (tgt := 33) dX11_scoreOfMean_8 (by decide) (fun q => ?_) (fun q => ?_)
    · have h := ite_t q h
      refine wt_bipush (pc := 33) (v := 100) dX11_scoreOfMean_33 (by decide) ?_
      refine wt_iload_n (pc := 35) 3 dX11_scoreOfMean_35 rfl ?_
      refine wt_imul (pc := 36) dX11_scoreOfMean_36 ?_
      refine wt_iconst (pc := 37) (v := 1) dX11_scoreOfMean_37 (by decide) ?_
      refine wt_iload_n (pc := 38) 2 dX11_scoreOfMean_38 rfl ?_
      refine wt_mmax (pc := 39) dX11_scoreOfMean_39 bi_X11_389 mw_max.1 mw_max.2.1 mw_max.2.2 (by decide) (by decide) (by decide) (by simp [rf_cat, cat_i, cat_l, cat_r]) ?_
      obtain ⟨qd, h⟩ := dvI_spec h
      refine wt_idiv (pc := 42) dX11_scoreOfMean_42 qd ?_
      refine wt_nmI h (fun x43 h => ?_)
      refine wt_istore (pc := 43) (i := 4) (ls' := [(4, .int x43), (0, rf G.1 l0), (1, .int l1), (2, .int l2), (3, .int l3)]) dX11_scoreOfMean_43 (by decide) rfl ?_
      refine wt_iload_n (pc := 45) 4 dX11_scoreOfMean_45 rfl ?_
      refine wt_bipush (pc := 46) (v := 100) dX11_scoreOfMean_46 (by decide) ?_
      refine wt_iload (pc := 48) 0 dX11_scoreOfMean_48 rfl ?_
      refine wt_isub (pc := 50) dX11_scoreOfMean_50 ?_
      refine wt_imul (pc := 51) dX11_scoreOfMean_51 ?_
      refine wt_bipush (pc := 52) (v := 100) dX11_scoreOfMean_52 (by decide) ?_
      refine wt_iload (pc := 54) 0 dX11_scoreOfMean_54 rfl ?_
      refine wt_isub (pc := 56) dX11_scoreOfMean_56 ?_
      refine wt_imul (pc := 57) dX11_scoreOfMean_57 ?_
      refine wt_iload_n (pc := 58) 3 dX11_scoreOfMean_58 rfl ?_
      refine wt_iload_n (pc := 59) 4 dX11_scoreOfMean_59 rfl ?_
      refine wt_isub (pc := 60) dX11_scoreOfMean_60 ?_
      refine wt_iload (pc := 61) 0 dX11_scoreOfMean_61 rfl ?_
      refine wt_imul (pc := 63) dX11_scoreOfMean_63 ?_
      refine wt_iload (pc := 64) 0 dX11_scoreOfMean_64 rfl ?_
      refine wt_imul (pc := 66) dX11_scoreOfMean_66 ?_
      refine wt_iadd (pc := 67) dX11_scoreOfMean_67 ?_
      cases h
      exact he 68 _ _ _ dX11_scoreOfMean_68 (by decide) (by decide)
    · have h := ite_f q h
      refine wt_iload_n (pc := 11) 3 dX11_scoreOfMean_11 rfl ?_
      refine wt_aload_n (pc := 12) 0 dX11_scoreOfMean_12 rfl ?_
      refine wt_getR (pc := 13) dX11_scoreOfMean_13 fl_X11_30 (fun _ _ _ => rfl) h (fun v13 h => ?_)
      refine wt_getR (pc := 16) dX11_scoreOfMean_16 fl_X11_135 (fun _ _ _ => rfl) h (fun v16 h => ?_)
      refine wt_iload_n (pc := 19) 1 dX11_scoreOfMean_19 rfl ?_
      refine wt_aaload (pc := 20) (kd := 51) dX11_scoreOfMean_20 rfl rfl (by decide) h (fun v20 h => ?_)
      refine wt_iload (pc := 21) 4 dX11_scoreOfMean_21 rfl ?_
      refine wt_laload (pc := 23) (kd := 22) dX11_scoreOfMean_23 rfl rfl h (fun v23 h => ?_)
      refine wt_l2i (pc := 24) dX11_scoreOfMean_24 ?_
      refine wt_iadd (pc := 25) dX11_scoreOfMean_25 ?_
      refine wt_nmI h (fun x26 h => ?_)
      refine wt_istore_n (pc := 26) (i := 3) (ls' := [(3, .int x26), (0, rf G.1 l0), (1, .int l1), (2, .int l2), (4, .int l4)]) rfl dX11_scoreOfMean_26 (by decide) rfl ?_
      refine wt_iinc (pc := 27) (d := 1) (ls' := [(4, .int (l4 + 1)), (3, .int x26), (0, rf G.1 l0), (1, .int l1), (2, .int l2)]) 4 dX11_scoreOfMean_27 rfl (by decide) (by decide) rfl ?_
      refine wt_goto (pc := 30) (tgt := 5) dX11_scoreOfMean_30 (by decide) ?_
      refine wt_sub (ls' := [(0, rf G.1 l0), (1, .int l1), (2, .int l2), (3, .int x26), (4, .int (l4 + 1))]) [2, 3, 4, 1, 0] rfl ?_
      exact ih h
set_option maxHeartbeats 4000000 in
set_option maxRecDepth 100000 in
theorem t_X11_scoreOfMean_e {G : GG} {X : CX} {ans : Int32 × Mm} (he : EndI G X j_X11_scoreOfMean b_X11_scoreOfMean ans) {M : Mm} {l0 : Option Nat} {l1 : Int32} {l2 : Int32} (h : f_X11_scoreOfMean M l0 l1 l2 = some ans) : Wt G X j_X11_scoreOfMean b_X11_scoreOfMean 0 [(0, rf G.1 l0), (1, .int l1), (2, .int l2)] [] M 0 0 := by
  unfold f_X11_scoreOfMean at h
  refine wt_iconst (pc := 0) (v := 0) dX11_scoreOfMean_0 (by decide) ?_
  refine wt_istore_n (pc := 1) (i := 3) (ls' := [(3, .int 0), (0, rf G.1 l0), (1, .int l1), (2, .int l2)]) rfl dX11_scoreOfMean_1 (by decide) rfl ?_
  refine wt_iconst (pc := 2) (v := 0) dX11_scoreOfMean_2 (by decide) ?_
  refine wt_istore (pc := 3) (i := 4) (ls' := [(4, .int 0), (3, .int 0), (0, rf G.1 l0), (1, .int l1), (2, .int l2)]) dX11_scoreOfMean_3 (by decide) rfl ?_
  refine wt_sub (ls' := [(0, rf G.1 l0), (1, .int l1), (2, .int l2), (3, .int 0), (4, .int 0)]) [2, 3, 4, 1, 0] rfl ?_
  exact t_X11_scoreOfMean_5 he  fu h
set_option maxHeartbeats 4000000 in
set_option maxRecDepth 100000 in
theorem c_X11_scoreOfMean {G : GG} {M : Mm} {l0 : Option Nat} {l1 : Int32} {l2 : Int32} {r : Int32 × Mm} (h : f_X11_scoreOfMean M l0 l1 l2 = some r) (l : Launch) : Ct l G j_X11_scoreOfMean b_X11_scoreOfMean [rf G.1 l0, .int l1, .int l2] M (some (.int r.1)) r.2 := cf_I (by decide +kernel) (by simp [lg_sl, rf_cat, cat_i, cat_l, j_X11_scoreOfMean]) rfl (by simp [lv_args, rf_cat, cat_i, cat_l]) (fun X he => t_X11_scoreOfMean_e he h)
def f_X11_words (M : Mm) (l0 : Option Nat) (l1 : Int32) (l2 : Int32) (l3 : Int32) : Option (Int32 × Mm) := ck M l0 11 <| bd (f_X11_whyNoScore M l0 l1 l2 l3) fun v4 M4 => if v4 = 0 then (ck M4 l0 11 <| bd (f_X11_scoreOfMean M4 l0 l2 l3) fun v25 M25 => ck M25 l0 11 <| bd (f_X11_scoreOf M25 l0 l1 l2 l3) fun v32 M32 => ck M32 l0 11 <| bd (f_X11_answer M32 l0 (v25 - v32)) fun v36 M36 => some (v36, M36)) else (ck M4 l0 11 <| bd (f_X11_none M4 l0 v4) fun v17 M17 => some (v17, M17))
set_option maxHeartbeats 4000000 in
set_option maxRecDepth 100000 in
theorem t_X11_words_e {G : GG} {X : CX} {ans : Int32 × Mm} (he : EndI G X j_X11_words b_X11_words ans) {M : Mm} {l0 : Option Nat} {l1 : Int32} {l2 : Int32} {l3 : Int32} (h : f_X11_words M l0 l1 l2 l3 = some ans) : Wt G X j_X11_words b_X11_words 0 [(0, rf G.1 l0), (1, .int l1), (2, .int l2), (3, .int l3)] [] M 0 0 := by
  unfold f_X11_words at h
  refine wt_aload_n (pc := 0) 0 dX11_words_0 rfl ?_
  refine wt_iload_n (pc := 1) 1 dX11_words_1 rfl ?_
  refine wt_iload_n (pc := 2) 2 dX11_words_2 rfl ?_
  refine wt_iload_n (pc := 3) 3 dX11_words_3 rfl ?_
  refine wt_cVI (pc := 4) (J' := j_X11_whyNoScore) (As := [.int l1, .int l2, .int l3]) (st := []) (B' := b_X11_whyNoScore) (u' := 0) (w' := 0) dX11_words_4 ml_X11_372 mv_X11_whyNoScore (fun v9 M9 e9 => c_X11_whyNoScore e9) rfl (by decide) rfl rfl (by decide) (by decide) (by decide) rfl h (fun v4 M4 h => ?_)
  refine wt_istore (pc := 7) (i := 4) (ls' := [(4, .int v4), (0, rf G.1 l0), (1, .int l1), (2, .int l2), (3, .int l3)]) dX11_words_7 (by decide) rfl ?_
  refine wt_iload (pc := 9) 0 dX11_words_9 rfl ?_
  refine wt_if_eq (pc := 11) (tgt := 21) dX11_words_11 (by decide) (fun q => ?_) (fun q => ?_)
  · have h := ite_t q h
    refine wt_aload_n (pc := 21) 1 dX11_words_21 rfl ?_
    refine wt_aload_n (pc := 22) 1 dX11_words_22 rfl ?_
    refine wt_iload_n (pc := 23) 3 dX11_words_23 rfl ?_
    refine wt_iload_n (pc := 24) 4 dX11_words_24 rfl ?_
    refine wt_cVI (pc := 25) (J' := j_X11_scoreOfMean) (As := [.int l2, .int l3]) (st := [rf G.1 l0]) (B' := b_X11_scoreOfMean) (u' := 0) (w' := 0) dX11_words_25 ml_X11_378 mv_X11_scoreOfMean (fun v9 M9 e9 => c_X11_scoreOfMean e9) rfl (by decide) rfl rfl (by decide) (by decide) (by simp [rf_cat, cat_i, cat_l, cat_r]) rfl h (fun v25 M25 h => ?_)
    refine wt_aload_n (pc := 28) 1 dX11_words_28 rfl ?_
    refine wt_iload_n (pc := 29) 2 dX11_words_29 rfl ?_
    refine wt_iload_n (pc := 30) 3 dX11_words_30 rfl ?_
    refine wt_iload_n (pc := 31) 4 dX11_words_31 rfl ?_
    refine wt_cVI (pc := 32) (J' := j_X11_scoreOf) (As := [.int l1, .int l2, .int l3]) (st := [.int v25, rf G.1 l0]) (B' := b_X11_scoreOf) (u' := 0) (w' := 0) dX11_words_32 ml_X11_375 mv_X11_scoreOf (fun v9 M9 e9 => c_X11_scoreOf e9) rfl (by decide) rfl rfl (by decide) (by decide) (by simp [rf_cat, cat_i, cat_l, cat_r]) rfl h (fun v32 M32 h => ?_)
    refine wt_isub (pc := 35) dX11_words_35 ?_
    refine wt_cVI (pc := 36) (J' := j_X11_answer) (As := [.int (v25 - v32)]) (st := []) (B' := b_X11_answer) (u' := 0) (w' := 0) dX11_words_36 ml_X11_176 mv_X11_answer (fun v9 M9 e9 => c_X11_answer e9) rfl (by decide) rfl rfl (by decide) (by decide) (by decide) rfl h (fun v36 M36 h => ?_)
    cases h
    exact he 39 _ _ _ dX11_words_39 (by decide) (by decide)
  · have h := ite_f q h
    refine wt_aload_n (pc := 14) 1 dX11_words_14 rfl ?_
    refine wt_iload (pc := 15) 0 dX11_words_15 rfl ?_
    refine wt_cVI (pc := 17) (J' := j_X11_none) (As := [.int v4]) (st := []) (B' := b_X11_none) (u' := 0) (w' := 0) dX11_words_17 ml_X11_131 mv_X11_none (fun v9 M9 e9 => c_X11_none e9) rfl (by decide) rfl rfl (by decide) (by decide) (by decide) rfl h (fun v17 M17 h => ?_)
    cases h
    exact he 20 _ _ _ dX11_words_20 (by decide) (by decide)
set_option maxHeartbeats 4000000 in
set_option maxRecDepth 100000 in
theorem c_X11_words {G : GG} {M : Mm} {l0 : Option Nat} {l1 : Int32} {l2 : Int32} {l3 : Int32} {r : Int32 × Mm} (h : f_X11_words M l0 l1 l2 l3 = some r) (l : Launch) : Ct l G j_X11_words b_X11_words [rf G.1 l0, .int l1, .int l2, .int l3] M (some (.int r.1)) r.2 := cf_I (by decide +kernel) (by simp [lg_sl, rf_cat, cat_i, cat_l, j_X11_words]) rfl (by simp [lv_args, rf_cat, cat_i, cat_l]) (fun X he => t_X11_words_e he h)
def f_X11_owed_43 (k6 : Mm → Option Nat → Int32 → Int32 → Int32 → Option (Int32 × Mm)) (M : Mm) (l0 : Option Nat) (l1 : Int32) (l2 : Int32) (l3 : Int32) : Option (Int32 × Mm) := k6 M l0 l1 l2 (l3 + 1)
def f_X11_owed_38 (k6 : Mm → Option Nat → Int32 → Int32 → Int32 → Option (Int32 × Mm)) (M : Mm) (l0 : Option Nat) (l3 : Int32) (l4 : Int32) : Option (Int32 × Mm) := f_X11_owed_43 k6 M l0 l3 l4 l3
def f_X11_owed_6 : Nat → Mm → Option Nat → Int32 → Int32 → Int32 → Option (Int32 × Mm)
  | 0, _, _, _, _, _ => none
  | n + 1, M, l0, l1, l2, l3 => gfR M l0 11 7 fun v8 => gfI M v8 4 3 fun v11 => if v11 ≤ l3 then (if l1 = (-1) then (ck M l0 11 <| bd (f_X11_none M l0 8) fun v57 M57 => some (v57, M57)) else (ck M l0 11 <| bd (f_X11_answer M l0 l1) fun v65 M65 => some (v65, M65))) else (gfR M l0 11 7 fun v18 => ck M v18 4 <| bd (f_X4_dueOf M v18 l3) fun v22 M22 => if l1 = (-1) then (f_X11_owed_38 (f_X11_owed_6 n) M22 l0 l3 v22) else (if v22 ≤ l2 then (f_X11_owed_43 (f_X11_owed_6 n) M22 l0 l1 l2 l3) else (f_X11_owed_38 (f_X11_owed_6 n) M22 l0 l3 v22)))
def f_X11_owed (M : Mm) (l0 : Option Nat) : Option (Int32 × Mm) := f_X11_owed_6  fu M l0 (-1) 0 0
set_option maxHeartbeats 4000000 in
set_option maxRecDepth 100000 in
theorem t_X11_owed_43 {G : GG} {X : CX} {ans : Int32 × Mm} (he : EndI G X j_X11_owed b_X11_owed ans) {k6 : Mm → Option Nat → Int32 → Int32 → Int32 → Option (Int32 × Mm)} (hk6 : ∀ (M : Mm) (a0 : Option Nat) (a1 : Int32) (a2 : Int32) (a3 : Int32), k6 M a0 a1 a2 a3 = some ans → Wt G X j_X11_owed b_X11_owed 6 [(0, rf G.1 a0), (1, .int a1), (2, .int a2), (3, .int a3)] [] M 0 0) {M : Mm} {l0 : Option Nat} {l1 : Int32} {l2 : Int32} {l3 : Int32} (h : f_X11_owed_43 k6 M l0 l1 l2 l3 = some ans) : Wt G X j_X11_owed b_X11_owed 43 [(0, rf G.1 l0), (1, .int l1), (2, .int l2), (3, .int l3)] [] M 0 0 := by
  unfold f_X11_owed_43 at h
  refine wt_iinc (pc := 43) (d := 1) (ls' := [(3, .int (l3 + 1)), (0, rf G.1 l0), (1, .int l1), (2, .int l2)]) 3 dX11_owed_43 rfl (by decide) (by decide) rfl ?_
  refine wt_goto (pc := 46) (tgt := 6) dX11_owed_46 (by decide) ?_
  refine wt_sub (ls' := [(0, rf G.1 l0), (1, .int l1), (2, .int l2), (3, .int (l3 + 1))]) [1, 2, 3, 0] rfl ?_
  exact hk6 _ _ _ _ _ h
set_option maxHeartbeats 4000000 in
set_option maxRecDepth 100000 in
theorem t_X11_owed_38 {G : GG} {X : CX} {ans : Int32 × Mm} (he : EndI G X j_X11_owed b_X11_owed ans) {k6 : Mm → Option Nat → Int32 → Int32 → Int32 → Option (Int32 × Mm)} (hk6 : ∀ (M : Mm) (a0 : Option Nat) (a1 : Int32) (a2 : Int32) (a3 : Int32), k6 M a0 a1 a2 a3 = some ans → Wt G X j_X11_owed b_X11_owed 6 [(0, rf G.1 a0), (1, .int a1), (2, .int a2), (3, .int a3)] [] M 0 0) {M : Mm} {l0 : Option Nat} {l3 : Int32} {l4 : Int32} (h : f_X11_owed_38 k6 M l0 l3 l4 = some ans) : Wt G X j_X11_owed b_X11_owed 38 [(0, rf G.1 l0), (3, .int l3), (4, .int l4)] [] M 0 0 := by
  unfold f_X11_owed_38 at h
  refine wt_iload (pc := 38) 2 dX11_owed_38 rfl ?_
  refine wt_istore_n (pc := 40) (i := 2) (ls' := [(2, .int l4), (0, rf G.1 l0), (3, .int l3), (4, .int l4)]) rfl dX11_owed_40 (by decide) rfl ?_
  refine wt_iload_n (pc := 41) 2 dX11_owed_41 rfl ?_
  refine wt_istore_n (pc := 42) (i := 1) (ls' := [(1, .int l3), (2, .int l4), (0, rf G.1 l0), (3, .int l3), (4, .int l4)]) rfl dX11_owed_42 (by decide) (by simp [rf_cat, cat_i, cat_l, cat_r]) ?_
  refine wt_sub (ls' := [(0, rf G.1 l0), (1, .int l3), (2, .int l4), (3, .int l3)]) [2, 0, 1, 3] rfl ?_
  exact t_X11_owed_43 he (fun _ _ _ _ _ h => hk6 _ _ _ _ _ h) h
set_option maxHeartbeats 4000000 in
set_option maxRecDepth 100000 in
theorem t_X11_owed_6 {G : GG} {X : CX} {ans : Int32 × Mm} (he : EndI G X j_X11_owed b_X11_owed ans) : ∀ (n : Nat) {M : Mm} {l0 : Option Nat} {l1 : Int32} {l2 : Int32} {l3 : Int32}, f_X11_owed_6 n M l0 l1 l2 l3 = some ans → Wt G X j_X11_owed b_X11_owed 6 [(0, rf G.1 l0), (1, .int l1), (2, .int l2), (3, .int l3)] [] M 0 0 := by
  intro n
  induction n with
  | zero =>
    intro M l0 l1 l2 l3 h
    rw [f_X11_owed_6] at h
    cases h
  | succ n ih =>
    intro M l0 l1 l2 l3 h
    rw [f_X11_owed_6] at h
    refine wt_iload_n (pc := 6) 3 dX11_owed_6 rfl ?_
    refine wt_aload_n (pc := 7) 0 dX11_owed_7 rfl ?_
    refine wt_getR (pc := 8) dX11_owed_8 fl_X11_37 (fun _ _ _ => rfl) h (fun v8 h => ?_)
    refine wt_getI (pc := 11) dX11_owed_11 fl_X11_102 (fun _ _ _ => rfl) h (fun v11 h => ?_)
    refine wt_icmp_ge (pc := 14) (tgt := 49) dX11_owed_14 (by decide) (fun q => ?_) (fun q => ?_)
    · have h := ite_t q h
      refine wt_iload_n (pc := 49) 1 dX11_owed_49 rfl ?_
      refine wt_iconst (pc := 50) (v := (-1)) dX11_owed_50 (by decide) ?_
      refine wt_icmp_ne (pc := 51) (tgt := 63) dX11_owed_51 (by decide) (fun q => ?_) (fun q => ?_)
      · have h := ite_f q h
        refine wt_aload_n (pc := 63) 0 dX11_owed_63 rfl ?_
        refine wt_iload_n (pc := 64) 1 dX11_owed_64 rfl ?_
        refine wt_cVI (pc := 65) (J' := j_X11_answer) (As := [.int l1]) (st := []) (B' := b_X11_answer) (u' := 0) (w' := 0) dX11_owed_65 ml_X11_176 mv_X11_answer (fun v9 M9 e9 => c_X11_answer e9) rfl (by decide) rfl rfl (by decide) (by decide) (by decide) rfl h (fun v65 M65 h => ?_)
        cases h
        exact he 68 _ _ _ dX11_owed_68 (by decide) (by decide)
      · have h := ite_t q h
        refine wt_aload_n (pc := 54) 0 dX11_owed_54 rfl ?_
        refine wt_bipush (pc := 55) (v := 8) dX11_owed_55 (by decide) ?_
        refine wt_cVI (pc := 57) (J' := j_X11_none) (As := [.int 8]) (st := []) (B' := b_X11_none) (u' := 0) (w' := 0) dX11_owed_57 ml_X11_131 mv_X11_none (fun v9 M9 e9 => c_X11_none e9) rfl (by decide) rfl rfl (by decide) (by decide) (by decide) rfl h (fun v57 M57 h => ?_)
        refine wt_goto (pc := 60) (tgt := 68) dX11_owed_60 (by decide) ?_
        cases h
        exact he 68 _ _ _ dX11_owed_68 (by decide) (by decide)
    · have h := ite_f q h
      refine wt_aload_n (pc := 17) 0 dX11_owed_17 rfl ?_
      refine wt_getR (pc := 18) dX11_owed_18 fl_X11_37 (fun _ _ _ => rfl) h (fun v18 h => ?_)
      refine wt_iload_n (pc := 21) 3 dX11_owed_21 rfl ?_
      refine wt_cVI (pc := 22) (J' := j_X4_dueOf) (As := [.int l3]) (st := []) (B' := b_X4_dueOf) (u' := 0) (w' := 0) dX11_owed_22 ml_X11_249 mv_X4_dueOf (fun v9 M9 e9 => c_X4_dueOf e9) rfl (by decide) rfl rfl (by decide) (by decide) (by decide) rfl h (fun v22 M22 h => ?_)
      refine wt_istore (pc := 25) (i := 4) (ls' := [(4, .int v22), (0, rf G.1 l0), (1, .int l1), (2, .int l2), (3, .int l3)]) dX11_owed_25 (by decide) rfl ?_
      refine wt_iload_n (pc := 27) 2 dX11_owed_27 rfl ?_
      refine wt_iconst (pc := 28) (v := (-1)) dX11_owed_28 (by decide) ?_
      refine wt_icmp_eq (pc := 29) (tgt := 38) dX11_owed_29 (by decide) (fun q => ?_) (fun q => ?_)
      · have h := ite_t q h
        refine wt_sub (ls' := [(0, rf G.1 l0), (3, .int l3), (4, .int v22)]) [1, 4, 0] rfl ?_
        exact t_X11_owed_38 he (fun _ _ _ _ _ h => ih h) h
      · have h := ite_f q h
        refine wt_iload (pc := 32) 0 dX11_owed_32 rfl ?_
        refine wt_iload_n (pc := 34) 3 dX11_owed_34 rfl ?_
        refine wt_icmp_le (pc := 35) (tgt := 43) dX11_owed_35 (by decide) (fun q => ?_) (fun q => ?_)
        · have h := ite_t q h
          refine wt_sub (ls' := [(0, rf G.1 l0), (1, .int l1), (2, .int l2), (3, .int l3)]) [1, 2, 3, 4] rfl ?_
          exact t_X11_owed_43 he (fun _ _ _ _ _ h => ih h) h
        · have h := ite_f q h
          refine wt_sub (ls' := [(0, rf G.1 l0), (3, .int l3), (4, .int v22)]) [1, 4, 0] rfl ?_
          exact t_X11_owed_38 he (fun _ _ _ _ _ h => ih h) h
set_option maxHeartbeats 4000000 in
set_option maxRecDepth 100000 in
theorem t_X11_owed_e {G : GG} {X : CX} {ans : Int32 × Mm} (he : EndI G X j_X11_owed b_X11_owed ans) {M : Mm} {l0 : Option Nat} (h : f_X11_owed M l0 = some ans) : Wt G X j_X11_owed b_X11_owed 0 [(0, rf G.1 l0)] [] M 0 0 := by
  unfold f_X11_owed at h
  refine wt_iconst (pc := 0) (v := (-1)) dX11_owed_0 (by decide) ?_
  refine wt_istore_n (pc := 1) (i := 1) (ls' := [(1, .int (-1)), (0, rf G.1 l0)]) rfl dX11_owed_1 (by decide) (by simp [rf_cat, cat_i, cat_l, cat_r]) ?_
  refine wt_iconst (pc := 2) (v := 0) dX11_owed_2 (by decide) ?_
  refine wt_istore_n (pc := 3) (i := 2) (ls' := [(2, .int 0), (1, .int (-1)), (0, rf G.1 l0)]) rfl dX11_owed_3 (by decide) rfl ?_
  refine wt_iconst (pc := 4) (v := 0) dX11_owed_4 (by decide) ?_
  refine wt_istore_n (pc := 5) (i := 3) (ls' := [(3, .int 0), (2, .int 0), (1, .int (-1)), (0, rf G.1 l0)]) rfl dX11_owed_5 (by decide) rfl ?_
  refine wt_sub (ls' := [(0, rf G.1 l0), (1, .int (-1)), (2, .int 0), (3, .int 0)]) [3, 2, 1, 0] rfl ?_
  exact t_X11_owed_6 he  fu h
set_option maxHeartbeats 4000000 in
set_option maxRecDepth 100000 in
theorem c_X11_owed {G : GG} {M : Mm} {l0 : Option Nat} {r : Int32 × Mm} (h : f_X11_owed M l0 = some r) (l : Launch) : Ct l G j_X11_owed b_X11_owed [rf G.1 l0] M (some (.int r.1)) r.2 := cf_I (by decide +kernel) (by simp [lg_sl, rf_cat, cat_i, cat_l, j_X11_owed]) rfl (by simp [lv_args, rf_cat, cat_i, cat_l]) (fun X he => t_X11_owed_e he h)
def f_X11_riders_43 (k4 : Mm → Option Nat → Int32 → Int32 → Option (Int32 × Mm)) (M : Mm) (l0 : Option Nat) (l1 : Int32) (l2 : Int32) : Option (Int32 × Mm) := k4 M l0 l1 (l2 + 1)
def f_X11_riders_4 : Nat → Mm → Option Nat → Int32 → Int32 → Option (Int32 × Mm)
  | 0, _, _, _, _ => none
  | n + 1, M, l0, l1, l2 => gfR M l0 11 7 fun v6 => gfI M v6 4 3 fun v9 => if v9 ≤ l2 then (ck M l0 11 <| bd (f_X11_answer M l0 l1) fun v51 M51 => some (v51, M51)) else (gfR M l0 11 7 fun v16 => ck M v16 4 <| bd (f_X4_timesHelped M v16 l2) fun v20 M20 => if v20 ≤ 0 then (f_X11_riders_43 (f_X11_riders_4 n) M20 l0 l1 l2) else (gfR M20 l0 11 7 fun v27 => ck M20 v27 4 <| bd (f_X4_timesHelping M20 v27 l2) fun v31 M31 => if v31 = 0 then (nmI (l1 ||| (1 <<< (l2 &&& 31))) fun x42 => f_X11_riders_43 (f_X11_riders_4 n) M31 l0 x42 l2) else (f_X11_riders_43 (f_X11_riders_4 n) M31 l0 l1 l2)))
def f_X11_riders (M : Mm) (l0 : Option Nat) : Option (Int32 × Mm) := f_X11_riders_4  fu M l0 0 0
set_option maxHeartbeats 4000000 in
set_option maxRecDepth 100000 in
theorem t_X11_riders_43 {G : GG} {X : CX} {ans : Int32 × Mm} (he : EndI G X j_X11_riders b_X11_riders ans) {k4 : Mm → Option Nat → Int32 → Int32 → Option (Int32 × Mm)} (hk4 : ∀ (M : Mm) (a0 : Option Nat) (a1 : Int32) (a2 : Int32), k4 M a0 a1 a2 = some ans → Wt G X j_X11_riders b_X11_riders 4 [(0, rf G.1 a0), (1, .int a1), (2, .int a2)] [] M 0 0) {M : Mm} {l0 : Option Nat} {l1 : Int32} {l2 : Int32} (h : f_X11_riders_43 k4 M l0 l1 l2 = some ans) : Wt G X j_X11_riders b_X11_riders 43 [(0, rf G.1 l0), (1, .int l1), (2, .int l2)] [] M 0 0 := by
  unfold f_X11_riders_43 at h
  refine wt_iinc (pc := 43) (d := 1) (ls' := [(2, .int (l2 + 1)), (0, rf G.1 l0), (1, .int l1)]) 2 dX11_riders_43 rfl (by decide) (by decide) rfl ?_
  refine wt_goto (pc := 46) (tgt := 4) dX11_riders_46 (by decide) ?_
  refine wt_sub (ls' := [(0, rf G.1 l0), (1, .int l1), (2, .int (l2 + 1))]) [1, 2, 0] rfl ?_
  exact hk4 _ _ _ _ h
set_option maxHeartbeats 4000000 in
set_option maxRecDepth 100000 in
theorem t_X11_riders_4 {G : GG} {X : CX} {ans : Int32 × Mm} (he : EndI G X j_X11_riders b_X11_riders ans) : ∀ (n : Nat) {M : Mm} {l0 : Option Nat} {l1 : Int32} {l2 : Int32}, f_X11_riders_4 n M l0 l1 l2 = some ans → Wt G X j_X11_riders b_X11_riders 4 [(0, rf G.1 l0), (1, .int l1), (2, .int l2)] [] M 0 0 := by
  intro n
  induction n with
  | zero =>
    intro M l0 l1 l2 h
    rw [f_X11_riders_4] at h
    cases h
  | succ n ih =>
    intro M l0 l1 l2 h
    rw [f_X11_riders_4] at h
    refine wt_iload_n (pc := 4) 2 dX11_riders_4 rfl ?_
    refine wt_aload_n (pc := 5) 0 dX11_riders_5 rfl ?_
    refine wt_getR (pc := 6) dX11_riders_6 fl_X11_37 (fun _ _ _ => rfl) h (fun v6 h => ?_)
    refine wt_getI (pc := 9) dX11_riders_9 fl_X11_102 (fun _ _ _ => rfl) h (fun v9 h => ?_)
    refine wt_icmp_ge (pc := 12) (tgt := 49) dX11_riders_12 (by decide) (fun q => ?_) (fun q => ?_)
    · have h := ite_t q h
      refine wt_aload_n (pc := 49) 0 dX11_riders_49 rfl ?_
      refine wt_iload_n (pc := 50) 1 dX11_riders_50 rfl ?_
      refine wt_cVI (pc := 51) (J' := j_X11_answer) (As := [.int l1]) (st := []) (B' := b_X11_answer) (u' := 0) (w' := 0) dX11_riders_51 ml_X11_176 mv_X11_answer (fun v9 M9 e9 => c_X11_answer e9) rfl (by decide) rfl rfl (by decide) (by decide) (by decide) rfl h (fun v51 M51 h => ?_)
      cases h
      exact he 54 _ _ _ dX11_riders_54 (by decide) (by decide)
    · have h := ite_f q h
      refine wt_aload_n (pc := 15) 0 dX11_riders_15 rfl ?_
      refine wt_getR (pc := 16) dX11_riders_16 fl_X11_37 (fun _ _ _ => rfl) h (fun v16 h => ?_)
      refine wt_iload_n (pc := 19) 2 dX11_riders_19 rfl ?_
      refine wt_cVI (pc := 20) (J' := j_X4_timesHelped) (As := [.int l2]) (st := []) (B' := b_X4_timesHelped) (u' := 0) (w' := 0) dX11_riders_20 ml_X11_391 mv_X4_timesHelped (fun v9 M9 e9 => c_X4_timesHelped e9) rfl (by decide) rfl rfl (by decide) (by decide) (by decide) rfl h (fun v20 M20 h => ?_)
      refine wt_if_le (pc := 23) (tgt := 43) dX11_riders_23 (by decide) (fun q => ?_) (fun q => ?_)
      · have h := ite_t q h
        exact t_X11_riders_43 he (fun _ _ _ _ h => ih h) h
      · have h := ite_f q h
        refine wt_aload_n (pc := 26) 0 dX11_riders_26 rfl ?_
        refine wt_getR (pc := 27) dX11_riders_27 fl_X11_37 (fun _ _ _ => rfl) h (fun v27 h => ?_)
        refine wt_iload_n (pc := 30) 2 dX11_riders_30 rfl ?_
        refine wt_cVI (pc := 31) (J' := j_X4_timesHelping) (As := [.int l2]) (st := []) (B' := b_X4_timesHelping) (u' := 0) (w' := 0) dX11_riders_31 ml_X11_394 mv_X4_timesHelping (fun v9 M9 e9 => c_X4_timesHelping e9) rfl (by decide) rfl rfl (by decide) (by decide) (by decide) rfl h (fun v31 M31 h => ?_)
        refine wt_if_ne (pc := 34) (tgt := 43) dX11_riders_34 (by decide) (fun q => ?_) (fun q => ?_)
        · have h := ite_f q h
          exact t_X11_riders_43 he (fun _ _ _ _ h => ih h) h
        · have h := ite_t q h
          refine wt_iload_n (pc := 37) 1 dX11_riders_37 rfl ?_
          refine wt_iconst (pc := 38) (v := 1) dX11_riders_38 (by decide) ?_
          refine wt_iload_n (pc := 39) 2 dX11_riders_39 rfl ?_
          refine wt_ishl (pc := 40) dX11_riders_40 ?_
          refine wt_ior (pc := 41) dX11_riders_41 ?_
          refine wt_nmI h (fun x42 h => ?_)
          refine wt_istore_n (pc := 42) (i := 1) (ls' := [(1, .int x42), (0, rf G.1 l0), (2, .int l2)]) rfl dX11_riders_42 (by decide) (by simp [rf_cat, cat_i, cat_l, cat_r]) ?_
          refine wt_sub (ls' := [(0, rf G.1 l0), (1, .int x42), (2, .int l2)]) [1, 0, 2] rfl ?_
          exact t_X11_riders_43 he (fun _ _ _ _ h => ih h) h
set_option maxHeartbeats 4000000 in
set_option maxRecDepth 100000 in
theorem t_X11_riders_e {G : GG} {X : CX} {ans : Int32 × Mm} (he : EndI G X j_X11_riders b_X11_riders ans) {M : Mm} {l0 : Option Nat} (h : f_X11_riders M l0 = some ans) : Wt G X j_X11_riders b_X11_riders 0 [(0, rf G.1 l0)] [] M 0 0 := by
  unfold f_X11_riders at h
  refine wt_iconst (pc := 0) (v := 0) dX11_riders_0 (by decide) ?_
  refine wt_istore_n (pc := 1) (i := 1) (ls' := [(1, .int 0), (0, rf G.1 l0)]) rfl dX11_riders_1 (by decide) (by simp [rf_cat, cat_i, cat_l, cat_r]) ?_
  refine wt_iconst (pc := 2) (v := 0) dX11_riders_2 (by decide) ?_
  refine wt_istore_n (pc := 3) (i := 2) (ls' := [(2, .int 0), (1, .int 0), (0, rf G.1 l0)]) rfl dX11_riders_3 (by decide) rfl ?_
  refine wt_sub (ls' := [(0, rf G.1 l0), (1, .int 0), (2, .int 0)]) [2, 1, 0] rfl ?_
  exact t_X11_riders_4 he  fu h
set_option maxHeartbeats 4000000 in
set_option maxRecDepth 100000 in
theorem c_X11_riders {G : GG} {M : Mm} {l0 : Option Nat} {r : Int32 × Mm} (h : f_X11_riders M l0 = some r) (l : Launch) : Ct l G j_X11_riders b_X11_riders [rf G.1 l0] M (some (.int r.1)) r.2 := cf_I (by decide +kernel) (by simp [lg_sl, rf_cat, cat_i, cat_l, j_X11_riders]) rfl (by simp [lv_args, rf_cat, cat_i, cat_l]) (fun X he => t_X11_riders_e he h)
def f_X11_chain (M : Mm) (l0 : Option Nat) (l1 : Int32) : Option (Int32 × Mm) := ck M l0 11 <| bd (f_X11_isHouse M l0 l1) fun v2 M2 => if v2 = 0 then (ck M2 l0 11 <| bd (f_X11_none M2 l0 2) fun v10 M10 => some (v10, M10)) else (gfR M2 l0 11 7 fun v16 => ck M2 v16 4 <| bd (f_X4_chainFrom M2 v16 l1) fun v20 M20 => ck M20 l0 11 <| bd (f_X11_answer M20 l0 (v20 &&& ((1 <<< (l1 &&& 31)) ^^^ (-1)))) fun v29 M29 => some (v29, M29))
set_option maxHeartbeats 4000000 in
set_option maxRecDepth 100000 in
theorem t_X11_chain_e {G : GG} {X : CX} {ans : Int32 × Mm} (he : EndI G X j_X11_chain b_X11_chain ans) {M : Mm} {l0 : Option Nat} {l1 : Int32} (h : f_X11_chain M l0 l1 = some ans) : Wt G X j_X11_chain b_X11_chain 0 [(0, rf G.1 l0), (1, .int l1)] [] M 0 0 := by
  unfold f_X11_chain at h
  refine wt_aload_n (pc := 0) 0 dX11_chain_0 rfl ?_
  refine wt_iload_n (pc := 1) 1 dX11_chain_1 rfl ?_
  refine wt_cVI (pc := 2) (J' := j_X11_isHouse) (As := [.int l1]) (st := []) (B' := b_X11_isHouse) (u' := 0) (w' := 0) dX11_chain_2 ml_X11_216 mv_X11_isHouse (fun v9 M9 e9 => c_X11_isHouse e9) rfl (by decide) rfl rfl (by decide) (by decide) (by decide) rfl h (fun v2 M2 h => ?_)
  refine wt_if_ne (pc := 5) (tgt := 14) dX11_chain_5 (by decide) (fun q => ?_) (fun q => ?_)
  · have h := ite_f q h
    refine wt_aload_n (pc := 14) 0 dX11_chain_14 rfl ?_
    refine wt_aload_n (pc := 15) 0 dX11_chain_15 rfl ?_
    refine wt_getR (pc := 16) dX11_chain_16 fl_X11_37 (fun _ _ _ => rfl) h (fun v16 h => ?_)
    refine wt_iload_n (pc := 19) 1 dX11_chain_19 rfl ?_
    refine wt_cVI (pc := 20) (J' := j_X4_chainFrom) (As := [.int l1]) (st := [rf G.1 l0]) (B' := b_X4_chainFrom) (u' := 0) (w' := 0) dX11_chain_20 ml_X11_397 mv_X4_chainFrom (fun v9 M9 e9 => c_X4_chainFrom e9) rfl (by decide) rfl rfl (by decide) (by decide) (by simp [rf_cat, cat_i, cat_l, cat_r]) rfl h (fun v20 M20 h => ?_)
    refine wt_iconst (pc := 23) (v := 1) dX11_chain_23 (by decide) ?_
    refine wt_iload_n (pc := 24) 1 dX11_chain_24 rfl ?_
    refine wt_ishl (pc := 25) dX11_chain_25 ?_
    refine wt_iconst (pc := 26) (v := (-1)) dX11_chain_26 (by decide) ?_
    refine wt_ixor (pc := 27) dX11_chain_27 ?_
    refine wt_iand (pc := 28) dX11_chain_28 ?_
    refine wt_cVI (pc := 29) (J' := j_X11_answer) (As := [.int (v20 &&& ((1 <<< (l1 &&& 31)) ^^^ (-1)))]) (st := []) (B' := b_X11_answer) (u' := 0) (w' := 0) dX11_chain_29 ml_X11_176 mv_X11_answer (fun v9 M9 e9 => c_X11_answer e9) rfl (by decide) rfl rfl (by decide) (by decide) (by decide) rfl h (fun v29 M29 h => ?_)
    cases h
    exact he 32 _ _ _ dX11_chain_32 (by decide) (by decide)
  · have h := ite_t q h
    refine wt_aload_n (pc := 8) 0 dX11_chain_8 rfl ?_
    refine wt_iconst (pc := 9) (v := 2) dX11_chain_9 (by decide) ?_
    refine wt_cVI (pc := 10) (J' := j_X11_none) (As := [.int 2]) (st := []) (B' := b_X11_none) (u' := 0) (w' := 0) dX11_chain_10 ml_X11_131 mv_X11_none (fun v9 M9 e9 => c_X11_none e9) rfl (by decide) rfl rfl (by decide) (by decide) (by decide) rfl h (fun v10 M10 h => ?_)
    cases h
    exact he 13 _ _ _ dX11_chain_13 (by decide) (by decide)
set_option maxHeartbeats 4000000 in
set_option maxRecDepth 100000 in
theorem c_X11_chain {G : GG} {M : Mm} {l0 : Option Nat} {l1 : Int32} {r : Int32 × Mm} (h : f_X11_chain M l0 l1 = some r) (l : Launch) : Ct l G j_X11_chain b_X11_chain [rf G.1 l0, .int l1] M (some (.int r.1)) r.2 := cf_I (by decide +kernel) (by simp [lg_sl, rf_cat, cat_i, cat_l, j_X11_chain]) rfl (by simp [lv_args, rf_cat, cat_i, cat_l]) (fun X he => t_X11_chain_e he h)
def f_X11_quits_16 (M : Mm) (l0 : Option Nat) : Option (Int32 × Mm) := ck M l0 11 <| bd (f_X11_none M l0 2) fun v18 M18 => some (v18, M18)
def f_X11_quits (M : Mm) (l0 : Option Nat) (l1 : Int32) (l2 : Int32) : Option (Int32 × Mm) := ck M l0 11 <| bd (f_X11_isHouse M l0 l1) fun v2 M2 => if v2 = 0 then (f_X11_quits_16  M2 l0) else (ck M2 l0 11 <| bd (f_X11_isHouse M2 l0 l2) fun v10 M10 => if v10 = 0 then (f_X11_quits_16  M10 l0) else (if l1 = l2 then (ck M10 l0 11 <| bd (f_X11_none M10 l0 5) fun v29 M29 => some (v29, M29)) else (gfR M10 l0 11 7 fun v35 => gfR M10 v35 4 6 fun v38 => alR M10 v38 50 l1 fun v42 => alI M10 v42 21 l2 fun v44 => gfR M10 l0 11 7 fun v46 => gfR M10 v46 4 6 fun v49 => alR M10 v49 50 l2 fun v53 => alI M10 v53 21 l1 fun v55 => ck M10 l0 11 <| bd (f_X11_answer M10 l0 (v44 - v55)) fun v57 M57 => some (v57, M57))))
set_option maxHeartbeats 4000000 in
set_option maxRecDepth 100000 in
theorem t_X11_quits_16 {G : GG} {X : CX} {ans : Int32 × Mm} (he : EndI G X j_X11_quits b_X11_quits ans) {M : Mm} {l0 : Option Nat} (h : f_X11_quits_16 M l0 = some ans) : Wt G X j_X11_quits b_X11_quits 16 [(0, rf G.1 l0)] [] M 0 0 := by
  unfold f_X11_quits_16 at h
  refine wt_aload_n (pc := 16) 0 dX11_quits_16 rfl ?_
  refine wt_iconst (pc := 17) (v := 2) dX11_quits_17 (by decide) ?_
  refine wt_cVI (pc := 18) (J' := j_X11_none) (As := [.int 2]) (st := []) (B' := b_X11_none) (u' := 0) (w' := 0) dX11_quits_18 ml_X11_131 mv_X11_none (fun v9 M9 e9 => c_X11_none e9) rfl (by decide) rfl rfl (by decide) (by decide) (by decide) rfl h (fun v18 M18 h => ?_)
  cases h
  exact he 21 _ _ _ dX11_quits_21 (by decide) (by decide)
set_option maxHeartbeats 4000000 in
set_option maxRecDepth 100000 in
theorem t_X11_quits_e {G : GG} {X : CX} {ans : Int32 × Mm} (he : EndI G X j_X11_quits b_X11_quits ans) {M : Mm} {l0 : Option Nat} {l1 : Int32} {l2 : Int32} (h : f_X11_quits M l0 l1 l2 = some ans) : Wt G X j_X11_quits b_X11_quits 0 [(0, rf G.1 l0), (1, .int l1), (2, .int l2)] [] M 0 0 := by
  unfold f_X11_quits at h
  refine wt_aload_n (pc := 0) 0 dX11_quits_0 rfl ?_
  refine wt_iload_n (pc := 1) 1 dX11_quits_1 rfl ?_
  refine wt_cVI (pc := 2) (J' := j_X11_isHouse) (As := [.int l1]) (st := []) (B' := b_X11_isHouse) (u' := 0) (w' := 0) dX11_quits_2 ml_X11_216 mv_X11_isHouse (fun v9 M9 e9 => c_X11_isHouse e9) rfl (by decide) rfl rfl (by decide) (by decide) (by decide) rfl h (fun v2 M2 h => ?_)
  refine wt_if_eq (pc := 5) (tgt := 16) dX11_quits_5 (by decide) (fun q => ?_) (fun q => ?_)
  · have h := ite_t q h
    refine wt_sub (ls' := [(0, rf G.1 l0)]) [0] rfl ?_
    exact t_X11_quits_16 he  h
  · have h := ite_f q h
    refine wt_aload_n (pc := 8) 0 dX11_quits_8 rfl ?_
    refine wt_iload_n (pc := 9) 2 dX11_quits_9 rfl ?_
    refine wt_cVI (pc := 10) (J' := j_X11_isHouse) (As := [.int l2]) (st := []) (B' := b_X11_isHouse) (u' := 0) (w' := 0) dX11_quits_10 ml_X11_216 mv_X11_isHouse (fun v9 M9 e9 => c_X11_isHouse e9) rfl (by decide) rfl rfl (by decide) (by decide) (by decide) rfl h (fun v10 M10 h => ?_)
    refine wt_if_ne (pc := 13) (tgt := 22) dX11_quits_13 (by decide) (fun q => ?_) (fun q => ?_)
    · have h := ite_f q h
      refine wt_iload_n (pc := 22) 1 dX11_quits_22 rfl ?_
      refine wt_iload_n (pc := 23) 2 dX11_quits_23 rfl ?_
      refine wt_icmp_ne (pc := 24) (tgt := 33) dX11_quits_24 (by decide) (fun q => ?_) (fun q => ?_)
      · have h := ite_f q h
        refine wt_aload_n (pc := 33) 0 dX11_quits_33 rfl ?_
        refine wt_aload_n (pc := 34) 0 dX11_quits_34 rfl ?_
        refine wt_getR (pc := 35) dX11_quits_35 fl_X11_37 (fun _ _ _ => rfl) h (fun v35 h => ?_)
        refine wt_getR (pc := 38) dX11_quits_38 fl_X11_289 (fun _ _ _ => rfl) h (fun v38 h => ?_)
        refine wt_iload_n (pc := 41) 1 dX11_quits_41 rfl ?_
        refine wt_aaload (pc := 42) (kd := 50) dX11_quits_42 rfl rfl (by decide) h (fun v42 h => ?_)
        refine wt_iload_n (pc := 43) 2 dX11_quits_43 rfl ?_
        refine wt_iaload (pc := 44) (kd := 21) dX11_quits_44 rfl rfl h (fun v44 h => ?_)
        refine wt_aload_n (pc := 45) 0 dX11_quits_45 rfl ?_
        refine wt_getR (pc := 46) dX11_quits_46 fl_X11_37 (fun _ _ _ => rfl) h (fun v46 h => ?_)
        refine wt_getR (pc := 49) dX11_quits_49 fl_X11_289 (fun _ _ _ => rfl) h (fun v49 h => ?_)
        refine wt_iload_n (pc := 52) 2 dX11_quits_52 rfl ?_
        refine wt_aaload (pc := 53) (kd := 50) dX11_quits_53 rfl rfl (by decide) h (fun v53 h => ?_)
        refine wt_iload_n (pc := 54) 1 dX11_quits_54 rfl ?_
        refine wt_iaload (pc := 55) (kd := 21) dX11_quits_55 rfl rfl h (fun v55 h => ?_)
        refine wt_isub (pc := 56) dX11_quits_56 ?_
        refine wt_cVI (pc := 57) (J' := j_X11_answer) (As := [.int (v44 - v55)]) (st := []) (B' := b_X11_answer) (u' := 0) (w' := 0) dX11_quits_57 ml_X11_176 mv_X11_answer (fun v9 M9 e9 => c_X11_answer e9) rfl (by decide) rfl rfl (by decide) (by decide) (by decide) rfl h (fun v57 M57 h => ?_)
        cases h
        exact he 60 _ _ _ dX11_quits_60 (by decide) (by decide)
      · have h := ite_t q h
        refine wt_aload_n (pc := 27) 0 dX11_quits_27 rfl ?_
        refine wt_iconst (pc := 28) (v := 5) dX11_quits_28 (by decide) ?_
        refine wt_cVI (pc := 29) (J' := j_X11_none) (As := [.int 5]) (st := []) (B' := b_X11_none) (u' := 0) (w' := 0) dX11_quits_29 ml_X11_131 mv_X11_none (fun v9 M9 e9 => c_X11_none e9) rfl (by decide) rfl rfl (by decide) (by decide) (by decide) rfl h (fun v29 M29 h => ?_)
        cases h
        exact he 32 _ _ _ dX11_quits_32 (by decide) (by decide)
    · have h := ite_t q h
      refine wt_sub (ls' := [(0, rf G.1 l0)]) [0] rfl ?_
      exact t_X11_quits_16 he  h
set_option maxHeartbeats 4000000 in
set_option maxRecDepth 100000 in
theorem c_X11_quits {G : GG} {M : Mm} {l0 : Option Nat} {l1 : Int32} {l2 : Int32} {r : Int32 × Mm} (h : f_X11_quits M l0 l1 l2 = some r) (l : Launch) : Ct l G j_X11_quits b_X11_quits [rf G.1 l0, .int l1, .int l2] M (some (.int r.1)) r.2 := cf_I (by decide +kernel) (by simp [lg_sl, rf_cat, cat_i, cat_l, j_X11_quits]) rfl (by simp [lv_args, rf_cat, cat_i, cat_l]) (fun X he => t_X11_quits_e he h)
def f_X11_ground_69 (k26 : Mm → Option Nat → Int32 → Int32 → Int32 → Option (Int32 × Mm)) (M : Mm) (l0 : Option Nat) (l1 : Int32) (l2 : Int32) (l3 : Int32) : Option (Int32 × Mm) := k26 M l0 l1 l2 (l3 + 1)
def f_X11_ground_26 : Nat → Mm → Option Nat → Int32 → Int32 → Int32 → Option (Int32 × Mm)
  | 0, _, _, _, _, _ => none
  | n + 1, M, l0, l1, l2, l3 => gfR M l0 11 7 fun v28 => gfI M v28 4 3 fun v31 => if v31 ≤ l3 then (gfR M l0 11 14 fun v77 => gfR M l0 11 7 fun v81 => ck M v77 3 <| bd (f_X3_fewestRows M v77 v81 l2 l1) fun v86 M86 => ck M86 l0 11 <| bd (f_X11_answer M86 l0 v86) fun v89 M89 => some (v89, M89)) else (if ((l2 >>> (l3 &&& 31)) &&& 1) = 1 then (gfR M l0 11 7 fun v47 => gfR M v47 4 0 fun v50 => alR M v50 31 l3 fun v54 => gfI M v54 1 5 fun v55 => if v55 ≤ l1 then (f_X11_ground_69 (f_X11_ground_26 n) M l0 l1 l2 l3) else (ck M l0 11 <| bd (f_X11_none M l0 9) fun v65 M65 => some (v65, M65))) else (f_X11_ground_69 (f_X11_ground_26 n) M l0 l1 l2 l3))
def f_X11_ground (M : Mm) (l0 : Option Nat) (l1 : Int32) : Option (Int32 × Mm) := bd (f_X11_within M l1 1 99) fun v4 M4 => if v4 = 0 then (ck M4 l0 11 <| bd (f_X11_none M4 l0 5) fun v12 M12 => some (v12, M12)) else (gfR M4 l0 11 7 fun v17 => ck M4 v17 4 <| bd (f_X4_offSet M4 v17) fun v20 M20 => f_X11_ground_26  fu M20 l0 l1 v20 0)
set_option maxHeartbeats 4000000 in
set_option maxRecDepth 100000 in
theorem t_X11_ground_69 {G : GG} {X : CX} {ans : Int32 × Mm} (he : EndI G X j_X11_ground b_X11_ground ans) {k26 : Mm → Option Nat → Int32 → Int32 → Int32 → Option (Int32 × Mm)} (hk26 : ∀ (M : Mm) (a0 : Option Nat) (a1 : Int32) (a2 : Int32) (a3 : Int32), k26 M a0 a1 a2 a3 = some ans → Wt G X j_X11_ground b_X11_ground 26 [(0, rf G.1 a0), (1, .int a1), (2, .int a2), (3, .int a3)] [] M 0 0) {M : Mm} {l0 : Option Nat} {l1 : Int32} {l2 : Int32} {l3 : Int32} (h : f_X11_ground_69 k26 M l0 l1 l2 l3 = some ans) : Wt G X j_X11_ground b_X11_ground 69 [(0, rf G.1 l0), (1, .int l1), (2, .int l2), (3, .int l3)] [] M 0 0 := by
  unfold f_X11_ground_69 at h
  refine wt_iinc (pc := 69) (d := 1) (ls' := [(3, .int (l3 + 1)), (0, rf G.1 l0), (1, .int l1), (2, .int l2)]) 3 dX11_ground_69 rfl (by decide) (by decide) rfl ?_
  refine wt_goto (pc := 72) (tgt := 26) dX11_ground_72 (by decide) ?_
  refine wt_sub (ls' := [(0, rf G.1 l0), (1, .int l1), (2, .int l2), (3, .int (l3 + 1))]) [1, 2, 3, 0] rfl ?_
  exact hk26 _ _ _ _ _ h
set_option maxHeartbeats 4000000 in
set_option maxRecDepth 100000 in
theorem t_X11_ground_26 {G : GG} {X : CX} {ans : Int32 × Mm} (he : EndI G X j_X11_ground b_X11_ground ans) : ∀ (n : Nat) {M : Mm} {l0 : Option Nat} {l1 : Int32} {l2 : Int32} {l3 : Int32}, f_X11_ground_26 n M l0 l1 l2 l3 = some ans → Wt G X j_X11_ground b_X11_ground 26 [(0, rf G.1 l0), (1, .int l1), (2, .int l2), (3, .int l3)] [] M 0 0 := by
  intro n
  induction n with
  | zero =>
    intro M l0 l1 l2 l3 h
    rw [f_X11_ground_26] at h
    cases h
  | succ n ih =>
    intro M l0 l1 l2 l3 h
    rw [f_X11_ground_26] at h
    refine wt_iload_n (pc := 26) 3 dX11_ground_26 rfl ?_
    refine wt_aload_n (pc := 27) 0 dX11_ground_27 rfl ?_
    refine wt_getR (pc := 28) dX11_ground_28 fl_X11_37 (fun _ _ _ => rfl) h (fun v28 h => ?_)
    refine wt_getI (pc := 31) dX11_ground_31 fl_X11_102 (fun _ _ _ => rfl) h (fun v31 h => ?_)
    refine wt_icmp_ge (pc := 34) (tgt := 75) dX11_ground_34 (by decide) (fun q => ?_) (fun q => ?_)
    · have h := ite_t q h
      refine wt_aload_n (pc := 75) 0 dX11_ground_75 rfl ?_
      refine wt_aload_n (pc := 76) 0 dX11_ground_76 rfl ?_
      refine wt_getR (pc := 77) dX11_ground_77 fl_X11_65 (fun _ _ _ => rfl) h (fun v77 h => ?_)
      refine wt_aload_n (pc := 80) 0 dX11_ground_80 rfl ?_
      refine wt_getR (pc := 81) dX11_ground_81 fl_X11_37 (fun _ _ _ => rfl) h (fun v81 h => ?_)
      refine wt_iload_n (pc := 84) 2 dX11_ground_84 rfl ?_
      refine wt_iload_n (pc := 85) 1 dX11_ground_85 rfl ?_
      refine wt_cVI (pc := 86) (J' := j_X3_fewestRows) (As := [rf G.1 v81, .int l2, .int l1]) (st := [rf G.1 l0]) (B' := b_X3_fewestRows) (u' := 0) (w' := 0) dX11_ground_86 ml_X11_400 mv_X3_fewestRows (fun v9 M9 e9 => c_X3_fewestRows e9) rfl (by decide) rfl rfl (by decide) (by decide) (by simp [rf_cat, cat_i, cat_l, cat_r]) rfl h (fun v86 M86 h => ?_)
      refine wt_cVI (pc := 89) (J' := j_X11_answer) (As := [.int v86]) (st := []) (B' := b_X11_answer) (u' := 0) (w' := 0) dX11_ground_89 ml_X11_176 mv_X11_answer (fun v9 M9 e9 => c_X11_answer e9) rfl (by decide) rfl rfl (by decide) (by decide) (by decide) rfl h (fun v89 M89 h => ?_)
      cases h
      exact he 92 _ _ _ dX11_ground_92 (by decide) (by decide)
    · have h := ite_f q h
      refine wt_iload_n (pc := 37) 2 dX11_ground_37 rfl ?_
      refine wt_iload_n (pc := 38) 3 dX11_ground_38 rfl ?_
      refine wt_ishr (pc := 39) dX11_ground_39 ?_
      refine wt_iconst (pc := 40) (v := 1) dX11_ground_40 (by decide) ?_
      refine wt_iand (pc := 41) dX11_ground_41 ?_
      refine wt_iconst (pc := 42) (v := 1) dX11_ground_42 (by decide) ?_
      refine wt_icmp_ne (pc := 43) (tgt := 69) dX11_ground_43 (by decide) (fun q => ?_) (fun q => ?_)
      · have h := ite_f q h
        exact t_X11_ground_69 he (fun _ _ _ _ _ h => ih h) h
      · have h := ite_t q h
        refine wt_aload_n (pc := 46) 0 dX11_ground_46 rfl ?_
        refine wt_getR (pc := 47) dX11_ground_47 fl_X11_37 (fun _ _ _ => rfl) h (fun v47 h => ?_)
        refine wt_getR (pc := 50) dX11_ground_50 fl_X11_219 (fun _ _ _ => rfl) h (fun v50 h => ?_)
        refine wt_iload_n (pc := 53) 3 dX11_ground_53 rfl ?_
        refine wt_aaload (pc := 54) (kd := 31) dX11_ground_54 rfl rfl (by decide) h (fun v54 h => ?_)
        refine wt_getI (pc := 55) dX11_ground_55 fl_X11_237 (fun _ _ _ => rfl) h (fun v55 h => ?_)
        refine wt_iload_n (pc := 58) 1 dX11_ground_58 rfl ?_
        refine wt_icmp_le (pc := 59) (tgt := 69) dX11_ground_59 (by decide) (fun q => ?_) (fun q => ?_)
        · have h := ite_t q h
          exact t_X11_ground_69 he (fun _ _ _ _ _ h => ih h) h
        · have h := ite_f q h
          refine wt_aload_n (pc := 62) 0 dX11_ground_62 rfl ?_
          refine wt_bipush (pc := 63) (v := 9) dX11_ground_63 (by decide) ?_
          refine wt_cVI (pc := 65) (J' := j_X11_none) (As := [.int 9]) (st := []) (B' := b_X11_none) (u' := 0) (w' := 0) dX11_ground_65 ml_X11_131 mv_X11_none (fun v9 M9 e9 => c_X11_none e9) rfl (by decide) rfl rfl (by decide) (by decide) (by decide) rfl h (fun v65 M65 h => ?_)
          cases h
          exact he 68 _ _ _ dX11_ground_68 (by decide) (by decide)
set_option maxHeartbeats 4000000 in
set_option maxRecDepth 100000 in
theorem t_X11_ground_e {G : GG} {X : CX} {ans : Int32 × Mm} (he : EndI G X j_X11_ground b_X11_ground ans) {M : Mm} {l0 : Option Nat} {l1 : Int32} (h : f_X11_ground M l0 l1 = some ans) : Wt G X j_X11_ground b_X11_ground 0 [(0, rf G.1 l0), (1, .int l1)] [] M 0 0 := by
  unfold f_X11_ground at h
  refine wt_iload_n (pc := 0) 1 dX11_ground_0 rfl ?_
  refine wt_iconst (pc := 1) (v := 1) dX11_ground_1 (by decide) ?_
  refine wt_bipush (pc := 2) (v := 99) dX11_ground_2 (by decide) ?_
  refine wt_cSI (pc := 4) (J' := j_X11_within) (As := [.int l1, .int 1, .int 99]) (st := []) (B' := b_X11_within) (u' := 0) (w' := 0) dX11_ground_4 ml_X11_105 ms_X11_within (fun v9 M9 e9 => c_X11_within e9) rfl (by decide) rfl rfl (by decide) (by decide) (by decide) rfl h (fun v4 M4 h => ?_)
  refine wt_if_ne (pc := 7) (tgt := 16) dX11_ground_7 (by decide) (fun q => ?_) (fun q => ?_)
  · have h := ite_f q h
    refine wt_aload_n (pc := 16) 0 dX11_ground_16 rfl ?_
    refine wt_getR (pc := 17) dX11_ground_17 fl_X11_37 (fun _ _ _ => rfl) h (fun v17 h => ?_)
    refine wt_cVI (pc := 20) (J' := j_X4_offSet) (As := []) (st := []) (B' := b_X4_offSet) (u' := 0) (w' := 0) dX11_ground_20 ml_X11_207 mv_X4_offSet (fun v9 M9 e9 => c_X4_offSet e9) rfl (by decide) rfl rfl (by decide) (by decide) (by decide) rfl h (fun v20 M20 h => ?_)
    refine wt_istore_n (pc := 23) (i := 2) (ls' := [(2, .int v20), (0, rf G.1 l0), (1, .int l1)]) rfl dX11_ground_23 (by decide) rfl ?_
    refine wt_iconst (pc := 24) (v := 0) dX11_ground_24 (by decide) ?_
    refine wt_istore_n (pc := 25) (i := 3) (ls' := [(3, .int 0), (2, .int v20), (0, rf G.1 l0), (1, .int l1)]) rfl dX11_ground_25 (by decide) rfl ?_
    refine wt_sub (ls' := [(0, rf G.1 l0), (1, .int l1), (2, .int v20), (3, .int 0)]) [2, 3, 1, 0] rfl ?_
    exact t_X11_ground_26 he  fu h
  · have h := ite_t q h
    refine wt_aload_n (pc := 10) 0 dX11_ground_10 rfl ?_
    refine wt_iconst (pc := 11) (v := 5) dX11_ground_11 (by decide) ?_
    refine wt_cVI (pc := 12) (J' := j_X11_none) (As := [.int 5]) (st := []) (B' := b_X11_none) (u' := 0) (w' := 0) dX11_ground_12 ml_X11_131 mv_X11_none (fun v9 M9 e9 => c_X11_none e9) rfl (by decide) rfl rfl (by decide) (by decide) (by decide) rfl h (fun v12 M12 h => ?_)
    cases h
    exact he 15 _ _ _ dX11_ground_15 (by decide) (by decide)
set_option maxHeartbeats 4000000 in
set_option maxRecDepth 100000 in
theorem c_X11_ground {G : GG} {M : Mm} {l0 : Option Nat} {l1 : Int32} {r : Int32 × Mm} (h : f_X11_ground M l0 l1 = some r) (l : Launch) : Ct l G j_X11_ground b_X11_ground [rf G.1 l0, .int l1] M (some (.int r.1)) r.2 := cf_I (by decide +kernel) (by simp [lg_sl, rf_cat, cat_i, cat_l, j_X11_ground]) rfl (by simp [lv_args, rf_cat, cat_i, cat_l]) (fun X he => t_X11_ground_e he h)
def f_X11_signs_69 : Nat → Mm → Option Nat → Int32 → Int32 → Int32 → Int32 → Option (Int32 × Mm)
  | 0, _, _, _, _, _, _ => none
  | n + 1, M, l0, l1, l2, l4, l5 => gfR M l0 11 7 fun v72 => gfI M v72 4 3 fun v75 => if v75 ≤ l5 then (ck M l0 11 <| bd (f_X11_answer M l0 l4) fun v124 M124 => some (v124, M124)) else (gfR M l0 11 6 fun v85 => ck M v85 7 <| bd (f_X7_timesOf M v85 l1 l2 l5) fun v92 M92 => gfR M92 l0 11 7 fun v96 => gfR M92 v96 4 0 fun v99 => alR M92 v99 31 l5 fun v104 => gfI M92 v104 1 3 fun v105 => nmI (l4 + (mxI 0 (v92 - v105))) fun x113 => f_X11_signs_69 n M92 l0 l1 l2 x113 (l5 + 1))
def f_X11_signs (M : Mm) (l0 : Option Nat) (l1 : Int32) (l2 : Int32) : Option (Int32 × Mm) := gfR M l0 11 6 fun v1 => ck M v1 7 <| bd (f_X7_whyNot M v1 l1 0 (mxI 0 l2)) fun v11 M11 => if v11 = 0 then (if 1 ≤ l2 then (gfR M11 l0 11 6 fun v37 => gfR M11 l0 11 7 fun v43 => gfI M11 v43 4 3 fun v46 => ck M11 v37 7 <| bd (f_X7_areWithin M11 v37 l1 l2 (v46 - 1)) fun v51 M51 => if v51 = 0 then (ck M51 l0 11 <| bd (f_X11_none M51 l0 2) fun v59 M59 => some (v59, M59)) else (f_X11_signs_69  fu M51 l0 l1 l2 0 0)) else (ck M11 l0 11 <| bd (f_X11_none M11 l0 5) fun v32 M32 => some (v32, M32))) else (ck M11 l0 11 <| bd (f_X11_none M11 l0 v11) fun v21 M21 => some (v21, M21))
set_option maxHeartbeats 4000000 in
set_option maxRecDepth 100000 in
theorem t_X11_signs_69 {G : GG} {X : CX} {ans : Int32 × Mm} (he : EndI G X j_X11_signs b_X11_signs ans) : ∀ (n : Nat) {M : Mm} {l0 : Option Nat} {l1 : Int32} {l2 : Int32} {l4 : Int32} {l5 : Int32}, f_X11_signs_69 n M l0 l1 l2 l4 l5 = some ans → Wt G X j_X11_signs b_X11_signs 69 [(0, rf G.1 l0), (1, .int l1), (2, .int l2), (4, .int l4), (5, .int l5)] [] M 0 0 := by
  intro n
  induction n with
  | zero =>
    intro M l0 l1 l2 l4 l5 h
    rw [f_X11_signs_69] at h
    cases h
  | succ n ih =>
    intro M l0 l1 l2 l4 l5 h
    rw [f_X11_signs_69] at h
    refine wt_iload (pc := 69) 4 dX11_signs_69 rfl ?_
    refine wt_aload_n (pc := 71) 0 dX11_signs_71 rfl ?_
    refine wt_getR (pc := 72) dX11_signs_72 fl_X11_37 (fun _ _ _ => rfl) h (fun v72 h => ?_)
    refine wt_getI (pc := 75) dX11_signs_75 fl_X11_102 (fun _ _ _ => rfl) h (fun v75 h => ?_)
    refine wt_icmp_ge (pc := 78) (tgt := 121) dX11_signs_78 (by decide) (fun q => ?_) (fun q => ?_)
    · have h := ite_t q h
      refine wt_aload_n (pc := 121) 0 dX11_signs_121 rfl ?_
      refine wt_iload (pc := 122) 3 dX11_signs_122 rfl ?_
      refine wt_cVI (pc := 124) (J' := j_X11_answer) (As := [.int l4]) (st := []) (B' := b_X11_answer) (u' := 0) (w' := 0) dX11_signs_124 ml_X11_176 mv_X11_answer (fun v9 M9 e9 => c_X11_answer e9) rfl (by decide) rfl rfl (by decide) (by decide) (by decide) rfl h (fun v124 M124 h => ?_)
      cases h
      exact he 127 _ _ _ dX11_signs_127 (by decide) (by decide)
    · have h := ite_f q h
      refine wt_iload (pc := 81) 3 dX11_signs_81 rfl ?_
      refine wt_iconst (pc := 83) (v := 0) dX11_signs_83 (by decide) ?_
      refine wt_aload_n (pc := 84) 0 dX11_signs_84 rfl ?_
      refine wt_getR (pc := 85) dX11_signs_85 fl_X11_30 (fun _ _ _ => rfl) h (fun v85 h => ?_)
      refine wt_iload_n (pc := 88) 1 dX11_signs_88 rfl ?_
      refine wt_iload_n (pc := 89) 2 dX11_signs_89 rfl ?_
      refine wt_iload (pc := 90) 4 dX11_signs_90 rfl ?_
      refine wt_cVI (pc := 92) (J' := j_X7_timesOf) (As := [.int l1, .int l2, .int l5]) (st := [.int 0, .int l4]) (B' := b_X7_timesOf) (u' := 0) (w' := 0) dX11_signs_92 ml_X11_403 mv_X7_timesOf (fun v9 M9 e9 => c_X7_timesOf e9) rfl (by decide) rfl rfl (by decide) (by decide) (by simp [rf_cat, cat_i, cat_l, cat_r]) rfl h (fun v92 M92 h => ?_)
      refine wt_aload_n (pc := 95) 0 dX11_signs_95 rfl ?_
      refine wt_getR (pc := 96) dX11_signs_96 fl_X11_37 (fun _ _ _ => rfl) h (fun v96 h => ?_)
      refine wt_getR (pc := 99) dX11_signs_99 fl_X11_219 (fun _ _ _ => rfl) h (fun v99 h => ?_)
      refine wt_iload (pc := 102) 4 dX11_signs_102 rfl ?_
      refine wt_aaload (pc := 104) (kd := 31) dX11_signs_104 rfl rfl (by decide) h (fun v104 h => ?_)
      refine wt_getI (pc := 105) dX11_signs_105 fl_X11_231 (fun _ _ _ => rfl) h (fun v105 h => ?_)
      refine wt_isub (pc := 108) dX11_signs_108 ?_
      refine wt_mmax (pc := 109) dX11_signs_109 bi_X11_389 mw_max.1 mw_max.2.1 mw_max.2.2 (by decide) (by decide) (by decide) (by simp [rf_cat, cat_i, cat_l, cat_r]) ?_
      refine wt_iadd (pc := 112) dX11_signs_112 ?_
      refine wt_nmI h (fun x113 h => ?_)
      refine wt_istore (pc := 113) (i := 4) (ls' := [(4, .int x113), (0, rf G.1 l0), (1, .int l1), (2, .int l2), (5, .int l5)]) dX11_signs_113 (by decide) rfl ?_
      refine wt_iinc (pc := 115) (d := 1) (ls' := [(5, .int (l5 + 1)), (4, .int x113), (0, rf G.1 l0), (1, .int l1), (2, .int l2)]) 4 dX11_signs_115 rfl (by decide) (by decide) rfl ?_
      refine wt_goto (pc := 118) (tgt := 69) dX11_signs_118 (by decide) ?_
      refine wt_sub (ls' := [(0, rf G.1 l0), (1, .int l1), (2, .int l2), (4, .int x113), (5, .int (l5 + 1))]) [2, 3, 4, 1, 0] rfl ?_
      exact ih h
set_option maxHeartbeats 4000000 in
set_option maxRecDepth 100000 in
theorem t_X11_signs_e {G : GG} {X : CX} {ans : Int32 × Mm} (he : EndI G X j_X11_signs b_X11_signs ans) {M : Mm} {l0 : Option Nat} {l1 : Int32} {l2 : Int32} (h : f_X11_signs M l0 l1 l2 = some ans) : Wt G X j_X11_signs b_X11_signs 0 [(0, rf G.1 l0), (1, .int l1), (2, .int l2)] [] M 0 0 := by
  unfold f_X11_signs at h
  refine wt_aload_n (pc := 0) 0 dX11_signs_0 rfl ?_
  refine wt_getR (pc := 1) dX11_signs_1 fl_X11_30 (fun _ _ _ => rfl) h (fun v1 h => ?_)
  refine wt_iload_n (pc := 4) 1 dX11_signs_4 rfl ?_
  refine wt_iconst (pc := 5) (v := 0) dX11_signs_5 (by decide) ?_
  refine wt_iconst (pc := 6) (v := 0) dX11_signs_6 (by decide) ?_
  refine wt_iload_n (pc := 7) 2 dX11_signs_7 rfl ?_
  refine wt_mmax (pc := 8) dX11_signs_8 bi_X11_389 mw_max.1 mw_max.2.1 mw_max.2.2 (by decide) (by decide) (by decide) (by simp [rf_cat, cat_i, cat_l, cat_r]) ?_
  refine wt_cVI (pc := 11) (J' := j_X7_whyNot) (As := [.int l1, .int 0, .int (mxI 0 l2)]) (st := []) (B' := b_X7_whyNot) (u' := 0) (w' := 0) dX11_signs_11 ml_X11_123 mv_X7_whyNot (fun v9 M9 e9 => c_X7_whyNot e9) rfl (by decide) rfl rfl (by decide) (by decide) (by decide) rfl h (fun v11 M11 h => ?_)
  refine wt_istore_n (pc := 14) (i := 3) (ls' := [(3, .int v11), (0, rf G.1 l0), (1, .int l1), (2, .int l2)]) rfl dX11_signs_14 (by decide) rfl ?_
  refine wt_iload_n (pc := 15) 0 dX11_signs_15 rfl ?_
  refine wt_if_eq (pc := 16) (tgt := 25) dX11_signs_16 (by decide) (fun q => ?_) (fun q => ?_)
  · have h := ite_t q h
    refine wt_iload_n (pc := 25) 3 dX11_signs_25 rfl ?_
    refine wt_iconst (pc := 26) (v := 1) dX11_signs_26 (by decide) ?_
    refine wt_icmp_ge (pc := 27) (tgt := 36) dX11_signs_27 (by decide) (fun q => ?_) (fun q => ?_)
    · have h := ite_t q h
      refine wt_aload_n (pc := 36) 1 dX11_signs_36 rfl ?_
      refine wt_getR (pc := 37) dX11_signs_37 fl_X11_30 (fun _ _ _ => rfl) h (fun v37 h => ?_)
      refine wt_iload_n (pc := 40) 2 dX11_signs_40 rfl ?_
      refine wt_iload_n (pc := 41) 3 dX11_signs_41 rfl ?_
      refine wt_aload_n (pc := 42) 1 dX11_signs_42 rfl ?_
      refine wt_getR (pc := 43) dX11_signs_43 fl_X11_37 (fun _ _ _ => rfl) h (fun v43 h => ?_)
      refine wt_getI (pc := 46) dX11_signs_46 fl_X11_102 (fun _ _ _ => rfl) h (fun v46 h => ?_)
      refine wt_iconst (pc := 49) (v := 1) dX11_signs_49 (by decide) ?_
      refine wt_isub (pc := 50) dX11_signs_50 ?_
      refine wt_cVI (pc := 51) (J' := j_X7_areWithin) (As := [.int l1, .int l2, .int (v46 - 1)]) (st := []) (B' := b_X7_areWithin) (u' := 0) (w' := 0) dX11_signs_51 ml_X11_384 mv_X7_areWithin (fun v9 M9 e9 => c_X7_areWithin e9) rfl (by decide) rfl rfl (by decide) (by decide) (by decide) rfl h (fun v51 M51 h => ?_)
      refine wt_if_ne (pc := 54) (tgt := 63) dX11_signs_54 (by decide) (fun q => ?_) (fun q => ?_)
      · have h := ite_f q h
        refine wt_iconst (pc := 63) (v := 0) dX11_signs_63 (by decide) ?_
        refine wt_istore (pc := 64) (i := 4) (ls' := [(4, .int 0), (3, .int v11), (0, rf G.1 l0), (1, .int l1), (2, .int l2)]) dX11_signs_64 (by decide) rfl ?_
        refine wt_iconst (pc := 66) (v := 0) dX11_signs_66 (by decide) ?_
        refine wt_istore (pc := 67) (i := 5) (ls' := [(5, .int 0), (4, .int 0), (3, .int v11), (0, rf G.1 l0), (1, .int l1), (2, .int l2)]) dX11_signs_67 (by decide) rfl ?_
        refine wt_sub (ls' := [(0, rf G.1 l0), (1, .int l1), (2, .int l2), (4, .int 0), (5, .int 0)]) [3, 4, 5, 1, 0] rfl ?_
        exact t_X11_signs_69 he  fu h
      · have h := ite_t q h
        refine wt_aload_n (pc := 57) 1 dX11_signs_57 rfl ?_
        refine wt_iconst (pc := 58) (v := 2) dX11_signs_58 (by decide) ?_
        refine wt_cVI (pc := 59) (J' := j_X11_none) (As := [.int 2]) (st := []) (B' := b_X11_none) (u' := 0) (w' := 0) dX11_signs_59 ml_X11_131 mv_X11_none (fun v9 M9 e9 => c_X11_none e9) rfl (by decide) rfl rfl (by decide) (by decide) (by decide) rfl h (fun v59 M59 h => ?_)
        cases h
        exact he 62 _ _ _ dX11_signs_62 (by decide) (by decide)
    · have h := ite_f q h
      refine wt_aload_n (pc := 30) 1 dX11_signs_30 rfl ?_
      refine wt_iconst (pc := 31) (v := 5) dX11_signs_31 (by decide) ?_
      refine wt_cVI (pc := 32) (J' := j_X11_none) (As := [.int 5]) (st := []) (B' := b_X11_none) (u' := 0) (w' := 0) dX11_signs_32 ml_X11_131 mv_X11_none (fun v9 M9 e9 => c_X11_none e9) rfl (by decide) rfl rfl (by decide) (by decide) (by decide) rfl h (fun v32 M32 h => ?_)
      cases h
      exact he 35 _ _ _ dX11_signs_35 (by decide) (by decide)
  · have h := ite_f q h
    refine wt_aload_n (pc := 19) 1 dX11_signs_19 rfl ?_
    refine wt_iload_n (pc := 20) 0 dX11_signs_20 rfl ?_
    refine wt_cVI (pc := 21) (J' := j_X11_none) (As := [.int v11]) (st := []) (B' := b_X11_none) (u' := 0) (w' := 0) dX11_signs_21 ml_X11_131 mv_X11_none (fun v9 M9 e9 => c_X11_none e9) rfl (by decide) rfl rfl (by decide) (by decide) (by decide) rfl h (fun v21 M21 h => ?_)
    cases h
    exact he 24 _ _ _ dX11_signs_24 (by decide) (by decide)
set_option maxHeartbeats 4000000 in
set_option maxRecDepth 100000 in
theorem c_X11_signs {G : GG} {M : Mm} {l0 : Option Nat} {l1 : Int32} {l2 : Int32} {r : Int32 × Mm} (h : f_X11_signs M l0 l1 l2 = some r) (l : Launch) : Ct l G j_X11_signs b_X11_signs [rf G.1 l0, .int l1, .int l2] M (some (.int r.1)) r.2 := cf_I (by decide +kernel) (by simp [lg_sl, rf_cat, cat_i, cat_l, j_X11_signs]) rfl (by simp [lv_args, rf_cat, cat_i, cat_l]) (fun X he => t_X11_signs_e he h)
def f_X11_whyNotFlown (M : Mm) (l0 : Option Nat) (l1 : Int32) : Option (Int32 × Mm) := gfR M l0 11 6 fun v1 => gfR M l0 11 7 fun v7 => gfI M v7 4 3 fun v10 => ck M v1 7 <| bd (f_X7_whyNot M v1 l1 0 v10) fun v13 M13 => if v13 = 0 then (gfR M13 l0 11 6 fun v22 => gfR M13 l0 11 7 fun v27 => gfI M13 v27 4 3 fun v30 => ck M13 v22 7 <| bd (f_X7_areWithin M13 v22 l1 v30 1) fun v34 M34 => if v34 = 0 then (some (5, M34)) else (some (v13, M34))) else (some (v13, M13))
set_option maxHeartbeats 4000000 in
set_option maxRecDepth 100000 in
theorem t_X11_whyNotFlown_e {G : GG} {X : CX} {ans : Int32 × Mm} (he : EndI G X j_X11_whyNotFlown b_X11_whyNotFlown ans) {M : Mm} {l0 : Option Nat} {l1 : Int32} (h : f_X11_whyNotFlown M l0 l1 = some ans) : Wt G X j_X11_whyNotFlown b_X11_whyNotFlown 0 [(0, rf G.1 l0), (1, .int l1)] [] M 0 0 := by
  unfold f_X11_whyNotFlown at h
  refine wt_aload_n (pc := 0) 0 dX11_whyNotFlown_0 rfl ?_
  refine wt_getR (pc := 1) dX11_whyNotFlown_1 fl_X11_30 (fun _ _ _ => rfl) h (fun v1 h => ?_)
  refine wt_iload_n (pc := 4) 1 dX11_whyNotFlown_4 rfl ?_
  refine wt_iconst (pc := 5) (v := 0) dX11_whyNotFlown_5 (by decide) ?_
  refine wt_aload_n (pc := 6) 0 dX11_whyNotFlown_6 rfl ?_
  refine wt_getR (pc := 7) dX11_whyNotFlown_7 fl_X11_37 (fun _ _ _ => rfl) h (fun v7 h => ?_)
  refine wt_getI (pc := 10) dX11_whyNotFlown_10 fl_X11_102 (fun _ _ _ => rfl) h (fun v10 h => ?_)
  refine wt_cVI (pc := 13) (J' := j_X7_whyNot) (As := [.int l1, .int 0, .int v10]) (st := []) (B' := b_X7_whyNot) (u' := 0) (w' := 0) dX11_whyNotFlown_13 ml_X11_123 mv_X7_whyNot (fun v9 M9 e9 => c_X7_whyNot e9) rfl (by decide) rfl rfl (by decide) (by decide) (by decide) rfl h (fun v13 M13 h => ?_)
  refine wt_istore_n (pc := 16) (i := 2) (ls' := [(2, .int v13), (0, rf G.1 l0), (1, .int l1)]) rfl dX11_whyNotFlown_16 (by decide) rfl ?_
  refine wt_iload_n (pc := 17) 0 dX11_whyNotFlown_17 rfl ?_
  refine wt_if_ne (pc := 18) (tgt := 42) dX11_whyNotFlown_18 (by decide) (fun q => ?_) (fun q => ?_)
  · have h := ite_f q h
    refine wt_iload_n (pc := 42) 0 dX11_whyNotFlown_42 rfl ?_
    cases h
    exact he 43 _ _ _ dX11_whyNotFlown_43 (by decide) (by decide)
  · have h := ite_t q h
    refine wt_aload_n (pc := 21) 1 dX11_whyNotFlown_21 rfl ?_
    refine wt_getR (pc := 22) dX11_whyNotFlown_22 fl_X11_30 (fun _ _ _ => rfl) h (fun v22 h => ?_)
    refine wt_iload_n (pc := 25) 2 dX11_whyNotFlown_25 rfl ?_
    refine wt_aload_n (pc := 26) 1 dX11_whyNotFlown_26 rfl ?_
    refine wt_getR (pc := 27) dX11_whyNotFlown_27 fl_X11_37 (fun _ _ _ => rfl) h (fun v27 h => ?_)
    refine wt_getI (pc := 30) dX11_whyNotFlown_30 fl_X11_102 (fun _ _ _ => rfl) h (fun v30 h => ?_)
    refine wt_iconst (pc := 33) (v := 1) dX11_whyNotFlown_33 (by decide) ?_
    refine wt_cVI (pc := 34) (J' := j_X7_areWithin) (As := [.int l1, .int v30, .int 1]) (st := []) (B' := b_X7_areWithin) (u' := 0) (w' := 0) dX11_whyNotFlown_34 ml_X11_384 mv_X7_areWithin (fun v9 M9 e9 => c_X7_areWithin e9) rfl (by decide) rfl rfl (by decide) (by decide) (by decide) rfl h (fun v34 M34 h => ?_)
    refine wt_if_ne (pc := 37) (tgt := 42) dX11_whyNotFlown_37 (by decide) (fun q => ?_) (fun q => ?_)
    · have h := ite_f q h
      refine wt_iload_n (pc := 42) 0 dX11_whyNotFlown_42 rfl ?_
      cases h
      exact he 43 _ _ _ dX11_whyNotFlown_43 (by decide) (by decide)
    · have h := ite_t q h
      refine wt_iconst (pc := 40) (v := 5) dX11_whyNotFlown_40 (by decide) ?_
      refine wt_istore_n (pc := 41) (i := 2) (ls' := [(2, .int 5), (0, rf G.1 l0), (1, .int l1)]) rfl dX11_whyNotFlown_41 (by decide) rfl ?_
      refine wt_iload_n (pc := 42) 0 dX11_whyNotFlown_42 rfl ?_
      cases h
      exact he 43 _ _ _ dX11_whyNotFlown_43 (by decide) (by decide)
set_option maxHeartbeats 4000000 in
set_option maxRecDepth 100000 in
theorem c_X11_whyNotFlown {G : GG} {M : Mm} {l0 : Option Nat} {l1 : Int32} {r : Int32 × Mm} (h : f_X11_whyNotFlown M l0 l1 = some r) (l : Launch) : Ct l G j_X11_whyNotFlown b_X11_whyNotFlown [rf G.1 l0, .int l1] M (some (.int r.1)) r.2 := cf_I (by decide +kernel) (by simp [lg_sl, rf_cat, cat_i, cat_l, j_X11_whyNotFlown]) rfl (by simp [lv_args, rf_cat, cat_i, cat_l]) (fun X he => t_X11_whyNotFlown_e he h)
def f_X11_windsThatFit_96 (k53 : Mm → Option Nat → Int32 → Int32 → Int32 → Option (Int32 × Mm)) (M : Mm) (l0 : Option Nat) (l2 : Int32) (l3 : Int32) (l4 : Int32) : Option (Int32 × Mm) := k53 M l0 l2 l3 (l4 + 1)
def f_X11_windsThatFit_53 : Nat → Mm → Option Nat → Int32 → Int32 → Int32 → Option (Int32 × Mm)
  | 0, _, _, _, _, _ => none
  | n + 1, M, l0, l2, l3, l4 => gfR M l0 11 7 fun v56 => gfI M v56 4 5 fun v59 => if v59 ≤ l4 then (some (l3, M)) else (gfR M l0 11 7 fun v66 => gfR M l0 11 7 fun v70 => gfR M v70 4 2 fun v73 => alR M v73 38 l4 fun v78 => gfI M v78 8 1 fun v79 => ck M v66 4 <| bd (f_X4_fallingSet M v66 v79) fun v82 M82 => if v82 = l2 then (nmI (l3 ||| (1 <<< (l4 &&& 31))) fun x95 => f_X11_windsThatFit_96 (f_X11_windsThatFit_53 n) M82 l0 l2 x95 l4) else (f_X11_windsThatFit_96 (f_X11_windsThatFit_53 n) M82 l0 l2 l3 l4))
def f_X11_windsThatFit_4 : Nat → Mm → Option Nat → Int32 → Int32 → Int32 → Option (Int32 × Mm)
  | 0, _, _, _, _, _ => none
  | n + 1, M, l0, l1, l2, l3 => gfR M l0 11 7 fun v6 => gfI M v6 4 3 fun v9 => if v9 ≤ l3 then (gfR M l0 11 7 fun v40 => ck M v40 4 <| bd (f_X4_standingSet M v40) fun v43 M43 => nmI (l2 &&& v43) fun x47 => f_X11_windsThatFit_53  fu M43 l0 x47 0 0) else (gfR M l0 11 6 fun v17 => gfR M v17 7 0 fun v20 => alR M v20 51 l1 fun v24 => alL M v24 22 l3 fun v26 => nmI (l2 ||| ((Int64.toInt32 v26) <<< (l3 &&& 31))) fun x31 => f_X11_windsThatFit_4 n M l0 l1 x31 (l3 + 1))
def f_X11_windsThatFit (M : Mm) (l0 : Option Nat) (l1 : Int32) : Option (Int32 × Mm) := f_X11_windsThatFit_4  fu M l0 l1 0 0
set_option maxHeartbeats 4000000 in
set_option maxRecDepth 100000 in
theorem t_X11_windsThatFit_96 {G : GG} {X : CX} {ans : Int32 × Mm} (he : EndI G X j_X11_windsThatFit b_X11_windsThatFit ans) {k53 : Mm → Option Nat → Int32 → Int32 → Int32 → Option (Int32 × Mm)} (hk53 : ∀ (M : Mm) (a0 : Option Nat) (a2 : Int32) (a3 : Int32) (a4 : Int32), k53 M a0 a2 a3 a4 = some ans → Wt G X j_X11_windsThatFit b_X11_windsThatFit 53 [(0, rf G.1 a0), (2, .int a2), (3, .int a3), (4, .int a4)] [] M 0 0) {M : Mm} {l0 : Option Nat} {l2 : Int32} {l3 : Int32} {l4 : Int32} (h : f_X11_windsThatFit_96 k53 M l0 l2 l3 l4 = some ans) : Wt G X j_X11_windsThatFit b_X11_windsThatFit 96 [(0, rf G.1 l0), (2, .int l2), (3, .int l3), (4, .int l4)] [] M 0 0 := by
  unfold f_X11_windsThatFit_96 at h
  refine wt_iinc (pc := 96) (d := 1) (ls' := [(4, .int (l4 + 1)), (0, rf G.1 l0), (2, .int l2), (3, .int l3)]) 3 dX11_windsThatFit_96 rfl (by decide) (by decide) rfl ?_
  refine wt_goto (pc := 99) (tgt := 53) dX11_windsThatFit_99 (by decide) ?_
  refine wt_sub (ls' := [(0, rf G.1 l0), (2, .int l2), (3, .int l3), (4, .int (l4 + 1))]) [1, 2, 3, 0] rfl ?_
  exact hk53 _ _ _ _ _ h
set_option maxHeartbeats 4000000 in
set_option maxRecDepth 100000 in
theorem t_X11_windsThatFit_53 {G : GG} {X : CX} {ans : Int32 × Mm} (he : EndI G X j_X11_windsThatFit b_X11_windsThatFit ans) : ∀ (n : Nat) {M : Mm} {l0 : Option Nat} {l2 : Int32} {l3 : Int32} {l4 : Int32}, f_X11_windsThatFit_53 n M l0 l2 l3 l4 = some ans → Wt G X j_X11_windsThatFit b_X11_windsThatFit 53 [(0, rf G.1 l0), (2, .int l2), (3, .int l3), (4, .int l4)] [] M 0 0 := by
  intro n
  induction n with
  | zero =>
    intro M l0 l2 l3 l4 h
    rw [f_X11_windsThatFit_53] at h
    cases h
  | succ n ih =>
    intro M l0 l2 l3 l4 h
    rw [f_X11_windsThatFit_53] at h
    refine wt_iload (pc := 53) 3 dX11_windsThatFit_53 rfl ?_
    refine wt_aload_n (pc := 55) 0 dX11_windsThatFit_55 rfl ?_
    refine wt_getR (pc := 56) dX11_windsThatFit_56 fl_X11_37 (fun _ _ _ => rfl) h (fun v56 h => ?_)
    refine wt_getI (pc := 59) dX11_windsThatFit_59 fl_X11_194 (fun _ _ _ => rfl) h (fun v59 h => ?_)
    refine wt_icmp_ge (pc := 62) (tgt := 102) dX11_windsThatFit_62 (by decide) (fun q => ?_) (fun q => ?_)
    · have h := ite_t q h
      refine wt_iload_n (pc := 102) 2 dX11_windsThatFit_102 rfl ?_
      cases h
      exact he 103 _ _ _ dX11_windsThatFit_103 (by decide) (by decide)
    · have h := ite_f q h
      refine wt_aload_n (pc := 65) 0 dX11_windsThatFit_65 rfl ?_
      refine wt_getR (pc := 66) dX11_windsThatFit_66 fl_X11_37 (fun _ _ _ => rfl) h (fun v66 h => ?_)
      refine wt_aload_n (pc := 69) 0 dX11_windsThatFit_69 rfl ?_
      refine wt_getR (pc := 70) dX11_windsThatFit_70 fl_X11_37 (fun _ _ _ => rfl) h (fun v70 h => ?_)
      refine wt_getR (pc := 73) dX11_windsThatFit_73 fl_X11_277 (fun _ _ _ => rfl) h (fun v73 h => ?_)
      refine wt_iload (pc := 76) 3 dX11_windsThatFit_76 rfl ?_
      refine wt_aaload (pc := 78) (kd := 38) dX11_windsThatFit_78 rfl rfl (by decide) h (fun v78 h => ?_)
      refine wt_getI (pc := 79) dX11_windsThatFit_79 fl_X11_281 (fun _ _ _ => rfl) h (fun v79 h => ?_)
      refine wt_cVI (pc := 82) (J' := j_X4_fallingSet) (As := [.int v79]) (st := []) (B' := b_X4_fallingSet) (u' := 0) (w' := 0) dX11_windsThatFit_82 ml_X11_322 mv_X4_fallingSet (fun v9 M9 e9 => c_X4_fallingSet e9) rfl (by decide) rfl rfl (by decide) (by decide) (by decide) rfl h (fun v82 M82 h => ?_)
      refine wt_iload_n (pc := 85) 1 dX11_windsThatFit_85 rfl ?_
      refine wt_icmp_ne (pc := 86) (tgt := 96) dX11_windsThatFit_86 (by decide) (fun q => ?_) (fun q => ?_)
      · have h := ite_f q h
        exact t_X11_windsThatFit_96 he (fun _ _ _ _ _ h => ih h) h
      · have h := ite_t q h
        refine wt_iload_n (pc := 89) 2 dX11_windsThatFit_89 rfl ?_
        refine wt_iconst (pc := 90) (v := 1) dX11_windsThatFit_90 (by decide) ?_
        refine wt_iload (pc := 91) 3 dX11_windsThatFit_91 rfl ?_
        refine wt_ishl (pc := 93) dX11_windsThatFit_93 ?_
        refine wt_ior (pc := 94) dX11_windsThatFit_94 ?_
        refine wt_nmI h (fun x95 h => ?_)
        refine wt_istore_n (pc := 95) (i := 3) (ls' := [(3, .int x95), (0, rf G.1 l0), (2, .int l2), (4, .int l4)]) rfl dX11_windsThatFit_95 (by decide) rfl ?_
        refine wt_sub (ls' := [(0, rf G.1 l0), (2, .int l2), (3, .int x95), (4, .int l4)]) [1, 2, 0, 3] rfl ?_
        exact t_X11_windsThatFit_96 he (fun _ _ _ _ _ h => ih h) h
set_option maxHeartbeats 4000000 in
set_option maxRecDepth 100000 in
theorem t_X11_windsThatFit_4 {G : GG} {X : CX} {ans : Int32 × Mm} (he : EndI G X j_X11_windsThatFit b_X11_windsThatFit ans) : ∀ (n : Nat) {M : Mm} {l0 : Option Nat} {l1 : Int32} {l2 : Int32} {l3 : Int32}, f_X11_windsThatFit_4 n M l0 l1 l2 l3 = some ans → Wt G X j_X11_windsThatFit b_X11_windsThatFit 4 [(0, rf G.1 l0), (1, .int l1), (2, .int l2), (3, .int l3)] [] M 0 0 := by
  intro n
  induction n with
  | zero =>
    intro M l0 l1 l2 l3 h
    rw [f_X11_windsThatFit_4] at h
    cases h
  | succ n ih =>
    intro M l0 l1 l2 l3 h
    rw [f_X11_windsThatFit_4] at h
    refine wt_iload_n (pc := 4) 3 dX11_windsThatFit_4 rfl ?_
    refine wt_aload_n (pc := 5) 0 dX11_windsThatFit_5 rfl ?_
    refine wt_getR (pc := 6) dX11_windsThatFit_6 fl_X11_37 (fun _ _ _ => rfl) h (fun v6 h => ?_)
    refine wt_getI (pc := 9) dX11_windsThatFit_9 fl_X11_102 (fun _ _ _ => rfl) h (fun v9 h => ?_)
    refine wt_icmp_ge (pc := 12) (tgt := 38) dX11_windsThatFit_12 (by decide) (fun q => ?_) (fun q => ?_)
    · have h := ite_t q h
      refine wt_iload_n (pc := 38) 2 dX11_windsThatFit_38 rfl ?_
      refine wt_aload_n (pc := 39) 0 dX11_windsThatFit_39 rfl ?_
      refine wt_getR (pc := 40) dX11_windsThatFit_40 fl_X11_37 (fun _ _ _ => rfl) h (fun v40 h => ?_)
      refine wt_cVI (pc := 43) (J' := j_X4_standingSet) (As := []) (st := [.int l2]) (B' := b_X4_standingSet) (u' := 0) (w' := 0) dX11_windsThatFit_43 ml_X11_203 mv_X4_standingSet (fun v9 M9 e9 => c_X4_standingSet e9) rfl (by decide) rfl rfl (by decide) (by decide) (by simp [rf_cat, cat_i, cat_l, cat_r]) rfl h (fun v43 M43 h => ?_)
      refine wt_iand (pc := 46) dX11_windsThatFit_46 ?_
      refine wt_nmI h (fun x47 h => ?_)
      refine wt_istore_n (pc := 47) (i := 2) (ls' := [(2, .int x47), (0, rf G.1 l0), (1, .int l1), (3, .int l3)]) rfl dX11_windsThatFit_47 (by decide) rfl ?_
      refine wt_iconst (pc := 48) (v := 0) dX11_windsThatFit_48 (by decide) ?_
      refine wt_istore_n (pc := 49) (i := 3) (ls' := [(3, .int 0), (2, .int x47), (0, rf G.1 l0), (1, .int l1)]) rfl dX11_windsThatFit_49 (by decide) rfl ?_
      refine wt_iconst (pc := 50) (v := 0) dX11_windsThatFit_50 (by decide) ?_
      refine wt_istore (pc := 51) (i := 4) (ls' := [(4, .int 0), (3, .int 0), (2, .int x47), (0, rf G.1 l0), (1, .int l1)]) dX11_windsThatFit_51 (by decide) rfl ?_
      refine wt_sub (ls' := [(0, rf G.1 l0), (2, .int x47), (3, .int 0), (4, .int 0)]) [3, 2, 1, 0] rfl ?_
      exact t_X11_windsThatFit_53 he  fu h
    · have h := ite_f q h
      refine wt_iload_n (pc := 15) 2 dX11_windsThatFit_15 rfl ?_
      refine wt_aload_n (pc := 16) 0 dX11_windsThatFit_16 rfl ?_
      refine wt_getR (pc := 17) dX11_windsThatFit_17 fl_X11_30 (fun _ _ _ => rfl) h (fun v17 h => ?_)
      refine wt_getR (pc := 20) dX11_windsThatFit_20 fl_X11_135 (fun _ _ _ => rfl) h (fun v20 h => ?_)
      refine wt_iload_n (pc := 23) 1 dX11_windsThatFit_23 rfl ?_
      refine wt_aaload (pc := 24) (kd := 51) dX11_windsThatFit_24 rfl rfl (by decide) h (fun v24 h => ?_)
      refine wt_iload_n (pc := 25) 3 dX11_windsThatFit_25 rfl ?_
      refine wt_laload (pc := 26) (kd := 22) dX11_windsThatFit_26 rfl rfl h (fun v26 h => ?_)
      refine wt_l2i (pc := 27) dX11_windsThatFit_27 ?_
      refine wt_iload_n (pc := 28) 3 dX11_windsThatFit_28 rfl ?_
      refine wt_ishl (pc := 29) dX11_windsThatFit_29 ?_
      refine wt_ior (pc := 30) dX11_windsThatFit_30 ?_
      refine wt_nmI h (fun x31 h => ?_)
      refine wt_istore_n (pc := 31) (i := 2) (ls' := [(2, .int x31), (0, rf G.1 l0), (1, .int l1), (3, .int l3)]) rfl dX11_windsThatFit_31 (by decide) rfl ?_
      refine wt_iinc (pc := 32) (d := 1) (ls' := [(3, .int (l3 + 1)), (2, .int x31), (0, rf G.1 l0), (1, .int l1)]) 3 dX11_windsThatFit_32 rfl (by decide) (by decide) rfl ?_
      refine wt_goto (pc := 35) (tgt := 4) dX11_windsThatFit_35 (by decide) ?_
      refine wt_sub (ls' := [(0, rf G.1 l0), (1, .int l1), (2, .int x31), (3, .int (l3 + 1))]) [2, 3, 1, 0] rfl ?_
      exact ih h
set_option maxHeartbeats 4000000 in
set_option maxRecDepth 100000 in
theorem t_X11_windsThatFit_e {G : GG} {X : CX} {ans : Int32 × Mm} (he : EndI G X j_X11_windsThatFit b_X11_windsThatFit ans) {M : Mm} {l0 : Option Nat} {l1 : Int32} (h : f_X11_windsThatFit M l0 l1 = some ans) : Wt G X j_X11_windsThatFit b_X11_windsThatFit 0 [(0, rf G.1 l0), (1, .int l1)] [] M 0 0 := by
  unfold f_X11_windsThatFit at h
  refine wt_iconst (pc := 0) (v := 0) dX11_windsThatFit_0 (by decide) ?_
  refine wt_istore_n (pc := 1) (i := 2) (ls' := [(2, .int 0), (0, rf G.1 l0), (1, .int l1)]) rfl dX11_windsThatFit_1 (by decide) rfl ?_
  refine wt_iconst (pc := 2) (v := 0) dX11_windsThatFit_2 (by decide) ?_
  refine wt_istore_n (pc := 3) (i := 3) (ls' := [(3, .int 0), (2, .int 0), (0, rf G.1 l0), (1, .int l1)]) rfl dX11_windsThatFit_3 (by decide) rfl ?_
  refine wt_sub (ls' := [(0, rf G.1 l0), (1, .int l1), (2, .int 0), (3, .int 0)]) [2, 3, 1, 0] rfl ?_
  exact t_X11_windsThatFit_4 he  fu h
set_option maxHeartbeats 4000000 in
set_option maxRecDepth 100000 in
theorem c_X11_windsThatFit {G : GG} {M : Mm} {l0 : Option Nat} {l1 : Int32} {r : Int32 × Mm} (h : f_X11_windsThatFit M l0 l1 = some r) (l : Launch) : Ct l G j_X11_windsThatFit b_X11_windsThatFit [rf G.1 l0, .int l1] M (some (.int r.1)) r.2 := cf_I (by decide +kernel) (by simp [lg_sl, rf_cat, cat_i, cat_l, j_X11_windsThatFit]) rfl (by simp [lv_args, rf_cat, cat_i, cat_l]) (fun X he => t_X11_windsThatFit_e he h)
def f_X11_flown (M : Mm) (l0 : Option Nat) (l1 : Int32) : Option (Int32 × Mm) := ck M l0 11 <| bd (f_X11_whyNotFlown M l0 l1) fun v2 M2 => if v2 = 0 then (ck M2 l0 11 <| bd (f_X11_windsThatFit M2 l0 l1) fun v13 M13 => ck M13 l0 11 <| bd (f_X11_answer M13 l0 v13) fun v16 M16 => some (v16, M16)) else (ck M2 l0 11 <| bd (f_X11_none M2 l0 v2) fun v24 M24 => some (v24, M24))
set_option maxHeartbeats 4000000 in
set_option maxRecDepth 100000 in
theorem t_X11_flown_e {G : GG} {X : CX} {ans : Int32 × Mm} (he : EndI G X j_X11_flown b_X11_flown ans) {M : Mm} {l0 : Option Nat} {l1 : Int32} (h : f_X11_flown M l0 l1 = some ans) : Wt G X j_X11_flown b_X11_flown 0 [(0, rf G.1 l0), (1, .int l1)] [] M 0 0 := by
  unfold f_X11_flown at h
  refine wt_aload_n (pc := 0) 0 dX11_flown_0 rfl ?_
  refine wt_iload_n (pc := 1) 1 dX11_flown_1 rfl ?_
  refine wt_cVI (pc := 2) (J' := j_X11_whyNotFlown) (As := [.int l1]) (st := []) (B' := b_X11_whyNotFlown) (u' := 0) (w' := 0) dX11_flown_2 ml_X11_406 mv_X11_whyNotFlown (fun v9 M9 e9 => c_X11_whyNotFlown e9) rfl (by decide) rfl rfl (by decide) (by decide) (by decide) rfl h (fun v2 M2 h => ?_)
  refine wt_istore_n (pc := 5) (i := 2) (ls' := [(2, .int v2), (0, rf G.1 l0), (1, .int l1)]) rfl dX11_flown_5 (by decide) rfl ?_
  refine wt_iload_n (pc := 6) 0 dX11_flown_6 rfl ?_
  refine wt_if_ne (pc := 7) (tgt := 22) dX11_flown_7 (by decide) (fun q => ?_) (fun q => ?_)
  · have h := ite_f q h
    refine wt_aload_n (pc := 22) 1 dX11_flown_22 rfl ?_
    refine wt_iload_n (pc := 23) 0 dX11_flown_23 rfl ?_
    refine wt_cVI (pc := 24) (J' := j_X11_none) (As := [.int v2]) (st := []) (B' := b_X11_none) (u' := 0) (w' := 0) dX11_flown_24 ml_X11_131 mv_X11_none (fun v9 M9 e9 => c_X11_none e9) rfl (by decide) rfl rfl (by decide) (by decide) (by decide) rfl h (fun v24 M24 h => ?_)
    cases h
    exact he 27 _ _ _ dX11_flown_27 (by decide) (by decide)
  · have h := ite_t q h
    refine wt_aload_n (pc := 10) 1 dX11_flown_10 rfl ?_
    refine wt_aload_n (pc := 11) 1 dX11_flown_11 rfl ?_
    refine wt_iload_n (pc := 12) 2 dX11_flown_12 rfl ?_
    refine wt_cVI (pc := 13) (J' := j_X11_windsThatFit) (As := [.int l1]) (st := [rf G.1 l0]) (B' := b_X11_windsThatFit) (u' := 0) (w' := 0) dX11_flown_13 ml_X11_409 mv_X11_windsThatFit (fun v9 M9 e9 => c_X11_windsThatFit e9) rfl (by decide) rfl rfl (by decide) (by decide) (by simp [rf_cat, cat_i, cat_l, cat_r]) rfl h (fun v13 M13 h => ?_)
    refine wt_cVI (pc := 16) (J' := j_X11_answer) (As := [.int v13]) (st := []) (B' := b_X11_answer) (u' := 0) (w' := 0) dX11_flown_16 ml_X11_176 mv_X11_answer (fun v9 M9 e9 => c_X11_answer e9) rfl (by decide) rfl rfl (by decide) (by decide) (by decide) rfl h (fun v16 M16 h => ?_)
    refine wt_goto (pc := 19) (tgt := 27) dX11_flown_19 (by decide) ?_
    cases h
    exact he 27 _ _ _ dX11_flown_27 (by decide) (by decide)
set_option maxHeartbeats 4000000 in
set_option maxRecDepth 100000 in
theorem c_X11_flown {G : GG} {M : Mm} {l0 : Option Nat} {l1 : Int32} {r : Int32 × Mm} (h : f_X11_flown M l0 l1 = some r) (l : Launch) : Ct l G j_X11_flown b_X11_flown [rf G.1 l0, .int l1] M (some (.int r.1)) r.2 := cf_I (by decide +kernel) (by simp [lg_sl, rf_cat, cat_i, cat_l, j_X11_flown]) rfl (by simp [lv_args, rf_cat, cat_i, cat_l]) (fun X he => t_X11_flown_e he h)
def f_X11_likeliest_90 (k31 : Mm → Option Nat → Int32 → Int32 → Int32 → Int32 → Option (Int32 × Mm)) (M : Mm) (l0 : Option Nat) (l3 : Int32) (l4 : Int32) (l5 : Int32) (l6 : Int32) : Option (Int32 × Mm) := k31 M l0 l3 l4 l5 (l6 + 1)
def f_X11_likeliest_31 : Nat → Mm → Option Nat → Int32 → Int32 → Int32 → Int32 → Option (Int32 × Mm)
  | 0, _, _, _, _, _, _ => none
  | n + 1, M, l0, l3, l4, l5, l6 => gfR M l0 11 7 fun v34 => gfI M v34 4 5 fun v37 => if v37 ≤ l6 then (if l4 = (-1) then (ck M l0 11 <| bd (f_X11_none M l0 8) fun v105 M105 => some (v105, M105)) else (ck M l0 11 <| bd (f_X11_answer M l0 l4) fun v114 M114 => some (v114, M114))) else (if ((l3 >>> (l6 &&& 31)) &&& 1) = 1 then (gfR M l0 11 7 fun v54 => gfR M v54 4 2 fun v57 => alR M v57 38 l6 fun v62 => gfI M v62 8 2 fun v63 => if v63 ≤ l5 then (f_X11_likeliest_90 (f_X11_likeliest_31 n) M l0 l3 l4 l5 l6) else (gfR M l0 11 7 fun v72 => gfR M v72 4 2 fun v75 => alR M v75 38 l6 fun v80 => gfI M v80 8 2 fun v81 => f_X11_likeliest_90 (f_X11_likeliest_31 n) M l0 l3 l6 v81 l6)) else (f_X11_likeliest_90 (f_X11_likeliest_31 n) M l0 l3 l4 l5 l6))
def f_X11_likeliest (M : Mm) (l0 : Option Nat) (l1 : Int32) : Option (Int32 × Mm) := ck M l0 11 <| bd (f_X11_whyNotFlown M l0 l1) fun v2 M2 => if v2 = 0 then (ck M2 l0 11 <| bd (f_X11_windsThatFit M2 l0 l1) fun v18 M18 => f_X11_likeliest_31  fu M18 l0 v18 (-1) 0 0) else (ck M2 l0 11 <| bd (f_X11_none M2 l0 v2) fun v12 M12 => some (v12, M12))
set_option maxHeartbeats 4000000 in
set_option maxRecDepth 100000 in
theorem t_X11_likeliest_90 {G : GG} {X : CX} {ans : Int32 × Mm} (he : EndI G X j_X11_likeliest b_X11_likeliest ans) {k31 : Mm → Option Nat → Int32 → Int32 → Int32 → Int32 → Option (Int32 × Mm)} (hk31 : ∀ (M : Mm) (a0 : Option Nat) (a3 : Int32) (a4 : Int32) (a5 : Int32) (a6 : Int32), k31 M a0 a3 a4 a5 a6 = some ans → Wt G X j_X11_likeliest b_X11_likeliest 31 [(0, rf G.1 a0), (3, .int a3), (4, .int a4), (5, .int a5), (6, .int a6)] [] M 0 0) {M : Mm} {l0 : Option Nat} {l3 : Int32} {l4 : Int32} {l5 : Int32} {l6 : Int32} (h : f_X11_likeliest_90 k31 M l0 l3 l4 l5 l6 = some ans) : Wt G X j_X11_likeliest b_X11_likeliest 90 [(0, rf G.1 l0), (3, .int l3), (4, .int l4), (5, .int l5), (6, .int l6)] [] M 0 0 := by
  unfold f_X11_likeliest_90 at h
  refine wt_iinc (pc := 90) (d := 1) (ls' := [(6, .int (l6 + 1)), (0, rf G.1 l0), (3, .int l3), (4, .int l4), (5, .int l5)]) 4 dX11_likeliest_90 rfl (by decide) (by decide) rfl ?_
  refine wt_goto (pc := 93) (tgt := 31) dX11_likeliest_93 (by decide) ?_
  refine wt_sub (ls' := [(0, rf G.1 l0), (3, .int l3), (4, .int l4), (5, .int l5), (6, .int (l6 + 1))]) [1, 2, 3, 4, 0] rfl ?_
  exact hk31 _ _ _ _ _ _ h
set_option maxHeartbeats 4000000 in
set_option maxRecDepth 100000 in
theorem t_X11_likeliest_31 {G : GG} {X : CX} {ans : Int32 × Mm} (he : EndI G X j_X11_likeliest b_X11_likeliest ans) : ∀ (n : Nat) {M : Mm} {l0 : Option Nat} {l3 : Int32} {l4 : Int32} {l5 : Int32} {l6 : Int32}, f_X11_likeliest_31 n M l0 l3 l4 l5 l6 = some ans → Wt G X j_X11_likeliest b_X11_likeliest 31 [(0, rf G.1 l0), (3, .int l3), (4, .int l4), (5, .int l5), (6, .int l6)] [] M 0 0 := by
  intro n
  induction n with
  | zero =>
    intro M l0 l3 l4 l5 l6 h
    rw [f_X11_likeliest_31] at h
    cases h
  | succ n ih =>
    intro M l0 l3 l4 l5 l6 h
    rw [f_X11_likeliest_31] at h
    refine wt_iload (pc := 31) 4 dX11_likeliest_31 rfl ?_
    refine wt_aload_n (pc := 33) 0 dX11_likeliest_33 rfl ?_
    refine wt_getR (pc := 34) dX11_likeliest_34 fl_X11_37 (fun _ _ _ => rfl) h (fun v34 h => ?_)
    refine wt_getI (pc := 37) dX11_likeliest_37 fl_X11_194 (fun _ _ _ => rfl) h (fun v37 h => ?_)
    refine wt_icmp_ge (pc := 40) (tgt := 96) dX11_likeliest_40 (by decide) (fun q => ?_) (fun q => ?_)
    · have h := ite_t q h
      refine wt_iload (pc := 96) 2 dX11_likeliest_96 rfl ?_
      refine wt_iconst (pc := 98) (v := (-1)) dX11_likeliest_98 (by decide) ?_
      refine wt_icmp_ne (pc := 99) (tgt := 111) dX11_likeliest_99 (by decide) (fun q => ?_) (fun q => ?_)
      · have h := ite_f q h
        refine wt_aload_n (pc := 111) 0 dX11_likeliest_111 rfl ?_
        refine wt_iload (pc := 112) 2 dX11_likeliest_112 rfl ?_
        refine wt_cVI (pc := 114) (J' := j_X11_answer) (As := [.int l4]) (st := []) (B' := b_X11_answer) (u' := 0) (w' := 0) dX11_likeliest_114 ml_X11_176 mv_X11_answer (fun v9 M9 e9 => c_X11_answer e9) rfl (by decide) rfl rfl (by decide) (by decide) (by decide) rfl h (fun v114 M114 h => ?_)
        cases h
        exact he 117 _ _ _ dX11_likeliest_117 (by decide) (by decide)
      · have h := ite_t q h
        refine wt_aload_n (pc := 102) 0 dX11_likeliest_102 rfl ?_
        refine wt_bipush (pc := 103) (v := 8) dX11_likeliest_103 (by decide) ?_
        refine wt_cVI (pc := 105) (J' := j_X11_none) (As := [.int 8]) (st := []) (B' := b_X11_none) (u' := 0) (w' := 0) dX11_likeliest_105 ml_X11_131 mv_X11_none (fun v9 M9 e9 => c_X11_none e9) rfl (by decide) rfl rfl (by decide) (by decide) (by decide) rfl h (fun v105 M105 h => ?_)
        refine wt_goto (pc := 108) (tgt := 117) dX11_likeliest_108 (by decide) ?_
        cases h
        exact he 117 _ _ _ dX11_likeliest_117 (by decide) (by decide)
    · have h := ite_f q h
      refine wt_iload_n (pc := 43) 1 dX11_likeliest_43 rfl ?_
      refine wt_iload (pc := 44) 4 dX11_likeliest_44 rfl ?_
      refine wt_ishr (pc := 46) dX11_likeliest_46 ?_
      refine wt_iconst (pc := 47) (v := 1) dX11_likeliest_47 (by decide) ?_
      refine wt_iand (pc := 48) dX11_likeliest_48 ?_
      refine wt_iconst (pc := 49) (v := 1) dX11_likeliest_49 (by decide) ?_
      refine wt_icmp_ne (pc := 50) (tgt := 90) dX11_likeliest_50 (by decide) (fun q => ?_) (fun q => ?_)
      · have h := ite_f q h
        exact t_X11_likeliest_90 he (fun _ _ _ _ _ _ h => ih h) h
      · have h := ite_t q h
        refine wt_aload_n (pc := 53) 0 dX11_likeliest_53 rfl ?_
        refine wt_getR (pc := 54) dX11_likeliest_54 fl_X11_37 (fun _ _ _ => rfl) h (fun v54 h => ?_)
        refine wt_getR (pc := 57) dX11_likeliest_57 fl_X11_277 (fun _ _ _ => rfl) h (fun v57 h => ?_)
        refine wt_iload (pc := 60) 4 dX11_likeliest_60 rfl ?_
        refine wt_aaload (pc := 62) (kd := 38) dX11_likeliest_62 rfl rfl (by decide) h (fun v62 h => ?_)
        refine wt_getI (pc := 63) dX11_likeliest_63 fl_X11_286 (fun _ _ _ => rfl) h (fun v63 h => ?_)
        refine wt_iload (pc := 66) 3 dX11_likeliest_66 rfl ?_
        refine wt_icmp_le (pc := 68) (tgt := 90) dX11_likeliest_68 (by decide) (fun q => ?_) (fun q => ?_)
        · have h := ite_t q h
          exact t_X11_likeliest_90 he (fun _ _ _ _ _ _ h => ih h) h
        · have h := ite_f q h
          refine wt_aload_n (pc := 71) 0 dX11_likeliest_71 rfl ?_
          refine wt_getR (pc := 72) dX11_likeliest_72 fl_X11_37 (fun _ _ _ => rfl) h (fun v72 h => ?_)
          refine wt_getR (pc := 75) dX11_likeliest_75 fl_X11_277 (fun _ _ _ => rfl) h (fun v75 h => ?_)
          refine wt_iload (pc := 78) 4 dX11_likeliest_78 rfl ?_
          refine wt_aaload (pc := 80) (kd := 38) dX11_likeliest_80 rfl rfl (by decide) h (fun v80 h => ?_)
          refine wt_getI (pc := 81) dX11_likeliest_81 fl_X11_286 (fun _ _ _ => rfl) h (fun v81 h => ?_)
          refine wt_istore (pc := 84) (i := 5) (ls' := [(5, .int v81), (0, rf G.1 l0), (3, .int l3), (4, .int l4), (6, .int l6)]) dX11_likeliest_84 (by decide) rfl ?_
          refine wt_iload (pc := 86) 4 dX11_likeliest_86 rfl ?_
          refine wt_istore (pc := 88) (i := 4) (ls' := [(4, .int l6), (5, .int v81), (0, rf G.1 l0), (3, .int l3), (6, .int l6)]) dX11_likeliest_88 (by decide) rfl ?_
          refine wt_sub (ls' := [(0, rf G.1 l0), (3, .int l3), (4, .int l6), (5, .int v81), (6, .int l6)]) [2, 3, 0, 1, 4] rfl ?_
          exact t_X11_likeliest_90 he (fun _ _ _ _ _ _ h => ih h) h
set_option maxHeartbeats 4000000 in
set_option maxRecDepth 100000 in
theorem t_X11_likeliest_e {G : GG} {X : CX} {ans : Int32 × Mm} (he : EndI G X j_X11_likeliest b_X11_likeliest ans) {M : Mm} {l0 : Option Nat} {l1 : Int32} (h : f_X11_likeliest M l0 l1 = some ans) : Wt G X j_X11_likeliest b_X11_likeliest 0 [(0, rf G.1 l0), (1, .int l1)] [] M 0 0 := by
  unfold f_X11_likeliest at h
  refine wt_aload_n (pc := 0) 0 dX11_likeliest_0 rfl ?_
  refine wt_iload_n (pc := 1) 1 dX11_likeliest_1 rfl ?_
  refine wt_cVI (pc := 2) (J' := j_X11_whyNotFlown) (As := [.int l1]) (st := []) (B' := b_X11_whyNotFlown) (u' := 0) (w' := 0) dX11_likeliest_2 ml_X11_406 mv_X11_whyNotFlown (fun v9 M9 e9 => c_X11_whyNotFlown e9) rfl (by decide) rfl rfl (by decide) (by decide) (by decide) rfl h (fun v2 M2 h => ?_)
  refine wt_istore_n (pc := 5) (i := 2) (ls' := [(2, .int v2), (0, rf G.1 l0), (1, .int l1)]) rfl dX11_likeliest_5 (by decide) rfl ?_
  refine wt_iload_n (pc := 6) 0 dX11_likeliest_6 rfl ?_
  refine wt_if_eq (pc := 7) (tgt := 16) dX11_likeliest_7 (by decide) (fun q => ?_) (fun q => ?_)
  · have h := ite_t q h
    refine wt_aload_n (pc := 16) 1 dX11_likeliest_16 rfl ?_
    refine wt_iload_n (pc := 17) 2 dX11_likeliest_17 rfl ?_
    refine wt_cVI (pc := 18) (J' := j_X11_windsThatFit) (As := [.int l1]) (st := []) (B' := b_X11_windsThatFit) (u' := 0) (w' := 0) dX11_likeliest_18 ml_X11_409 mv_X11_windsThatFit (fun v9 M9 e9 => c_X11_windsThatFit e9) rfl (by decide) rfl rfl (by decide) (by decide) (by decide) rfl h (fun v18 M18 h => ?_)
    refine wt_istore_n (pc := 21) (i := 3) (ls' := [(3, .int v18), (2, .int v2), (0, rf G.1 l0), (1, .int l1)]) rfl dX11_likeliest_21 (by decide) rfl ?_
    refine wt_iconst (pc := 22) (v := (-1)) dX11_likeliest_22 (by decide) ?_
    refine wt_istore (pc := 23) (i := 4) (ls' := [(4, .int (-1)), (3, .int v18), (2, .int v2), (0, rf G.1 l0), (1, .int l1)]) dX11_likeliest_23 (by decide) rfl ?_
    refine wt_iconst (pc := 25) (v := 0) dX11_likeliest_25 (by decide) ?_
    refine wt_istore (pc := 26) (i := 5) (ls' := [(5, .int 0), (4, .int (-1)), (3, .int v18), (2, .int v2), (0, rf G.1 l0), (1, .int l1)]) dX11_likeliest_26 (by decide) rfl ?_
    refine wt_iconst (pc := 28) (v := 0) dX11_likeliest_28 (by decide) ?_
    refine wt_istore (pc := 29) (i := 6) (ls' := [(6, .int 0), (5, .int 0), (4, .int (-1)), (3, .int v18), (2, .int v2), (0, rf G.1 l0), (1, .int l1)]) dX11_likeliest_29 (by decide) rfl ?_
    refine wt_sub (ls' := [(0, rf G.1 l0), (3, .int v18), (4, .int (-1)), (5, .int 0), (6, .int 0)]) [5, 3, 2, 1, 0] rfl ?_
    exact t_X11_likeliest_31 he  fu h
  · have h := ite_f q h
    refine wt_aload_n (pc := 10) 1 dX11_likeliest_10 rfl ?_
    refine wt_iload_n (pc := 11) 0 dX11_likeliest_11 rfl ?_
    refine wt_cVI (pc := 12) (J' := j_X11_none) (As := [.int v2]) (st := []) (B' := b_X11_none) (u' := 0) (w' := 0) dX11_likeliest_12 ml_X11_131 mv_X11_none (fun v9 M9 e9 => c_X11_none e9) rfl (by decide) rfl rfl (by decide) (by decide) (by decide) rfl h (fun v12 M12 h => ?_)
    cases h
    exact he 15 _ _ _ dX11_likeliest_15 (by decide) (by decide)
set_option maxHeartbeats 4000000 in
set_option maxRecDepth 100000 in
theorem c_X11_likeliest {G : GG} {M : Mm} {l0 : Option Nat} {l1 : Int32} {r : Int32 × Mm} (h : f_X11_likeliest M l0 l1 = some r) (l : Launch) : Ct l G j_X11_likeliest b_X11_likeliest [rf G.1 l0, .int l1] M (some (.int r.1)) r.2 := cf_I (by decide +kernel) (by simp [lg_sl, rf_cat, cat_i, cat_l, j_X11_likeliest]) rfl (by simp [lv_args, rf_cat, cat_i, cat_l]) (fun X he => t_X11_likeliest_e he h)
def f_X11_neighbour_103 (k21 : Mm → Option Nat → Int32 → Int32 → Int32 → Int32 → Option (Int32 × Mm)) (M : Mm) (l0 : Option Nat) (l1 : Int32) (l2 : Int32) (l3 : Int32) (l4 : Int32) : Option (Int32 × Mm) := k21 M l0 l1 l2 l3 (l4 + 1)
def f_X11_neighbour_97 (k21 : Mm → Option Nat → Int32 → Int32 → Int32 → Int32 → Option (Int32 × Mm)) (M : Mm) (l0 : Option Nat) (l1 : Int32) (l4 : Int32) (l5 : Int32) : Option (Int32 × Mm) := f_X11_neighbour_103 k21 M l0 l1 l4 l5 l4
def f_X11_neighbour_21 : Nat → Mm → Option Nat → Int32 → Int32 → Int32 → Int32 → Option (Int32 × Mm)
  | 0, _, _, _, _, _, _ => none
  | n + 1, M, l0, l1, l2, l3, l4 => gfR M l0 11 7 fun v24 => gfI M v24 4 3 fun v27 => if v27 ≤ l4 then (if l2 = (-1) then (ck M l0 11 <| bd (f_X11_none M l0 8) fun v117 M117 => some (v117, M117)) else (ck M l0 11 <| bd (f_X11_answer M l0 l2) fun v125 M125 => some (v125, M125))) else (gfR M l0 11 7 fun v34 => gfR M v34 4 0 fun v37 => alR M v37 31 l4 fun v42 => gfI M v42 1 1 fun v43 => gfR M l0 11 7 fun v47 => gfR M v47 4 0 fun v50 => alR M v50 31 l1 fun v54 => gfI M v54 1 1 fun v55 => nmI (abI (v43 - v55)) fun x62 => if l4 = l1 then (f_X11_neighbour_103 (f_X11_neighbour_21 n) M l0 l1 l2 l3 l4) else (gfR M l0 11 7 fun v71 => gfR M v71 4 0 fun v74 => alR M v74 31 l4 fun v79 => gfI M v79 1 8 fun v80 => if v80 = 0 then (f_X11_neighbour_103 (f_X11_neighbour_21 n) M l0 l1 l2 l3 l4) else (if l2 = (-1) then (f_X11_neighbour_97 (f_X11_neighbour_21 n) M l0 l1 l4 x62) else (if l3 ≤ x62 then (f_X11_neighbour_103 (f_X11_neighbour_21 n) M l0 l1 l2 l3 l4) else (f_X11_neighbour_97 (f_X11_neighbour_21 n) M l0 l1 l4 x62)))))
def f_X11_neighbour (M : Mm) (l0 : Option Nat) (l1 : Int32) : Option (Int32 × Mm) := ck M l0 11 <| bd (f_X11_isHouse M l0 l1) fun v2 M2 => if v2 = 0 then (ck M2 l0 11 <| bd (f_X11_none M2 l0 2) fun v10 M10 => some (v10, M10)) else (f_X11_neighbour_21  fu M2 l0 l1 (-1) 0 0)
set_option maxHeartbeats 4000000 in
set_option maxRecDepth 100000 in
theorem t_X11_neighbour_103 {G : GG} {X : CX} {ans : Int32 × Mm} (he : EndI G X j_X11_neighbour b_X11_neighbour ans) {k21 : Mm → Option Nat → Int32 → Int32 → Int32 → Int32 → Option (Int32 × Mm)} (hk21 : ∀ (M : Mm) (a0 : Option Nat) (a1 : Int32) (a2 : Int32) (a3 : Int32) (a4 : Int32), k21 M a0 a1 a2 a3 a4 = some ans → Wt G X j_X11_neighbour b_X11_neighbour 21 [(0, rf G.1 a0), (1, .int a1), (2, .int a2), (3, .int a3), (4, .int a4)] [] M 0 0) {M : Mm} {l0 : Option Nat} {l1 : Int32} {l2 : Int32} {l3 : Int32} {l4 : Int32} (h : f_X11_neighbour_103 k21 M l0 l1 l2 l3 l4 = some ans) : Wt G X j_X11_neighbour b_X11_neighbour 103 [(0, rf G.1 l0), (1, .int l1), (2, .int l2), (3, .int l3), (4, .int l4)] [] M 0 0 := by
  unfold f_X11_neighbour_103 at h
  refine wt_iinc (pc := 103) (d := 1) (ls' := [(4, .int (l4 + 1)), (0, rf G.1 l0), (1, .int l1), (2, .int l2), (3, .int l3)]) 4 dX11_neighbour_103 rfl (by decide) (by decide) rfl ?_
  refine wt_goto (pc := 106) (tgt := 21) dX11_neighbour_106 (by decide) ?_
  refine wt_sub (ls' := [(0, rf G.1 l0), (1, .int l1), (2, .int l2), (3, .int l3), (4, .int (l4 + 1))]) [1, 2, 3, 4, 0] rfl ?_
  exact hk21 _ _ _ _ _ _ h
set_option maxHeartbeats 4000000 in
set_option maxRecDepth 100000 in
theorem t_X11_neighbour_97 {G : GG} {X : CX} {ans : Int32 × Mm} (he : EndI G X j_X11_neighbour b_X11_neighbour ans) {k21 : Mm → Option Nat → Int32 → Int32 → Int32 → Int32 → Option (Int32 × Mm)} (hk21 : ∀ (M : Mm) (a0 : Option Nat) (a1 : Int32) (a2 : Int32) (a3 : Int32) (a4 : Int32), k21 M a0 a1 a2 a3 a4 = some ans → Wt G X j_X11_neighbour b_X11_neighbour 21 [(0, rf G.1 a0), (1, .int a1), (2, .int a2), (3, .int a3), (4, .int a4)] [] M 0 0) {M : Mm} {l0 : Option Nat} {l1 : Int32} {l4 : Int32} {l5 : Int32} (h : f_X11_neighbour_97 k21 M l0 l1 l4 l5 = some ans) : Wt G X j_X11_neighbour b_X11_neighbour 97 [(0, rf G.1 l0), (1, .int l1), (4, .int l4), (5, .int l5)] [] M 0 0 := by
  unfold f_X11_neighbour_97 at h
  refine wt_iload (pc := 97) 3 dX11_neighbour_97 rfl ?_
  refine wt_istore_n (pc := 99) (i := 3) (ls' := [(3, .int l5), (0, rf G.1 l0), (1, .int l1), (4, .int l4), (5, .int l5)]) rfl dX11_neighbour_99 (by decide) rfl ?_
  refine wt_iload (pc := 100) 3 dX11_neighbour_100 rfl ?_
  refine wt_istore_n (pc := 102) (i := 2) (ls' := [(2, .int l4), (3, .int l5), (0, rf G.1 l0), (1, .int l1), (4, .int l4), (5, .int l5)]) rfl dX11_neighbour_102 (by decide) rfl ?_
  refine wt_sub (ls' := [(0, rf G.1 l0), (1, .int l1), (2, .int l4), (3, .int l5), (4, .int l4)]) [2, 3, 0, 1, 4] rfl ?_
  exact t_X11_neighbour_103 he (fun _ _ _ _ _ _ h => hk21 _ _ _ _ _ _ h) h
set_option maxHeartbeats 4000000 in
set_option maxRecDepth 100000 in
theorem t_X11_neighbour_21 {G : GG} {X : CX} {ans : Int32 × Mm} (he : EndI G X j_X11_neighbour b_X11_neighbour ans) : ∀ (n : Nat) {M : Mm} {l0 : Option Nat} {l1 : Int32} {l2 : Int32} {l3 : Int32} {l4 : Int32}, f_X11_neighbour_21 n M l0 l1 l2 l3 l4 = some ans → Wt G X j_X11_neighbour b_X11_neighbour 21 [(0, rf G.1 l0), (1, .int l1), (2, .int l2), (3, .int l3), (4, .int l4)] [] M 0 0 := by
  intro n
  induction n with
  | zero =>
    intro M l0 l1 l2 l3 l4 h
    rw [f_X11_neighbour_21] at h
    cases h
  | succ n ih =>
    intro M l0 l1 l2 l3 l4 h
    rw [f_X11_neighbour_21] at h
    refine wt_iload (pc := 21) 4 dX11_neighbour_21 rfl ?_
    refine wt_aload_n (pc := 23) 0 dX11_neighbour_23 rfl ?_
    refine wt_getR (pc := 24) dX11_neighbour_24 fl_X11_37 (fun _ _ _ => rfl) h (fun v24 h => ?_)
    refine wt_getI (pc := 27) dX11_neighbour_27 fl_X11_102 (fun _ _ _ => rfl) h (fun v27 h => ?_)
    refine wt_icmp_ge (pc := 30) (tgt := 109) dX11_neighbour_30 (by decide) (fun q => ?_) (fun q => ?_)
    · have h := ite_t q h
      refine wt_iload_n (pc := 109) 2 dX11_neighbour_109 rfl ?_
      refine wt_iconst (pc := 110) (v := (-1)) dX11_neighbour_110 (by decide) ?_
      refine wt_icmp_ne (pc := 111) (tgt := 123) dX11_neighbour_111 (by decide) (fun q => ?_) (fun q => ?_)
      · have h := ite_f q h
        refine wt_aload_n (pc := 123) 0 dX11_neighbour_123 rfl ?_
        refine wt_iload_n (pc := 124) 2 dX11_neighbour_124 rfl ?_
        refine wt_cVI (pc := 125) (J' := j_X11_answer) (As := [.int l2]) (st := []) (B' := b_X11_answer) (u' := 0) (w' := 0) dX11_neighbour_125 ml_X11_176 mv_X11_answer (fun v9 M9 e9 => c_X11_answer e9) rfl (by decide) rfl rfl (by decide) (by decide) (by decide) rfl h (fun v125 M125 h => ?_)
        cases h
        exact he 128 _ _ _ dX11_neighbour_128 (by decide) (by decide)
      · have h := ite_t q h
        refine wt_aload_n (pc := 114) 0 dX11_neighbour_114 rfl ?_
        refine wt_bipush (pc := 115) (v := 8) dX11_neighbour_115 (by decide) ?_
        refine wt_cVI (pc := 117) (J' := j_X11_none) (As := [.int 8]) (st := []) (B' := b_X11_none) (u' := 0) (w' := 0) dX11_neighbour_117 ml_X11_131 mv_X11_none (fun v9 M9 e9 => c_X11_none e9) rfl (by decide) rfl rfl (by decide) (by decide) (by decide) rfl h (fun v117 M117 h => ?_)
        refine wt_goto (pc := 120) (tgt := 128) dX11_neighbour_120 (by decide) ?_
        cases h
        exact he 128 _ _ _ dX11_neighbour_128 (by decide) (by decide)
    · have h := ite_f q h
      refine wt_aload_n (pc := 33) 0 dX11_neighbour_33 rfl ?_
      refine wt_getR (pc := 34) dX11_neighbour_34 fl_X11_37 (fun _ _ _ => rfl) h (fun v34 h => ?_)
      refine wt_getR (pc := 37) dX11_neighbour_37 fl_X11_219 (fun _ _ _ => rfl) h (fun v37 h => ?_)
      refine wt_iload (pc := 40) 4 dX11_neighbour_40 rfl ?_
      refine wt_aaload (pc := 42) (kd := 31) dX11_neighbour_42 rfl rfl (by decide) h (fun v42 h => ?_)
      refine wt_getI (pc := 43) dX11_neighbour_43 fl_X11_223 (fun _ _ _ => rfl) h (fun v43 h => ?_)
      refine wt_aload_n (pc := 46) 0 dX11_neighbour_46 rfl ?_
      refine wt_getR (pc := 47) dX11_neighbour_47 fl_X11_37 (fun _ _ _ => rfl) h (fun v47 h => ?_)
      refine wt_getR (pc := 50) dX11_neighbour_50 fl_X11_219 (fun _ _ _ => rfl) h (fun v50 h => ?_)
      refine wt_iload_n (pc := 53) 1 dX11_neighbour_53 rfl ?_
      refine wt_aaload (pc := 54) (kd := 31) dX11_neighbour_54 rfl rfl (by decide) h (fun v54 h => ?_)
      refine wt_getI (pc := 55) dX11_neighbour_55 fl_X11_223 (fun _ _ _ => rfl) h (fun v55 h => ?_)
      refine wt_isub (pc := 58) dX11_neighbour_58 ?_
      refine wt_mabs (pc := 59) dX11_neighbour_59 bi_X11_412 mw_abs.1 mw_abs.2.1 mw_abs.2.2 (by decide) (by decide) (by decide) (by decide) ?_
      refine wt_nmI h (fun x62 h => ?_)
      refine wt_istore (pc := 62) (i := 5) (ls' := [(5, .int x62), (0, rf G.1 l0), (1, .int l1), (2, .int l2), (3, .int l3), (4, .int l4)]) dX11_neighbour_62 (by decide) rfl ?_
      refine wt_iload (pc := 64) 5 dX11_neighbour_64 rfl ?_
      refine wt_iload_n (pc := 66) 2 dX11_neighbour_66 rfl ?_
      refine wt_icmp_eq (pc := 67) (tgt := 103) dX11_neighbour_67 (by decide) (fun q => ?_) (fun q => ?_)
      · have h := ite_t q h
        refine wt_sub (ls' := [(0, rf G.1 l0), (1, .int l1), (2, .int l2), (3, .int l3), (4, .int l4)]) [1, 2, 3, 4, 5] rfl ?_
        exact t_X11_neighbour_103 he (fun _ _ _ _ _ _ h => ih h) h
      · have h := ite_f q h
        refine wt_aload_n (pc := 70) 1 dX11_neighbour_70 rfl ?_
        refine wt_getR (pc := 71) dX11_neighbour_71 fl_X11_37 (fun _ _ _ => rfl) h (fun v71 h => ?_)
        refine wt_getR (pc := 74) dX11_neighbour_74 fl_X11_219 (fun _ _ _ => rfl) h (fun v74 h => ?_)
        refine wt_iload (pc := 77) 5 dX11_neighbour_77 rfl ?_
        refine wt_aaload (pc := 79) (kd := 31) dX11_neighbour_79 rfl rfl (by decide) h (fun v79 h => ?_)
        refine wt_getI (pc := 80) dX11_neighbour_80 fl_X11_414 (fun _ _ _ => rfl) h (fun v80 h => ?_)
        refine wt_if_eq (pc := 83) (tgt := 103) dX11_neighbour_83 (by decide) (fun q => ?_) (fun q => ?_)
        · have h := ite_t q h
          refine wt_sub (ls' := [(0, rf G.1 l0), (1, .int l1), (2, .int l2), (3, .int l3), (4, .int l4)]) [1, 2, 3, 4, 5] rfl ?_
          exact t_X11_neighbour_103 he (fun _ _ _ _ _ _ h => ih h) h
        · have h := ite_f q h
          refine wt_iload_n (pc := 86) 3 dX11_neighbour_86 rfl ?_
          refine wt_iconst (pc := 87) (v := (-1)) dX11_neighbour_87 (by decide) ?_
          refine wt_icmp_eq (pc := 88) (tgt := 97) dX11_neighbour_88 (by decide) (fun q => ?_) (fun q => ?_)
          · have h := ite_t q h
            refine wt_sub (ls' := [(0, rf G.1 l0), (1, .int l1), (4, .int l4), (5, .int x62)]) [1, 2, 5, 0] rfl ?_
            exact t_X11_neighbour_97 he (fun _ _ _ _ _ _ h => ih h) h
          · have h := ite_f q h
            refine wt_iload (pc := 91) 0 dX11_neighbour_91 rfl ?_
            refine wt_iload_n (pc := 93) 4 dX11_neighbour_93 rfl ?_
            refine wt_icmp_ge (pc := 94) (tgt := 103) dX11_neighbour_94 (by decide) (fun q => ?_) (fun q => ?_)
            · have h := ite_t q h
              refine wt_sub (ls' := [(0, rf G.1 l0), (1, .int l1), (2, .int l2), (3, .int l3), (4, .int l4)]) [1, 2, 3, 4, 5] rfl ?_
              exact t_X11_neighbour_103 he (fun _ _ _ _ _ _ h => ih h) h
            · have h := ite_f q h
              refine wt_sub (ls' := [(0, rf G.1 l0), (1, .int l1), (4, .int l4), (5, .int x62)]) [1, 2, 5, 0] rfl ?_
              exact t_X11_neighbour_97 he (fun _ _ _ _ _ _ h => ih h) h
set_option maxHeartbeats 4000000 in
set_option maxRecDepth 100000 in
theorem t_X11_neighbour_e {G : GG} {X : CX} {ans : Int32 × Mm} (he : EndI G X j_X11_neighbour b_X11_neighbour ans) {M : Mm} {l0 : Option Nat} {l1 : Int32} (h : f_X11_neighbour M l0 l1 = some ans) : Wt G X j_X11_neighbour b_X11_neighbour 0 [(0, rf G.1 l0), (1, .int l1)] [] M 0 0 := by
  unfold f_X11_neighbour at h
  refine wt_aload_n (pc := 0) 0 dX11_neighbour_0 rfl ?_
  refine wt_iload_n (pc := 1) 1 dX11_neighbour_1 rfl ?_
  refine wt_cVI (pc := 2) (J' := j_X11_isHouse) (As := [.int l1]) (st := []) (B' := b_X11_isHouse) (u' := 0) (w' := 0) dX11_neighbour_2 ml_X11_216 mv_X11_isHouse (fun v9 M9 e9 => c_X11_isHouse e9) rfl (by decide) rfl rfl (by decide) (by decide) (by decide) rfl h (fun v2 M2 h => ?_)
  refine wt_if_ne (pc := 5) (tgt := 14) dX11_neighbour_5 (by decide) (fun q => ?_) (fun q => ?_)
  · have h := ite_f q h
    refine wt_iconst (pc := 14) (v := (-1)) dX11_neighbour_14 (by decide) ?_
    refine wt_istore_n (pc := 15) (i := 2) (ls' := [(2, .int (-1)), (0, rf G.1 l0), (1, .int l1)]) rfl dX11_neighbour_15 (by decide) rfl ?_
    refine wt_iconst (pc := 16) (v := 0) dX11_neighbour_16 (by decide) ?_
    refine wt_istore_n (pc := 17) (i := 3) (ls' := [(3, .int 0), (2, .int (-1)), (0, rf G.1 l0), (1, .int l1)]) rfl dX11_neighbour_17 (by decide) rfl ?_
    refine wt_iconst (pc := 18) (v := 0) dX11_neighbour_18 (by decide) ?_
    refine wt_istore (pc := 19) (i := 4) (ls' := [(4, .int 0), (3, .int 0), (2, .int (-1)), (0, rf G.1 l0), (1, .int l1)]) dX11_neighbour_19 (by decide) rfl ?_
    refine wt_sub (ls' := [(0, rf G.1 l0), (1, .int l1), (2, .int (-1)), (3, .int 0), (4, .int 0)]) [3, 4, 2, 1, 0] rfl ?_
    exact t_X11_neighbour_21 he  fu h
  · have h := ite_t q h
    refine wt_aload_n (pc := 8) 0 dX11_neighbour_8 rfl ?_
    refine wt_iconst (pc := 9) (v := 2) dX11_neighbour_9 (by decide) ?_
    refine wt_cVI (pc := 10) (J' := j_X11_none) (As := [.int 2]) (st := []) (B' := b_X11_none) (u' := 0) (w' := 0) dX11_neighbour_10 ml_X11_131 mv_X11_none (fun v9 M9 e9 => c_X11_none e9) rfl (by decide) rfl rfl (by decide) (by decide) (by decide) rfl h (fun v10 M10 h => ?_)
    cases h
    exact he 13 _ _ _ dX11_neighbour_13 (by decide) (by decide)
set_option maxHeartbeats 4000000 in
set_option maxRecDepth 100000 in
theorem c_X11_neighbour {G : GG} {M : Mm} {l0 : Option Nat} {l1 : Int32} {r : Int32 × Mm} (h : f_X11_neighbour M l0 l1 = some r) (l : Launch) : Ct l G j_X11_neighbour b_X11_neighbour [rf G.1 l0, .int l1] M (some (.int r.1)) r.2 := cf_I (by decide +kernel) (by simp [lg_sl, rf_cat, cat_i, cat_l, j_X11_neighbour]) rfl (by simp [lv_args, rf_cat, cat_i, cat_l]) (fun X he => t_X11_neighbour_e he h)
def f_X11_live (M : Mm) (l0 : Option Nat) (l1 : Int32) : Option (Int32 × Mm) := bd (f_X11_within M l1 0 9999) fun v5 M5 => if v5 = 0 then (ck M5 l0 11 <| bd (f_X11_none M5 l0 5) fun v13 M13 => some (v13, M13)) else (gfR M5 l0 11 9 fun v18 => gfI M5 v18 9 0 fun v21 => if v21 = 0 then (ck M5 l0 11 <| bd (f_X11_none M5 l0 8) fun v30 M30 => some (v30, M30)) else (gfR M5 l0 11 16 fun v35 => gfR M5 l0 11 7 fun v39 => gfR M5 l0 11 9 fun v43 => ck M5 v35 2 <| bv (f_X2_run M5 v35 v39 v43 l1) fun M47 => pfZ M47 l0 11 18 1 fun M52 => gfR M52 l0 11 16 fun v57 => gfI M52 v57 2 0 fun v60 => ck M52 l0 11 <| bd (f_X11_answer M52 l0 v60) fun v63 M63 => some (v63, M63)))
set_option maxHeartbeats 4000000 in
set_option maxRecDepth 100000 in
theorem t_X11_live_e {G : GG} {X : CX} {ans : Int32 × Mm} (he : EndI G X j_X11_live b_X11_live ans) {M : Mm} {l0 : Option Nat} {l1 : Int32} (h : f_X11_live M l0 l1 = some ans) : Wt G X j_X11_live b_X11_live 0 [(0, rf G.1 l0), (1, .int l1)] [] M 0 0 := by
  unfold f_X11_live at h
  refine wt_iload_n (pc := 0) 1 dX11_live_0 rfl ?_
  refine wt_iconst (pc := 1) (v := 0) dX11_live_1 (by decide) ?_
  refine wt_sipush (pc := 2) (v := 9999) dX11_live_2 (by decide) ?_
  refine wt_cSI (pc := 5) (J' := j_X11_within) (As := [.int l1, .int 0, .int 9999]) (st := []) (B' := b_X11_within) (u' := 0) (w' := 0) dX11_live_5 ml_X11_105 ms_X11_within (fun v9 M9 e9 => c_X11_within e9) rfl (by decide) rfl rfl (by decide) (by decide) (by decide) rfl h (fun v5 M5 h => ?_)
  refine wt_if_ne (pc := 8) (tgt := 17) dX11_live_8 (by decide) (fun q => ?_) (fun q => ?_)
  · have h := ite_f q h
    refine wt_aload_n (pc := 17) 0 dX11_live_17 rfl ?_
    refine wt_getR (pc := 18) dX11_live_18 fl_X11_47 (fun _ _ _ => rfl) h (fun v18 h => ?_)
    refine wt_getI (pc := 21) dX11_live_21 fl_X11_418 (fun _ _ _ => rfl) h (fun v21 h => ?_)
    refine wt_if_ne (pc := 24) (tgt := 34) dX11_live_24 (by decide) (fun q => ?_) (fun q => ?_)
    · have h := ite_f q h
      refine wt_aload_n (pc := 34) 0 dX11_live_34 rfl ?_
      refine wt_getR (pc := 35) dX11_live_35 fl_X11_75 (fun _ _ _ => rfl) h (fun v35 h => ?_)
      refine wt_aload_n (pc := 38) 0 dX11_live_38 rfl ?_
      refine wt_getR (pc := 39) dX11_live_39 fl_X11_37 (fun _ _ _ => rfl) h (fun v39 h => ?_)
      refine wt_aload_n (pc := 42) 0 dX11_live_42 rfl ?_
      refine wt_getR (pc := 43) dX11_live_43 fl_X11_47 (fun _ _ _ => rfl) h (fun v43 h => ?_)
      refine wt_iload_n (pc := 46) 1 dX11_live_46 rfl ?_
      refine wt_cVV (pc := 47) (J' := j_X2_run) (As := [rf G.1 v39, rf G.1 v43, .int l1]) (st := []) (B' := b_X2_run) (u' := 0) (w' := 0) dX11_live_47 ml_X11_421 mv_X2_run (fun M9 e9 => c_X2_run e9) rfl (by decide) rfl rfl (by decide) (by decide) (by decide) rfl h (fun M47 h => ?_)
      refine wt_aload_n (pc := 50) 0 dX11_live_50 rfl ?_
      refine wt_iconst (pc := 51) (v := 1) dX11_live_51 (by decide) ?_
      refine wt_putZ (pc := 52) dX11_live_52 fl_X11_425 rfl rfl h (fun M52 h => ?_)
      refine wt_aload_n (pc := 55) 0 dX11_live_55 rfl ?_
      refine wt_aload_n (pc := 56) 0 dX11_live_56 rfl ?_
      refine wt_getR (pc := 57) dX11_live_57 fl_X11_75 (fun _ _ _ => rfl) h (fun v57 h => ?_)
      refine wt_getI (pc := 60) dX11_live_60 fl_X11_428 (fun _ _ _ => rfl) h (fun v60 h => ?_)
      refine wt_cVI (pc := 63) (J' := j_X11_answer) (As := [.int v60]) (st := []) (B' := b_X11_answer) (u' := 0) (w' := 0) dX11_live_63 ml_X11_176 mv_X11_answer (fun v9 M9 e9 => c_X11_answer e9) rfl (by decide) rfl rfl (by decide) (by decide) (by decide) rfl h (fun v63 M63 h => ?_)
      cases h
      exact he 66 _ _ _ dX11_live_66 (by decide) (by decide)
    · have h := ite_t q h
      refine wt_aload_n (pc := 27) 0 dX11_live_27 rfl ?_
      refine wt_bipush (pc := 28) (v := 8) dX11_live_28 (by decide) ?_
      refine wt_cVI (pc := 30) (J' := j_X11_none) (As := [.int 8]) (st := []) (B' := b_X11_none) (u' := 0) (w' := 0) dX11_live_30 ml_X11_131 mv_X11_none (fun v9 M9 e9 => c_X11_none e9) rfl (by decide) rfl rfl (by decide) (by decide) (by decide) rfl h (fun v30 M30 h => ?_)
      cases h
      exact he 33 _ _ _ dX11_live_33 (by decide) (by decide)
  · have h := ite_t q h
    refine wt_aload_n (pc := 11) 0 dX11_live_11 rfl ?_
    refine wt_iconst (pc := 12) (v := 5) dX11_live_12 (by decide) ?_
    refine wt_cVI (pc := 13) (J' := j_X11_none) (As := [.int 5]) (st := []) (B' := b_X11_none) (u' := 0) (w' := 0) dX11_live_13 ml_X11_131 mv_X11_none (fun v9 M9 e9 => c_X11_none e9) rfl (by decide) rfl rfl (by decide) (by decide) (by decide) rfl h (fun v13 M13 h => ?_)
    cases h
    exact he 16 _ _ _ dX11_live_16 (by decide) (by decide)
set_option maxHeartbeats 4000000 in
set_option maxRecDepth 100000 in
theorem c_X11_live {G : GG} {M : Mm} {l0 : Option Nat} {l1 : Int32} {r : Int32 × Mm} (h : f_X11_live M l0 l1 = some r) (l : Launch) : Ct l G j_X11_live b_X11_live [rf G.1 l0, .int l1] M (some (.int r.1)) r.2 := cf_I (by decide +kernel) (by simp [lg_sl, rf_cat, cat_i, cat_l, j_X11_live]) rfl (by simp [lv_args, rf_cat, cat_i, cat_l]) (fun X he => t_X11_live_e he h)
def f_X11_lived (M : Mm) (l0 : Option Nat) (l1 : Int32) : Option (Int32 × Mm) := bd (f_X11_within M l1 0 4) fun v3 M3 => if v3 = 0 then (ck M3 l0 11 <| bd (f_X11_none M3 l0 5) fun v11 M11 => some (v11, M11)) else (gfI M3 l0 11 18 fun v16 => if v16 = 0 then (ck M3 l0 11 <| bd (f_X11_none M3 l0 8) fun v25 M25 => some (v25, M25)) else (if l1 = 0 then (gfR M3 l0 11 16 fun v62 => gfI M3 v62 2 1 fun v65 => ck M3 l0 11 <| bd (f_X11_answer M3 l0 v65) fun v68 M68 => some (v68, M68)) else if l1 = 1 then (gfR M3 l0 11 16 fun v74 => gfI M3 v74 2 2 fun v77 => ck M3 l0 11 <| bd (f_X11_answer M3 l0 v77) fun v80 M80 => some (v80, M80)) else if l1 = 2 then (gfR M3 l0 11 16 fun v86 => gfI M3 v86 2 3 fun v89 => ck M3 l0 11 <| bd (f_X11_answer M3 l0 v89) fun v92 M92 => some (v92, M92)) else if l1 = 3 then (gfR M3 l0 11 16 fun v98 => gfI M3 v98 2 4 fun v101 => ck M3 l0 11 <| bd (f_X11_answer M3 l0 v101) fun v104 M104 => some (v104, M104)) else (gfR M3 l0 11 16 fun v110 => gfI M3 v110 2 5 fun v113 => ck M3 l0 11 <| bd (f_X11_answer M3 l0 v113) fun v116 M116 => some (v116, M116))))
set_option maxHeartbeats 4000000 in
set_option maxRecDepth 100000 in
theorem t_X11_lived_e {G : GG} {X : CX} {ans : Int32 × Mm} (he : EndI G X j_X11_lived b_X11_lived ans) {M : Mm} {l0 : Option Nat} {l1 : Int32} (h : f_X11_lived M l0 l1 = some ans) : Wt G X j_X11_lived b_X11_lived 0 [(0, rf G.1 l0), (1, .int l1)] [] M 0 0 := by
  unfold f_X11_lived at h
  refine wt_iload_n (pc := 0) 1 dX11_lived_0 rfl ?_
  refine wt_iconst (pc := 1) (v := 0) dX11_lived_1 (by decide) ?_
  refine wt_iconst (pc := 2) (v := 4) dX11_lived_2 (by decide) ?_
  refine wt_cSI (pc := 3) (J' := j_X11_within) (As := [.int l1, .int 0, .int 4]) (st := []) (B' := b_X11_within) (u' := 0) (w' := 0) dX11_lived_3 ml_X11_105 ms_X11_within (fun v9 M9 e9 => c_X11_within e9) rfl (by decide) rfl rfl (by decide) (by decide) (by decide) rfl h (fun v3 M3 h => ?_)
  refine wt_if_ne (pc := 6) (tgt := 15) dX11_lived_6 (by decide) (fun q => ?_) (fun q => ?_)
  · have h := ite_f q h
    refine wt_aload_n (pc := 15) 0 dX11_lived_15 rfl ?_
    refine wt_getI (pc := 16) dX11_lived_16 fl_X11_425 (fun _ _ _ => rfl) h (fun v16 h => ?_)
    refine wt_if_ne (pc := 19) (tgt := 29) dX11_lived_19 (by decide) (fun q => ?_) (fun q => ?_)
    · have h := ite_f q h
      refine wt_iload_n (pc := 29) 1 dX11_lived_29 rfl ?_
      rcases Decidable.em (l1 = 0) with q30_0 | q30_0
      · have h := ite_t q30_0 h
        refine wt_tableIn (pc := 30) (off := 30) (tgt := 60) q30_0 dX11_lived_30 (by decide) (by decide) (by decide) (by decide) ?_
        refine wt_aload_n (pc := 60) 0 dX11_lived_60 rfl ?_
        refine wt_aload_n (pc := 61) 0 dX11_lived_61 rfl ?_
        refine wt_getR (pc := 62) dX11_lived_62 fl_X11_75 (fun _ _ _ => rfl) h (fun v62 h => ?_)
        refine wt_getI (pc := 65) dX11_lived_65 fl_X11_429 (fun _ _ _ => rfl) h (fun v65 h => ?_)
        refine wt_cVI (pc := 68) (J' := j_X11_answer) (As := [.int v65]) (st := []) (B' := b_X11_answer) (u' := 0) (w' := 0) dX11_lived_68 ml_X11_176 mv_X11_answer (fun v9 M9 e9 => c_X11_answer e9) rfl (by decide) rfl rfl (by decide) (by decide) (by decide) rfl h (fun v68 M68 h => ?_)
        cases h
        exact he 71 _ _ _ dX11_lived_71 (by decide) (by decide)
      have h := ite_f q30_0 h
      rcases Decidable.em (l1 = 1) with q30_1 | q30_1
      · have h := ite_t q30_1 h
        refine wt_tableIn (pc := 30) (off := 42) (tgt := 72) q30_1 dX11_lived_30 (by decide) (by decide) (by decide) (by decide) ?_
        refine wt_aload_n (pc := 72) 0 dX11_lived_72 rfl ?_
        refine wt_aload_n (pc := 73) 0 dX11_lived_73 rfl ?_
        refine wt_getR (pc := 74) dX11_lived_74 fl_X11_75 (fun _ _ _ => rfl) h (fun v74 h => ?_)
        refine wt_getI (pc := 77) dX11_lived_77 fl_X11_432 (fun _ _ _ => rfl) h (fun v77 h => ?_)
        refine wt_cVI (pc := 80) (J' := j_X11_answer) (As := [.int v77]) (st := []) (B' := b_X11_answer) (u' := 0) (w' := 0) dX11_lived_80 ml_X11_176 mv_X11_answer (fun v9 M9 e9 => c_X11_answer e9) rfl (by decide) rfl rfl (by decide) (by decide) (by decide) rfl h (fun v80 M80 h => ?_)
        cases h
        exact he 83 _ _ _ dX11_lived_83 (by decide) (by decide)
      have h := ite_f q30_1 h
      rcases Decidable.em (l1 = 2) with q30_2 | q30_2
      · have h := ite_t q30_2 h
        refine wt_tableIn (pc := 30) (off := 54) (tgt := 84) q30_2 dX11_lived_30 (by decide) (by decide) (by decide) (by decide) ?_
        refine wt_aload_n (pc := 84) 0 dX11_lived_84 rfl ?_
        refine wt_aload_n (pc := 85) 0 dX11_lived_85 rfl ?_
        refine wt_getR (pc := 86) dX11_lived_86 fl_X11_75 (fun _ _ _ => rfl) h (fun v86 h => ?_)
        refine wt_getI (pc := 89) dX11_lived_89 fl_X11_435 (fun _ _ _ => rfl) h (fun v89 h => ?_)
        refine wt_cVI (pc := 92) (J' := j_X11_answer) (As := [.int v89]) (st := []) (B' := b_X11_answer) (u' := 0) (w' := 0) dX11_lived_92 ml_X11_176 mv_X11_answer (fun v9 M9 e9 => c_X11_answer e9) rfl (by decide) rfl rfl (by decide) (by decide) (by decide) rfl h (fun v92 M92 h => ?_)
        cases h
        exact he 95 _ _ _ dX11_lived_95 (by decide) (by decide)
      have h := ite_f q30_2 h
      rcases Decidable.em (l1 = 3) with q30_3 | q30_3
      · have h := ite_t q30_3 h
        refine wt_tableIn (pc := 30) (off := 66) (tgt := 96) q30_3 dX11_lived_30 (by decide) (by decide) (by decide) (by decide) ?_
        refine wt_aload_n (pc := 96) 0 dX11_lived_96 rfl ?_
        refine wt_aload_n (pc := 97) 0 dX11_lived_97 rfl ?_
        refine wt_getR (pc := 98) dX11_lived_98 fl_X11_75 (fun _ _ _ => rfl) h (fun v98 h => ?_)
        refine wt_getI (pc := 101) dX11_lived_101 fl_X11_438 (fun _ _ _ => rfl) h (fun v101 h => ?_)
        refine wt_cVI (pc := 104) (J' := j_X11_answer) (As := [.int v101]) (st := []) (B' := b_X11_answer) (u' := 0) (w' := 0) dX11_lived_104 ml_X11_176 mv_X11_answer (fun v9 M9 e9 => c_X11_answer e9) rfl (by decide) rfl rfl (by decide) (by decide) (by decide) rfl h (fun v104 M104 h => ?_)
        cases h
        exact he 107 _ _ _ dX11_lived_107 (by decide) (by decide)
      have h := ite_f q30_3 h
      refine wt_tableOut (pc := 30) (tgt := 108) dX11_lived_30 (by have h9 := ts_out (x := l1) 0 4 (fun i hi => by match i, hi with | 0, _ => exact ts_ne (by decide) q30_0 | 1, _ => exact ts_ne (by decide) q30_1 | 2, _ => exact ts_ne (by decide) q30_2 | 3, _ => exact ts_ne (by decide) q30_3 | i + 4, hi => omega); omega) (by decide) ?_
      refine wt_aload_n (pc := 108) 0 dX11_lived_108 rfl ?_
      refine wt_aload_n (pc := 109) 0 dX11_lived_109 rfl ?_
      refine wt_getR (pc := 110) dX11_lived_110 fl_X11_75 (fun _ _ _ => rfl) h (fun v110 h => ?_)
      refine wt_getI (pc := 113) dX11_lived_113 fl_X11_441 (fun _ _ _ => rfl) h (fun v113 h => ?_)
      refine wt_cVI (pc := 116) (J' := j_X11_answer) (As := [.int v113]) (st := []) (B' := b_X11_answer) (u' := 0) (w' := 0) dX11_lived_116 ml_X11_176 mv_X11_answer (fun v9 M9 e9 => c_X11_answer e9) rfl (by decide) rfl rfl (by decide) (by decide) (by decide) rfl h (fun v116 M116 h => ?_)
      cases h
      exact he 119 _ _ _ dX11_lived_119 (by decide) (by decide)
    · have h := ite_t q h
      refine wt_aload_n (pc := 22) 0 dX11_lived_22 rfl ?_
      refine wt_bipush (pc := 23) (v := 8) dX11_lived_23 (by decide) ?_
      refine wt_cVI (pc := 25) (J' := j_X11_none) (As := [.int 8]) (st := []) (B' := b_X11_none) (u' := 0) (w' := 0) dX11_lived_25 ml_X11_131 mv_X11_none (fun v9 M9 e9 => c_X11_none e9) rfl (by decide) rfl rfl (by decide) (by decide) (by decide) rfl h (fun v25 M25 h => ?_)
      cases h
      exact he 28 _ _ _ dX11_lived_28 (by decide) (by decide)
  · have h := ite_t q h
    refine wt_aload_n (pc := 9) 0 dX11_lived_9 rfl ?_
    refine wt_iconst (pc := 10) (v := 5) dX11_lived_10 (by decide) ?_
    refine wt_cVI (pc := 11) (J' := j_X11_none) (As := [.int 5]) (st := []) (B' := b_X11_none) (u' := 0) (w' := 0) dX11_lived_11 ml_X11_131 mv_X11_none (fun v9 M9 e9 => c_X11_none e9) rfl (by decide) rfl rfl (by decide) (by decide) (by decide) rfl h (fun v11 M11 h => ?_)
    cases h
    exact he 14 _ _ _ dX11_lived_14 (by decide) (by decide)
set_option maxHeartbeats 4000000 in
set_option maxRecDepth 100000 in
theorem c_X11_lived {G : GG} {M : Mm} {l0 : Option Nat} {l1 : Int32} {r : Int32 × Mm} (h : f_X11_lived M l0 l1 = some r) (l : Launch) : Ct l G j_X11_lived b_X11_lived [rf G.1 l0, .int l1] M (some (.int r.1)) r.2 := cf_I (by decide +kernel) (by simp [lg_sl, rf_cat, cat_i, cat_l, j_X11_lived]) rfl (by simp [lv_args, rf_cat, cat_i, cat_l]) (fun X he => t_X11_lived_e he h)
def f_X11_mean_32 (M : Mm) (l0 : Option Nat) : Option (Int32 × Mm) := ck M l0 11 <| bd (f_X11_no M l0 5) fun v34 M34 => some (v34, M34)
def f_X11_mean_60 : Nat → Mm → Option Nat → Int32 → Int32 → Int32 → Int32 → Option (Int32 × Mm)
  | 0, _, _, _, _, _, _ => none
  | n + 1, M, l0, l1, l2, l3, l4 => if l2 ≤ l4 then (ck M l0 11 <| bd (f_X11_tellFraction M l0 (Int32.toInt64 l3) (Int32.toInt64 l2)) fun v124 M124 => some (v124, M124)) else (gfR M l0 11 8 fun v67 => gfR M l0 11 7 fun v71 => ck M v67 4 <| bv (f_X4_copyFrom M v67 v71) fun M74 => gfR M74 l0 11 17 fun v78 => gfR M74 l0 11 8 fun v82 => gfR M74 l0 11 9 fun v86 => ck M74 v78 2 <| bv (f_X2_run M74 v78 v82 v86 (l1 + l4)) fun M93 => gfR M93 l0 11 8 fun v98 => gfR M93 l0 11 8 fun v102 => ck M93 v102 4 <| bd (f_X4_standingSet M93 v102) fun v105 M105 => ck M105 v98 4 <| bd (f_X4_worthOf M105 v98 v105) fun v108 M108 => nmI (l3 + v108) fun x112 => f_X11_mean_60 n M108 l0 l1 l2 x112 (l4 + 1))
def g_X11_mean (M : Mm) (l0 : Option Nat) (l1 : Int32) (l2 : Int32) : Option (Int32 × Mm) := bd (f_X11_within M l1 0 9999) fun v5 M5 => if v5 = 0 then (f_X11_mean_32  M5 l0) else (bd (f_X11_within M5 l2 1 20) fun v15 M15 => if v15 = 0 then (f_X11_mean_32  M15 l0) else (if ((l1 + l2) - 1) ≤ 9999 then (gfR M15 l0 11 9 fun v39 => gfI M15 v39 9 0 fun v42 => if v42 = 0 then (ck M15 l0 11 <| bd (f_X11_no M15 l0 8) fun v51 M51 => some (v51, M51)) else (f_X11_mean_60  fu M15 l0 l1 l2 0 0)) else (f_X11_mean_32  M15 l0)))
def f_X11_mean (M : Mm) (l0 : Option Nat) (l1 : Int32) (l2 : Int32) : Option (Int32 × Mm) := zc (g_X11_mean M l0 l1 l2)
set_option maxHeartbeats 4000000 in
set_option maxRecDepth 100000 in
theorem t_X11_mean_32 {G : GG} {X : CX} {ans : Int32 × Mm} (he : EndI G X j_X11_mean b_X11_mean ans) {M : Mm} {l0 : Option Nat} (h : f_X11_mean_32 M l0 = some ans) : Wt G X j_X11_mean b_X11_mean 32 [(0, rf G.1 l0)] [] M 0 0 := by
  unfold f_X11_mean_32 at h
  refine wt_aload_n (pc := 32) 0 dX11_mean_32 rfl ?_
  refine wt_iconst (pc := 33) (v := 5) dX11_mean_33 (by decide) ?_
  refine wt_cVI (pc := 34) (J' := j_X11_no) (As := [.int 5]) (st := []) (B' := b_X11_no) (u' := 0) (w' := 0) dX11_mean_34 ml_X11_116 mv_X11_no (fun v9 M9 e9 => c_X11_no e9) rfl (by decide) rfl rfl (by decide) (by decide) (by decide) rfl h (fun v34 M34 h => ?_)
  cases h
  exact he 37 _ _ _ dX11_mean_37 (by decide) (by decide)
set_option maxHeartbeats 4000000 in
set_option maxRecDepth 100000 in
theorem t_X11_mean_60 {G : GG} {X : CX} {ans : Int32 × Mm} (he : EndI G X j_X11_mean b_X11_mean ans) : ∀ (n : Nat) {M : Mm} {l0 : Option Nat} {l1 : Int32} {l2 : Int32} {l3 : Int32} {l4 : Int32}, f_X11_mean_60 n M l0 l1 l2 l3 l4 = some ans → Wt G X j_X11_mean b_X11_mean 60 [(0, rf G.1 l0), (1, .int l1), (2, .int l2), (3, .int l3), (4, .int l4)] [] M 0 0 := by
  intro n
  induction n with
  | zero =>
    intro M l0 l1 l2 l3 l4 h
    rw [f_X11_mean_60] at h
    cases h
  | succ n ih =>
    intro M l0 l1 l2 l3 l4 h
    rw [f_X11_mean_60] at h
    refine wt_iload (pc := 60) 4 dX11_mean_60 rfl ?_
    refine wt_iload_n (pc := 62) 2 dX11_mean_62 rfl ?_
    refine wt_icmp_ge (pc := 63) (tgt := 119) dX11_mean_63 (by decide) (fun q => ?_) (fun q => ?_)
    · have h := ite_t q h
      refine wt_aload_n (pc := 119) 0 dX11_mean_119 rfl ?_
      refine wt_iload_n (pc := 120) 3 dX11_mean_120 rfl ?_
      refine wt_i2l (pc := 121) dX11_mean_121 ?_
      refine wt_iload_n (pc := 122) 2 dX11_mean_122 rfl ?_
      refine wt_i2l (pc := 123) dX11_mean_123 ?_
      refine wt_cVI (pc := 124) (J' := j_X11_tellFraction) (As := [.long (Int32.toInt64 l3), .long (Int32.toInt64 l2)]) (st := []) (B' := b_X11_tellFraction) (u' := 0) (w' := 0) dX11_mean_124 ml_X11_328 mv_X11_tellFraction (fun v9 M9 e9 => c_X11_tellFraction e9) rfl (by decide) rfl rfl (by decide) (by decide) (by decide) rfl h (fun v124 M124 h => ?_)
      cases h
      exact he 127 _ _ _ dX11_mean_127 (by decide) (by decide)
    · have h := ite_f q h
      refine wt_aload_n (pc := 66) 0 dX11_mean_66 rfl ?_
      refine wt_getR (pc := 67) dX11_mean_67 fl_X11_41 (fun _ _ _ => rfl) h (fun v67 h => ?_)
      refine wt_aload_n (pc := 70) 0 dX11_mean_70 rfl ?_
      refine wt_getR (pc := 71) dX11_mean_71 fl_X11_37 (fun _ _ _ => rfl) h (fun v71 h => ?_)
      refine wt_cVV (pc := 74) (J' := j_X4_copyFrom) (As := [rf G.1 v71]) (st := []) (B' := b_X4_copyFrom) (u' := 0) (w' := 0) dX11_mean_74 ml_X11_335 mv_X4_copyFrom (fun M9 e9 => c_X4_copyFrom e9) rfl (by decide) rfl rfl (by decide) (by decide) (by decide) rfl h (fun M74 h => ?_)
      refine wt_aload_n (pc := 77) 0 dX11_mean_77 rfl ?_
      refine wt_getR (pc := 78) dX11_mean_78 fl_X11_79 (fun _ _ _ => rfl) h (fun v78 h => ?_)
      refine wt_aload_n (pc := 81) 0 dX11_mean_81 rfl ?_
      refine wt_getR (pc := 82) dX11_mean_82 fl_X11_41 (fun _ _ _ => rfl) h (fun v82 h => ?_)
      refine wt_aload_n (pc := 85) 0 dX11_mean_85 rfl ?_
      refine wt_getR (pc := 86) dX11_mean_86 fl_X11_47 (fun _ _ _ => rfl) h (fun v86 h => ?_)
      refine wt_iload_n (pc := 89) 1 dX11_mean_89 rfl ?_
      refine wt_iload (pc := 90) 4 dX11_mean_90 rfl ?_
      refine wt_iadd (pc := 92) dX11_mean_92 ?_
      refine wt_cVV (pc := 93) (J' := j_X2_run) (As := [rf G.1 v82, rf G.1 v86, .int (l1 + l4)]) (st := []) (B' := b_X2_run) (u' := 0) (w' := 0) dX11_mean_93 ml_X11_421 mv_X2_run (fun M9 e9 => c_X2_run e9) rfl (by decide) rfl rfl (by decide) (by decide) (by decide) rfl h (fun M93 h => ?_)
      refine wt_iload_n (pc := 96) 3 dX11_mean_96 rfl ?_
      refine wt_aload_n (pc := 97) 0 dX11_mean_97 rfl ?_
      refine wt_getR (pc := 98) dX11_mean_98 fl_X11_41 (fun _ _ _ => rfl) h (fun v98 h => ?_)
      refine wt_aload_n (pc := 101) 0 dX11_mean_101 rfl ?_
      refine wt_getR (pc := 102) dX11_mean_102 fl_X11_41 (fun _ _ _ => rfl) h (fun v102 h => ?_)
      refine wt_cVI (pc := 105) (J' := j_X4_standingSet) (As := []) (st := [rf G.1 v98, .int l3]) (B' := b_X4_standingSet) (u' := 0) (w' := 0) dX11_mean_105 ml_X11_203 mv_X4_standingSet (fun v9 M9 e9 => c_X4_standingSet e9) rfl (by decide) rfl rfl (by decide) (by decide) (by simp [rf_cat, cat_i, cat_l, cat_r]) rfl h (fun v105 M105 h => ?_)
      refine wt_cVI (pc := 108) (J' := j_X4_worthOf) (As := [.int v105]) (st := [.int l3]) (B' := b_X4_worthOf) (u' := 0) (w' := 0) dX11_mean_108 ml_X11_210 mv_X4_worthOf (fun v9 M9 e9 => c_X4_worthOf e9) rfl (by decide) rfl rfl (by decide) (by decide) (by simp [rf_cat, cat_i, cat_l, cat_r]) rfl h (fun v108 M108 h => ?_)
      refine wt_iadd (pc := 111) dX11_mean_111 ?_
      refine wt_nmI h (fun x112 h => ?_)
      refine wt_istore_n (pc := 112) (i := 3) (ls' := [(3, .int x112), (0, rf G.1 l0), (1, .int l1), (2, .int l2), (4, .int l4)]) rfl dX11_mean_112 (by decide) rfl ?_
      refine wt_iinc (pc := 113) (d := 1) (ls' := [(4, .int (l4 + 1)), (3, .int x112), (0, rf G.1 l0), (1, .int l1), (2, .int l2)]) 4 dX11_mean_113 rfl (by decide) (by decide) rfl ?_
      refine wt_goto (pc := 116) (tgt := 60) dX11_mean_116 (by decide) ?_
      refine wt_sub (ls' := [(0, rf G.1 l0), (1, .int l1), (2, .int l2), (3, .int x112), (4, .int (l4 + 1))]) [2, 3, 4, 1, 0] rfl ?_
      exact ih h
set_option maxHeartbeats 4000000 in
set_option maxRecDepth 100000 in
theorem t_X11_mean_e {G : GG} {X : CX} {ans : Int32 × Mm} (he : EndI G X j_X11_mean b_X11_mean ans) {M : Mm} {l0 : Option Nat} {l1 : Int32} {l2 : Int32} (h : g_X11_mean M l0 l1 l2 = some ans) : Wt G X j_X11_mean b_X11_mean 0 [(0, rf G.1 l0), (1, .int l1), (2, .int l2)] [] M 0 0 := by
  unfold g_X11_mean at h
  refine wt_iload_n (pc := 0) 1 dX11_mean_0 rfl ?_
  refine wt_iconst (pc := 1) (v := 0) dX11_mean_1 (by decide) ?_
  refine wt_sipush (pc := 2) (v := 9999) dX11_mean_2 (by decide) ?_
  refine wt_cSI (pc := 5) (J' := j_X11_within) (As := [.int l1, .int 0, .int 9999]) (st := []) (B' := b_X11_within) (u' := 0) (w' := 0) dX11_mean_5 ml_X11_105 ms_X11_within (fun v9 M9 e9 => c_X11_within e9) rfl (by decide) rfl rfl (by decide) (by decide) (by decide) rfl h (fun v5 M5 h => ?_)
  refine wt_if_eq (pc := 8) (tgt := 32) dX11_mean_8 (by decide) (fun q => ?_) (fun q => ?_)
  · have h := ite_t q h
    refine wt_sub (ls' := [(0, rf G.1 l0)]) [0] rfl ?_
    exact t_X11_mean_32 he  h
  · have h := ite_f q h
    refine wt_iload_n (pc := 11) 2 dX11_mean_11 rfl ?_
    refine wt_iconst (pc := 12) (v := 1) dX11_mean_12 (by decide) ?_
    refine wt_bipush (pc := 13) (v := 20) dX11_mean_13 (by decide) ?_
    refine wt_cSI (pc := 15) (J' := j_X11_within) (As := [.int l2, .int 1, .int 20]) (st := []) (B' := b_X11_within) (u' := 0) (w' := 0) dX11_mean_15 ml_X11_105 ms_X11_within (fun v9 M9 e9 => c_X11_within e9) rfl (by decide) rfl rfl (by decide) (by decide) (by decide) rfl h (fun v15 M15 h => ?_)
    refine wt_if_eq (pc := 18) (tgt := 32) dX11_mean_18 (by decide) (fun q => ?_) (fun q => ?_)
    · have h := ite_t q h
      refine wt_sub (ls' := [(0, rf G.1 l0)]) [0] rfl ?_
      exact t_X11_mean_32 he  h
    · have h := ite_f q h
      refine wt_iload_n (pc := 21) 1 dX11_mean_21 rfl ?_
      refine wt_iload_n (pc := 22) 2 dX11_mean_22 rfl ?_
      refine wt_iadd (pc := 23) dX11_mean_23 ?_
      refine wt_iconst (pc := 24) (v := 1) dX11_mean_24 (by decide) ?_
      refine wt_isub (pc := 25) dX11_mean_25 ?_
      refine wt_sipush (pc := 26) (v := 9999) dX11_mean_26 (by decide) ?_
      refine wt_icmp_le (pc := 29) (tgt := 38) dX11_mean_29 (by decide) (fun q => ?_) (fun q => ?_)
      · have h := ite_t q h
        refine wt_aload_n (pc := 38) 0 dX11_mean_38 rfl ?_
        refine wt_getR (pc := 39) dX11_mean_39 fl_X11_47 (fun _ _ _ => rfl) h (fun v39 h => ?_)
        refine wt_getI (pc := 42) dX11_mean_42 fl_X11_418 (fun _ _ _ => rfl) h (fun v42 h => ?_)
        refine wt_if_ne (pc := 45) (tgt := 55) dX11_mean_45 (by decide) (fun q => ?_) (fun q => ?_)
        · have h := ite_f q h
          refine wt_iconst (pc := 55) (v := 0) dX11_mean_55 (by decide) ?_
          refine wt_istore_n (pc := 56) (i := 3) (ls' := [(3, .int 0), (0, rf G.1 l0), (1, .int l1), (2, .int l2)]) rfl dX11_mean_56 (by decide) rfl ?_
          refine wt_iconst (pc := 57) (v := 0) dX11_mean_57 (by decide) ?_
          refine wt_istore (pc := 58) (i := 4) (ls' := [(4, .int 0), (3, .int 0), (0, rf G.1 l0), (1, .int l1), (2, .int l2)]) dX11_mean_58 (by decide) rfl ?_
          refine wt_sub (ls' := [(0, rf G.1 l0), (1, .int l1), (2, .int l2), (3, .int 0), (4, .int 0)]) [2, 3, 4, 1, 0] rfl ?_
          exact t_X11_mean_60 he  fu h
        · have h := ite_t q h
          refine wt_aload_n (pc := 48) 0 dX11_mean_48 rfl ?_
          refine wt_bipush (pc := 49) (v := 8) dX11_mean_49 (by decide) ?_
          refine wt_cVI (pc := 51) (J' := j_X11_no) (As := [.int 8]) (st := []) (B' := b_X11_no) (u' := 0) (w' := 0) dX11_mean_51 ml_X11_116 mv_X11_no (fun v9 M9 e9 => c_X11_no e9) rfl (by decide) rfl rfl (by decide) (by decide) (by decide) rfl h (fun v51 M51 h => ?_)
          cases h
          exact he 54 _ _ _ dX11_mean_54 (by decide) (by decide)
      · have h := ite_f q h
        refine wt_sub (ls' := [(0, rf G.1 l0)]) [0] rfl ?_
        exact t_X11_mean_32 he  h
set_option maxHeartbeats 4000000 in
set_option maxRecDepth 100000 in
theorem c_X11_mean {G : GG} {M : Mm} {l0 : Option Nat} {l1 : Int32} {l2 : Int32} {r : Int32 × Mm} (h : f_X11_mean M l0 l1 l2 = some r) (l : Launch) : Ct l G j_X11_mean b_X11_mean [rf G.1 l0, .int l1, .int l2] M (some (.int r.1)) r.2 := cf_Z h (by decide +kernel) (by simp [lg_sl, rf_cat, cat_i, cat_l, j_X11_mean]) rfl (by simp [lv_args, rf_cat, cat_i, cat_l]) (fun h X he => t_X11_mean_e he h)
def f_X11_mark (M : Mm) (l0 : Option Nat) : Option (Int32 × Mm) := gfI M l0 11 13 fun v1 => if v1 < 3 then (gfR M l0 11 11 fun v16 => gfI M l0 11 13 fun v20 => alR M v16 34 v20 fun v23 => gfR M l0 11 7 fun v25 => ck M v23 4 <| bv (f_X4_copyFrom M v23 v25) fun M28 => gfR M28 l0 11 12 fun v32 => gfI M28 l0 11 13 fun v36 => alR M28 v32 39 v36 fun v39 => gfR M28 l0 11 9 fun v41 => ck M28 v39 9 <| bv (f_X9_copyFrom M28 v39 v41) fun M44 => gfI M44 l0 11 13 fun v49 => pfI M44 l0 11 13 (v49 + 1) fun M54 => gfI M54 l0 11 13 fun v59 => ck M54 l0 11 <| bd (f_X11_answer M54 l0 v59) fun v62 M62 => some (v62, M62)) else (ck M l0 11 <| bd (f_X11_none M l0 7) fun v11 M11 => some (v11, M11))
set_option maxHeartbeats 4000000 in
set_option maxRecDepth 100000 in
theorem t_X11_mark_e {G : GG} {X : CX} {ans : Int32 × Mm} (he : EndI G X j_X11_mark b_X11_mark ans) {M : Mm} {l0 : Option Nat} (h : f_X11_mark M l0 = some ans) : Wt G X j_X11_mark b_X11_mark 0 [(0, rf G.1 l0)] [] M 0 0 := by
  unfold f_X11_mark at h
  refine wt_aload_n (pc := 0) 0 dX11_mark_0 rfl ?_
  refine wt_getI (pc := 1) dX11_mark_1 fl_X11_444 (fun _ _ _ => rfl) h (fun v1 h => ?_)
  refine wt_iconst (pc := 4) (v := 3) dX11_mark_4 (by decide) ?_
  refine wt_icmp_lt (pc := 5) (tgt := 15) dX11_mark_5 (by decide) (fun q => ?_) (fun q => ?_)
  · have h := ite_t q h
    refine wt_aload_n (pc := 15) 0 dX11_mark_15 rfl ?_
    refine wt_getR (pc := 16) dX11_mark_16 fl_X11_54 (fun _ _ _ => rfl) h (fun v16 h => ?_)
    refine wt_aload_n (pc := 19) 0 dX11_mark_19 rfl ?_
    refine wt_getI (pc := 20) dX11_mark_20 fl_X11_444 (fun _ _ _ => rfl) h (fun v20 h => ?_)
    refine wt_aaload (pc := 23) (kd := 34) dX11_mark_23 rfl rfl (by decide) h (fun v23 h => ?_)
    refine wt_aload_n (pc := 24) 0 dX11_mark_24 rfl ?_
    refine wt_getR (pc := 25) dX11_mark_25 fl_X11_37 (fun _ _ _ => rfl) h (fun v25 h => ?_)
    refine wt_cVV (pc := 28) (J' := j_X4_copyFrom) (As := [rf G.1 v25]) (st := []) (B' := b_X4_copyFrom) (u' := 0) (w' := 0) dX11_mark_28 ml_X11_335 mv_X4_copyFrom (fun M9 e9 => c_X4_copyFrom e9) rfl (by decide) rfl rfl (by decide) (by decide) (by decide) rfl h (fun M28 h => ?_)
    refine wt_aload_n (pc := 31) 0 dX11_mark_31 rfl ?_
    refine wt_getR (pc := 32) dX11_mark_32 fl_X11_58 (fun _ _ _ => rfl) h (fun v32 h => ?_)
    refine wt_aload_n (pc := 35) 0 dX11_mark_35 rfl ?_
    refine wt_getI (pc := 36) dX11_mark_36 fl_X11_444 (fun _ _ _ => rfl) h (fun v36 h => ?_)
    refine wt_aaload (pc := 39) (kd := 39) dX11_mark_39 rfl rfl (by decide) h (fun v39 h => ?_)
    refine wt_aload_n (pc := 40) 0 dX11_mark_40 rfl ?_
    refine wt_getR (pc := 41) dX11_mark_41 fl_X11_47 (fun _ _ _ => rfl) h (fun v41 h => ?_)
    refine wt_cVV (pc := 44) (J' := j_X9_copyFrom) (As := [rf G.1 v41]) (st := []) (B' := b_X9_copyFrom) (u' := 0) (w' := 0) dX11_mark_44 ml_X11_447 mv_X9_copyFrom (fun M9 e9 => c_X9_copyFrom e9) rfl (by decide) rfl rfl (by decide) (by decide) (by decide) rfl h (fun M44 h => ?_)
    refine wt_aload_n (pc := 47) 0 dX11_mark_47 rfl ?_
    refine wt_dup (pc := 48) dX11_mark_48 (rf_cat _ _) ?_
    refine wt_getI (pc := 49) dX11_mark_49 fl_X11_444 (fun _ _ _ => rfl) h (fun v49 h => ?_)
    refine wt_iconst (pc := 52) (v := 1) dX11_mark_52 (by decide) ?_
    refine wt_iadd (pc := 53) dX11_mark_53 ?_
    refine wt_putI (pc := 54) dX11_mark_54 fl_X11_444 rfl rfl h (fun M54 h => ?_)
    refine wt_aload_n (pc := 57) 0 dX11_mark_57 rfl ?_
    refine wt_aload_n (pc := 58) 0 dX11_mark_58 rfl ?_
    refine wt_getI (pc := 59) dX11_mark_59 fl_X11_444 (fun _ _ _ => rfl) h (fun v59 h => ?_)
    refine wt_cVI (pc := 62) (J' := j_X11_answer) (As := [.int v59]) (st := []) (B' := b_X11_answer) (u' := 0) (w' := 0) dX11_mark_62 ml_X11_176 mv_X11_answer (fun v9 M9 e9 => c_X11_answer e9) rfl (by decide) rfl rfl (by decide) (by decide) (by decide) rfl h (fun v62 M62 h => ?_)
    cases h
    exact he 65 _ _ _ dX11_mark_65 (by decide) (by decide)
  · have h := ite_f q h
    refine wt_aload_n (pc := 8) 0 dX11_mark_8 rfl ?_
    refine wt_bipush (pc := 9) (v := 7) dX11_mark_9 (by decide) ?_
    refine wt_cVI (pc := 11) (J' := j_X11_none) (As := [.int 7]) (st := []) (B' := b_X11_none) (u' := 0) (w' := 0) dX11_mark_11 ml_X11_131 mv_X11_none (fun v9 M9 e9 => c_X11_none e9) rfl (by decide) rfl rfl (by decide) (by decide) (by decide) rfl h (fun v11 M11 h => ?_)
    cases h
    exact he 14 _ _ _ dX11_mark_14 (by decide) (by decide)
set_option maxHeartbeats 4000000 in
set_option maxRecDepth 100000 in
theorem c_X11_mark {G : GG} {M : Mm} {l0 : Option Nat} {r : Int32 × Mm} (h : f_X11_mark M l0 = some r) (l : Launch) : Ct l G j_X11_mark b_X11_mark [rf G.1 l0] M (some (.int r.1)) r.2 := cf_I (by decide +kernel) (by simp [lg_sl, rf_cat, cat_i, cat_l, j_X11_mark]) rfl (by simp [lv_args, rf_cat, cat_i, cat_l]) (fun X he => t_X11_mark_e he h)
def f_X11_back (M : Mm) (l0 : Option Nat) : Option (Int32 × Mm) := gfI M l0 11 13 fun v1 => if 0 < v1 then (gfI M l0 11 13 fun v16 => pfI M l0 11 13 (v16 - 1) fun M21 => gfR M21 l0 11 7 fun v25 => gfR M21 l0 11 11 fun v29 => gfI M21 l0 11 13 fun v33 => alR M21 v29 34 v33 fun v36 => ck M21 v25 4 <| bv (f_X4_copyFrom M21 v25 v36) fun M37 => gfR M37 l0 11 9 fun v41 => gfR M37 l0 11 12 fun v45 => gfI M37 l0 11 13 fun v49 => alR M37 v45 39 v49 fun v52 => ck M37 v41 9 <| bv (f_X9_copyFrom M37 v41 v52) fun M53 => gfI M53 l0 11 13 fun v58 => ck M53 l0 11 <| bd (f_X11_answer M53 l0 v58) fun v61 M61 => some (v61, M61)) else (ck M l0 11 <| bd (f_X11_none M l0 8) fun v10 M10 => some (v10, M10))
set_option maxHeartbeats 4000000 in
set_option maxRecDepth 100000 in
theorem t_X11_back_e {G : GG} {X : CX} {ans : Int32 × Mm} (he : EndI G X j_X11_back b_X11_back ans) {M : Mm} {l0 : Option Nat} (h : f_X11_back M l0 = some ans) : Wt G X j_X11_back b_X11_back 0 [(0, rf G.1 l0)] [] M 0 0 := by
  unfold f_X11_back at h
  refine wt_aload_n (pc := 0) 0 dX11_back_0 rfl ?_
  refine wt_getI (pc := 1) dX11_back_1 fl_X11_444 (fun _ _ _ => rfl) h (fun v1 h => ?_)
  refine wt_if_gt (pc := 4) (tgt := 14) dX11_back_4 (by decide) (fun q => ?_) (fun q => ?_)
  · have h := ite_t q h
    refine wt_aload_n (pc := 14) 0 dX11_back_14 rfl ?_
    refine wt_dup (pc := 15) dX11_back_15 (rf_cat _ _) ?_
    refine wt_getI (pc := 16) dX11_back_16 fl_X11_444 (fun _ _ _ => rfl) h (fun v16 h => ?_)
    refine wt_iconst (pc := 19) (v := 1) dX11_back_19 (by decide) ?_
    refine wt_isub (pc := 20) dX11_back_20 ?_
    refine wt_putI (pc := 21) dX11_back_21 fl_X11_444 rfl rfl h (fun M21 h => ?_)
    refine wt_aload_n (pc := 24) 0 dX11_back_24 rfl ?_
    refine wt_getR (pc := 25) dX11_back_25 fl_X11_37 (fun _ _ _ => rfl) h (fun v25 h => ?_)
    refine wt_aload_n (pc := 28) 0 dX11_back_28 rfl ?_
    refine wt_getR (pc := 29) dX11_back_29 fl_X11_54 (fun _ _ _ => rfl) h (fun v29 h => ?_)
    refine wt_aload_n (pc := 32) 0 dX11_back_32 rfl ?_
    refine wt_getI (pc := 33) dX11_back_33 fl_X11_444 (fun _ _ _ => rfl) h (fun v33 h => ?_)
    refine wt_aaload (pc := 36) (kd := 34) dX11_back_36 rfl rfl (by decide) h (fun v36 h => ?_)
    refine wt_cVV (pc := 37) (J' := j_X4_copyFrom) (As := [rf G.1 v36]) (st := []) (B' := b_X4_copyFrom) (u' := 0) (w' := 0) dX11_back_37 ml_X11_335 mv_X4_copyFrom (fun M9 e9 => c_X4_copyFrom e9) rfl (by decide) rfl rfl (by decide) (by decide) (by decide) rfl h (fun M37 h => ?_)
    refine wt_aload_n (pc := 40) 0 dX11_back_40 rfl ?_
    refine wt_getR (pc := 41) dX11_back_41 fl_X11_47 (fun _ _ _ => rfl) h (fun v41 h => ?_)
    refine wt_aload_n (pc := 44) 0 dX11_back_44 rfl ?_
    refine wt_getR (pc := 45) dX11_back_45 fl_X11_58 (fun _ _ _ => rfl) h (fun v45 h => ?_)
    refine wt_aload_n (pc := 48) 0 dX11_back_48 rfl ?_
    refine wt_getI (pc := 49) dX11_back_49 fl_X11_444 (fun _ _ _ => rfl) h (fun v49 h => ?_)
    refine wt_aaload (pc := 52) (kd := 39) dX11_back_52 rfl rfl (by decide) h (fun v52 h => ?_)
    refine wt_cVV (pc := 53) (J' := j_X9_copyFrom) (As := [rf G.1 v52]) (st := []) (B' := b_X9_copyFrom) (u' := 0) (w' := 0) dX11_back_53 ml_X11_447 mv_X9_copyFrom (fun M9 e9 => c_X9_copyFrom e9) rfl (by decide) rfl rfl (by decide) (by decide) (by decide) rfl h (fun M53 h => ?_)
    refine wt_aload_n (pc := 56) 0 dX11_back_56 rfl ?_
    refine wt_aload_n (pc := 57) 0 dX11_back_57 rfl ?_
    refine wt_getI (pc := 58) dX11_back_58 fl_X11_444 (fun _ _ _ => rfl) h (fun v58 h => ?_)
    refine wt_cVI (pc := 61) (J' := j_X11_answer) (As := [.int v58]) (st := []) (B' := b_X11_answer) (u' := 0) (w' := 0) dX11_back_61 ml_X11_176 mv_X11_answer (fun v9 M9 e9 => c_X11_answer e9) rfl (by decide) rfl rfl (by decide) (by decide) (by decide) rfl h (fun v61 M61 h => ?_)
    cases h
    exact he 64 _ _ _ dX11_back_64 (by decide) (by decide)
  · have h := ite_f q h
    refine wt_aload_n (pc := 7) 0 dX11_back_7 rfl ?_
    refine wt_bipush (pc := 8) (v := 8) dX11_back_8 (by decide) ?_
    refine wt_cVI (pc := 10) (J' := j_X11_none) (As := [.int 8]) (st := []) (B' := b_X11_none) (u' := 0) (w' := 0) dX11_back_10 ml_X11_131 mv_X11_none (fun v9 M9 e9 => c_X11_none e9) rfl (by decide) rfl rfl (by decide) (by decide) (by decide) rfl h (fun v10 M10 h => ?_)
    cases h
    exact he 13 _ _ _ dX11_back_13 (by decide) (by decide)
set_option maxHeartbeats 4000000 in
set_option maxRecDepth 100000 in
theorem c_X11_back {G : GG} {M : Mm} {l0 : Option Nat} {r : Int32 × Mm} (h : f_X11_back M l0 = some r) (l : Launch) : Ct l G j_X11_back b_X11_back [rf G.1 l0] M (some (.int r.1)) r.2 := cf_I (by decide +kernel) (by simp [lg_sl, rf_cat, cat_i, cat_l, j_X11_back]) rfl (by simp [lv_args, rf_cat, cat_i, cat_l]) (fun X he => t_X11_back_e he h)

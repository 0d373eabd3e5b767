theorem dX12_next__0 : decode cX12_next_ 0 = .ok (.aload_n 0, 1) := by decide +kernel
theorem dX12_next__1 : decode cX12_next_ 1 = .ok (.iconst 0, 1) := by decide +kernel
theorem dX12_next__2 : decode cX12_next_ 2 = .ok (.putfield 68, 3) := by decide +kernel
theorem dX12_next__5 : decode cX12_next_ 5 = .ok (.aload_n 0, 1) := by decide +kernel
theorem dX12_next__6 : decode cX12_next_ 6 = .ok (.iconst 0, 1) := by decide +kernel
theorem dX12_next__7 : decode cX12_next_ 7 = .ok (.putfield 71, 3) := by decide +kernel
theorem dX12_next__10 : decode cX12_next_ 10 = .ok (.aload_n 0, 1) := by decide +kernel
theorem dX12_next__11 : decode cX12_next_ 11 = .ok (.iload_n 1, 1) := by decide +kernel
theorem dX12_next__12 : decode cX12_next_ 12 = .ok (.invokevirtual 352, 3) := by decide +kernel
theorem dX12_next__15 : decode cX12_next_ 15 = .ok (.ifCond .ne 9, 3) := by decide +kernel
theorem dX12_next__18 : decode cX12_next_ 18 = .ok (.aload_n 0, 1) := by decide +kernel
theorem dX12_next__19 : decode cX12_next_ 19 = .ok (.iconst 2, 1) := by decide +kernel
theorem dX12_next__20 : decode cX12_next_ 20 = .ok (.invokevirtual 331, 3) := by decide +kernel
theorem dX12_next__23 : decode cX12_next_ 23 = .ok (.ireturn, 1) := by decide +kernel
theorem dX12_next__24 : decode cX12_next_ 24 = .ok (.aload_n 0, 1) := by decide +kernel
theorem dX12_next__25 : decode cX12_next_ 25 = .ok (.getfield 35, 3) := by decide +kernel
theorem dX12_next__28 : decode cX12_next_ 28 = .ok (.sipush 149, 3) := by decide +kernel
theorem dX12_next__31 : decode cX12_next_ 31 = .ok (.iload_n 1, 1) := by decide +kernel
theorem dX12_next__32 : decode cX12_next_ 32 = .ok (.iadd, 1) := by decide +kernel
theorem dX12_next__33 : decode cX12_next_ 33 = .ok (.iaload, 1) := by decide +kernel
theorem dX12_next__34 : decode cX12_next_ 34 = .ok (.ifCond .lt 10, 3) := by decide +kernel
theorem dX12_next__37 : decode cX12_next_ 37 = .ok (.aload_n 0, 1) := by decide +kernel
theorem dX12_next__38 : decode cX12_next_ 38 = .ok (.bipush 9, 2) := by decide +kernel
theorem dX12_next__40 : decode cX12_next_ 40 = .ok (.invokevirtual 331, 3) := by decide +kernel
theorem dX12_next__43 : decode cX12_next_ 43 = .ok (.ireturn, 1) := by decide +kernel
theorem dX12_next__44 : decode cX12_next_ 44 = .ok (.aload_n 0, 1) := by decide +kernel
theorem dX12_next__45 : decode cX12_next_ 45 = .ok (.iload_n 1, 1) := by decide +kernel
theorem dX12_next__46 : decode cX12_next_ 46 = .ok (.invokevirtual 372, 3) := by decide +kernel
theorem dX12_next__49 : decode cX12_next_ 49 = .ok (.istore_n 2, 1) := by decide +kernel
theorem dX12_next__50 : decode cX12_next_ 50 = .ok (.iload_n 2, 1) := by decide +kernel
theorem dX12_next__51 : decode cX12_next_ 51 = .ok (.ifCond .ge 12, 3) := by decide +kernel
theorem dX12_next__54 : decode cX12_next_ 54 = .ok (.aload_n 0, 1) := by decide +kernel
theorem dX12_next__55 : decode cX12_next_ 55 = .ok (.bipush 8, 2) := by decide +kernel
theorem dX12_next__57 : decode cX12_next_ 57 = .ok (.invokevirtual 331, 3) := by decide +kernel
theorem dX12_next__60 : decode cX12_next_ 60 = .ok (.goto 4, 3) := by decide +kernel
theorem dX12_next__63 : decode cX12_next_ 63 = .ok (.iload_n 2, 1) := by decide +kernel
theorem dX12_next__64 : decode cX12_next_ 64 = .ok (.ireturn, 1) := by decide +kernel
def j_X12_next_ : JD := (yX12_next_, cX12_next_, 3, (some .int))
def b_X12_next_ : BD := (3, 0, 0)
theorem dX12_takesUp_0 : decode cX12_takesUp 0 = .ok (.aload_n 0, 1) := by decide +kernel
theorem dX12_takesUp_1 : decode cX12_takesUp 1 = .ok (.getfield 35, 3) := by decide +kernel
theorem dX12_takesUp_4 : decode cX12_takesUp 4 = .ok (.sipush 153, 3) := by decide +kernel
theorem dX12_takesUp_7 : decode cX12_takesUp 7 = .ok (.iload_n 1, 1) := by decide +kernel
theorem dX12_takesUp_8 : decode cX12_takesUp 8 = .ok (.iadd, 1) := by decide +kernel
theorem dX12_takesUp_9 : decode cX12_takesUp 9 = .ok (.aload_n 0, 1) := by decide +kernel
theorem dX12_takesUp_10 : decode cX12_takesUp 10 = .ok (.iload_n 1, 1) := by decide +kernel
theorem dX12_takesUp_11 : decode cX12_takesUp 11 = .ok (.iload_n 2, 1) := by decide +kernel
theorem dX12_takesUp_12 : decode cX12_takesUp 12 = .ok (.invokevirtual 360, 3) := by decide +kernel
theorem dX12_takesUp_15 : decode cX12_takesUp 15 = .ok (.iastore, 1) := by decide +kernel
theorem dX12_takesUp_16 : decode cX12_takesUp 16 = .ok (.aload_n 0, 1) := by decide +kernel
theorem dX12_takesUp_17 : decode cX12_takesUp 17 = .ok (.getfield 35, 3) := by decide +kernel
theorem dX12_takesUp_20 : decode cX12_takesUp 20 = .ok (.sipush 157, 3) := by decide +kernel
theorem dX12_takesUp_23 : decode cX12_takesUp 23 = .ok (.iload_n 1, 1) := by decide +kernel
theorem dX12_takesUp_24 : decode cX12_takesUp 24 = .ok (.iadd, 1) := by decide +kernel
theorem dX12_takesUp_25 : decode cX12_takesUp 25 = .ok (.iconst 0, 1) := by decide +kernel
theorem dX12_takesUp_26 : decode cX12_takesUp 26 = .ok (.iastore, 1) := by decide +kernel
theorem dX12_takesUp_27 : decode cX12_takesUp 27 = .ok (.aload_n 0, 1) := by decide +kernel
theorem dX12_takesUp_28 : decode cX12_takesUp 28 = .ok (.getfield 35, 3) := by decide +kernel
theorem dX12_takesUp_31 : decode cX12_takesUp 31 = .ok (.sipush 149, 3) := by decide +kernel
theorem dX12_takesUp_34 : decode cX12_takesUp 34 = .ok (.iload_n 1, 1) := by decide +kernel
theorem dX12_takesUp_35 : decode cX12_takesUp 35 = .ok (.iadd, 1) := by decide +kernel
theorem dX12_takesUp_36 : decode cX12_takesUp 36 = .ok (.iload_n 2, 1) := by decide +kernel
theorem dX12_takesUp_37 : decode cX12_takesUp 37 = .ok (.iastore, 1) := by decide +kernel
theorem dX12_takesUp_38 : decode cX12_takesUp 38 = .ok (.aload_n 0, 1) := by decide +kernel
theorem dX12_takesUp_39 : decode cX12_takesUp 39 = .ok (.getfield 35, 3) := by decide +kernel
theorem dX12_takesUp_42 : decode cX12_takesUp 42 = .ok (.sipush 145, 3) := by decide +kernel
theorem dX12_takesUp_45 : decode cX12_takesUp 45 = .ok (.iload_n 1, 1) := by decide +kernel
theorem dX12_takesUp_46 : decode cX12_takesUp 46 = .ok (.iadd, 1) := by decide +kernel
theorem dX12_takesUp_47 : decode cX12_takesUp 47 = .ok (.aload_n 0, 1) := by decide +kernel
theorem dX12_takesUp_48 : decode cX12_takesUp 48 = .ok (.getfield 35, 3) := by decide +kernel
theorem dX12_takesUp_51 : decode cX12_takesUp 51 = .ok (.iconst 5, 1) := by decide +kernel
theorem dX12_takesUp_52 : decode cX12_takesUp 52 = .ok (.iload_n 2, 1) := by decide +kernel
theorem dX12_takesUp_53 : decode cX12_takesUp 53 = .ok (.iadd, 1) := by decide +kernel
theorem dX12_takesUp_54 : decode cX12_takesUp 54 = .ok (.iaload, 1) := by decide +kernel
theorem dX12_takesUp_55 : decode cX12_takesUp 55 = .ok (.iastore, 1) := by decide +kernel
theorem dX12_takesUp_56 : decode cX12_takesUp 56 = .ok (.return_, 1) := by decide +kernel
def j_X12_takesUp : JD := (yX12_takesUp, cX12_takesUp, 3, none)
def b_X12_takesUp : BD := (2, 0, 0)
theorem dX12_drops_0 : decode cX12_drops 0 = .ok (.aload_n 0, 1) := by decide +kernel
theorem dX12_drops_1 : decode cX12_drops 1 = .ok (.getfield 35, 3) := by decide +kernel
theorem dX12_drops_4 : decode cX12_drops 4 = .ok (.sipush 149, 3) := by decide +kernel
theorem dX12_drops_7 : decode cX12_drops 7 = .ok (.iload_n 1, 1) := by decide +kernel
theorem dX12_drops_8 : decode cX12_drops 8 = .ok (.iadd, 1) := by decide +kernel
theorem dX12_drops_9 : decode cX12_drops 9 = .ok (.iconst (-1), 1) := by decide +kernel
theorem dX12_drops_10 : decode cX12_drops 10 = .ok (.iastore, 1) := by decide +kernel
theorem dX12_drops_11 : decode cX12_drops 11 = .ok (.aload_n 0, 1) := by decide +kernel
theorem dX12_drops_12 : decode cX12_drops 12 = .ok (.getfield 35, 3) := by decide +kernel
theorem dX12_drops_15 : decode cX12_drops 15 = .ok (.sipush 153, 3) := by decide +kernel
theorem dX12_drops_18 : decode cX12_drops 18 = .ok (.iload_n 1, 1) := by decide +kernel
theorem dX12_drops_19 : decode cX12_drops 19 = .ok (.iadd, 1) := by decide +kernel
theorem dX12_drops_20 : decode cX12_drops 20 = .ok (.iconst 0, 1) := by decide +kernel
theorem dX12_drops_21 : decode cX12_drops 21 = .ok (.iastore, 1) := by decide +kernel
theorem dX12_drops_22 : decode cX12_drops 22 = .ok (.aload_n 0, 1) := by decide +kernel
theorem dX12_drops_23 : decode cX12_drops 23 = .ok (.getfield 35, 3) := by decide +kernel
theorem dX12_drops_26 : decode cX12_drops 26 = .ok (.sipush 157, 3) := by decide +kernel
theorem dX12_drops_29 : decode cX12_drops 29 = .ok (.iload_n 1, 1) := by decide +kernel
theorem dX12_drops_30 : decode cX12_drops 30 = .ok (.iadd, 1) := by decide +kernel
theorem dX12_drops_31 : decode cX12_drops 31 = .ok (.iconst 0, 1) := by decide +kernel
theorem dX12_drops_32 : decode cX12_drops 32 = .ok (.iastore, 1) := by decide +kernel
theorem dX12_drops_33 : decode cX12_drops 33 = .ok (.return_, 1) := by decide +kernel
def j_X12_drops : JD := (yX12_drops, cX12_drops, 2, none)
def b_X12_drops : BD := (0, 0, 0)
theorem dX12_lifts_0 : decode cX12_lifts 0 = .ok (.aload_n 0, 1) := by decide +kernel
theorem dX12_lifts_1 : decode cX12_lifts 1 = .ok (.iload_n 2, 1) := by decide +kernel
theorem dX12_lifts_2 : decode cX12_lifts 2 = .ok (.invokevirtual 363, 3) := by decide +kernel
theorem dX12_lifts_5 : decode cX12_lifts 5 = .ok (.ifCond .eq 12, 3) := by decide +kernel
theorem dX12_lifts_8 : decode cX12_lifts 8 = .ok (.aload_n 0, 1) := by decide +kernel
theorem dX12_lifts_9 : decode cX12_lifts 9 = .ok (.iload_n 2, 1) := by decide +kernel
theorem dX12_lifts_10 : decode cX12_lifts 10 = .ok (.iload_n 1, 1) := by decide +kernel
theorem dX12_lifts_11 : decode cX12_lifts 11 = .ok (.invokevirtual 366, 3) := by decide +kernel
theorem dX12_lifts_14 : decode cX12_lifts 14 = .ok (.ifCond .eq 5, 3) := by decide +kernel
theorem dX12_lifts_17 : decode cX12_lifts 17 = .ok (.iconst 0, 1) := by decide +kernel
theorem dX12_lifts_18 : decode cX12_lifts 18 = .ok (.ireturn, 1) := by decide +kernel
theorem dX12_lifts_19 : decode cX12_lifts 19 = .ok (.aload_n 0, 1) := by decide +kernel
theorem dX12_lifts_20 : decode cX12_lifts 20 = .ok (.iload_n 1, 1) := by decide +kernel
theorem dX12_lifts_21 : decode cX12_lifts 21 = .ok (.iload_n 2, 1) := by decide +kernel
theorem dX12_lifts_22 : decode cX12_lifts 22 = .ok (.invokevirtual 375, 3) := by decide +kernel
theorem dX12_lifts_25 : decode cX12_lifts 25 = .ok (.iconst 1, 1) := by decide +kernel
theorem dX12_lifts_26 : decode cX12_lifts 26 = .ok (.ireturn, 1) := by decide +kernel
def j_X12_lifts : JD := (yX12_lifts, cX12_lifts, 3, (some .boolean))
def b_X12_lifts : BD := (3, 0, 0)
theorem dX12_lift_0 : decode cX12_lift 0 = .ok (.aload_n 0, 1) := by decide +kernel
theorem dX12_lift_1 : decode cX12_lift 1 = .ok (.iconst 0, 1) := by decide +kernel
theorem dX12_lift_2 : decode cX12_lift 2 = .ok (.putfield 68, 3) := by decide +kernel
theorem dX12_lift_5 : decode cX12_lift 5 = .ok (.aload_n 0, 1) := by decide +kernel
theorem dX12_lift_6 : decode cX12_lift 6 = .ok (.iconst 0, 1) := by decide +kernel
theorem dX12_lift_7 : decode cX12_lift 7 = .ok (.putfield 71, 3) := by decide +kernel
theorem dX12_lift_10 : decode cX12_lift 10 = .ok (.aload_n 0, 1) := by decide +kernel
theorem dX12_lift_11 : decode cX12_lift 11 = .ok (.iload_n 1, 1) := by decide +kernel
theorem dX12_lift_12 : decode cX12_lift 12 = .ok (.invokevirtual 352, 3) := by decide +kernel
theorem dX12_lift_15 : decode cX12_lift 15 = .ok (.ifCond .eq 11, 3) := by decide +kernel
theorem dX12_lift_18 : decode cX12_lift 18 = .ok (.aload_n 0, 1) := by decide +kernel
theorem dX12_lift_19 : decode cX12_lift 19 = .ok (.iload_n 2, 1) := by decide +kernel
theorem dX12_lift_20 : decode cX12_lift 20 = .ok (.invokevirtual 341, 3) := by decide +kernel
theorem dX12_lift_23 : decode cX12_lift 23 = .ok (.ifCond .ne 9, 3) := by decide +kernel
theorem dX12_lift_26 : decode cX12_lift 26 = .ok (.aload_n 0, 1) := by decide +kernel
theorem dX12_lift_27 : decode cX12_lift 27 = .ok (.iconst 2, 1) := by decide +kernel
theorem dX12_lift_28 : decode cX12_lift 28 = .ok (.invokevirtual 331, 3) := by decide +kernel
theorem dX12_lift_31 : decode cX12_lift 31 = .ok (.ireturn, 1) := by decide +kernel
theorem dX12_lift_32 : decode cX12_lift 32 = .ok (.aload_n 0, 1) := by decide +kernel
theorem dX12_lift_33 : decode cX12_lift 33 = .ok (.iload_n 1, 1) := by decide +kernel
theorem dX12_lift_34 : decode cX12_lift 34 = .ok (.iload_n 2, 1) := by decide +kernel
theorem dX12_lift_35 : decode cX12_lift 35 = .ok (.invokevirtual 378, 3) := by decide +kernel
theorem dX12_lift_38 : decode cX12_lift 38 = .ok (.ifCond .eq 16, 3) := by decide +kernel
theorem dX12_lift_41 : decode cX12_lift 41 = .ok (.aload_n 0, 1) := by decide +kernel
theorem dX12_lift_42 : decode cX12_lift 42 = .ok (.getfield 35, 3) := by decide +kernel
theorem dX12_lift_45 : decode cX12_lift 45 = .ok (.sipush 153, 3) := by decide +kernel
theorem dX12_lift_48 : decode cX12_lift 48 = .ok (.iload_n 1, 1) := by decide +kernel
theorem dX12_lift_49 : decode cX12_lift 49 = .ok (.iadd, 1) := by decide +kernel
theorem dX12_lift_50 : decode cX12_lift 50 = .ok (.iaload, 1) := by decide +kernel
theorem dX12_lift_51 : decode cX12_lift 51 = .ok (.goto 9, 3) := by decide +kernel
theorem dX12_lift_54 : decode cX12_lift 54 = .ok (.aload_n 0, 1) := by decide +kernel
theorem dX12_lift_55 : decode cX12_lift 55 = .ok (.bipush 9, 2) := by decide +kernel
theorem dX12_lift_57 : decode cX12_lift 57 = .ok (.invokevirtual 331, 3) := by decide +kernel
theorem dX12_lift_60 : decode cX12_lift 60 = .ok (.ireturn, 1) := by decide +kernel
def j_X12_lift : JD := (yX12_lift, cX12_lift, 3, (some .int))
def b_X12_lift : BD := (4, 0, 0)
theorem dX12_rest_0 : decode cX12_rest 0 = .ok (.aload_n 0, 1) := by decide +kernel
theorem dX12_rest_1 : decode cX12_rest 1 = .ok (.iconst 0, 1) := by decide +kernel
theorem dX12_rest_2 : decode cX12_rest 2 = .ok (.putfield 68, 3) := by decide +kernel
theorem dX12_rest_5 : decode cX12_rest 5 = .ok (.aload_n 0, 1) := by decide +kernel
theorem dX12_rest_6 : decode cX12_rest 6 = .ok (.iconst 0, 1) := by decide +kernel
theorem dX12_rest_7 : decode cX12_rest 7 = .ok (.putfield 71, 3) := by decide +kernel
theorem dX12_rest_10 : decode cX12_rest 10 = .ok (.aload_n 0, 1) := by decide +kernel
theorem dX12_rest_11 : decode cX12_rest 11 = .ok (.iload_n 1, 1) := by decide +kernel
theorem dX12_rest_12 : decode cX12_rest 12 = .ok (.invokevirtual 352, 3) := by decide +kernel
theorem dX12_rest_15 : decode cX12_rest 15 = .ok (.ifCond .ne 9, 3) := by decide +kernel
theorem dX12_rest_18 : decode cX12_rest 18 = .ok (.aload_n 0, 1) := by decide +kernel
theorem dX12_rest_19 : decode cX12_rest 19 = .ok (.iconst 2, 1) := by decide +kernel
theorem dX12_rest_20 : decode cX12_rest 20 = .ok (.invokevirtual 83, 3) := by decide +kernel
theorem dX12_rest_23 : decode cX12_rest 23 = .ok (.ireturn, 1) := by decide +kernel
theorem dX12_rest_24 : decode cX12_rest 24 = .ok (.aload_n 0, 1) := by decide +kernel
theorem dX12_rest_25 : decode cX12_rest 25 = .ok (.getfield 35, 3) := by decide +kernel
theorem dX12_rest_28 : decode cX12_rest 28 = .ok (.sipush 149, 3) := by decide +kernel
theorem dX12_rest_31 : decode cX12_rest 31 = .ok (.iload_n 1, 1) := by decide +kernel
theorem dX12_rest_32 : decode cX12_rest 32 = .ok (.iadd, 1) := by decide +kernel
theorem dX12_rest_33 : decode cX12_rest 33 = .ok (.iaload, 1) := by decide +kernel
theorem dX12_rest_34 : decode cX12_rest 34 = .ok (.ifCond .ge 10, 3) := by decide +kernel
theorem dX12_rest_37 : decode cX12_rest 37 = .ok (.aload_n 0, 1) := by decide +kernel
theorem dX12_rest_38 : decode cX12_rest 38 = .ok (.bipush 8, 2) := by decide +kernel
theorem dX12_rest_40 : decode cX12_rest 40 = .ok (.invokevirtual 83, 3) := by decide +kernel
theorem dX12_rest_43 : decode cX12_rest 43 = .ok (.ireturn, 1) := by decide +kernel
theorem dX12_rest_44 : decode cX12_rest 44 = .ok (.aload_n 0, 1) := by decide +kernel
theorem dX12_rest_45 : decode cX12_rest 45 = .ok (.iload_n 1, 1) := by decide +kernel
theorem dX12_rest_46 : decode cX12_rest 46 = .ok (.invokevirtual 381, 3) := by decide +kernel
theorem dX12_rest_49 : decode cX12_rest 49 = .ok (.iconst 1, 1) := by decide +kernel
theorem dX12_rest_50 : decode cX12_rest 50 = .ok (.ireturn, 1) := by decide +kernel
def j_X12_rest : JD := (yX12_rest, cX12_rest, 2, (some .boolean))
def b_X12_rest : BD := (2, 0, 0)
theorem dX12_minute_0 : decode cX12_minute 0 = .ok (.aload_n 0, 1) := by decide +kernel
theorem dX12_minute_1 : decode cX12_minute 1 = .ok (.getfield 35, 3) := by decide +kernel
theorem dX12_minute_4 : decode cX12_minute 4 = .ok (.sipush 149, 3) := by decide +kernel
theorem dX12_minute_7 : decode cX12_minute 7 = .ok (.iload_n 1, 1) := by decide +kernel
theorem dX12_minute_8 : decode cX12_minute 8 = .ok (.iadd, 1) := by decide +kernel
theorem dX12_minute_9 : decode cX12_minute 9 = .ok (.iaload, 1) := by decide +kernel
theorem dX12_minute_10 : decode cX12_minute 10 = .ok (.ifCond .ge 20, 3) := by decide +kernel
theorem dX12_minute_13 : decode cX12_minute 13 = .ok (.aload_n 0, 1) := by decide +kernel
theorem dX12_minute_14 : decode cX12_minute 14 = .ok (.iload_n 1, 1) := by decide +kernel
theorem dX12_minute_15 : decode cX12_minute 15 = .ok (.invokevirtual 372, 3) := by decide +kernel
theorem dX12_minute_18 : decode cX12_minute 18 = .ok (.istore_n 2, 1) := by decide +kernel
theorem dX12_minute_19 : decode cX12_minute 19 = .ok (.iload_n 2, 1) := by decide +kernel
theorem dX12_minute_20 : decode cX12_minute 20 = .ok (.ifCond .ge 4, 3) := by decide +kernel
theorem dX12_minute_23 : decode cX12_minute 23 = .ok (.return_, 1) := by decide +kernel
theorem dX12_minute_24 : decode cX12_minute 24 = .ok (.aload_n 0, 1) := by decide +kernel
theorem dX12_minute_25 : decode cX12_minute 25 = .ok (.iload_n 1, 1) := by decide +kernel
theorem dX12_minute_26 : decode cX12_minute 26 = .ok (.iload_n 2, 1) := by decide +kernel
theorem dX12_minute_27 : decode cX12_minute 27 = .ok (.invokevirtual 375, 3) := by decide +kernel
theorem dX12_minute_30 : decode cX12_minute 30 = .ok (.aload_n 0, 1) := by decide +kernel
theorem dX12_minute_31 : decode cX12_minute 31 = .ok (.getfield 35, 3) := by decide +kernel
theorem dX12_minute_34 : decode cX12_minute 34 = .ok (.sipush 153, 3) := by decide +kernel
theorem dX12_minute_37 : decode cX12_minute 37 = .ok (.iload_n 1, 1) := by decide +kernel
theorem dX12_minute_38 : decode cX12_minute 38 = .ok (.iadd, 1) := by decide +kernel
theorem dX12_minute_39 : decode cX12_minute 39 = .ok (.iaload, 1) := by decide +kernel
theorem dX12_minute_40 : decode cX12_minute 40 = .ok (.ifCond .le 18, 3) := by decide +kernel
theorem dX12_minute_43 : decode cX12_minute 43 = .ok (.aload_n 0, 1) := by decide +kernel
theorem dX12_minute_44 : decode cX12_minute 44 = .ok (.getfield 35, 3) := by decide +kernel
theorem dX12_minute_47 : decode cX12_minute 47 = .ok (.sipush 153, 3) := by decide +kernel
theorem dX12_minute_50 : decode cX12_minute 50 = .ok (.iload_n 1, 1) := by decide +kernel
theorem dX12_minute_51 : decode cX12_minute 51 = .ok (.iadd, 1) := by decide +kernel
theorem dX12_minute_52 : decode cX12_minute 52 = .ok (.dup2, 1) := by decide +kernel
theorem dX12_minute_53 : decode cX12_minute 53 = .ok (.iaload, 1) := by decide +kernel
theorem dX12_minute_54 : decode cX12_minute 54 = .ok (.iconst 1, 1) := by decide +kernel
theorem dX12_minute_55 : decode cX12_minute 55 = .ok (.isub, 1) := by decide +kernel
theorem dX12_minute_56 : decode cX12_minute 56 = .ok (.iastore, 1) := by decide +kernel
theorem dX12_minute_57 : decode cX12_minute 57 = .ok (.return_, 1) := by decide +kernel
theorem dX12_minute_58 : decode cX12_minute 58 = .ok (.aload_n 0, 1) := by decide +kernel
theorem dX12_minute_59 : decode cX12_minute 59 = .ok (.getfield 35, 3) := by decide +kernel
theorem dX12_minute_62 : decode cX12_minute 62 = .ok (.sipush 149, 3) := by decide +kernel
theorem dX12_minute_65 : decode cX12_minute 65 = .ok (.iload_n 1, 1) := by decide +kernel
theorem dX12_minute_66 : decode cX12_minute 66 = .ok (.iadd, 1) := by decide +kernel
theorem dX12_minute_67 : decode cX12_minute 67 = .ok (.iaload, 1) := by decide +kernel
theorem dX12_minute_68 : decode cX12_minute 68 = .ok (.istore_n 2, 1) := by decide +kernel
theorem dX12_minute_69 : decode cX12_minute 69 = .ok (.aload_n 0, 1) := by decide +kernel
theorem dX12_minute_70 : decode cX12_minute 70 = .ok (.getfield 35, 3) := by decide +kernel
theorem dX12_minute_73 : decode cX12_minute 73 = .ok (.sipush 157, 3) := by decide +kernel
theorem dX12_minute_76 : decode cX12_minute 76 = .ok (.iload_n 1, 1) := by decide +kernel
theorem dX12_minute_77 : decode cX12_minute 77 = .ok (.iadd, 1) := by decide +kernel
theorem dX12_minute_78 : decode cX12_minute 78 = .ok (.iaload, 1) := by decide +kernel
theorem dX12_minute_79 : decode cX12_minute 79 = .ok (.ifCond .ne 19, 3) := by decide +kernel
theorem dX12_minute_82 : decode cX12_minute 82 = .ok (.aload_n 0, 1) := by decide +kernel
theorem dX12_minute_83 : decode cX12_minute 83 = .ok (.getfield 35, 3) := by decide +kernel
theorem dX12_minute_86 : decode cX12_minute 86 = .ok (.sipush 157, 3) := by decide +kernel
theorem dX12_minute_89 : decode cX12_minute 89 = .ok (.iload_n 1, 1) := by decide +kernel
theorem dX12_minute_90 : decode cX12_minute 90 = .ok (.iadd, 1) := by decide +kernel
theorem dX12_minute_91 : decode cX12_minute 91 = .ok (.aload_n 0, 1) := by decide +kernel
theorem dX12_minute_92 : decode cX12_minute 92 = .ok (.iload_n 1, 1) := by decide +kernel
theorem dX12_minute_93 : decode cX12_minute 93 = .ok (.iload_n 2, 1) := by decide +kernel
theorem dX12_minute_94 : decode cX12_minute 94 = .ok (.invokevirtual 357, 3) := by decide +kernel
theorem dX12_minute_97 : decode cX12_minute 97 = .ok (.iastore, 1) := by decide +kernel
theorem dX12_minute_98 : decode cX12_minute 98 = .ok (.aload_n 0, 1) := by decide +kernel
theorem dX12_minute_99 : decode cX12_minute 99 = .ok (.getfield 35, 3) := by decide +kernel
theorem dX12_minute_102 : decode cX12_minute 102 = .ok (.sipush 157, 3) := by decide +kernel
theorem dX12_minute_105 : decode cX12_minute 105 = .ok (.iload_n 1, 1) := by decide +kernel
theorem dX12_minute_106 : decode cX12_minute 106 = .ok (.iadd, 1) := by decide +kernel
theorem dX12_minute_107 : decode cX12_minute 107 = .ok (.dup2, 1) := by decide +kernel
theorem dX12_minute_108 : decode cX12_minute 108 = .ok (.iaload, 1) := by decide +kernel
theorem dX12_minute_109 : decode cX12_minute 109 = .ok (.iconst 1, 1) := by decide +kernel
theorem dX12_minute_110 : decode cX12_minute 110 = .ok (.isub, 1) := by decide +kernel
theorem dX12_minute_111 : decode cX12_minute 111 = .ok (.iastore, 1) := by decide +kernel
theorem dX12_minute_112 : decode cX12_minute 112 = .ok (.aload_n 0, 1) := by decide +kernel
theorem dX12_minute_113 : decode cX12_minute 113 = .ok (.getfield 35, 3) := by decide +kernel
theorem dX12_minute_116 : decode cX12_minute 116 = .ok (.sipush 157, 3) := by decide +kernel
theorem dX12_minute_119 : decode cX12_minute 119 = .ok (.iload_n 1, 1) := by decide +kernel
theorem dX12_minute_120 : decode cX12_minute 120 = .ok (.iadd, 1) := by decide +kernel
theorem dX12_minute_121 : decode cX12_minute 121 = .ok (.iaload, 1) := by decide +kernel
theorem dX12_minute_122 : decode cX12_minute 122 = .ok (.ifCond .le 4, 3) := by decide +kernel
theorem dX12_minute_125 : decode cX12_minute 125 = .ok (.return_, 1) := by decide +kernel
theorem dX12_minute_126 : decode cX12_minute 126 = .ok (.aload_n 0, 1) := by decide +kernel
theorem dX12_minute_127 : decode cX12_minute 127 = .ok (.getfield 35, 3) := by decide +kernel
theorem dX12_minute_130 : decode cX12_minute 130 = .ok (.bipush 53, 2) := by decide +kernel
theorem dX12_minute_132 : decode cX12_minute 132 = .ok (.iload_n 2, 1) := by decide +kernel
theorem dX12_minute_133 : decode cX12_minute 133 = .ok (.iadd, 1) := by decide +kernel
theorem dX12_minute_134 : decode cX12_minute 134 = .ok (.dup2, 1) := by decide +kernel
theorem dX12_minute_135 : decode cX12_minute 135 = .ok (.iaload, 1) := by decide +kernel
theorem dX12_minute_136 : decode cX12_minute 136 = .ok (.iconst 1, 1) := by decide +kernel
theorem dX12_minute_137 : decode cX12_minute 137 = .ok (.isub, 1) := by decide +kernel
theorem dX12_minute_138 : decode cX12_minute 138 = .ok (.iastore, 1) := by decide +kernel
theorem dX12_minute_139 : decode cX12_minute 139 = .ok (.aload_n 0, 1) := by decide +kernel
theorem dX12_minute_140 : decode cX12_minute 140 = .ok (.getfield 35, 3) := by decide +kernel
theorem dX12_minute_143 : decode cX12_minute 143 = .ok (.bipush 53, 2) := by decide +kernel
theorem dX12_minute_145 : decode cX12_minute 145 = .ok (.iload_n 2, 1) := by decide +kernel
theorem dX12_minute_146 : decode cX12_minute 146 = .ok (.iadd, 1) := by decide +kernel
theorem dX12_minute_147 : decode cX12_minute 147 = .ok (.iaload, 1) := by decide +kernel
theorem dX12_minute_148 : decode cX12_minute 148 = .ok (.ifCond .le 4, 3) := by decide +kernel
theorem dX12_minute_151 : decode cX12_minute 151 = .ok (.return_, 1) := by decide +kernel
theorem dX12_minute_152 : decode cX12_minute 152 = .ok (.aload_n 0, 1) := by decide +kernel
theorem dX12_minute_153 : decode cX12_minute 153 = .ok (.dup, 1) := by decide +kernel
theorem dX12_minute_154 : decode cX12_minute 154 = .ok (.getfield 384, 3) := by decide +kernel
theorem dX12_minute_157 : decode cX12_minute 157 = .ok (.iconst 1, 1) := by decide +kernel
theorem dX12_minute_158 : decode cX12_minute 158 = .ok (.iadd, 1) := by decide +kernel
theorem dX12_minute_159 : decode cX12_minute 159 = .ok (.putfield 384, 3) := by decide +kernel
theorem dX12_minute_162 : decode cX12_minute 162 = .ok (.aload_n 0, 1) := by decide +kernel
theorem dX12_minute_163 : decode cX12_minute 163 = .ok (.iload_n 1, 1) := by decide +kernel
theorem dX12_minute_164 : decode cX12_minute 164 = .ok (.invokevirtual 381, 3) := by decide +kernel
theorem dX12_minute_167 : decode cX12_minute 167 = .ok (.aload_n 0, 1) := by decide +kernel
theorem dX12_minute_168 : decode cX12_minute 168 = .ok (.getfield 35, 3) := by decide +kernel
theorem dX12_minute_171 : decode cX12_minute 171 = .ok (.sipush 133, 3) := by decide +kernel
theorem dX12_minute_174 : decode cX12_minute 174 = .ok (.iload_n 1, 1) := by decide +kernel
theorem dX12_minute_175 : decode cX12_minute 175 = .ok (.iadd, 1) := by decide +kernel
theorem dX12_minute_176 : decode cX12_minute 176 = .ok (.iaload, 1) := by decide +kernel
theorem dX12_minute_177 : decode cX12_minute 177 = .ok (.istore_n 3, 1) := by decide +kernel
theorem dX12_minute_178 : decode cX12_minute 178 = .ok (.iload_n 3, 1) := by decide +kernel
theorem dX12_minute_179 : decode cX12_minute 179 = .ok (.iload_n 2, 1) := by decide +kernel
theorem dX12_minute_180 : decode cX12_minute 180 = .ok (.if_icmp .eq 39, 3) := by decide +kernel
theorem dX12_minute_183 : decode cX12_minute 183 = .ok (.aload_n 0, 1) := by decide +kernel
theorem dX12_minute_184 : decode cX12_minute 184 = .ok (.getfield 35, 3) := by decide +kernel
theorem dX12_minute_187 : decode cX12_minute 187 = .ok (.bipush 69, 2) := by decide +kernel
theorem dX12_minute_189 : decode cX12_minute 189 = .ok (.bipush 8, 2) := by decide +kernel
theorem dX12_minute_191 : decode cX12_minute 191 = .ok (.iload_n 2, 1) := by decide +kernel
theorem dX12_minute_192 : decode cX12_minute 192 = .ok (.imul, 1) := by decide +kernel
theorem dX12_minute_193 : decode cX12_minute 193 = .ok (.iadd, 1) := by decide +kernel
theorem dX12_minute_194 : decode cX12_minute 194 = .ok (.iload_n 3, 1) := by decide +kernel
theorem dX12_minute_195 : decode cX12_minute 195 = .ok (.iadd, 1) := by decide +kernel
theorem dX12_minute_196 : decode cX12_minute 196 = .ok (.sipush 9999, 3) := by decide +kernel
theorem dX12_minute_199 : decode cX12_minute 199 = .ok (.aload_n 0, 1) := by decide +kernel
theorem dX12_minute_200 : decode cX12_minute 200 = .ok (.getfield 35, 3) := by decide +kernel
theorem dX12_minute_203 : decode cX12_minute 203 = .ok (.bipush 69, 2) := by decide +kernel
theorem dX12_minute_205 : decode cX12_minute 205 = .ok (.bipush 8, 2) := by decide +kernel
theorem dX12_minute_207 : decode cX12_minute 207 = .ok (.iload_n 2, 1) := by decide +kernel
theorem dX12_minute_208 : decode cX12_minute 208 = .ok (.imul, 1) := by decide +kernel
theorem dX12_minute_209 : decode cX12_minute 209 = .ok (.iadd, 1) := by decide +kernel
theorem dX12_minute_210 : decode cX12_minute 210 = .ok (.iload_n 3, 1) := by decide +kernel
theorem dX12_minute_211 : decode cX12_minute 211 = .ok (.iadd, 1) := by decide +kernel
theorem dX12_minute_212 : decode cX12_minute 212 = .ok (.iaload, 1) := by decide +kernel
theorem dX12_minute_213 : decode cX12_minute 213 = .ok (.iconst 1, 1) := by decide +kernel
theorem dX12_minute_214 : decode cX12_minute 214 = .ok (.iadd, 1) := by decide +kernel
theorem dX12_minute_215 : decode cX12_minute 215 = .ok (.invokestatic 387, 3) := by decide +kernel
theorem dX12_minute_218 : decode cX12_minute 218 = .ok (.iastore, 1) := by decide +kernel
theorem dX12_minute_219 : decode cX12_minute 219 = .ok (.return_, 1) := by decide +kernel
def j_X12_minute : JD := (yX12_minute, cX12_minute, 4, none)
def b_X12_minute : BD := (3, 0, 0)
theorem dX12_hours_0 : decode cX12_hours 0 = .ok (.aload_n 0, 1) := by decide +kernel
theorem dX12_hours_1 : decode cX12_hours 1 = .ok (.iconst 0, 1) := by decide +kernel
theorem dX12_hours_2 : decode cX12_hours 2 = .ok (.putfield 384, 3) := by decide +kernel
theorem dX12_hours_5 : decode cX12_hours 5 = .ok (.iconst 0, 1) := by decide +kernel
theorem dX12_hours_6 : decode cX12_hours 6 = .ok (.istore_n 2, 1) := by decide +kernel
theorem dX12_hours_7 : decode cX12_hours 7 = .ok (.iload_n 2, 1) := by decide +kernel
theorem dX12_hours_8 : decode cX12_hours 8 = .ok (.iload_n 1, 1) := by decide +kernel
theorem dX12_hours_9 : decode cX12_hours 9 = .ok (.if_icmp .ge 32, 3) := by decide +kernel
theorem dX12_hours_12 : decode cX12_hours 12 = .ok (.iconst 0, 1) := by decide +kernel
theorem dX12_hours_13 : decode cX12_hours 13 = .ok (.istore_n 3, 1) := by decide +kernel
theorem dX12_hours_14 : decode cX12_hours 14 = .ok (.iload_n 3, 1) := by decide +kernel
theorem dX12_hours_15 : decode cX12_hours 15 = .ok (.aload_n 0, 1) := by decide +kernel
theorem dX12_hours_16 : decode cX12_hours 16 = .ok (.getfield 35, 3) := by decide +kernel
theorem dX12_hours_19 : decode cX12_hours 19 = .ok (.iconst 1, 1) := by decide +kernel
theorem dX12_hours_20 : decode cX12_hours 20 = .ok (.iaload, 1) := by decide +kernel
theorem dX12_hours_21 : decode cX12_hours 21 = .ok (.if_icmp .ge 14, 3) := by decide +kernel
theorem dX12_hours_24 : decode cX12_hours 24 = .ok (.aload_n 0, 1) := by decide +kernel
theorem dX12_hours_25 : decode cX12_hours 25 = .ok (.iload_n 3, 1) := by decide +kernel
theorem dX12_hours_26 : decode cX12_hours 26 = .ok (.invokevirtual 390, 3) := by decide +kernel
theorem dX12_hours_29 : decode cX12_hours 29 = .ok (.iinc 3 1, 3) := by decide +kernel
theorem dX12_hours_32 : decode cX12_hours 32 = .ok (.goto (-18), 3) := by decide +kernel
theorem dX12_hours_35 : decode cX12_hours 35 = .ok (.iinc 2 1, 3) := by decide +kernel
theorem dX12_hours_38 : decode cX12_hours 38 = .ok (.goto (-31), 3) := by decide +kernel
theorem dX12_hours_41 : decode cX12_hours 41 = .ok (.aload_n 0, 1) := by decide +kernel
theorem dX12_hours_42 : decode cX12_hours 42 = .ok (.getfield 35, 3) := by decide +kernel
theorem dX12_hours_45 : decode cX12_hours 45 = .ok (.iconst 4, 1) := by decide +kernel
theorem dX12_hours_46 : decode cX12_hours 46 = .ok (.dup2, 1) := by decide +kernel
theorem dX12_hours_47 : decode cX12_hours 47 = .ok (.iaload, 1) := by decide +kernel
theorem dX12_hours_48 : decode cX12_hours 48 = .ok (.iload_n 1, 1) := by decide +kernel
theorem dX12_hours_49 : decode cX12_hours 49 = .ok (.iadd, 1) := by decide +kernel
theorem dX12_hours_50 : decode cX12_hours 50 = .ok (.iastore, 1) := by decide +kernel
theorem dX12_hours_51 : decode cX12_hours 51 = .ok (.aload_n 0, 1) := by decide +kernel
theorem dX12_hours_52 : decode cX12_hours 52 = .ok (.getfield 384, 3) := by decide +kernel
theorem dX12_hours_55 : decode cX12_hours 55 = .ok (.ireturn, 1) := by decide +kernel
def j_X12_hours : JD := (yX12_hours, cX12_hours, 4, (some .int))
def b_X12_hours : BD := (4, 0, 0)
theorem dX12_hour_0 : decode cX12_hour 0 = .ok (.aload_n 0, 1) := by decide +kernel
theorem dX12_hour_1 : decode cX12_hour 1 = .ok (.iconst 0, 1) := by decide +kernel
theorem dX12_hour_2 : decode cX12_hour 2 = .ok (.putfield 68, 3) := by decide +kernel
theorem dX12_hour_5 : decode cX12_hour 5 = .ok (.aload_n 0, 1) := by decide +kernel
theorem dX12_hour_6 : decode cX12_hour 6 = .ok (.iconst 0, 1) := by decide +kernel
theorem dX12_hour_7 : decode cX12_hour 7 = .ok (.putfield 71, 3) := by decide +kernel
theorem dX12_hour_10 : decode cX12_hour 10 = .ok (.iload_n 1, 1) := by decide +kernel
theorem dX12_hour_11 : decode cX12_hour 11 = .ok (.i2l, 1) := by decide +kernel
theorem dX12_hour_12 : decode cX12_hour 12 = .ok (.lconst 1, 1) := by decide +kernel
theorem dX12_hour_13 : decode cX12_hour 13 = .ok (.ldc2_w 393, 3) := by decide +kernel
theorem dX12_hour_16 : decode cX12_hour 16 = .ok (.invokestatic 103, 3) := by decide +kernel
theorem dX12_hour_19 : decode cX12_hour 19 = .ok (.ifCond .ne 9, 3) := by decide +kernel
theorem dX12_hour_22 : decode cX12_hour 22 = .ok (.aload_n 0, 1) := by decide +kernel
theorem dX12_hour_23 : decode cX12_hour 23 = .ok (.iconst 5, 1) := by decide +kernel
theorem dX12_hour_24 : decode cX12_hour 24 = .ok (.invokevirtual 331, 3) := by decide +kernel
theorem dX12_hour_27 : decode cX12_hour 27 = .ok (.ireturn, 1) := by decide +kernel
theorem dX12_hour_28 : decode cX12_hour 28 = .ok (.aload_n 0, 1) := by decide +kernel
theorem dX12_hour_29 : decode cX12_hour 29 = .ok (.getfield 35, 3) := by decide +kernel
theorem dX12_hour_32 : decode cX12_hour 32 = .ok (.iconst 4, 1) := by decide +kernel
theorem dX12_hour_33 : decode cX12_hour 33 = .ok (.iaload, 1) := by decide +kernel
theorem dX12_hour_34 : decode cX12_hour 34 = .ok (.iload_n 1, 1) := by decide +kernel
theorem dX12_hour_35 : decode cX12_hour 35 = .ok (.iadd, 1) := by decide +kernel
theorem dX12_hour_36 : decode cX12_hour 36 = .ok (.sipush 9999, 3) := by decide +kernel
theorem dX12_hour_39 : decode cX12_hour 39 = .ok (.if_icmp .le 12, 3) := by decide +kernel
theorem dX12_hour_42 : decode cX12_hour 42 = .ok (.aload_n 0, 1) := by decide +kernel
theorem dX12_hour_43 : decode cX12_hour 43 = .ok (.bipush 7, 2) := by decide +kernel
theorem dX12_hour_45 : decode cX12_hour 45 = .ok (.invokevirtual 331, 3) := by decide +kernel
theorem dX12_hour_48 : decode cX12_hour 48 = .ok (.goto 8, 3) := by decide +kernel
theorem dX12_hour_51 : decode cX12_hour 51 = .ok (.aload_n 0, 1) := by decide +kernel
theorem dX12_hour_52 : decode cX12_hour 52 = .ok (.iload_n 1, 1) := by decide +kernel
theorem dX12_hour_53 : decode cX12_hour 53 = .ok (.invokevirtual 395, 3) := by decide +kernel
theorem dX12_hour_56 : decode cX12_hour 56 = .ok (.ireturn, 1) := by decide +kernel
def j_X12_hour : JD := (yX12_hour, cX12_hour, 2, (some .int))
def b_X12_hour : BD := (5, 0, 0)
theorem dX12_fallSet_0 : decode cX12_fallSet 0 = .ok (.iconst 0, 1) := by decide +kernel
theorem dX12_fallSet_1 : decode cX12_fallSet 1 = .ok (.istore_n 2, 1) := by decide +kernel
theorem dX12_fallSet_2 : decode cX12_fallSet 2 = .ok (.iconst 0, 1) := by decide +kernel
theorem dX12_fallSet_3 : decode cX12_fallSet 3 = .ok (.istore_n 3, 1) := by decide +kernel
theorem dX12_fallSet_4 : decode cX12_fallSet 4 = .ok (.iload_n 3, 1) := by decide +kernel
theorem dX12_fallSet_5 : decode cX12_fallSet 5 = .ok (.aload_n 0, 1) := by decide +kernel
theorem dX12_fallSet_6 : decode cX12_fallSet 6 = .ok (.getfield 35, 3) := by decide +kernel
theorem dX12_fallSet_9 : decode cX12_fallSet 9 = .ok (.iconst 0, 1) := by decide +kernel
theorem dX12_fallSet_10 : decode cX12_fallSet 10 = .ok (.iaload, 1) := by decide +kernel
theorem dX12_fallSet_11 : decode cX12_fallSet 11 = .ok (.if_icmp .ge 36, 3) := by decide +kernel
theorem dX12_fallSet_14 : decode cX12_fallSet 14 = .ok (.iload_n 2, 1) := by decide +kernel
theorem dX12_fallSet_15 : decode cX12_fallSet 15 = .ok (.aload_n 0, 1) := by decide +kernel
theorem dX12_fallSet_16 : decode cX12_fallSet 16 = .ok (.iload_n 3, 1) := by decide +kernel
theorem dX12_fallSet_17 : decode cX12_fallSet 17 = .ok (.invokevirtual 363, 3) := by decide +kernel
theorem dX12_fallSet_20 : decode cX12_fallSet 20 = .ok (.ifCond .eq 18, 3) := by decide +kernel
theorem dX12_fallSet_23 : decode cX12_fallSet 23 = .ok (.iload_n 1, 1) := by decide +kernel
theorem dX12_fallSet_24 : decode cX12_fallSet 24 = .ok (.aload_n 0, 1) := by decide +kernel
theorem dX12_fallSet_25 : decode cX12_fallSet 25 = .ok (.iload_n 3, 1) := by decide +kernel
theorem dX12_fallSet_26 : decode cX12_fallSet 26 = .ok (.invokevirtual 349, 3) := by decide +kernel
theorem dX12_fallSet_29 : decode cX12_fallSet 29 = .ok (.if_icmp .le 9, 3) := by decide +kernel
theorem dX12_fallSet_32 : decode cX12_fallSet 32 = .ok (.iconst 1, 1) := by decide +kernel
theorem dX12_fallSet_33 : decode cX12_fallSet 33 = .ok (.iload_n 3, 1) := by decide +kernel
theorem dX12_fallSet_34 : decode cX12_fallSet 34 = .ok (.ishl, 1) := by decide +kernel
theorem dX12_fallSet_35 : decode cX12_fallSet 35 = .ok (.goto 4, 3) := by decide +kernel
theorem dX12_fallSet_38 : decode cX12_fallSet 38 = .ok (.iconst 0, 1) := by decide +kernel
theorem dX12_fallSet_39 : decode cX12_fallSet 39 = .ok (.ior, 1) := by decide +kernel
theorem dX12_fallSet_40 : decode cX12_fallSet 40 = .ok (.istore_n 2, 1) := by decide +kernel
theorem dX12_fallSet_41 : decode cX12_fallSet 41 = .ok (.iinc 3 1, 3) := by decide +kernel
theorem dX12_fallSet_44 : decode cX12_fallSet 44 = .ok (.goto (-40), 3) := by decide +kernel
theorem dX12_fallSet_47 : decode cX12_fallSet 47 = .ok (.iload_n 2, 1) := by decide +kernel
theorem dX12_fallSet_48 : decode cX12_fallSet 48 = .ok (.ireturn, 1) := by decide +kernel
def j_X12_fallSet : JD := (yX12_fallSet, cX12_fallSet, 4, (some .int))
def b_X12_fallSet : BD := (2, 0, 0)
theorem dX12_blows_0 : decode cX12_blows 0 = .ok (.aload_n 0, 1) := by decide +kernel
theorem dX12_blows_1 : decode cX12_blows 1 = .ok (.iload_n 1, 1) := by decide +kernel
theorem dX12_blows_2 : decode cX12_blows 2 = .ok (.invokevirtual 398, 3) := by decide +kernel
theorem dX12_blows_5 : decode cX12_blows 5 = .ok (.istore_n 2, 1) := by decide +kernel
theorem dX12_blows_6 : decode cX12_blows 6 = .ok (.iconst 0, 1) := by decide +kernel
theorem dX12_blows_7 : decode cX12_blows 7 = .ok (.istore_n 3, 1) := by decide +kernel
theorem dX12_blows_8 : decode cX12_blows 8 = .ok (.iload_n 3, 1) := by decide +kernel
theorem dX12_blows_9 : decode cX12_blows 9 = .ok (.aload_n 0, 1) := by decide +kernel
theorem dX12_blows_10 : decode cX12_blows 10 = .ok (.getfield 35, 3) := by decide +kernel
theorem dX12_blows_13 : decode cX12_blows 13 = .ok (.iconst 0, 1) := by decide +kernel
theorem dX12_blows_14 : decode cX12_blows 14 = .ok (.iaload, 1) := by decide +kernel
theorem dX12_blows_15 : decode cX12_blows 15 = .ok (.if_icmp .ge 71, 3) := by decide +kernel
theorem dX12_blows_18 : decode cX12_blows 18 = .ok (.iload_n 2, 1) := by decide +kernel
theorem dX12_blows_19 : decode cX12_blows 19 = .ok (.iload_n 3, 1) := by decide +kernel
theorem dX12_blows_20 : decode cX12_blows 20 = .ok (.invokestatic 107, 3) := by decide +kernel
theorem dX12_blows_23 : decode cX12_blows 23 = .ok (.ifCond .ne 6, 3) := by decide +kernel
theorem dX12_blows_26 : decode cX12_blows 26 = .ok (.goto 54, 3) := by decide +kernel
theorem dX12_blows_29 : decode cX12_blows 29 = .ok (.aload_n 0, 1) := by decide +kernel
theorem dX12_blows_30 : decode cX12_blows 30 = .ok (.getfield 35, 3) := by decide +kernel
theorem dX12_blows_33 : decode cX12_blows 33 = .ok (.bipush 61, 2) := by decide +kernel
theorem dX12_blows_35 : decode cX12_blows 35 = .ok (.iload_n 3, 1) := by decide +kernel
theorem dX12_blows_36 : decode cX12_blows 36 = .ok (.iadd, 1) := by decide +kernel
theorem dX12_blows_37 : decode cX12_blows 37 = .ok (.iconst 0, 1) := by decide +kernel
theorem dX12_blows_38 : decode cX12_blows 38 = .ok (.iastore, 1) := by decide +kernel
theorem dX12_blows_39 : decode cX12_blows 39 = .ok (.iconst 0, 1) := by decide +kernel
theorem dX12_blows_40 : decode cX12_blows 40 = .ok (.istore 4, 2) := by decide +kernel
theorem dX12_blows_42 : decode cX12_blows 42 = .ok (.iload 4, 2) := by decide +kernel
theorem dX12_blows_44 : decode cX12_blows 44 = .ok (.aload_n 0, 1) := by decide +kernel
theorem dX12_blows_45 : decode cX12_blows 45 = .ok (.getfield 35, 3) := by decide +kernel
theorem dX12_blows_48 : decode cX12_blows 48 = .ok (.iconst 1, 1) := by decide +kernel
theorem dX12_blows_49 : decode cX12_blows 49 = .ok (.iaload, 1) := by decide +kernel
theorem dX12_blows_50 : decode cX12_blows 50 = .ok (.if_icmp .ge 30, 3) := by decide +kernel
theorem dX12_blows_53 : decode cX12_blows 53 = .ok (.aload_n 0, 1) := by decide +kernel
theorem dX12_blows_54 : decode cX12_blows 54 = .ok (.getfield 35, 3) := by decide +kernel
theorem dX12_blows_57 : decode cX12_blows 57 = .ok (.sipush 149, 3) := by decide +kernel
theorem dX12_blows_60 : decode cX12_blows 60 = .ok (.iload 4, 2) := by decide +kernel
theorem dX12_blows_62 : decode cX12_blows 62 = .ok (.iadd, 1) := by decide +kernel
theorem dX12_blows_63 : decode cX12_blows 63 = .ok (.iaload, 1) := by decide +kernel
theorem dX12_blows_64 : decode cX12_blows 64 = .ok (.iload_n 3, 1) := by decide +kernel
theorem dX12_blows_65 : decode cX12_blows 65 = .ok (.if_icmp .ne 9, 3) := by decide +kernel
theorem dX12_blows_68 : decode cX12_blows 68 = .ok (.aload_n 0, 1) := by decide +kernel
theorem dX12_blows_69 : decode cX12_blows 69 = .ok (.iload 4, 2) := by decide +kernel
theorem dX12_blows_71 : decode cX12_blows 71 = .ok (.invokevirtual 381, 3) := by decide +kernel
theorem dX12_blows_74 : decode cX12_blows 74 = .ok (.iinc 4 1, 3) := by decide +kernel
theorem dX12_blows_77 : decode cX12_blows 77 = .ok (.goto (-35), 3) := by decide +kernel
theorem dX12_blows_80 : decode cX12_blows 80 = .ok (.iinc 3 1, 3) := by decide +kernel
theorem dX12_blows_83 : decode cX12_blows 83 = .ok (.goto (-75), 3) := by decide +kernel
theorem dX12_blows_86 : decode cX12_blows 86 = .ok (.iload_n 2, 1) := by decide +kernel
theorem dX12_blows_87 : decode cX12_blows 87 = .ok (.invokestatic 401, 3) := by decide +kernel
theorem dX12_blows_90 : decode cX12_blows 90 = .ok (.ireturn, 1) := by decide +kernel
def j_X12_blows : JD := (yX12_blows, cX12_blows, 5, (some .int))
def b_X12_blows : BD := (3, 0, 0)
theorem dX12_gale_0 : decode cX12_gale 0 = .ok (.aload_n 0, 1) := by decide +kernel
theorem dX12_gale_1 : decode cX12_gale 1 = .ok (.iconst 0, 1) := by decide +kernel
theorem dX12_gale_2 : decode cX12_gale 2 = .ok (.putfield 68, 3) := by decide +kernel
theorem dX12_gale_5 : decode cX12_gale 5 = .ok (.aload_n 0, 1) := by decide +kernel
theorem dX12_gale_6 : decode cX12_gale 6 = .ok (.iconst 0, 1) := by decide +kernel
theorem dX12_gale_7 : decode cX12_gale 7 = .ok (.putfield 71, 3) := by decide +kernel
theorem dX12_gale_10 : decode cX12_gale 10 = .ok (.iload_n 1, 1) := by decide +kernel
theorem dX12_gale_11 : decode cX12_gale 11 = .ok (.i2l, 1) := by decide +kernel
theorem dX12_gale_12 : decode cX12_gale 12 = .ok (.lconst 0, 1) := by decide +kernel
theorem dX12_gale_13 : decode cX12_gale 13 = .ok (.ldc2_w 404, 3) := by decide +kernel
theorem dX12_gale_16 : decode cX12_gale 16 = .ok (.invokestatic 103, 3) := by decide +kernel
theorem dX12_gale_19 : decode cX12_gale 19 = .ok (.ifCond .eq 11, 3) := by decide +kernel
theorem dX12_gale_22 : decode cX12_gale 22 = .ok (.aload_n 0, 1) := by decide +kernel
theorem dX12_gale_23 : decode cX12_gale 23 = .ok (.iload_n 1, 1) := by decide +kernel
theorem dX12_gale_24 : decode cX12_gale 24 = .ok (.invokevirtual 406, 3) := by decide +kernel
theorem dX12_gale_27 : decode cX12_gale 27 = .ok (.goto 8, 3) := by decide +kernel
theorem dX12_gale_30 : decode cX12_gale 30 = .ok (.aload_n 0, 1) := by decide +kernel
theorem dX12_gale_31 : decode cX12_gale 31 = .ok (.iconst 5, 1) := by decide +kernel
theorem dX12_gale_32 : decode cX12_gale 32 = .ok (.invokevirtual 331, 3) := by decide +kernel
theorem dX12_gale_35 : decode cX12_gale 35 = .ok (.ireturn, 1) := by decide +kernel
def j_X12_gale : JD := (yX12_gale, cX12_gale, 2, (some .int))
def b_X12_gale : BD := (4, 0, 0)
theorem dX12_dawns_0 : decode cX12_dawns 0 = .ok (.iconst 0, 1) := by decide +kernel
theorem dX12_dawns_1 : decode cX12_dawns 1 = .ok (.istore_n 1, 1) := by decide +kernel
theorem dX12_dawns_2 : decode cX12_dawns 2 = .ok (.iconst 0, 1) := by decide +kernel
theorem dX12_dawns_3 : decode cX12_dawns 3 = .ok (.istore_n 2, 1) := by decide +kernel
theorem dX12_dawns_4 : decode cX12_dawns 4 = .ok (.iload_n 2, 1) := by decide +kernel
theorem dX12_dawns_5 : decode cX12_dawns 5 = .ok (.aload_n 0, 1) := by decide +kernel
theorem dX12_dawns_6 : decode cX12_dawns 6 = .ok (.getfield 35, 3) := by decide +kernel
theorem dX12_dawns_9 : decode cX12_dawns 9 = .ok (.iconst 0, 1) := by decide +kernel
theorem dX12_dawns_10 : decode cX12_dawns 10 = .ok (.iaload, 1) := by decide +kernel
theorem dX12_dawns_11 : decode cX12_dawns 11 = .ok (.if_icmp .ge 67, 3) := by decide +kernel
theorem dX12_dawns_14 : decode cX12_dawns 14 = .ok (.aload_n 0, 1) := by decide +kernel
theorem dX12_dawns_15 : decode cX12_dawns 15 = .ok (.iload_n 2, 1) := by decide +kernel
theorem dX12_dawns_16 : decode cX12_dawns 16 = .ok (.invokevirtual 324, 3) := by decide +kernel
theorem dX12_dawns_19 : decode cX12_dawns 19 = .ok (.ifCond .ne 6, 3) := by decide +kernel
theorem dX12_dawns_22 : decode cX12_dawns 22 = .ok (.goto 50, 3) := by decide +kernel
theorem dX12_dawns_25 : decode cX12_dawns 25 = .ok (.iload_n 1, 1) := by decide +kernel
theorem dX12_dawns_26 : decode cX12_dawns 26 = .ok (.aload_n 0, 1) := by decide +kernel
theorem dX12_dawns_27 : decode cX12_dawns 27 = .ok (.getfield 35, 3) := by decide +kernel
theorem dX12_dawns_30 : decode cX12_dawns 30 = .ok (.bipush 53, 2) := by decide +kernel
theorem dX12_dawns_32 : decode cX12_dawns 32 = .ok (.iload_n 2, 1) := by decide +kernel
theorem dX12_dawns_33 : decode cX12_dawns 33 = .ok (.iadd, 1) := by decide +kernel
theorem dX12_dawns_34 : decode cX12_dawns 34 = .ok (.iaload, 1) := by decide +kernel
theorem dX12_dawns_35 : decode cX12_dawns 35 = .ok (.aload_n 0, 1) := by decide +kernel
theorem dX12_dawns_36 : decode cX12_dawns 36 = .ok (.getfield 35, 3) := by decide +kernel
theorem dX12_dawns_39 : decode cX12_dawns 39 = .ok (.bipush 21, 2) := by decide +kernel
theorem dX12_dawns_41 : decode cX12_dawns 41 = .ok (.iload_n 2, 1) := by decide +kernel
theorem dX12_dawns_42 : decode cX12_dawns 42 = .ok (.iadd, 1) := by decide +kernel
theorem dX12_dawns_43 : decode cX12_dawns 43 = .ok (.iaload, 1) := by decide +kernel
theorem dX12_dawns_44 : decode cX12_dawns 44 = .ok (.if_icmp .ge 7, 3) := by decide +kernel
theorem dX12_dawns_47 : decode cX12_dawns 47 = .ok (.iconst 1, 1) := by decide +kernel
theorem dX12_dawns_48 : decode cX12_dawns 48 = .ok (.goto 4, 3) := by decide +kernel
theorem dX12_dawns_51 : decode cX12_dawns 51 = .ok (.iconst 0, 1) := by decide +kernel
theorem dX12_dawns_52 : decode cX12_dawns 52 = .ok (.iadd, 1) := by decide +kernel
theorem dX12_dawns_53 : decode cX12_dawns 53 = .ok (.istore_n 1, 1) := by decide +kernel
theorem dX12_dawns_54 : decode cX12_dawns 54 = .ok (.aload_n 0, 1) := by decide +kernel
theorem dX12_dawns_55 : decode cX12_dawns 55 = .ok (.getfield 35, 3) := by decide +kernel
theorem dX12_dawns_58 : decode cX12_dawns 58 = .ok (.bipush 53, 2) := by decide +kernel
theorem dX12_dawns_60 : decode cX12_dawns 60 = .ok (.iload_n 2, 1) := by decide +kernel
theorem dX12_dawns_61 : decode cX12_dawns 61 = .ok (.iadd, 1) := by decide +kernel
theorem dX12_dawns_62 : decode cX12_dawns 62 = .ok (.aload_n 0, 1) := by decide +kernel
theorem dX12_dawns_63 : decode cX12_dawns 63 = .ok (.getfield 35, 3) := by decide +kernel
theorem dX12_dawns_66 : decode cX12_dawns 66 = .ok (.bipush 21, 2) := by decide +kernel
theorem dX12_dawns_68 : decode cX12_dawns 68 = .ok (.iload_n 2, 1) := by decide +kernel
theorem dX12_dawns_69 : decode cX12_dawns 69 = .ok (.iadd, 1) := by decide +kernel
theorem dX12_dawns_70 : decode cX12_dawns 70 = .ok (.iaload, 1) := by decide +kernel
theorem dX12_dawns_71 : decode cX12_dawns 71 = .ok (.iastore, 1) := by decide +kernel
theorem dX12_dawns_72 : decode cX12_dawns 72 = .ok (.iinc 2 1, 3) := by decide +kernel
theorem dX12_dawns_75 : decode cX12_dawns 75 = .ok (.goto (-71), 3) := by decide +kernel
theorem dX12_dawns_78 : decode cX12_dawns 78 = .ok (.iconst 0, 1) := by decide +kernel
theorem dX12_dawns_79 : decode cX12_dawns 79 = .ok (.istore_n 2, 1) := by decide +kernel
theorem dX12_dawns_80 : decode cX12_dawns 80 = .ok (.iload_n 2, 1) := by decide +kernel
theorem dX12_dawns_81 : decode cX12_dawns 81 = .ok (.aload_n 0, 1) := by decide +kernel
theorem dX12_dawns_82 : decode cX12_dawns 82 = .ok (.getfield 35, 3) := by decide +kernel
theorem dX12_dawns_85 : decode cX12_dawns 85 = .ok (.iconst 1, 1) := by decide +kernel
theorem dX12_dawns_86 : decode cX12_dawns 86 = .ok (.iaload, 1) := by decide +kernel
theorem dX12_dawns_87 : decode cX12_dawns 87 = .ok (.if_icmp .ge 14, 3) := by decide +kernel
theorem dX12_dawns_90 : decode cX12_dawns 90 = .ok (.aload_n 0, 1) := by decide +kernel
theorem dX12_dawns_91 : decode cX12_dawns 91 = .ok (.iload_n 2, 1) := by decide +kernel
theorem dX12_dawns_92 : decode cX12_dawns 92 = .ok (.invokevirtual 381, 3) := by decide +kernel
theorem dX12_dawns_95 : decode cX12_dawns 95 = .ok (.iinc 2 1, 3) := by decide +kernel
theorem dX12_dawns_98 : decode cX12_dawns 98 = .ok (.goto (-18), 3) := by decide +kernel
theorem dX12_dawns_101 : decode cX12_dawns 101 = .ok (.aload_n 0, 1) := by decide +kernel
theorem dX12_dawns_102 : decode cX12_dawns 102 = .ok (.getfield 35, 3) := by decide +kernel
theorem dX12_dawns_105 : decode cX12_dawns 105 = .ok (.iconst 4, 1) := by decide +kernel
theorem dX12_dawns_106 : decode cX12_dawns 106 = .ok (.iconst 0, 1) := by decide +kernel
theorem dX12_dawns_107 : decode cX12_dawns 107 = .ok (.iastore, 1) := by decide +kernel
theorem dX12_dawns_108 : decode cX12_dawns 108 = .ok (.iload_n 1, 1) := by decide +kernel
theorem dX12_dawns_109 : decode cX12_dawns 109 = .ok (.ireturn, 1) := by decide +kernel
def j_X12_dawns : JD := (yX12_dawns, cX12_dawns, 3, (some .int))
def b_X12_dawns : BD := (1, 0, 0)
theorem dX12_dawn_0 : decode cX12_dawn 0 = .ok (.aload_n 0, 1) := by decide +kernel
theorem dX12_dawn_1 : decode cX12_dawn 1 = .ok (.iconst 0, 1) := by decide +kernel
theorem dX12_dawn_2 : decode cX12_dawn 2 = .ok (.putfield 68, 3) := by decide +kernel
theorem dX12_dawn_5 : decode cX12_dawn 5 = .ok (.aload_n 0, 1) := by decide +kernel
theorem dX12_dawn_6 : decode cX12_dawn 6 = .ok (.iconst 0, 1) := by decide +kernel
theorem dX12_dawn_7 : decode cX12_dawn 7 = .ok (.putfield 71, 3) := by decide +kernel
theorem dX12_dawn_10 : decode cX12_dawn 10 = .ok (.aload_n 0, 1) := by decide +kernel
theorem dX12_dawn_11 : decode cX12_dawn 11 = .ok (.invokevirtual 409, 3) := by decide +kernel
theorem dX12_dawn_14 : decode cX12_dawn 14 = .ok (.ireturn, 1) := by decide +kernel
def j_X12_dawn : JD := (yX12_dawn, cX12_dawn, 1, (some .int))
def b_X12_dawn : BD := (2, 0, 0)
theorem dX12_help_0 : decode cX12_help 0 = .ok (.aload_n 0, 1) := by decide +kernel
theorem dX12_help_1 : decode cX12_help 1 = .ok (.iconst 0, 1) := by decide +kernel
theorem dX12_help_2 : decode cX12_help 2 = .ok (.putfield 68, 3) := by decide +kernel
theorem dX12_help_5 : decode cX12_help 5 = .ok (.aload_n 0, 1) := by decide +kernel
theorem dX12_help_6 : decode cX12_help 6 = .ok (.iconst 0, 1) := by decide +kernel
theorem dX12_help_7 : decode cX12_help 7 = .ok (.putfield 71, 3) := by decide +kernel
theorem dX12_help_10 : decode cX12_help 10 = .ok (.aload_n 0, 1) := by decide +kernel
theorem dX12_help_11 : decode cX12_help 11 = .ok (.iload_n 1, 1) := by decide +kernel
theorem dX12_help_12 : decode cX12_help 12 = .ok (.invokevirtual 341, 3) := by decide +kernel
theorem dX12_help_15 : decode cX12_help 15 = .ok (.ifCond .eq 11, 3) := by decide +kernel
theorem dX12_help_18 : decode cX12_help 18 = .ok (.aload_n 0, 1) := by decide +kernel
theorem dX12_help_19 : decode cX12_help 19 = .ok (.iload_n 2, 1) := by decide +kernel
theorem dX12_help_20 : decode cX12_help 20 = .ok (.invokevirtual 341, 3) := by decide +kernel
theorem dX12_help_23 : decode cX12_help 23 = .ok (.ifCond .ne 9, 3) := by decide +kernel
theorem dX12_help_26 : decode cX12_help 26 = .ok (.aload_n 0, 1) := by decide +kernel
theorem dX12_help_27 : decode cX12_help 27 = .ok (.iconst 2, 1) := by decide +kernel
theorem dX12_help_28 : decode cX12_help 28 = .ok (.invokevirtual 331, 3) := by decide +kernel
theorem dX12_help_31 : decode cX12_help 31 = .ok (.ireturn, 1) := by decide +kernel
theorem dX12_help_32 : decode cX12_help 32 = .ok (.iload_n 1, 1) := by decide +kernel
theorem dX12_help_33 : decode cX12_help 33 = .ok (.iload_n 2, 1) := by decide +kernel
theorem dX12_help_34 : decode cX12_help 34 = .ok (.if_icmp .eq 15, 3) := by decide +kernel
theorem dX12_help_37 : decode cX12_help 37 = .ok (.iload_n 3, 1) := by decide +kernel
theorem dX12_help_38 : decode cX12_help 38 = .ok (.i2l, 1) := by decide +kernel
theorem dX12_help_39 : decode cX12_help 39 = .ok (.lconst 1, 1) := by decide +kernel
theorem dX12_help_40 : decode cX12_help 40 = .ok (.ldc2_w 404, 3) := by decide +kernel
theorem dX12_help_43 : decode cX12_help 43 = .ok (.invokestatic 103, 3) := by decide +kernel
theorem dX12_help_46 : decode cX12_help 46 = .ok (.ifCond .ne 9, 3) := by decide +kernel
theorem dX12_help_49 : decode cX12_help 49 = .ok (.aload_n 0, 1) := by decide +kernel
theorem dX12_help_50 : decode cX12_help 50 = .ok (.iconst 5, 1) := by decide +kernel
theorem dX12_help_51 : decode cX12_help 51 = .ok (.invokevirtual 331, 3) := by decide +kernel
theorem dX12_help_54 : decode cX12_help 54 = .ok (.ireturn, 1) := by decide +kernel
theorem dX12_help_55 : decode cX12_help 55 = .ok (.bipush 69, 2) := by decide +kernel
theorem dX12_help_57 : decode cX12_help 57 = .ok (.bipush 8, 2) := by decide +kernel
theorem dX12_help_59 : decode cX12_help 59 = .ok (.iload_n 1, 1) := by decide +kernel
theorem dX12_help_60 : decode cX12_help 60 = .ok (.imul, 1) := by decide +kernel
theorem dX12_help_61 : decode cX12_help 61 = .ok (.iadd, 1) := by decide +kernel
theorem dX12_help_62 : decode cX12_help 62 = .ok (.iload_n 2, 1) := by decide +kernel
theorem dX12_help_63 : decode cX12_help 63 = .ok (.iadd, 1) := by decide +kernel
theorem dX12_help_64 : decode cX12_help 64 = .ok (.istore 4, 2) := by decide +kernel
theorem dX12_help_66 : decode cX12_help 66 = .ok (.aload_n 0, 1) := by decide +kernel
theorem dX12_help_67 : decode cX12_help 67 = .ok (.getfield 35, 3) := by decide +kernel
theorem dX12_help_70 : decode cX12_help 70 = .ok (.iload 4, 2) := by decide +kernel
theorem dX12_help_72 : decode cX12_help 72 = .ok (.iaload, 1) := by decide +kernel
theorem dX12_help_73 : decode cX12_help 73 = .ok (.iload_n 3, 1) := by decide +kernel
theorem dX12_help_74 : decode cX12_help 74 = .ok (.iadd, 1) := by decide +kernel
theorem dX12_help_75 : decode cX12_help 75 = .ok (.sipush 9999, 3) := by decide +kernel
theorem dX12_help_78 : decode cX12_help 78 = .ok (.if_icmp .le 10, 3) := by decide +kernel
theorem dX12_help_81 : decode cX12_help 81 = .ok (.aload_n 0, 1) := by decide +kernel
theorem dX12_help_82 : decode cX12_help 82 = .ok (.bipush 7, 2) := by decide +kernel
theorem dX12_help_84 : decode cX12_help 84 = .ok (.invokevirtual 331, 3) := by decide +kernel
theorem dX12_help_87 : decode cX12_help 87 = .ok (.ireturn, 1) := by decide +kernel
theorem dX12_help_88 : decode cX12_help 88 = .ok (.aload_n 0, 1) := by decide +kernel
theorem dX12_help_89 : decode cX12_help 89 = .ok (.getfield 35, 3) := by decide +kernel
theorem dX12_help_92 : decode cX12_help 92 = .ok (.iload 4, 2) := by decide +kernel
theorem dX12_help_94 : decode cX12_help 94 = .ok (.dup2, 1) := by decide +kernel
theorem dX12_help_95 : decode cX12_help 95 = .ok (.iaload, 1) := by decide +kernel
theorem dX12_help_96 : decode cX12_help 96 = .ok (.iload_n 3, 1) := by decide +kernel
theorem dX12_help_97 : decode cX12_help 97 = .ok (.iadd, 1) := by decide +kernel
theorem dX12_help_98 : decode cX12_help 98 = .ok (.iastore, 1) := by decide +kernel
theorem dX12_help_99 : decode cX12_help 99 = .ok (.aload_n 0, 1) := by decide +kernel
theorem dX12_help_100 : decode cX12_help 100 = .ok (.getfield 35, 3) := by decide +kernel
theorem dX12_help_103 : decode cX12_help 103 = .ok (.iload 4, 2) := by decide +kernel
theorem dX12_help_105 : decode cX12_help 105 = .ok (.iaload, 1) := by decide +kernel
theorem dX12_help_106 : decode cX12_help 106 = .ok (.ireturn, 1) := by decide +kernel
def j_X12_help : JD := (yX12_help, cX12_help, 5, (some .int))
def b_X12_help : BD := (2, 0, 0)
theorem dX12_falls_0 : decode cX12_falls 0 = .ok (.aload_n 0, 1) := by decide +kernel
theorem dX12_falls_1 : decode cX12_falls 1 = .ok (.iconst 0, 1) := by decide +kernel
theorem dX12_falls_2 : decode cX12_falls 2 = .ok (.putfield 68, 3) := by decide +kernel
theorem dX12_falls_5 : decode cX12_falls 5 = .ok (.aload_n 0, 1) := by decide +kernel
theorem dX12_falls_6 : decode cX12_falls 6 = .ok (.iconst 0, 1) := by decide +kernel
theorem dX12_falls_7 : decode cX12_falls 7 = .ok (.putfield 71, 3) := by decide +kernel
theorem dX12_falls_10 : decode cX12_falls 10 = .ok (.iload_n 1, 1) := by decide +kernel
theorem dX12_falls_11 : decode cX12_falls 11 = .ok (.i2l, 1) := by decide +kernel
theorem dX12_falls_12 : decode cX12_falls 12 = .ok (.lconst 0, 1) := by decide +kernel
theorem dX12_falls_13 : decode cX12_falls 13 = .ok (.ldc2_w 404, 3) := by decide +kernel
theorem dX12_falls_16 : decode cX12_falls 16 = .ok (.invokestatic 103, 3) := by decide +kernel
theorem dX12_falls_19 : decode cX12_falls 19 = .ok (.ifCond .eq 11, 3) := by decide +kernel
theorem dX12_falls_22 : decode cX12_falls 22 = .ok (.aload_n 0, 1) := by decide +kernel
theorem dX12_falls_23 : decode cX12_falls 23 = .ok (.iload_n 1, 1) := by decide +kernel
theorem dX12_falls_24 : decode cX12_falls 24 = .ok (.invokevirtual 398, 3) := by decide +kernel
theorem dX12_falls_27 : decode cX12_falls 27 = .ok (.goto 8, 3) := by decide +kernel
theorem dX12_falls_30 : decode cX12_falls 30 = .ok (.aload_n 0, 1) := by decide +kernel
theorem dX12_falls_31 : decode cX12_falls 31 = .ok (.iconst 5, 1) := by decide +kernel
theorem dX12_falls_32 : decode cX12_falls 32 = .ok (.invokevirtual 331, 3) := by decide +kernel
theorem dX12_falls_35 : decode cX12_falls 35 = .ok (.ireturn, 1) := by decide +kernel
def j_X12_falls : JD := (yX12_falls, cX12_falls, 2, (some .int))
def b_X12_falls : BD := (3, 0, 0)
theorem dX12_riskOf_0 : decode cX12_riskOf 0 = .ok (.iconst 0, 1) := by decide +kernel
theorem dX12_riskOf_1 : decode cX12_riskOf 1 = .ok (.istore_n 2, 1) := by decide +kernel
theorem dX12_riskOf_2 : decode cX12_riskOf 2 = .ok (.iconst 0, 1) := by decide +kernel
theorem dX12_riskOf_3 : decode cX12_riskOf 3 = .ok (.istore_n 3, 1) := by decide +kernel
theorem dX12_riskOf_4 : decode cX12_riskOf 4 = .ok (.iload_n 3, 1) := by decide +kernel
theorem dX12_riskOf_5 : decode cX12_riskOf 5 = .ok (.aload_n 0, 1) := by decide +kernel
theorem dX12_riskOf_6 : decode cX12_riskOf 6 = .ok (.getfield 35, 3) := by decide +kernel
theorem dX12_riskOf_9 : decode cX12_riskOf 9 = .ok (.iconst 2, 1) := by decide +kernel
theorem dX12_riskOf_10 : decode cX12_riskOf 10 = .ok (.iaload, 1) := by decide +kernel
theorem dX12_riskOf_11 : decode cX12_riskOf 11 = .ok (.if_icmp .ge 47, 3) := by decide +kernel
theorem dX12_riskOf_14 : decode cX12_riskOf 14 = .ok (.iload_n 2, 1) := by decide +kernel
theorem dX12_riskOf_15 : decode cX12_riskOf 15 = .ok (.aload_n 0, 1) := by decide +kernel
theorem dX12_riskOf_16 : decode cX12_riskOf 16 = .ok (.aload_n 0, 1) := by decide +kernel
theorem dX12_riskOf_17 : decode cX12_riskOf 17 = .ok (.getfield 35, 3) := by decide +kernel
theorem dX12_riskOf_20 : decode cX12_riskOf 20 = .ok (.sipush 161, 3) := by decide +kernel
theorem dX12_riskOf_23 : decode cX12_riskOf 23 = .ok (.iload_n 3, 1) := by decide +kernel
theorem dX12_riskOf_24 : decode cX12_riskOf 24 = .ok (.iadd, 1) := by decide +kernel
theorem dX12_riskOf_25 : decode cX12_riskOf 25 = .ok (.iaload, 1) := by decide +kernel
theorem dX12_riskOf_26 : decode cX12_riskOf 26 = .ok (.invokevirtual 398, 3) := by decide +kernel
theorem dX12_riskOf_29 : decode cX12_riskOf 29 = .ok (.iload_n 1, 1) := by decide +kernel
theorem dX12_riskOf_30 : decode cX12_riskOf 30 = .ok (.invokestatic 107, 3) := by decide +kernel
theorem dX12_riskOf_33 : decode cX12_riskOf 33 = .ok (.ifCond .eq 16, 3) := by decide +kernel
theorem dX12_riskOf_36 : decode cX12_riskOf 36 = .ok (.aload_n 0, 1) := by decide +kernel
theorem dX12_riskOf_37 : decode cX12_riskOf 37 = .ok (.getfield 35, 3) := by decide +kernel
theorem dX12_riskOf_40 : decode cX12_riskOf 40 = .ok (.sipush 167, 3) := by decide +kernel
theorem dX12_riskOf_43 : decode cX12_riskOf 43 = .ok (.iload_n 3, 1) := by decide +kernel
theorem dX12_riskOf_44 : decode cX12_riskOf 44 = .ok (.iadd, 1) := by decide +kernel
theorem dX12_riskOf_45 : decode cX12_riskOf 45 = .ok (.iaload, 1) := by decide +kernel
theorem dX12_riskOf_46 : decode cX12_riskOf 46 = .ok (.goto 4, 3) := by decide +kernel
theorem dX12_riskOf_49 : decode cX12_riskOf 49 = .ok (.iconst 0, 1) := by decide +kernel
theorem dX12_riskOf_50 : decode cX12_riskOf 50 = .ok (.iadd, 1) := by decide +kernel
theorem dX12_riskOf_51 : decode cX12_riskOf 51 = .ok (.istore_n 2, 1) := by decide +kernel
theorem dX12_riskOf_52 : decode cX12_riskOf 52 = .ok (.iinc 3 1, 3) := by decide +kernel
theorem dX12_riskOf_55 : decode cX12_riskOf 55 = .ok (.goto (-51), 3) := by decide +kernel
theorem dX12_riskOf_58 : decode cX12_riskOf 58 = .ok (.iload_n 2, 1) := by decide +kernel
theorem dX12_riskOf_59 : decode cX12_riskOf 59 = .ok (.ireturn, 1) := by decide +kernel
def j_X12_riskOf : JD := (yX12_riskOf, cX12_riskOf, 4, (some .int))
def b_X12_riskOf : BD := (3, 0, 0)
theorem dX12_risk_0 : decode cX12_risk 0 = .ok (.aload_n 0, 1) := by decide +kernel
theorem dX12_risk_1 : decode cX12_risk 1 = .ok (.iconst 0, 1) := by decide +kernel
theorem dX12_risk_2 : decode cX12_risk 2 = .ok (.putfield 68, 3) := by decide +kernel
theorem dX12_risk_5 : decode cX12_risk 5 = .ok (.aload_n 0, 1) := by decide +kernel
theorem dX12_risk_6 : decode cX12_risk 6 = .ok (.iconst 0, 1) := by decide +kernel
theorem dX12_risk_7 : decode cX12_risk 7 = .ok (.putfield 71, 3) := by decide +kernel
theorem dX12_risk_10 : decode cX12_risk 10 = .ok (.aload_n 0, 1) := by decide +kernel
theorem dX12_risk_11 : decode cX12_risk 11 = .ok (.iload_n 1, 1) := by decide +kernel
theorem dX12_risk_12 : decode cX12_risk 12 = .ok (.invokevirtual 341, 3) := by decide +kernel
theorem dX12_risk_15 : decode cX12_risk 15 = .ok (.ifCond .ne 9, 3) := by decide +kernel
theorem dX12_risk_18 : decode cX12_risk 18 = .ok (.aload_n 0, 1) := by decide +kernel
theorem dX12_risk_19 : decode cX12_risk 19 = .ok (.iconst 2, 1) := by decide +kernel
theorem dX12_risk_20 : decode cX12_risk 20 = .ok (.invokevirtual 83, 3) := by decide +kernel
theorem dX12_risk_23 : decode cX12_risk 23 = .ok (.ireturn, 1) := by decide +kernel
theorem dX12_risk_24 : decode cX12_risk 24 = .ok (.aload_n 0, 1) := by decide +kernel
theorem dX12_risk_25 : decode cX12_risk 25 = .ok (.getfield 35, 3) := by decide +kernel
theorem dX12_risk_28 : decode cX12_risk 28 = .ok (.iconst 2, 1) := by decide +kernel
theorem dX12_risk_29 : decode cX12_risk 29 = .ok (.iaload, 1) := by decide +kernel
theorem dX12_risk_30 : decode cX12_risk 30 = .ok (.ifCond .ne 12, 3) := by decide +kernel
theorem dX12_risk_33 : decode cX12_risk 33 = .ok (.aload_n 0, 1) := by decide +kernel
theorem dX12_risk_34 : decode cX12_risk 34 = .ok (.bipush 8, 2) := by decide +kernel
theorem dX12_risk_36 : decode cX12_risk 36 = .ok (.invokevirtual 83, 3) := by decide +kernel
theorem dX12_risk_39 : decode cX12_risk 39 = .ok (.goto 18, 3) := by decide +kernel
theorem dX12_risk_42 : decode cX12_risk 42 = .ok (.aload_n 0, 1) := by decide +kernel
theorem dX12_risk_43 : decode cX12_risk 43 = .ok (.aload_n 0, 1) := by decide +kernel
theorem dX12_risk_44 : decode cX12_risk 44 = .ok (.iload_n 1, 1) := by decide +kernel
theorem dX12_risk_45 : decode cX12_risk 45 = .ok (.invokevirtual 412, 3) := by decide +kernel
theorem dX12_risk_48 : decode cX12_risk 48 = .ok (.i2l, 1) := by decide +kernel
theorem dX12_risk_49 : decode cX12_risk 49 = .ok (.aload_n 0, 1) := by decide +kernel
theorem dX12_risk_50 : decode cX12_risk 50 = .ok (.invokevirtual 338, 3) := by decide +kernel
theorem dX12_risk_53 : decode cX12_risk 53 = .ok (.i2l, 1) := by decide +kernel
theorem dX12_risk_54 : decode cX12_risk 54 = .ok (.invokevirtual 415, 3) := by decide +kernel
theorem dX12_risk_57 : decode cX12_risk 57 = .ok (.ireturn, 1) := by decide +kernel
def j_X12_risk : JD := (yX12_risk, cX12_risk, 2, (some .boolean))
def b_X12_risk : BD := (4, 0, 0)
theorem dX12_lossOf_0 : decode cX12_lossOf 0 = .ok (.iconst 0, 1) := by decide +kernel
theorem dX12_lossOf_1 : decode cX12_lossOf 1 = .ok (.istore_n 1, 1) := by decide +kernel
theorem dX12_lossOf_2 : decode cX12_lossOf 2 = .ok (.iconst 0, 1) := by decide +kernel
theorem dX12_lossOf_3 : decode cX12_lossOf 3 = .ok (.istore_n 2, 1) := by decide +kernel
theorem dX12_lossOf_4 : decode cX12_lossOf 4 = .ok (.iload_n 2, 1) := by decide +kernel
theorem dX12_lossOf_5 : decode cX12_lossOf 5 = .ok (.aload_n 0, 1) := by decide +kernel
theorem dX12_lossOf_6 : decode cX12_lossOf 6 = .ok (.getfield 35, 3) := by decide +kernel
theorem dX12_lossOf_9 : decode cX12_lossOf 9 = .ok (.iconst 0, 1) := by decide +kernel
theorem dX12_lossOf_10 : decode cX12_lossOf 10 = .ok (.iaload, 1) := by decide +kernel
theorem dX12_lossOf_11 : decode cX12_lossOf 11 = .ok (.if_icmp .ge 27, 3) := by decide +kernel
theorem dX12_lossOf_14 : decode cX12_lossOf 14 = .ok (.iload_n 1, 1) := by decide +kernel
theorem dX12_lossOf_15 : decode cX12_lossOf 15 = .ok (.aload_n 0, 1) := by decide +kernel
theorem dX12_lossOf_16 : decode cX12_lossOf 16 = .ok (.getfield 35, 3) := by decide +kernel
theorem dX12_lossOf_19 : decode cX12_lossOf 19 = .ok (.bipush 13, 2) := by decide +kernel
theorem dX12_lossOf_21 : decode cX12_lossOf 21 = .ok (.iload_n 2, 1) := by decide +kernel
theorem dX12_lossOf_22 : decode cX12_lossOf 22 = .ok (.iadd, 1) := by decide +kernel
theorem dX12_lossOf_23 : decode cX12_lossOf 23 = .ok (.iaload, 1) := by decide +kernel
theorem dX12_lossOf_24 : decode cX12_lossOf 24 = .ok (.aload_n 0, 1) := by decide +kernel
theorem dX12_lossOf_25 : decode cX12_lossOf 25 = .ok (.iload_n 2, 1) := by decide +kernel
theorem dX12_lossOf_26 : decode cX12_lossOf 26 = .ok (.invokevirtual 412, 3) := by decide +kernel
theorem dX12_lossOf_29 : decode cX12_lossOf 29 = .ok (.imul, 1) := by decide +kernel
theorem dX12_lossOf_30 : decode cX12_lossOf 30 = .ok (.iadd, 1) := by decide +kernel
theorem dX12_lossOf_31 : decode cX12_lossOf 31 = .ok (.istore_n 1, 1) := by decide +kernel
theorem dX12_lossOf_32 : decode cX12_lossOf 32 = .ok (.iinc 2 1, 3) := by decide +kernel
theorem dX12_lossOf_35 : decode cX12_lossOf 35 = .ok (.goto (-31), 3) := by decide +kernel
theorem dX12_lossOf_38 : decode cX12_lossOf 38 = .ok (.iload_n 1, 1) := by decide +kernel
theorem dX12_lossOf_39 : decode cX12_lossOf 39 = .ok (.ireturn, 1) := by decide +kernel
def j_X12_lossOf : JD := (yX12_lossOf, cX12_lossOf, 3, (some .int))
def b_X12_lossOf : BD := (4, 0, 0)
theorem dX12_loss_0 : decode cX12_loss 0 = .ok (.aload_n 0, 1) := by decide +kernel
theorem dX12_loss_1 : decode cX12_loss 1 = .ok (.iconst 0, 1) := by decide +kernel
theorem dX12_loss_2 : decode cX12_loss 2 = .ok (.putfield 68, 3) := by decide +kernel
theorem dX12_loss_5 : decode cX12_loss 5 = .ok (.aload_n 0, 1) := by decide +kernel
theorem dX12_loss_6 : decode cX12_loss 6 = .ok (.iconst 0, 1) := by decide +kernel
theorem dX12_loss_7 : decode cX12_loss 7 = .ok (.putfield 71, 3) := by decide +kernel
theorem dX12_loss_10 : decode cX12_loss 10 = .ok (.aload_n 0, 1) := by decide +kernel
theorem dX12_loss_11 : decode cX12_loss 11 = .ok (.getfield 35, 3) := by decide +kernel
theorem dX12_loss_14 : decode cX12_loss 14 = .ok (.iconst 2, 1) := by decide +kernel
theorem dX12_loss_15 : decode cX12_loss 15 = .ok (.iaload, 1) := by decide +kernel
theorem dX12_loss_16 : decode cX12_loss 16 = .ok (.ifCond .ne 12, 3) := by decide +kernel
theorem dX12_loss_19 : decode cX12_loss 19 = .ok (.aload_n 0, 1) := by decide +kernel
theorem dX12_loss_20 : decode cX12_loss 20 = .ok (.bipush 8, 2) := by decide +kernel
theorem dX12_loss_22 : decode cX12_loss 22 = .ok (.invokevirtual 83, 3) := by decide +kernel
theorem dX12_loss_25 : decode cX12_loss 25 = .ok (.goto 17, 3) := by decide +kernel
theorem dX12_loss_28 : decode cX12_loss 28 = .ok (.aload_n 0, 1) := by decide +kernel
theorem dX12_loss_29 : decode cX12_loss 29 = .ok (.aload_n 0, 1) := by decide +kernel
theorem dX12_loss_30 : decode cX12_loss 30 = .ok (.invokevirtual 419, 3) := by decide +kernel
theorem dX12_loss_33 : decode cX12_loss 33 = .ok (.i2l, 1) := by decide +kernel
theorem dX12_loss_34 : decode cX12_loss 34 = .ok (.aload_n 0, 1) := by decide +kernel
theorem dX12_loss_35 : decode cX12_loss 35 = .ok (.invokevirtual 338, 3) := by decide +kernel
theorem dX12_loss_38 : decode cX12_loss 38 = .ok (.i2l, 1) := by decide +kernel
theorem dX12_loss_39 : decode cX12_loss 39 = .ok (.invokevirtual 415, 3) := by decide +kernel
theorem dX12_loss_42 : decode cX12_loss 42 = .ok (.ireturn, 1) := by decide +kernel
def j_X12_loss : JD := (yX12_loss, cX12_loss, 1, (some .boolean))
def b_X12_loss : BD := (5, 0, 0)
theorem dX12_keeps_0 : decode cX12_keeps 0 = .ok (.iconst 0, 1) := by decide +kernel
theorem dX12_keeps_1 : decode cX12_keeps 1 = .ok (.istore_n 1, 1) := by decide +kernel
theorem dX12_keeps_2 : decode cX12_keeps 2 = .ok (.iload_n 1, 1) := by decide +kernel
theorem dX12_keeps_3 : decode cX12_keeps 3 = .ok (.sipush 173, 3) := by decide +kernel
theorem dX12_keeps_6 : decode cX12_keeps 6 = .ok (.if_icmp .ge 21, 3) := by decide +kernel
theorem dX12_keeps_9 : decode cX12_keeps 9 = .ok (.aload_n 0, 1) := by decide +kernel
theorem dX12_keeps_10 : decode cX12_keeps 10 = .ok (.getfield 38, 3) := by decide +kernel
theorem dX12_keeps_13 : decode cX12_keeps 13 = .ok (.iload_n 1, 1) := by decide +kernel
theorem dX12_keeps_14 : decode cX12_keeps 14 = .ok (.aload_n 0, 1) := by decide +kernel
theorem dX12_keeps_15 : decode cX12_keeps 15 = .ok (.getfield 35, 3) := by decide +kernel
theorem dX12_keeps_18 : decode cX12_keeps 18 = .ok (.iload_n 1, 1) := by decide +kernel
theorem dX12_keeps_19 : decode cX12_keeps 19 = .ok (.iaload, 1) := by decide +kernel
theorem dX12_keeps_20 : decode cX12_keeps 20 = .ok (.iastore, 1) := by decide +kernel
theorem dX12_keeps_21 : decode cX12_keeps 21 = .ok (.iinc 1 1, 3) := by decide +kernel
theorem dX12_keeps_24 : decode cX12_keeps 24 = .ok (.goto (-22), 3) := by decide +kernel
theorem dX12_keeps_27 : decode cX12_keeps 27 = .ok (.return_, 1) := by decide +kernel
def j_X12_keeps : JD := (yX12_keeps, cX12_keeps, 2, none)
def b_X12_keeps : BD := (0, 0, 0)
theorem dX12_gives_0 : decode cX12_gives 0 = .ok (.iconst 0, 1) := by decide +kernel
theorem dX12_gives_1 : decode cX12_gives 1 = .ok (.istore_n 1, 1) := by decide +kernel
theorem dX12_gives_2 : decode cX12_gives 2 = .ok (.iload_n 1, 1) := by decide +kernel
theorem dX12_gives_3 : decode cX12_gives 3 = .ok (.sipush 173, 3) := by decide +kernel
theorem dX12_gives_6 : decode cX12_gives 6 = .ok (.if_icmp .ge 21, 3) := by decide +kernel
theorem dX12_gives_9 : decode cX12_gives 9 = .ok (.aload_n 0, 1) := by decide +kernel
theorem dX12_gives_10 : decode cX12_gives 10 = .ok (.getfield 35, 3) := by decide +kernel
theorem dX12_gives_13 : decode cX12_gives 13 = .ok (.iload_n 1, 1) := by decide +kernel
theorem dX12_gives_14 : decode cX12_gives 14 = .ok (.aload_n 0, 1) := by decide +kernel
theorem dX12_gives_15 : decode cX12_gives 15 = .ok (.getfield 38, 3) := by decide +kernel
theorem dX12_gives_18 : decode cX12_gives 18 = .ok (.iload_n 1, 1) := by decide +kernel
theorem dX12_gives_19 : decode cX12_gives 19 = .ok (.iaload, 1) := by decide +kernel
theorem dX12_gives_20 : decode cX12_gives 20 = .ok (.iastore, 1) := by decide +kernel
theorem dX12_gives_21 : decode cX12_gives 21 = .ok (.iinc 1 1, 3) := by decide +kernel
theorem dX12_gives_24 : decode cX12_gives 24 = .ok (.goto (-22), 3) := by decide +kernel
theorem dX12_gives_27 : decode cX12_gives 27 = .ok (.return_, 1) := by decide +kernel
def j_X12_gives : JD := (yX12_gives, cX12_gives, 2, none)
def b_X12_gives : BD := (0, 0, 0)
theorem dX12_saves_0 : decode cX12_saves 0 = .ok (.aload_n 0, 1) := by decide +kernel
theorem dX12_saves_1 : decode cX12_saves 1 = .ok (.iconst 0, 1) := by decide +kernel
theorem dX12_saves_2 : decode cX12_saves 2 = .ok (.putfield 68, 3) := by decide +kernel
theorem dX12_saves_5 : decode cX12_saves 5 = .ok (.aload_n 0, 1) := by decide +kernel
theorem dX12_saves_6 : decode cX12_saves 6 = .ok (.iconst 0, 1) := by decide +kernel
theorem dX12_saves_7 : decode cX12_saves 7 = .ok (.putfield 71, 3) := by decide +kernel
theorem dX12_saves_10 : decode cX12_saves 10 = .ok (.iload_n 1, 1) := by decide +kernel
theorem dX12_saves_11 : decode cX12_saves 11 = .ok (.i2l, 1) := by decide +kernel
theorem dX12_saves_12 : decode cX12_saves 12 = .ok (.lconst 1, 1) := by decide +kernel
theorem dX12_saves_13 : decode cX12_saves 13 = .ok (.ldc2_w 393, 3) := by decide +kernel
theorem dX12_saves_16 : decode cX12_saves 16 = .ok (.invokestatic 103, 3) := by decide +kernel
theorem dX12_saves_19 : decode cX12_saves 19 = .ok (.ifCond .eq 15, 3) := by decide +kernel
theorem dX12_saves_22 : decode cX12_saves 22 = .ok (.iload_n 2, 1) := by decide +kernel
theorem dX12_saves_23 : decode cX12_saves 23 = .ok (.i2l, 1) := by decide +kernel
theorem dX12_saves_24 : decode cX12_saves 24 = .ok (.lconst 0, 1) := by decide +kernel
theorem dX12_saves_25 : decode cX12_saves 25 = .ok (.ldc2_w 404, 3) := by decide +kernel
theorem dX12_saves_28 : decode cX12_saves 28 = .ok (.invokestatic 103, 3) := by decide +kernel
theorem dX12_saves_31 : decode cX12_saves 31 = .ok (.ifCond .ne 9, 3) := by decide +kernel
theorem dX12_saves_34 : decode cX12_saves 34 = .ok (.aload_n 0, 1) := by decide +kernel
theorem dX12_saves_35 : decode cX12_saves 35 = .ok (.iconst 5, 1) := by decide +kernel
theorem dX12_saves_36 : decode cX12_saves 36 = .ok (.invokevirtual 83, 3) := by decide +kernel
theorem dX12_saves_39 : decode cX12_saves 39 = .ok (.ireturn, 1) := by decide +kernel
theorem dX12_saves_40 : decode cX12_saves 40 = .ok (.aload_n 0, 1) := by decide +kernel
theorem dX12_saves_41 : decode cX12_saves 41 = .ok (.getfield 35, 3) := by decide +kernel
theorem dX12_saves_44 : decode cX12_saves 44 = .ok (.iconst 2, 1) := by decide +kernel
theorem dX12_saves_45 : decode cX12_saves 45 = .ok (.iaload, 1) := by decide +kernel
theorem dX12_saves_46 : decode cX12_saves 46 = .ok (.ifCond .ne 10, 3) := by decide +kernel
theorem dX12_saves_49 : decode cX12_saves 49 = .ok (.aload_n 0, 1) := by decide +kernel
theorem dX12_saves_50 : decode cX12_saves 50 = .ok (.bipush 8, 2) := by decide +kernel
theorem dX12_saves_52 : decode cX12_saves 52 = .ok (.invokevirtual 83, 3) := by decide +kernel
theorem dX12_saves_55 : decode cX12_saves 55 = .ok (.ireturn, 1) := by decide +kernel
theorem dX12_saves_56 : decode cX12_saves 56 = .ok (.aload_n 0, 1) := by decide +kernel
theorem dX12_saves_57 : decode cX12_saves 57 = .ok (.invokevirtual 419, 3) := by decide +kernel
theorem dX12_saves_60 : decode cX12_saves 60 = .ok (.istore_n 3, 1) := by decide +kernel
theorem dX12_saves_61 : decode cX12_saves 61 = .ok (.aload_n 0, 1) := by decide +kernel
theorem dX12_saves_62 : decode cX12_saves 62 = .ok (.invokevirtual 422, 3) := by decide +kernel
theorem dX12_saves_65 : decode cX12_saves 65 = .ok (.aload_n 0, 1) := by decide +kernel
theorem dX12_saves_66 : decode cX12_saves 66 = .ok (.iload_n 1, 1) := by decide +kernel
theorem dX12_saves_67 : decode cX12_saves 67 = .ok (.invokevirtual 395, 3) := by decide +kernel
theorem dX12_saves_70 : decode cX12_saves 70 = .ok (.istore 4, 2) := by decide +kernel
theorem dX12_saves_72 : decode cX12_saves 72 = .ok (.aload_n 0, 1) := by decide +kernel
theorem dX12_saves_73 : decode cX12_saves 73 = .ok (.invokevirtual 419, 3) := by decide +kernel
theorem dX12_saves_76 : decode cX12_saves 76 = .ok (.istore 5, 2) := by decide +kernel
theorem dX12_saves_78 : decode cX12_saves 78 = .ok (.aload_n 0, 1) := by decide +kernel
theorem dX12_saves_79 : decode cX12_saves 79 = .ok (.invokevirtual 425, 3) := by decide +kernel
theorem dX12_saves_82 : decode cX12_saves 82 = .ok (.aload_n 0, 1) := by decide +kernel
theorem dX12_saves_83 : decode cX12_saves 83 = .ok (.iload_n 3, 1) := by decide +kernel
theorem dX12_saves_84 : decode cX12_saves 84 = .ok (.iload 5, 2) := by decide +kernel
theorem dX12_saves_86 : decode cX12_saves 86 = .ok (.isub, 1) := by decide +kernel
theorem dX12_saves_87 : decode cX12_saves 87 = .ok (.iload_n 2, 1) := by decide +kernel
theorem dX12_saves_88 : decode cX12_saves 88 = .ok (.iload 4, 2) := by decide +kernel
theorem dX12_saves_90 : decode cX12_saves 90 = .ok (.imul, 1) := by decide +kernel
theorem dX12_saves_91 : decode cX12_saves 91 = .ok (.aload_n 0, 1) := by decide +kernel
theorem dX12_saves_92 : decode cX12_saves 92 = .ok (.invokevirtual 338, 3) := by decide +kernel
theorem dX12_saves_95 : decode cX12_saves 95 = .ok (.imul, 1) := by decide +kernel
theorem dX12_saves_96 : decode cX12_saves 96 = .ok (.isub, 1) := by decide +kernel
theorem dX12_saves_97 : decode cX12_saves 97 = .ok (.i2l, 1) := by decide +kernel
theorem dX12_saves_98 : decode cX12_saves 98 = .ok (.aload_n 0, 1) := by decide +kernel
theorem dX12_saves_99 : decode cX12_saves 99 = .ok (.invokevirtual 338, 3) := by decide +kernel
theorem dX12_saves_102 : decode cX12_saves 102 = .ok (.i2l, 1) := by decide +kernel
theorem dX12_saves_103 : decode cX12_saves 103 = .ok (.invokevirtual 415, 3) := by decide +kernel
theorem dX12_saves_106 : decode cX12_saves 106 = .ok (.ireturn, 1) := by decide +kernel
def j_X12_saves : JD := (yX12_saves, cX12_saves, 6, (some .boolean))
def b_X12_saves : BD := (5, 0, 0)
theorem dX12_dearest_0 : decode cX12_dearest 0 = .ok (.aload_n 0, 1) := by decide +kernel
theorem dX12_dearest_1 : decode cX12_dearest 1 = .ok (.iconst 0, 1) := by decide +kernel
theorem dX12_dearest_2 : decode cX12_dearest 2 = .ok (.putfield 68, 3) := by decide +kernel
theorem dX12_dearest_5 : decode cX12_dearest 5 = .ok (.aload_n 0, 1) := by decide +kernel
theorem dX12_dearest_6 : decode cX12_dearest 6 = .ok (.iconst 0, 1) := by decide +kernel
theorem dX12_dearest_7 : decode cX12_dearest 7 = .ok (.putfield 71, 3) := by decide +kernel
theorem dX12_dearest_10 : decode cX12_dearest 10 = .ok (.iconst (-1), 1) := by decide +kernel
theorem dX12_dearest_11 : decode cX12_dearest 11 = .ok (.istore_n 1, 1) := by decide +kernel
theorem dX12_dearest_12 : decode cX12_dearest 12 = .ok (.iconst 0, 1) := by decide +kernel
theorem dX12_dearest_13 : decode cX12_dearest 13 = .ok (.istore_n 2, 1) := by decide +kernel
theorem dX12_dearest_14 : decode cX12_dearest 14 = .ok (.iload_n 2, 1) := by decide +kernel
theorem dX12_dearest_15 : decode cX12_dearest 15 = .ok (.aload_n 0, 1) := by decide +kernel
theorem dX12_dearest_16 : decode cX12_dearest 16 = .ok (.getfield 35, 3) := by decide +kernel
theorem dX12_dearest_19 : decode cX12_dearest 19 = .ok (.iconst 0, 1) := by decide +kernel
theorem dX12_dearest_20 : decode cX12_dearest 20 = .ok (.iaload, 1) := by decide +kernel
theorem dX12_dearest_21 : decode cX12_dearest 21 = .ok (.if_icmp .ge 65, 3) := by decide +kernel
theorem dX12_dearest_24 : decode cX12_dearest 24 = .ok (.aload_n 0, 1) := by decide +kernel
theorem dX12_dearest_25 : decode cX12_dearest 25 = .ok (.getfield 35, 3) := by decide +kernel
theorem dX12_dearest_28 : decode cX12_dearest 28 = .ok (.iconst 2, 1) := by decide +kernel
theorem dX12_dearest_29 : decode cX12_dearest 29 = .ok (.iaload, 1) := by decide +kernel
theorem dX12_dearest_30 : decode cX12_dearest 30 = .ok (.ifCond .le 56, 3) := by decide +kernel
theorem dX12_dearest_33 : decode cX12_dearest 33 = .ok (.aload_n 0, 1) := by decide +kernel
theorem dX12_dearest_34 : decode cX12_dearest 34 = .ok (.iload_n 2, 1) := by decide +kernel
theorem dX12_dearest_35 : decode cX12_dearest 35 = .ok (.invokevirtual 363, 3) := by decide +kernel
theorem dX12_dearest_38 : decode cX12_dearest 38 = .ok (.ifCond .eq 42, 3) := by decide +kernel
theorem dX12_dearest_41 : decode cX12_dearest 41 = .ok (.iload_n 1, 1) := by decide +kernel
theorem dX12_dearest_42 : decode cX12_dearest 42 = .ok (.ifCond .lt 36, 3) := by decide +kernel
theorem dX12_dearest_45 : decode cX12_dearest 45 = .ok (.aload_n 0, 1) := by decide +kernel
theorem dX12_dearest_46 : decode cX12_dearest 46 = .ok (.getfield 35, 3) := by decide +kernel
theorem dX12_dearest_49 : decode cX12_dearest 49 = .ok (.bipush 13, 2) := by decide +kernel
theorem dX12_dearest_51 : decode cX12_dearest 51 = .ok (.iload_n 2, 1) := by decide +kernel
theorem dX12_dearest_52 : decode cX12_dearest 52 = .ok (.iadd, 1) := by decide +kernel
theorem dX12_dearest_53 : decode cX12_dearest 53 = .ok (.iaload, 1) := by decide +kernel
theorem dX12_dearest_54 : decode cX12_dearest 54 = .ok (.aload_n 0, 1) := by decide +kernel
theorem dX12_dearest_55 : decode cX12_dearest 55 = .ok (.iload_n 2, 1) := by decide +kernel
theorem dX12_dearest_56 : decode cX12_dearest 56 = .ok (.invokevirtual 412, 3) := by decide +kernel
theorem dX12_dearest_59 : decode cX12_dearest 59 = .ok (.imul, 1) := by decide +kernel
theorem dX12_dearest_60 : decode cX12_dearest 60 = .ok (.aload_n 0, 1) := by decide +kernel
theorem dX12_dearest_61 : decode cX12_dearest 61 = .ok (.getfield 35, 3) := by decide +kernel
theorem dX12_dearest_64 : decode cX12_dearest 64 = .ok (.bipush 13, 2) := by decide +kernel
theorem dX12_dearest_66 : decode cX12_dearest 66 = .ok (.iload_n 1, 1) := by decide +kernel
theorem dX12_dearest_67 : decode cX12_dearest 67 = .ok (.iadd, 1) := by decide +kernel
theorem dX12_dearest_68 : decode cX12_dearest 68 = .ok (.iaload, 1) := by decide +kernel
theorem dX12_dearest_69 : decode cX12_dearest 69 = .ok (.aload_n 0, 1) := by decide +kernel
theorem dX12_dearest_70 : decode cX12_dearest 70 = .ok (.iload_n 1, 1) := by decide +kernel
theorem dX12_dearest_71 : decode cX12_dearest 71 = .ok (.invokevirtual 412, 3) := by decide +kernel
theorem dX12_dearest_74 : decode cX12_dearest 74 = .ok (.imul, 1) := by decide +kernel
theorem dX12_dearest_75 : decode cX12_dearest 75 = .ok (.if_icmp .le 5, 3) := by decide +kernel
theorem dX12_dearest_78 : decode cX12_dearest 78 = .ok (.iload_n 2, 1) := by decide +kernel
theorem dX12_dearest_79 : decode cX12_dearest 79 = .ok (.istore_n 1, 1) := by decide +kernel
theorem dX12_dearest_80 : decode cX12_dearest 80 = .ok (.iinc 2 1, 3) := by decide +kernel
theorem dX12_dearest_83 : decode cX12_dearest 83 = .ok (.goto (-69), 3) := by decide +kernel
theorem dX12_dearest_86 : decode cX12_dearest 86 = .ok (.iload_n 1, 1) := by decide +kernel
theorem dX12_dearest_87 : decode cX12_dearest 87 = .ok (.ifCond .ge 12, 3) := by decide +kernel
theorem dX12_dearest_90 : decode cX12_dearest 90 = .ok (.aload_n 0, 1) := by decide +kernel
theorem dX12_dearest_91 : decode cX12_dearest 91 = .ok (.bipush 8, 2) := by decide +kernel
theorem dX12_dearest_93 : decode cX12_dearest 93 = .ok (.invokevirtual 331, 3) := by decide +kernel
theorem dX12_dearest_96 : decode cX12_dearest 96 = .ok (.goto 4, 3) := by decide +kernel
theorem dX12_dearest_99 : decode cX12_dearest 99 = .ok (.iload_n 1, 1) := by decide +kernel
theorem dX12_dearest_100 : decode cX12_dearest 100 = .ok (.ireturn, 1) := by decide +kernel
def j_X12_dearest : JD := (yX12_dearest, cX12_dearest, 3, (some .int))
def b_X12_dearest : BD := (4, 0, 0)
theorem mv_X12_takesUp : MV j_X12_takesUp 12 2 := ⟨⟨gw_at 2028 (by decide +kernel) rfl, gw_at 221 (by decide +kernel) rfl, ⟨by decide +kernel, by decide +kernel⟩, by decide +kernel, by decide, by decide +kernel⟩, ⟨_, rfl, rfl⟩, gw_at 2027 (by decide +kernel) rfl, gw_at 173 (by decide +kernel) rfl⟩
theorem mv_X12_drops : MV j_X12_drops 12 1 := ⟨⟨gw_at 2036 (by decide +kernel) rfl, gw_at 221 (by decide +kernel) rfl, ⟨by decide +kernel, by decide +kernel⟩, by decide +kernel, by decide, by decide +kernel⟩, ⟨_, rfl, rfl⟩, gw_at 2035 (by decide +kernel) rfl, gw_at 174 (by decide +kernel) rfl⟩
theorem mv_X12_lifts : MV j_X12_lifts 12 2 := ⟨⟨gw_at 2024 (by decide +kernel) rfl, gw_at 221 (by decide +kernel) rfl, ⟨by decide +kernel, by decide +kernel⟩, by decide +kernel, by decide, by decide +kernel⟩, ⟨_, rfl, rfl⟩, gw_at 2023 (by decide +kernel) rfl, gw_at 172 (by decide +kernel) rfl⟩
theorem mv_X12_minute : MV j_X12_minute 12 1 := ⟨⟨gw_at 2049 (by decide +kernel) rfl, gw_at 221 (by decide +kernel) rfl, ⟨by decide +kernel, by decide +kernel⟩, by decide +kernel, by decide, by decide +kernel⟩, ⟨_, rfl, rfl⟩, gw_at 2048 (by decide +kernel) rfl, gw_at 176 (by decide +kernel) rfl⟩
theorem mv_X12_hours : MV j_X12_hours 12 1 := ⟨⟨gw_at 2045 (by decide +kernel) rfl, gw_at 221 (by decide +kernel) rfl, ⟨by decide +kernel, by decide +kernel⟩, by decide +kernel, by decide, by decide +kernel⟩, ⟨_, rfl, rfl⟩, gw_at 2044 (by decide +kernel) rfl, gw_at 175 (by decide +kernel) rfl⟩
theorem mv_X12_fallSet : MV j_X12_fallSet 12 1 := ⟨⟨gw_at 2063 (by decide +kernel) rfl, gw_at 221 (by decide +kernel) rfl, ⟨by decide +kernel, by decide +kernel⟩, by decide +kernel, by decide, by decide +kernel⟩, ⟨_, rfl, rfl⟩, gw_at 2062 (by decide +kernel) rfl, gw_at 178 (by decide +kernel) rfl⟩
theorem mv_X12_blows : MV j_X12_blows 12 1 := ⟨⟨gw_at 2059 (by decide +kernel) rfl, gw_at 221 (by decide +kernel) rfl, ⟨by decide +kernel, by decide +kernel⟩, by decide +kernel, by decide, by decide +kernel⟩, ⟨_, rfl, rfl⟩, gw_at 2058 (by decide +kernel) rfl, gw_at 177 (by decide +kernel) rfl⟩
theorem mv_X12_dawns : MV j_X12_dawns 12 0 := ⟨⟨gw_at 2077 (by decide +kernel) rfl, gw_at 221 (by decide +kernel) rfl, ⟨by decide +kernel, by decide +kernel⟩, by decide +kernel, by decide, by decide +kernel⟩, ⟨_, rfl, rfl⟩, gw_at 2076 (by decide +kernel) rfl, gw_at 179 (by decide +kernel) rfl⟩
theorem mv_X12_riskOf : MV j_X12_riskOf 12 1 := ⟨⟨gw_at 2093 (by decide +kernel) rfl, gw_at 221 (by decide +kernel) rfl, ⟨by decide +kernel, by decide +kernel⟩, by decide +kernel, by decide, by decide +kernel⟩, ⟨_, rfl, rfl⟩, gw_at 2092 (by decide +kernel) rfl, gw_at 180 (by decide +kernel) rfl⟩
theorem mv_X12_lossOf : MV j_X12_lossOf 12 0 := ⟨⟨gw_at 2106 (by decide +kernel) rfl, gw_at 221 (by decide +kernel) rfl, ⟨by decide +kernel, by decide +kernel⟩, by decide +kernel, by decide, by decide +kernel⟩, ⟨_, rfl, rfl⟩, gw_at 2105 (by decide +kernel) rfl, gw_at 182 (by decide +kernel) rfl⟩
theorem mv_X12_keeps : MV j_X12_keeps 12 0 := ⟨⟨gw_at 2114 (by decide +kernel) rfl, gw_at 221 (by decide +kernel) rfl, ⟨by decide +kernel, by decide +kernel⟩, by decide +kernel, by decide, by decide +kernel⟩, ⟨_, rfl, rfl⟩, gw_at 2113 (by decide +kernel) rfl, gw_at 183 (by decide +kernel) rfl⟩
theorem mv_X12_gives : MV j_X12_gives 12 0 := ⟨⟨gw_at 2118 (by decide +kernel) rfl, gw_at 221 (by decide +kernel) rfl, ⟨by decide +kernel, by decide +kernel⟩, by decide +kernel, by decide, by decide +kernel⟩, ⟨_, rfl, rfl⟩, gw_at 2117 (by decide +kernel) rfl, gw_at 184 (by decide +kernel) rfl⟩
theorem ml_X12_372 : MLk RX12 372 j_X12_chosenBy.1 := Or.inl (gw_at 2001 (by decide +kernel) rfl)
theorem ml_X12_375 : MLk RX12 375 j_X12_takesUp.1 := Or.inl (gw_at 2025 (by decide +kernel) rfl)
theorem ml_X12_378 : MLk RX12 378 j_X12_lifts.1 := Or.inl (gw_at 2021 (by decide +kernel) rfl)
theorem ml_X12_381 : MLk RX12 381 j_X12_drops.1 := Or.inl (gw_at 2033 (by decide +kernel) rfl)
theorem ml_X12_390 : MLk RX12 390 j_X12_minute.1 := Or.inl (gw_at 2046 (by decide +kernel) rfl)
theorem ml_X12_395 : MLk RX12 395 j_X12_hours.1 := Or.inl (gw_at 2042 (by decide +kernel) rfl)
theorem ml_X12_398 : MLk RX12 398 j_X12_fallSet.1 := Or.inl (gw_at 2060 (by decide +kernel) rfl)
theorem ml_X12_401 : MLk RX12 401 j_X12_sizeOf.1 := Or.inl (gw_at 2067 (by decide +kernel) rfl)
theorem ml_X12_406 : MLk RX12 406 j_X12_blows.1 := Or.inl (gw_at 2056 (by decide +kernel) rfl)
theorem ml_X12_409 : MLk RX12 409 j_X12_dawns.1 := Or.inl (gw_at 2074 (by decide +kernel) rfl)
theorem ml_X12_412 : MLk RX12 412 j_X12_riskOf.1 := Or.inl (gw_at 2090 (by decide +kernel) rfl)
theorem ml_X12_415 : MLk RX12 415 j_X12_fraction.1 := Or.inl (gw_at 2094 (by decide +kernel) rfl)
theorem ml_X12_419 : MLk RX12 419 j_X12_lossOf.1 := Or.inl (gw_at 2103 (by decide +kernel) rfl)
theorem ml_X12_422 : MLk RX12 422 j_X12_keeps.1 := Or.inl (gw_at 2111 (by decide +kernel) rfl)
theorem ml_X12_425 : MLk RX12 425 j_X12_gives.1 := Or.inl (gw_at 2115 (by decide +kernel) rfl)
def f_X12_next_ (M : Mm) (l0 : Option Nat) (l1 : Int32) : Option (Int32 × Mm) := pfI M l0 12 1 0 fun M2 => pfI M2 l0 12 0 0 fun M7 => ck M7 l0 12 <| bd (f_X12_isGangAt M7 l0 l1) fun v12 M12 => if v12 = 0 then (ck M12 l0 12 <| bd (f_X12_refuse M12 l0 2) fun v20 M20 => some (v20, M20)) else (gfR M12 l0 12 20 fun v25 => alI M12 v25 21 (149 + l1) fun v33 => if v33 < 0 then (ck M12 l0 12 <| bd (f_X12_chosenBy M12 l0 l1) fun v46 M46 => if 0 ≤ v46 then (some (v46, M46)) else (ck M46 l0 12 <| bd (f_X12_refuse M46 l0 8) fun v57 M57 => some (v57, M57))) else (ck M12 l0 12 <| bd (f_X12_refuse M12 l0 9) fun v40 M40 => some (v40, M40)))
set_option maxHeartbeats 4000000 in
set_option maxRecDepth 100000 in
theorem t_X12_next__e {G : GG} {X : CX} {ans : Int32 × Mm} (he : EndI G X j_X12_next_ b_X12_next_ ans) {M : Mm} {l0 : Option Nat} {l1 : Int32} (h : f_X12_next_ M l0 l1 = some ans) : Wt G X j_X12_next_ b_X12_next_ 0 [(0, rf G.1 l0), (1, .int l1)] [] M 0 0 := by
  unfold f_X12_next_ at h
  refine wt_aload_n (pc := 0) 0 dX12_next__0 rfl ?_
  refine wt_iconst (pc := 1) (v := 0) dX12_next__1 (by decide) ?_
  refine wt_putI (pc := 2) dX12_next__2 fl_X12_68 rfl rfl h (fun M2 h => ?_)
  refine wt_aload_n (pc := 5) 0 dX12_next__5 rfl ?_
  refine wt_iconst (pc := 6) (v := 0) dX12_next__6 (by decide) ?_
  refine wt_putI (pc := 7) dX12_next__7 fl_X12_71 rfl rfl h (fun M7 h => ?_)
  refine wt_aload_n (pc := 10) 0 dX12_next__10 rfl ?_
  refine wt_iload_n (pc := 11) 1 dX12_next__11 rfl ?_
  refine wt_cVI (pc := 12) (J' := j_X12_isGangAt) (As := [.int l1]) (st := []) (B' := b_X12_isGangAt) (u' := 0) (w' := 0) dX12_next__12 ml_X12_352 mv_X12_isGangAt (fun v9 M9 e9 => c_X12_isGangAt e9) rfl (by decide) rfl rfl (by decide) (by decide) (by decide) rfl h (fun v12 M12 h => ?_)
  refine wt_if_ne (pc := 15) (tgt := 24) dX12_next__15 (by decide) (fun q => ?_) (fun q => ?_)
  · have h := ite_f q h
    refine wt_aload_n (pc := 24) 0 dX12_next__24 rfl ?_
    refine wt_getR (pc := 25) dX12_next__25 fl_X12_35 (fun _ _ _ => rfl) h (fun v25 h => ?_)
    refine wt_sipush (pc := 28) (v := 149) dX12_next__28 (by decide) ?_
    refine wt_iload_n (pc := 31) 1 dX12_next__31 rfl ?_
    refine wt_iadd (pc := 32) dX12_next__32 ?_
    refine wt_iaload (pc := 33) (kd := 21) dX12_next__33 rfl rfl h (fun v33 h => ?_)
    refine wt_if_lt (pc := 34) (tgt := 44) dX12_next__34 (by decide) (fun q => ?_) (fun q => ?_)
    · have h := ite_t q h
      refine wt_aload_n (pc := 44) 0 dX12_next__44 rfl ?_
      refine wt_iload_n (pc := 45) 1 dX12_next__45 rfl ?_
      refine wt_cVI (pc := 46) (J' := j_X12_chosenBy) (As := [.int l1]) (st := []) (B' := b_X12_chosenBy) (u' := 0) (w' := 0) dX12_next__46 ml_X12_372 mv_X12_chosenBy (fun v9 M9 e9 => c_X12_chosenBy e9) rfl (by decide) rfl rfl (by decide) (by decide) (by decide) rfl h (fun v46 M46 h => ?_)
      refine wt_istore_n (pc := 49) (i := 2) (ls' := [(2, .int v46), (0, rf G.1 l0), (1, .int l1)]) rfl dX12_next__49 (by decide) rfl ?_
      refine wt_iload_n (pc := 50) 0 dX12_next__50 rfl ?_
      refine wt_if_ge (pc := 51) (tgt := 63) dX12_next__51 (by decide) (fun q => ?_) (fun q => ?_)
      · have h := ite_t q h
        refine wt_iload_n (pc := 63) 0 dX12_next__63 rfl ?_
        cases h
        exact he 64 _ _ _ dX12_next__64 (by decide) (by decide)
      · have h := ite_f q h
        refine wt_aload_n (pc := 54) 1 dX12_next__54 rfl ?_
        refine wt_bipush (pc := 55) (v := 8) dX12_next__55 (by decide) ?_
        refine wt_cVI (pc := 57) (J' := j_X12_refuse) (As := [.int 8]) (st := []) (B' := b_X12_refuse) (u' := 0) (w' := 0) dX12_next__57 ml_X12_331 mv_X12_refuse (fun v9 M9 e9 => c_X12_refuse e9) rfl (by decide) rfl rfl (by decide) (by decide) (by decide) rfl h (fun v57 M57 h => ?_)
        refine wt_goto (pc := 60) (tgt := 64) dX12_next__60 (by decide) ?_
        cases h
        exact he 64 _ _ _ dX12_next__64 (by decide) (by decide)
    · have h := ite_f q h
      refine wt_aload_n (pc := 37) 0 dX12_next__37 rfl ?_
      refine wt_bipush (pc := 38) (v := 9) dX12_next__38 (by decide) ?_
      refine wt_cVI (pc := 40) (J' := j_X12_refuse) (As := [.int 9]) (st := []) (B' := b_X12_refuse) (u' := 0) (w' := 0) dX12_next__40 ml_X12_331 mv_X12_refuse (fun v9 M9 e9 => c_X12_refuse e9) rfl (by decide) rfl rfl (by decide) (by decide) (by decide) rfl h (fun v40 M40 h => ?_)
      cases h
      exact he 43 _ _ _ dX12_next__43 (by decide) (by decide)
  · have h := ite_t q h
    refine wt_aload_n (pc := 18) 0 dX12_next__18 rfl ?_
    refine wt_iconst (pc := 19) (v := 2) dX12_next__19 (by decide) ?_
    refine wt_cVI (pc := 20) (J' := j_X12_refuse) (As := [.int 2]) (st := []) (B' := b_X12_refuse) (u' := 0) (w' := 0) dX12_next__20 ml_X12_331 mv_X12_refuse (fun v9 M9 e9 => c_X12_refuse e9) rfl (by decide) rfl rfl (by decide) (by decide) (by decide) rfl h (fun v20 M20 h => ?_)
    cases h
    exact he 23 _ _ _ dX12_next__23 (by decide) (by decide)
set_option maxHeartbeats 4000000 in
set_option maxRecDepth 100000 in
theorem c_X12_next_ {G : GG} {M : Mm} {l0 : Option Nat} {l1 : Int32} {r : Int32 × Mm} (h : f_X12_next_ M l0 l1 = some r) (l : Launch) : Ct l G j_X12_next_ b_X12_next_ [rf G.1 l0, .int l1] M (some (.int r.1)) r.2 := cf_I (by decide +kernel) (by simp [lg_sl, rf_cat, cat_i, cat_l, j_X12_next_]) rfl (by simp [lv_args, rf_cat, cat_i, cat_l]) (fun X he => t_X12_next__e he h)
def f_X12_takesUp (M : Mm) (l0 : Option Nat) (l1 : Int32) (l2 : Int32) : Option (Mm) := gfR M l0 12 20 fun v1 => ck M l0 12 <| bd (f_X12_walkOf M l0 l1 l2) fun v12 M12 => asI M12 v1 21 (153 + l1) v12 fun M15 => gfR M15 l0 12 20 fun v17 => asI M15 v17 21 (157 + l1) 0 fun M26 => gfR M26 l0 12 20 fun v28 => asI M26 v28 21 (149 + l1) l2 fun M37 => gfR M37 l0 12 20 fun v39 => gfR M37 l0 12 20 fun v48 => alI M37 v48 21 (5 + l2) fun v54 => asI M37 v39 21 (145 + l1) v54 fun M55 => some M55
set_option maxHeartbeats 4000000 in
set_option maxRecDepth 100000 in
theorem t_X12_takesUp_e {G : GG} {X : CX} {ans : Mm} (he : EndV G X j_X12_takesUp b_X12_takesUp ans) {M : Mm} {l0 : Option Nat} {l1 : Int32} {l2 : Int32} (h : f_X12_takesUp M l0 l1 l2 = some ans) : Wt G X j_X12_takesUp b_X12_takesUp 0 [(0, rf G.1 l0), (1, .int l1), (2, .int l2)] [] M 0 0 := by
  unfold f_X12_takesUp at h
  refine wt_aload_n (pc := 0) 0 dX12_takesUp_0 rfl ?_
  refine wt_getR (pc := 1) dX12_takesUp_1 fl_X12_35 (fun _ _ _ => rfl) h (fun v1 h => ?_)
  refine wt_sipush (pc := 4) (v := 153) dX12_takesUp_4 (by decide) ?_
  refine wt_iload_n (pc := 7) 1 dX12_takesUp_7 rfl ?_
  refine wt_iadd (pc := 8) dX12_takesUp_8 ?_
  refine wt_aload_n (pc := 9) 0 dX12_takesUp_9 rfl ?_
  refine wt_iload_n (pc := 10) 1 dX12_takesUp_10 rfl ?_
  refine wt_iload_n (pc := 11) 2 dX12_takesUp_11 rfl ?_
  refine wt_cVI (pc := 12) (J' := j_X12_walkOf) (As := [.int l1, .int l2]) (st := [.int (153 + l1), rf G.1 v1]) (B' := b_X12_walkOf) (u' := 0) (w' := 0) dX12_takesUp_12 ml_X12_360 mv_X12_walkOf (fun v9 M9 e9 => c_X12_walkOf e9) rfl (by decide) rfl rfl (by decide) (by decide) (by simp [rf_cat, cat_i, cat_l, cat_r]) rfl h (fun v12 M12 h => ?_)
  refine wt_iastore (pc := 15) (kd := 21) dX12_takesUp_15 rfl rfl h (fun M15 h => ?_)
  refine wt_aload_n (pc := 16) 0 dX12_takesUp_16 rfl ?_
  refine wt_getR (pc := 17) dX12_takesUp_17 fl_X12_35 (fun _ _ _ => rfl) h (fun v17 h => ?_)
  refine wt_sipush (pc := 20) (v := 157) dX12_takesUp_20 (by decide) ?_
  refine wt_iload_n (pc := 23) 1 dX12_takesUp_23 rfl ?_
  refine wt_iadd (pc := 24) dX12_takesUp_24 ?_
  refine wt_iconst (pc := 25) (v := 0) dX12_takesUp_25 (by decide) ?_
  refine wt_iastore (pc := 26) (kd := 21) dX12_takesUp_26 rfl rfl h (fun M26 h => ?_)
  refine wt_aload_n (pc := 27) 0 dX12_takesUp_27 rfl ?_
  refine wt_getR (pc := 28) dX12_takesUp_28 fl_X12_35 (fun _ _ _ => rfl) h (fun v28 h => ?_)
  refine wt_sipush (pc := 31) (v := 149) dX12_takesUp_31 (by decide) ?_
  refine wt_iload_n (pc := 34) 1 dX12_takesUp_34 rfl ?_
  refine wt_iadd (pc := 35) dX12_takesUp_35 ?_
  refine wt_iload_n (pc := 36) 2 dX12_takesUp_36 rfl ?_
  refine wt_iastore (pc := 37) (kd := 21) dX12_takesUp_37 rfl rfl h (fun M37 h => ?_)
  refine wt_aload_n (pc := 38) 0 dX12_takesUp_38 rfl ?_
  refine wt_getR (pc := 39) dX12_takesUp_39 fl_X12_35 (fun _ _ _ => rfl) h (fun v39 h => ?_)
  refine wt_sipush (pc := 42) (v := 145) dX12_takesUp_42 (by decide) ?_
  refine wt_iload_n (pc := 45) 1 dX12_takesUp_45 rfl ?_
  refine wt_iadd (pc := 46) dX12_takesUp_46 ?_
  refine wt_aload_n (pc := 47) 0 dX12_takesUp_47 rfl ?_
  refine wt_getR (pc := 48) dX12_takesUp_48 fl_X12_35 (fun _ _ _ => rfl) h (fun v48 h => ?_)
  refine wt_iconst (pc := 51) (v := 5) dX12_takesUp_51 (by decide) ?_
  refine wt_iload_n (pc := 52) 2 dX12_takesUp_52 rfl ?_
  refine wt_iadd (pc := 53) dX12_takesUp_53 ?_
  refine wt_iaload (pc := 54) (kd := 21) dX12_takesUp_54 rfl rfl h (fun v54 h => ?_)
  refine wt_iastore (pc := 55) (kd := 21) dX12_takesUp_55 rfl rfl h (fun M55 h => ?_)
  cases h
  exact he 56 _ _ _ dX12_takesUp_56 (by decide) (by decide)
set_option maxHeartbeats 4000000 in
set_option maxRecDepth 100000 in
theorem c_X12_takesUp {G : GG} {M : Mm} {l0 : Option Nat} {l1 : Int32} {l2 : Int32} {r : Mm} (h : f_X12_takesUp M l0 l1 l2 = some r) (l : Launch) : Ct l G j_X12_takesUp b_X12_takesUp [rf G.1 l0, .int l1, .int l2] M none r := cf_V (by decide +kernel) (by simp [lg_sl, rf_cat, cat_i, cat_l, j_X12_takesUp]) rfl (by simp [lv_args, rf_cat, cat_i, cat_l]) (fun X he => t_X12_takesUp_e he h)
def f_X12_drops (M : Mm) (l0 : Option Nat) (l1 : Int32) : Option (Mm) := gfR M l0 12 20 fun v1 => asI M v1 21 (149 + l1) (-1) fun M10 => gfR M10 l0 12 20 fun v12 => asI M10 v12 21 (153 + l1) 0 fun M21 => gfR M21 l0 12 20 fun v23 => asI M21 v23 21 (157 + l1) 0 fun M32 => some M32
set_option maxHeartbeats 4000000 in
set_option maxRecDepth 100000 in
theorem t_X12_drops_e {G : GG} {X : CX} {ans : Mm} (he : EndV G X j_X12_drops b_X12_drops ans) {M : Mm} {l0 : Option Nat} {l1 : Int32} (h : f_X12_drops M l0 l1 = some ans) : Wt G X j_X12_drops b_X12_drops 0 [(0, rf G.1 l0), (1, .int l1)] [] M 0 0 := by
  unfold f_X12_drops at h
  refine wt_aload_n (pc := 0) 0 dX12_drops_0 rfl ?_
  refine wt_getR (pc := 1) dX12_drops_1 fl_X12_35 (fun _ _ _ => rfl) h (fun v1 h => ?_)
  refine wt_sipush (pc := 4) (v := 149) dX12_drops_4 (by decide) ?_
  refine wt_iload_n (pc := 7) 1 dX12_drops_7 rfl ?_
  refine wt_iadd (pc := 8) dX12_drops_8 ?_
  refine wt_iconst (pc := 9) (v := (-1)) dX12_drops_9 (by decide) ?_
  refine wt_iastore (pc := 10) (kd := 21) dX12_drops_10 rfl rfl h (fun M10 h => ?_)
  refine wt_aload_n (pc := 11) 0 dX12_drops_11 rfl ?_
  refine wt_getR (pc := 12) dX12_drops_12 fl_X12_35 (fun _ _ _ => rfl) h (fun v12 h => ?_)
  refine wt_sipush (pc := 15) (v := 153) dX12_drops_15 (by decide) ?_
  refine wt_iload_n (pc := 18) 1 dX12_drops_18 rfl ?_
  refine wt_iadd (pc := 19) dX12_drops_19 ?_
  refine wt_iconst (pc := 20) (v := 0) dX12_drops_20 (by decide) ?_
  refine wt_iastore (pc := 21) (kd := 21) dX12_drops_21 rfl rfl h (fun M21 h => ?_)
  refine wt_aload_n (pc := 22) 0 dX12_drops_22 rfl ?_
  refine wt_getR (pc := 23) dX12_drops_23 fl_X12_35 (fun _ _ _ => rfl) h (fun v23 h => ?_)
  refine wt_sipush (pc := 26) (v := 157) dX12_drops_26 (by decide) ?_
  refine wt_iload_n (pc := 29) 1 dX12_drops_29 rfl ?_
  refine wt_iadd (pc := 30) dX12_drops_30 ?_
  refine wt_iconst (pc := 31) (v := 0) dX12_drops_31 (by decide) ?_
  refine wt_iastore (pc := 32) (kd := 21) dX12_drops_32 rfl rfl h (fun M32 h => ?_)
  cases h
  exact he 33 _ _ _ dX12_drops_33 (by decide) (by decide)
set_option maxHeartbeats 4000000 in
set_option maxRecDepth 100000 in
theorem c_X12_drops {G : GG} {M : Mm} {l0 : Option Nat} {l1 : Int32} {r : Mm} (h : f_X12_drops M l0 l1 = some r) (l : Launch) : Ct l G j_X12_drops b_X12_drops [rf G.1 l0, .int l1] M none r := cf_V (by decide +kernel) (by simp [lg_sl, rf_cat, cat_i, cat_l, j_X12_drops]) rfl (by simp [lv_args, rf_cat, cat_i, cat_l]) (fun X he => t_X12_drops_e he h)
def g_X12_lifts (M : Mm) (l0 : Option Nat) (l1 : Int32) (l2 : Int32) : Option (Int32 × Mm) := ck M l0 12 <| bd (f_X12_isOn M l0 l2) fun v2 M2 => if v2 = 0 then (some (0, M2)) else (ck M2 l0 12 <| bd (f_X12_isTaken M2 l0 l2 l1) fun v11 M11 => if v11 = 0 then (ck M11 l0 12 <| bv (f_X12_takesUp M11 l0 l1 l2) fun M22 => some (1, M22)) else (some (0, M11)))
def f_X12_lifts (M : Mm) (l0 : Option Nat) (l1 : Int32) (l2 : Int32) : Option (Int32 × Mm) := zc (g_X12_lifts M l0 l1 l2)
set_option maxHeartbeats 4000000 in
set_option maxRecDepth 100000 in
theorem t_X12_lifts_e {G : GG} {X : CX} {ans : Int32 × Mm} (he : EndI G X j_X12_lifts b_X12_lifts ans) {M : Mm} {l0 : Option Nat} {l1 : Int32} {l2 : Int32} (h : g_X12_lifts M l0 l1 l2 = some ans) : Wt G X j_X12_lifts b_X12_lifts 0 [(0, rf G.1 l0), (1, .int l1), (2, .int l2)] [] M 0 0 := by
  unfold g_X12_lifts at h
  refine wt_aload_n (pc := 0) 0 dX12_lifts_0 rfl ?_
  refine wt_iload_n (pc := 1) 2 dX12_lifts_1 rfl ?_
  refine wt_cVI (pc := 2) (J' := j_X12_isOn) (As := [.int l2]) (st := []) (B' := b_X12_isOn) (u' := 0) (w' := 0) dX12_lifts_2 ml_X12_363 mv_X12_isOn (fun v9 M9 e9 => c_X12_isOn e9) rfl (by decide) rfl rfl (by decide) (by decide) (by decide) rfl h (fun v2 M2 h => ?_)
  refine wt_if_eq (pc := 5) (tgt := 17) dX12_lifts_5 (by decide) (fun q => ?_) (fun q => ?_)
  · have h := ite_t q h
    refine wt_iconst (pc := 17) (v := 0) dX12_lifts_17 (by decide) ?_
    cases h
    exact he 18 _ _ _ dX12_lifts_18 (by decide) (by decide)
  · have h := ite_f q h
    refine wt_aload_n (pc := 8) 0 dX12_lifts_8 rfl ?_
    refine wt_iload_n (pc := 9) 2 dX12_lifts_9 rfl ?_
    refine wt_iload_n (pc := 10) 1 dX12_lifts_10 rfl ?_
    refine wt_cVI (pc := 11) (J' := j_X12_isTaken) (As := [.int l2, .int l1]) (st := []) (B' := b_X12_isTaken) (u' := 0) (w' := 0) dX12_lifts_11 ml_X12_366 mv_X12_isTaken (fun v9 M9 e9 => c_X12_isTaken e9) rfl (by decide) rfl rfl (by decide) (by decide) (by decide) rfl h (fun v11 M11 h => ?_)
    refine wt_if_eq (pc := 14) (tgt := 19) dX12_lifts_14 (by decide) (fun q => ?_) (fun q => ?_)
    · have h := ite_t q h
      refine wt_aload_n (pc := 19) 0 dX12_lifts_19 rfl ?_
      refine wt_iload_n (pc := 20) 1 dX12_lifts_20 rfl ?_
      refine wt_iload_n (pc := 21) 2 dX12_lifts_21 rfl ?_
      refine wt_cVV (pc := 22) (J' := j_X12_takesUp) (As := [.int l1, .int l2]) (st := []) (B' := b_X12_takesUp) (u' := 0) (w' := 0) dX12_lifts_22 ml_X12_375 mv_X12_takesUp (fun M9 e9 => c_X12_takesUp e9) rfl (by decide) rfl rfl (by decide) (by decide) (by decide) rfl h (fun M22 h => ?_)
      refine wt_iconst (pc := 25) (v := 1) dX12_lifts_25 (by decide) ?_
      cases h
      exact he 26 _ _ _ dX12_lifts_26 (by decide) (by decide)
    · have h := ite_f q h
      refine wt_iconst (pc := 17) (v := 0) dX12_lifts_17 (by decide) ?_
      cases h
      exact he 18 _ _ _ dX12_lifts_18 (by decide) (by decide)
set_option maxHeartbeats 4000000 in
set_option maxRecDepth 100000 in
theorem c_X12_lifts {G : GG} {M : Mm} {l0 : Option Nat} {l1 : Int32} {l2 : Int32} {r : Int32 × Mm} (h : f_X12_lifts M l0 l1 l2 = some r) (l : Launch) : Ct l G j_X12_lifts b_X12_lifts [rf G.1 l0, .int l1, .int l2] M (some (.int r.1)) r.2 := cf_Z h (by decide +kernel) (by simp [lg_sl, rf_cat, cat_i, cat_l, j_X12_lifts]) rfl (by simp [lv_args, rf_cat, cat_i, cat_l]) (fun h X he => t_X12_lifts_e he h)
def f_X12_lift_26 (M : Mm) (l0 : Option Nat) : Option (Int32 × Mm) := ck M l0 12 <| bd (f_X12_refuse M l0 2) fun v28 M28 => some (v28, M28)
def f_X12_lift (M : Mm) (l0 : Option Nat) (l1 : Int32) (l2 : Int32) : Option (Int32 × Mm) := pfI M l0 12 1 0 fun M2 => pfI M2 l0 12 0 0 fun M7 => ck M7 l0 12 <| bd (f_X12_isGangAt M7 l0 l1) fun v12 M12 => if v12 = 0 then (f_X12_lift_26  M12 l0) else (ck M12 l0 12 <| bd (f_X12_isHouseAt M12 l0 l2) fun v20 M20 => if v20 = 0 then (f_X12_lift_26  M20 l0) else (ck M20 l0 12 <| bd (f_X12_lifts M20 l0 l1 l2) fun v35 M35 => if v35 = 0 then (ck M35 l0 12 <| bd (f_X12_refuse M35 l0 9) fun v57 M57 => some (v57, M57)) else (gfR M35 l0 12 20 fun v42 => alI M35 v42 21 (153 + l1) fun v50 => some (v50, M35))))
set_option maxHeartbeats 4000000 in
set_option maxRecDepth 100000 in
theorem t_X12_lift_26 {G : GG} {X : CX} {ans : Int32 × Mm} (he : EndI G X j_X12_lift b_X12_lift ans) {M : Mm} {l0 : Option Nat} (h : f_X12_lift_26 M l0 = some ans) : Wt G X j_X12_lift b_X12_lift 26 [(0, rf G.1 l0)] [] M 0 0 := by
  unfold f_X12_lift_26 at h
  refine wt_aload_n (pc := 26) 0 dX12_lift_26 rfl ?_
  refine wt_iconst (pc := 27) (v := 2) dX12_lift_27 (by decide) ?_
  refine wt_cVI (pc := 28) (J' := j_X12_refuse) (As := [.int 2]) (st := []) (B' := b_X12_refuse) (u' := 0) (w' := 0) dX12_lift_28 ml_X12_331 mv_X12_refuse (fun v9 M9 e9 => c_X12_refuse e9) rfl (by decide) rfl rfl (by decide) (by decide) (by decide) rfl h (fun v28 M28 h => ?_)
  cases h
  exact he 31 _ _ _ dX12_lift_31 (by decide) (by decide)
set_option maxHeartbeats 4000000 in
set_option maxRecDepth 100000 in
theorem t_X12_lift_e {G : GG} {X : CX} {ans : Int32 × Mm} (he : EndI G X j_X12_lift b_X12_lift ans) {M : Mm} {l0 : Option Nat} {l1 : Int32} {l2 : Int32} (h : f_X12_lift M l0 l1 l2 = some ans) : Wt G X j_X12_lift b_X12_lift 0 [(0, rf G.1 l0), (1, .int l1), (2, .int l2)] [] M 0 0 := by
  unfold f_X12_lift at h
  refine wt_aload_n (pc := 0) 0 dX12_lift_0 rfl ?_
  refine wt_iconst (pc := 1) (v := 0) dX12_lift_1 (by decide) ?_
  refine wt_putI (pc := 2) dX12_lift_2 fl_X12_68 rfl rfl h (fun M2 h => ?_)
  refine wt_aload_n (pc := 5) 0 dX12_lift_5 rfl ?_
  refine wt_iconst (pc := 6) (v := 0) dX12_lift_6 (by decide) ?_
  refine wt_putI (pc := 7) dX12_lift_7 fl_X12_71 rfl rfl h (fun M7 h => ?_)
  refine wt_aload_n (pc := 10) 0 dX12_lift_10 rfl ?_
  refine wt_iload_n (pc := 11) 1 dX12_lift_11 rfl ?_
  refine wt_cVI (pc := 12) (J' := j_X12_isGangAt) (As := [.int l1]) (st := []) (B' := b_X12_isGangAt) (u' := 0) (w' := 0) dX12_lift_12 ml_X12_352 mv_X12_isGangAt (fun v9 M9 e9 => c_X12_isGangAt e9) rfl (by decide) rfl rfl (by decide) (by decide) (by decide) rfl h (fun v12 M12 h => ?_)
  refine wt_if_eq (pc := 15) (tgt := 26) dX12_lift_15 (by decide) (fun q => ?_) (fun q => ?_)
  · have h := ite_t q h
    refine wt_sub (ls' := [(0, rf G.1 l0)]) [0] rfl ?_
    exact t_X12_lift_26 he  h
  · have h := ite_f q h
    refine wt_aload_n (pc := 18) 0 dX12_lift_18 rfl ?_
    refine wt_iload_n (pc := 19) 2 dX12_lift_19 rfl ?_
    refine wt_cVI (pc := 20) (J' := j_X12_isHouseAt) (As := [.int l2]) (st := []) (B' := b_X12_isHouseAt) (u' := 0) (w' := 0) dX12_lift_20 ml_X12_341 mv_X12_isHouseAt (fun v9 M9 e9 => c_X12_isHouseAt e9) rfl (by decide) rfl rfl (by decide) (by decide) (by decide) rfl h (fun v20 M20 h => ?_)
    refine wt_if_ne (pc := 23) (tgt := 32) dX12_lift_23 (by decide) (fun q => ?_) (fun q => ?_)
    · have h := ite_f q h
      refine wt_aload_n (pc := 32) 0 dX12_lift_32 rfl ?_
      refine wt_iload_n (pc := 33) 1 dX12_lift_33 rfl ?_
      refine wt_iload_n (pc := 34) 2 dX12_lift_34 rfl ?_
      refine wt_cVI (pc := 35) (J' := j_X12_lifts) (As := [.int l1, .int l2]) (st := []) (B' := b_X12_lifts) (u' := 0) (w' := 0) dX12_lift_35 ml_X12_378 mv_X12_lifts (fun v9 M9 e9 => c_X12_lifts e9) rfl (by decide) rfl rfl (by decide) (by decide) (by decide) rfl h (fun v35 M35 h => ?_)
      refine wt_if_eq (pc := 38) (tgt := 54) dX12_lift_38 (by decide) (fun q => ?_) (fun q => ?_)
      · have h := ite_t q h
        refine wt_aload_n (pc := 54) 0 dX12_lift_54 rfl ?_
        refine wt_bipush (pc := 55) (v := 9) dX12_lift_55 (by decide) ?_
        refine wt_cVI (pc := 57) (J' := j_X12_refuse) (As := [.int 9]) (st := []) (B' := b_X12_refuse) (u' := 0) (w' := 0) dX12_lift_57 ml_X12_331 mv_X12_refuse (fun v9 M9 e9 => c_X12_refuse e9) rfl (by decide) rfl rfl (by decide) (by decide) (by decide) rfl h (fun v57 M57 h => ?_)
        cases h
        exact he 60 _ _ _ dX12_lift_60 (by decide) (by decide)
      · have h := ite_f q h
        refine wt_aload_n (pc := 41) 0 dX12_lift_41 rfl ?_
        refine wt_getR (pc := 42) dX12_lift_42 fl_X12_35 (fun _ _ _ => rfl) h (fun v42 h => ?_)
        refine wt_sipush (pc := 45) (v := 153) dX12_lift_45 (by decide) ?_
        refine wt_iload_n (pc := 48) 1 dX12_lift_48 rfl ?_
        refine wt_iadd (pc := 49) dX12_lift_49 ?_
        refine wt_iaload (pc := 50) (kd := 21) dX12_lift_50 rfl rfl h (fun v50 h => ?_)
        refine wt_goto (pc := 51) (tgt := 60) dX12_lift_51 (by decide) ?_
        cases h
        exact he 60 _ _ _ dX12_lift_60 (by decide) (by decide)
    · have h := ite_t q h
      refine wt_sub (ls' := [(0, rf G.1 l0)]) [0] rfl ?_
      exact t_X12_lift_26 he  h
set_option maxHeartbeats 4000000 in
set_option maxRecDepth 100000 in
theorem c_X12_lift {G : GG} {M : Mm} {l0 : Option Nat} {l1 : Int32} {l2 : Int32} {r : Int32 × Mm} (h : f_X12_lift M l0 l1 l2 = some r) (l : Launch) : Ct l G j_X12_lift b_X12_lift [rf G.1 l0, .int l1, .int l2] M (some (.int r.1)) r.2 := cf_I (by decide +kernel) (by simp [lg_sl, rf_cat, cat_i, cat_l, j_X12_lift]) rfl (by simp [lv_args, rf_cat, cat_i, cat_l]) (fun X he => t_X12_lift_e he h)
def g_X12_rest (M : Mm) (l0 : Option Nat) (l1 : Int32) : Option (Int32 × Mm) := pfI M l0 12 1 0 fun M2 => pfI M2 l0 12 0 0 fun M7 => ck M7 l0 12 <| bd (f_X12_isGangAt M7 l0 l1) fun v12 M12 => if v12 = 0 then (ck M12 l0 12 <| bd (f_X12_no M12 l0 2) fun v20 M20 => some (v20, M20)) else (gfR M12 l0 12 20 fun v25 => alI M12 v25 21 (149 + l1) fun v33 => if 0 ≤ v33 then (ck M12 l0 12 <| bv (f_X12_drops M12 l0 l1) fun M46 => some (1, M46)) else (ck M12 l0 12 <| bd (f_X12_no M12 l0 8) fun v40 M40 => some (v40, M40)))
def f_X12_rest (M : Mm) (l0 : Option Nat) (l1 : Int32) : Option (Int32 × Mm) := zc (g_X12_rest M l0 l1)
set_option maxHeartbeats 4000000 in
set_option maxRecDepth 100000 in
theorem t_X12_rest_e {G : GG} {X : CX} {ans : Int32 × Mm} (he : EndI G X j_X12_rest b_X12_rest ans) {M : Mm} {l0 : Option Nat} {l1 : Int32} (h : g_X12_rest M l0 l1 = some ans) : Wt G X j_X12_rest b_X12_rest 0 [(0, rf G.1 l0), (1, .int l1)] [] M 0 0 := by
  unfold g_X12_rest at h
  refine wt_aload_n (pc := 0) 0 dX12_rest_0 rfl ?_
  refine wt_iconst (pc := 1) (v := 0) dX12_rest_1 (by decide) ?_
  refine wt_putI (pc := 2) dX12_rest_2 fl_X12_68 rfl rfl h (fun M2 h => ?_)
  refine wt_aload_n (pc := 5) 0 dX12_rest_5 rfl ?_
  refine wt_iconst (pc := 6) (v := 0) dX12_rest_6 (by decide) ?_
  refine wt_putI (pc := 7) dX12_rest_7 fl_X12_71 rfl rfl h (fun M7 h => ?_)
  refine wt_aload_n (pc := 10) 0 dX12_rest_10 rfl ?_
  refine wt_iload_n (pc := 11) 1 dX12_rest_11 rfl ?_
  refine wt_cVI (pc := 12) (J' := j_X12_isGangAt) (As := [.int l1]) (st := []) (B' := b_X12_isGangAt) (u' := 0) (w' := 0) dX12_rest_12 ml_X12_352 mv_X12_isGangAt (fun v9 M9 e9 => c_X12_isGangAt e9) rfl (by decide) rfl rfl (by decide) (by decide) (by decide) rfl h (fun v12 M12 h => ?_)
  refine wt_if_ne (pc := 15) (tgt := 24) dX12_rest_15 (by decide) (fun q => ?_) (fun q => ?_)
  · have h := ite_f q h
    refine wt_aload_n (pc := 24) 0 dX12_rest_24 rfl ?_
    refine wt_getR (pc := 25) dX12_rest_25 fl_X12_35 (fun _ _ _ => rfl) h (fun v25 h => ?_)
    refine wt_sipush (pc := 28) (v := 149) dX12_rest_28 (by decide) ?_
    refine wt_iload_n (pc := 31) 1 dX12_rest_31 rfl ?_
    refine wt_iadd (pc := 32) dX12_rest_32 ?_
    refine wt_iaload (pc := 33) (kd := 21) dX12_rest_33 rfl rfl h (fun v33 h => ?_)
    refine wt_if_ge (pc := 34) (tgt := 44) dX12_rest_34 (by decide) (fun q => ?_) (fun q => ?_)
    · have h := ite_t q h
      refine wt_aload_n (pc := 44) 0 dX12_rest_44 rfl ?_
      refine wt_iload_n (pc := 45) 1 dX12_rest_45 rfl ?_
      refine wt_cVV (pc := 46) (J' := j_X12_drops) (As := [.int l1]) (st := []) (B' := b_X12_drops) (u' := 0) (w' := 0) dX12_rest_46 ml_X12_381 mv_X12_drops (fun M9 e9 => c_X12_drops e9) rfl (by decide) rfl rfl (by decide) (by decide) (by decide) rfl h (fun M46 h => ?_)
      refine wt_iconst (pc := 49) (v := 1) dX12_rest_49 (by decide) ?_
      cases h
      exact he 50 _ _ _ dX12_rest_50 (by decide) (by decide)
    · have h := ite_f q h
      refine wt_aload_n (pc := 37) 0 dX12_rest_37 rfl ?_
      refine wt_bipush (pc := 38) (v := 8) dX12_rest_38 (by decide) ?_
      refine wt_cVI (pc := 40) (J' := j_X12_no) (As := [.int 8]) (st := []) (B' := b_X12_no) (u' := 0) (w' := 0) dX12_rest_40 ml_X12_83 mv_X12_no (fun v9 M9 e9 => c_X12_no e9) rfl (by decide) rfl rfl (by decide) (by decide) (by decide) rfl h (fun v40 M40 h => ?_)
      cases h
      exact he 43 _ _ _ dX12_rest_43 (by decide) (by decide)
  · have h := ite_t q h
    refine wt_aload_n (pc := 18) 0 dX12_rest_18 rfl ?_
    refine wt_iconst (pc := 19) (v := 2) dX12_rest_19 (by decide) ?_
    refine wt_cVI (pc := 20) (J' := j_X12_no) (As := [.int 2]) (st := []) (B' := b_X12_no) (u' := 0) (w' := 0) dX12_rest_20 ml_X12_83 mv_X12_no (fun v9 M9 e9 => c_X12_no e9) rfl (by decide) rfl rfl (by decide) (by decide) (by decide) rfl h (fun v20 M20 h => ?_)
    cases h
    exact he 23 _ _ _ dX12_rest_23 (by decide) (by decide)
set_option maxHeartbeats 4000000 in
set_option maxRecDepth 100000 in
theorem c_X12_rest {G : GG} {M : Mm} {l0 : Option Nat} {l1 : Int32} {r : Int32 × Mm} (h : f_X12_rest M l0 l1 = some r) (l : Launch) : Ct l G j_X12_rest b_X12_rest [rf G.1 l0, .int l1] M (some (.int r.1)) r.2 := cf_Z h (by decide +kernel) (by simp [lg_sl, rf_cat, cat_i, cat_l, j_X12_rest]) rfl (by simp [lv_args, rf_cat, cat_i, cat_l]) (fun h X he => t_X12_rest_e he h)
def f_X12_minute_98 (M : Mm) (l0 : Option Nat) (l1 : Int32) (l2 : Int32) : Option (Mm) := gfR M l0 12 20 fun v99 => alI M v99 21 (157 + l1) fun v108 => asI M v99 21 (157 + l1) (v108 - 1) fun M111 => gfR M111 l0 12 20 fun v113 => alI M111 v113 21 (157 + l1) fun v121 => if v121 ≤ 0 then (gfR M111 l0 12 20 fun v127 => alI M111 v127 21 (53 + l2) fun v135 => asI M111 v127 21 (53 + l2) (v135 - 1) fun M138 => gfR M138 l0 12 20 fun v140 => alI M138 v140 21 (53 + l2) fun v147 => if v147 ≤ 0 then (gfI M138 l0 12 26 fun v154 => pfI M138 l0 12 26 (v154 + 1) fun M159 => ck M159 l0 12 <| bv (f_X12_drops M159 l0 l1) fun M164 => gfR M164 l0 12 20 fun v168 => alI M164 v168 21 (133 + l1) fun v176 => if v176 = l2 then (some M164) else (gfR M164 l0 12 20 fun v184 => gfR M164 l0 12 20 fun v200 => alI M164 v200 21 ((69 + (8 * l2)) + v176) fun v212 => asI M164 v184 21 ((69 + (8 * l2)) + v176) (mnI 9999 (v212 + 1)) fun M218 => some M218)) else (some M138)) else (some M111)
def f_X12_minute_30 (M : Mm) (l0 : Option Nat) (l1 : Int32) : Option (Mm) := gfR M l0 12 20 fun v31 => alI M v31 21 (153 + l1) fun v39 => if v39 ≤ 0 then (gfR M l0 12 20 fun v59 => alI M v59 21 (149 + l1) fun v67 => gfR M l0 12 20 fun v70 => alI M v70 21 (157 + l1) fun v78 => if v78 = 0 then (gfR M l0 12 20 fun v83 => ck M l0 12 <| bd (f_X12_takesOf M l0 l1 v67) fun v94 M94 => asI M94 v83 21 (157 + l1) v94 fun M97 => f_X12_minute_98  M97 l0 l1 v67) else (f_X12_minute_98  M l0 l1 v67)) else (gfR M l0 12 20 fun v44 => alI M v44 21 (153 + l1) fun v53 => asI M v44 21 (153 + l1) (v53 - 1) fun M56 => some M56)
def f_X12_minute (M : Mm) (l0 : Option Nat) (l1 : Int32) : Option (Mm) := gfR M l0 12 20 fun v1 => alI M v1 21 (149 + l1) fun v9 => if 0 ≤ v9 then (f_X12_minute_30  M l0 l1) else (ck M l0 12 <| bd (f_X12_chosenBy M l0 l1) fun v15 M15 => if 0 ≤ v15 then (ck M15 l0 12 <| bv (f_X12_takesUp M15 l0 l1 v15) fun M27 => f_X12_minute_30  M27 l0 l1) else (some M15))
set_option maxHeartbeats 4000000 in
set_option maxRecDepth 100000 in
theorem t_X12_minute_98 {G : GG} {X : CX} {ans : Mm} (he : EndV G X j_X12_minute b_X12_minute ans) {M : Mm} {l0 : Option Nat} {l1 : Int32} {l2 : Int32} (h : f_X12_minute_98 M l0 l1 l2 = some ans) : Wt G X j_X12_minute b_X12_minute 98 [(0, rf G.1 l0), (1, .int l1), (2, .int l2)] [] M 0 0 := by
  unfold f_X12_minute_98 at h
  refine wt_aload_n (pc := 98) 0 dX12_minute_98 rfl ?_
  refine wt_getR (pc := 99) dX12_minute_99 fl_X12_35 (fun _ _ _ => rfl) h (fun v99 h => ?_)
  refine wt_sipush (pc := 102) (v := 157) dX12_minute_102 (by decide) ?_
  refine wt_iload_n (pc := 105) 1 dX12_minute_105 rfl ?_
  refine wt_iadd (pc := 106) dX12_minute_106 ?_
  refine wt_dup2 (pc := 107) dX12_minute_107 rfl (rf_cat _ _) ?_
  refine wt_iaload (pc := 108) (kd := 21) dX12_minute_108 rfl rfl h (fun v108 h => ?_)
  refine wt_iconst (pc := 109) (v := 1) dX12_minute_109 (by decide) ?_
  refine wt_isub (pc := 110) dX12_minute_110 ?_
  refine wt_iastore (pc := 111) (kd := 21) dX12_minute_111 rfl rfl h (fun M111 h => ?_)
  refine wt_aload_n (pc := 112) 0 dX12_minute_112 rfl ?_
  refine wt_getR (pc := 113) dX12_minute_113 fl_X12_35 (fun _ _ _ => rfl) h (fun v113 h => ?_)
  refine wt_sipush (pc := 116) (v := 157) dX12_minute_116 (by decide) ?_
  refine wt_iload_n (pc := 119) 1 dX12_minute_119 rfl ?_
  refine wt_iadd (pc := 120) dX12_minute_120 ?_
  refine wt_iaload (pc := 121) (kd := 21) dX12_minute_121 rfl rfl h (fun v121 h => ?_)
  refine wt_if_le (pc := 122) (tgt := 126) dX12_minute_122 (by decide) (fun q => ?_) (fun q => ?_)
  · have h := ite_t q h
    refine wt_aload_n (pc := 126) 0 dX12_minute_126 rfl ?_
    refine wt_getR (pc := 127) dX12_minute_127 fl_X12_35 (fun _ _ _ => rfl) h (fun v127 h => ?_)
    refine wt_bipush (pc := 130) (v := 53) dX12_minute_130 (by decide) ?_
    refine wt_iload_n (pc := 132) 2 dX12_minute_132 rfl ?_
    refine wt_iadd (pc := 133) dX12_minute_133 ?_
    refine wt_dup2 (pc := 134) dX12_minute_134 rfl (rf_cat _ _) ?_
    refine wt_iaload (pc := 135) (kd := 21) dX12_minute_135 rfl rfl h (fun v135 h => ?_)
    refine wt_iconst (pc := 136) (v := 1) dX12_minute_136 (by decide) ?_
    refine wt_isub (pc := 137) dX12_minute_137 ?_
    refine wt_iastore (pc := 138) (kd := 21) dX12_minute_138 rfl rfl h (fun M138 h => ?_)
    refine wt_aload_n (pc := 139) 0 dX12_minute_139 rfl ?_
    refine wt_getR (pc := 140) dX12_minute_140 fl_X12_35 (fun _ _ _ => rfl) h (fun v140 h => ?_)
    refine wt_bipush (pc := 143) (v := 53) dX12_minute_143 (by decide) ?_
    refine wt_iload_n (pc := 145) 2 dX12_minute_145 rfl ?_
    refine wt_iadd (pc := 146) dX12_minute_146 ?_
    refine wt_iaload (pc := 147) (kd := 21) dX12_minute_147 rfl rfl h (fun v147 h => ?_)
    refine wt_if_le (pc := 148) (tgt := 152) dX12_minute_148 (by decide) (fun q => ?_) (fun q => ?_)
    · have h := ite_t q h
      refine wt_aload_n (pc := 152) 0 dX12_minute_152 rfl ?_
      refine wt_dup (pc := 153) dX12_minute_153 (rf_cat _ _) ?_
      refine wt_getI (pc := 154) dX12_minute_154 fl_X12_384 (fun _ _ _ => rfl) h (fun v154 h => ?_)
      refine wt_iconst (pc := 157) (v := 1) dX12_minute_157 (by decide) ?_
      refine wt_iadd (pc := 158) dX12_minute_158 ?_
      refine wt_putI (pc := 159) dX12_minute_159 fl_X12_384 rfl rfl h (fun M159 h => ?_)
      refine wt_aload_n (pc := 162) 0 dX12_minute_162 rfl ?_
      refine wt_iload_n (pc := 163) 1 dX12_minute_163 rfl ?_
      refine wt_cVV (pc := 164) (J' := j_X12_drops) (As := [.int l1]) (st := []) (B' := b_X12_drops) (u' := 0) (w' := 0) dX12_minute_164 ml_X12_381 mv_X12_drops (fun M9 e9 => c_X12_drops e9) rfl (by decide) rfl rfl (by decide) (by decide) (by decide) rfl h (fun M164 h => ?_)
      refine wt_aload_n (pc := 167) 0 dX12_minute_167 rfl ?_
      refine wt_getR (pc := 168) dX12_minute_168 fl_X12_35 (fun _ _ _ => rfl) h (fun v168 h => ?_)
      refine wt_sipush (pc := 171) (v := 133) dX12_minute_171 (by decide) ?_
      refine wt_iload_n (pc := 174) 1 dX12_minute_174 rfl ?_
      refine wt_iadd (pc := 175) dX12_minute_175 ?_
      refine wt_iaload (pc := 176) (kd := 21) dX12_minute_176 rfl rfl h (fun v176 h => ?_)
      refine wt_istore_n (pc := 177) (i := 3) (ls' := [(3, .int v176), (0, rf G.1 l0), (1, .int l1), (2, .int l2)]) rfl dX12_minute_177 (by decide) rfl ?_
      refine wt_iload_n (pc := 178) 0 dX12_minute_178 rfl ?_
      refine wt_iload_n (pc := 179) 3 dX12_minute_179 rfl ?_
      refine wt_icmp_eq (pc := 180) (tgt := 219) dX12_minute_180 (by decide) (fun q => ?_) (fun q => ?_)
      · have h := ite_t q h
        cases h
        exact he 219 _ _ _ dX12_minute_219 (by decide) (by decide)
      · have h := ite_f q h
        refine wt_aload_n (pc := 183) 1 dX12_minute_183 rfl ?_
        refine wt_getR (pc := 184) dX12_minute_184 fl_X12_35 (fun _ _ _ => rfl) h (fun v184 h => ?_)
        refine wt_bipush (pc := 187) (v := 69) dX12_minute_187 (by decide) ?_
        refine wt_bipush (pc := 189) (v := 8) dX12_minute_189 (by decide) ?_
        refine wt_iload_n (pc := 191) 3 dX12_minute_191 rfl ?_
        refine wt_imul (pc := 192) dX12_minute_192 ?_
        refine wt_iadd (pc := 193) dX12_minute_193 ?_
        refine wt_iload_n (pc := 194) 0 dX12_minute_194 rfl ?_
        refine wt_iadd (pc := 195) dX12_minute_195 ?_
        refine wt_sipush (pc := 196) (v := 9999) dX12_minute_196 (by decide) ?_
        refine wt_aload_n (pc := 199) 1 dX12_minute_199 rfl ?_
        refine wt_getR (pc := 200) dX12_minute_200 fl_X12_35 (fun _ _ _ => rfl) h (fun v200 h => ?_)
        refine wt_bipush (pc := 203) (v := 69) dX12_minute_203 (by decide) ?_
        refine wt_bipush (pc := 205) (v := 8) dX12_minute_205 (by decide) ?_
        refine wt_iload_n (pc := 207) 3 dX12_minute_207 rfl ?_
        refine wt_imul (pc := 208) dX12_minute_208 ?_
        refine wt_iadd (pc := 209) dX12_minute_209 ?_
        refine wt_iload_n (pc := 210) 0 dX12_minute_210 rfl ?_
        refine wt_iadd (pc := 211) dX12_minute_211 ?_
        refine wt_iaload (pc := 212) (kd := 21) dX12_minute_212 rfl rfl h (fun v212 h => ?_)
        refine wt_iconst (pc := 213) (v := 1) dX12_minute_213 (by decide) ?_
        refine wt_iadd (pc := 214) dX12_minute_214 ?_
        refine wt_mmin (pc := 215) dX12_minute_215 bi_X12_387 mw_min.1 mw_min.2.1 mw_min.2.2 (by decide) (by decide) (by decide) (by simp [rf_cat, cat_i, cat_l, cat_r]) ?_
        refine wt_iastore (pc := 218) (kd := 21) dX12_minute_218 rfl rfl h (fun M218 h => ?_)
        cases h
        exact he 219 _ _ _ dX12_minute_219 (by decide) (by decide)
    · have h := ite_f q h
      cases h
      exact he 151 _ _ _ dX12_minute_151 (by decide) (by decide)
  · have h := ite_f q h
    cases h
    exact he 125 _ _ _ dX12_minute_125 (by decide) (by decide)
set_option maxHeartbeats 4000000 in
set_option maxRecDepth 100000 in
theorem t_X12_minute_30 {G : GG} {X : CX} {ans : Mm} (he : EndV G X j_X12_minute b_X12_minute ans) {M : Mm} {l0 : Option Nat} {l1 : Int32} (h : f_X12_minute_30 M l0 l1 = some ans) : Wt G X j_X12_minute b_X12_minute 30 [(0, rf G.1 l0), (1, .int l1)] [] M 0 0 := by
  unfold f_X12_minute_30 at h
  refine wt_aload_n (pc := 30) 0 dX12_minute_30 rfl ?_
  refine wt_getR (pc := 31) dX12_minute_31 fl_X12_35 (fun _ _ _ => rfl) h (fun v31 h => ?_)
  refine wt_sipush (pc := 34) (v := 153) dX12_minute_34 (by decide) ?_
  refine wt_iload_n (pc := 37) 1 dX12_minute_37 rfl ?_
  refine wt_iadd (pc := 38) dX12_minute_38 ?_
  refine wt_iaload (pc := 39) (kd := 21) dX12_minute_39 rfl rfl h (fun v39 h => ?_)
  refine wt_if_le (pc := 40) (tgt := 58) dX12_minute_40 (by decide) (fun q => ?_) (fun q => ?_)
  · have h := ite_t q h
    refine wt_aload_n (pc := 58) 0 dX12_minute_58 rfl ?_
    refine wt_getR (pc := 59) dX12_minute_59 fl_X12_35 (fun _ _ _ => rfl) h (fun v59 h => ?_)
    refine wt_sipush (pc := 62) (v := 149) dX12_minute_62 (by decide) ?_
    refine wt_iload_n (pc := 65) 1 dX12_minute_65 rfl ?_
    refine wt_iadd (pc := 66) dX12_minute_66 ?_
    refine wt_iaload (pc := 67) (kd := 21) dX12_minute_67 rfl rfl h (fun v67 h => ?_)
    refine wt_istore_n (pc := 68) (i := 2) (ls' := [(2, .int v67), (0, rf G.1 l0), (1, .int l1)]) rfl dX12_minute_68 (by decide) rfl ?_
    refine wt_aload_n (pc := 69) 1 dX12_minute_69 rfl ?_
    refine wt_getR (pc := 70) dX12_minute_70 fl_X12_35 (fun _ _ _ => rfl) h (fun v70 h => ?_)
    refine wt_sipush (pc := 73) (v := 157) dX12_minute_73 (by decide) ?_
    refine wt_iload_n (pc := 76) 2 dX12_minute_76 rfl ?_
    refine wt_iadd (pc := 77) dX12_minute_77 ?_
    refine wt_iaload (pc := 78) (kd := 21) dX12_minute_78 rfl rfl h (fun v78 h => ?_)
    refine wt_if_ne (pc := 79) (tgt := 98) dX12_minute_79 (by decide) (fun q => ?_) (fun q => ?_)
    · have h := ite_f q h
      refine wt_sub (ls' := [(0, rf G.1 l0), (1, .int l1), (2, .int v67)]) [1, 2, 0] rfl ?_
      exact t_X12_minute_98 he  h
    · have h := ite_t q h
      refine wt_aload_n (pc := 82) 1 dX12_minute_82 rfl ?_
      refine wt_getR (pc := 83) dX12_minute_83 fl_X12_35 (fun _ _ _ => rfl) h (fun v83 h => ?_)
      refine wt_sipush (pc := 86) (v := 157) dX12_minute_86 (by decide) ?_
      refine wt_iload_n (pc := 89) 2 dX12_minute_89 rfl ?_
      refine wt_iadd (pc := 90) dX12_minute_90 ?_
      refine wt_aload_n (pc := 91) 1 dX12_minute_91 rfl ?_
      refine wt_iload_n (pc := 92) 2 dX12_minute_92 rfl ?_
      refine wt_iload_n (pc := 93) 0 dX12_minute_93 rfl ?_
      refine wt_cVI (pc := 94) (J' := j_X12_takesOf) (As := [.int l1, .int v67]) (st := [.int (157 + l1), rf G.1 v83]) (B' := b_X12_takesOf) (u' := 0) (w' := 0) dX12_minute_94 ml_X12_357 mv_X12_takesOf (fun v9 M9 e9 => c_X12_takesOf e9) rfl (by decide) rfl rfl (by decide) (by decide) (by simp [rf_cat, cat_i, cat_l, cat_r]) rfl h (fun v94 M94 h => ?_)
      refine wt_iastore (pc := 97) (kd := 21) dX12_minute_97 rfl rfl h (fun M97 h => ?_)
      refine wt_sub (ls' := [(0, rf G.1 l0), (1, .int l1), (2, .int v67)]) [1, 2, 0] rfl ?_
      exact t_X12_minute_98 he  h
  · have h := ite_f q h
    refine wt_aload_n (pc := 43) 0 dX12_minute_43 rfl ?_
    refine wt_getR (pc := 44) dX12_minute_44 fl_X12_35 (fun _ _ _ => rfl) h (fun v44 h => ?_)
    refine wt_sipush (pc := 47) (v := 153) dX12_minute_47 (by decide) ?_
    refine wt_iload_n (pc := 50) 1 dX12_minute_50 rfl ?_
    refine wt_iadd (pc := 51) dX12_minute_51 ?_
    refine wt_dup2 (pc := 52) dX12_minute_52 rfl (rf_cat _ _) ?_
    refine wt_iaload (pc := 53) (kd := 21) dX12_minute_53 rfl rfl h (fun v53 h => ?_)
    refine wt_iconst (pc := 54) (v := 1) dX12_minute_54 (by decide) ?_
    refine wt_isub (pc := 55) dX12_minute_55 ?_
    refine wt_iastore (pc := 56) (kd := 21) dX12_minute_56 rfl rfl h (fun M56 h => ?_)
    cases h
    exact he 57 _ _ _ dX12_minute_57 (by decide) (by decide)
set_option maxHeartbeats 4000000 in
set_option maxRecDepth 100000 in
theorem t_X12_minute_e {G : GG} {X : CX} {ans : Mm} (he : EndV G X j_X12_minute b_X12_minute ans) {M : Mm} {l0 : Option Nat} {l1 : Int32} (h : f_X12_minute M l0 l1 = some ans) : Wt G X j_X12_minute b_X12_minute 0 [(0, rf G.1 l0), (1, .int l1)] [] M 0 0 := by
  unfold f_X12_minute at h
  refine wt_aload_n (pc := 0) 0 dX12_minute_0 rfl ?_
  refine wt_getR (pc := 1) dX12_minute_1 fl_X12_35 (fun _ _ _ => rfl) h (fun v1 h => ?_)
  refine wt_sipush (pc := 4) (v := 149) dX12_minute_4 (by decide) ?_
  refine wt_iload_n (pc := 7) 1 dX12_minute_7 rfl ?_
  refine wt_iadd (pc := 8) dX12_minute_8 ?_
  refine wt_iaload (pc := 9) (kd := 21) dX12_minute_9 rfl rfl h (fun v9 h => ?_)
  refine wt_if_ge (pc := 10) (tgt := 30) dX12_minute_10 (by decide) (fun q => ?_) (fun q => ?_)
  · have h := ite_t q h
    exact t_X12_minute_30 he  h
  · have h := ite_f q h
    refine wt_aload_n (pc := 13) 0 dX12_minute_13 rfl ?_
    refine wt_iload_n (pc := 14) 1 dX12_minute_14 rfl ?_
    refine wt_cVI (pc := 15) (J' := j_X12_chosenBy) (As := [.int l1]) (st := []) (B' := b_X12_chosenBy) (u' := 0) (w' := 0) dX12_minute_15 ml_X12_372 mv_X12_chosenBy (fun v9 M9 e9 => c_X12_chosenBy e9) rfl (by decide) rfl rfl (by decide) (by decide) (by decide) rfl h (fun v15 M15 h => ?_)
    refine wt_istore_n (pc := 18) (i := 2) (ls' := [(2, .int v15), (0, rf G.1 l0), (1, .int l1)]) rfl dX12_minute_18 (by decide) rfl ?_
    refine wt_iload_n (pc := 19) 0 dX12_minute_19 rfl ?_
    refine wt_if_ge (pc := 20) (tgt := 24) dX12_minute_20 (by decide) (fun q => ?_) (fun q => ?_)
    · have h := ite_t q h
      refine wt_aload_n (pc := 24) 1 dX12_minute_24 rfl ?_
      refine wt_iload_n (pc := 25) 2 dX12_minute_25 rfl ?_
      refine wt_iload_n (pc := 26) 0 dX12_minute_26 rfl ?_
      refine wt_cVV (pc := 27) (J' := j_X12_takesUp) (As := [.int l1, .int v15]) (st := []) (B' := b_X12_takesUp) (u' := 0) (w' := 0) dX12_minute_27 ml_X12_375 mv_X12_takesUp (fun M9 e9 => c_X12_takesUp e9) rfl (by decide) rfl rfl (by decide) (by decide) (by decide) rfl h (fun M27 h => ?_)
      refine wt_sub (ls' := [(0, rf G.1 l0), (1, .int l1)]) [1, 2] rfl ?_
      exact t_X12_minute_30 he  h
    · have h := ite_f q h
      cases h
      exact he 23 _ _ _ dX12_minute_23 (by decide) (by decide)
set_option maxHeartbeats 4000000 in
set_option maxRecDepth 100000 in
theorem c_X12_minute {G : GG} {M : Mm} {l0 : Option Nat} {l1 : Int32} {r : Mm} (h : f_X12_minute M l0 l1 = some r) (l : Launch) : Ct l G j_X12_minute b_X12_minute [rf G.1 l0, .int l1] M none r := cf_V (by decide +kernel) (by simp [lg_sl, rf_cat, cat_i, cat_l, j_X12_minute]) rfl (by simp [lv_args, rf_cat, cat_i, cat_l]) (fun X he => t_X12_minute_e he h)
def f_X12_hours_14 (k7 : Mm → Option Nat → Int32 → Int32 → Option (Int32 × Mm)) : Nat → Mm → Option Nat → Int32 → Int32 → Int32 → Option (Int32 × Mm)
  | 0, _, _, _, _, _ => none
  | n + 1, M, l0, l1, l2, l3 => gfR M l0 12 20 fun v16 => alI M v16 21 1 fun v20 => if v20 ≤ l3 then (k7 M l0 l1 (l2 + 1)) else (ck M l0 12 <| bv (f_X12_minute M l0 l3) fun M26 => f_X12_hours_14 k7 n M26 l0 l1 l2 (l3 + 1))
def f_X12_hours_7 : Nat → Mm → Option Nat → Int32 → Int32 → Option (Int32 × Mm)
  | 0, _, _, _, _ => none
  | n + 1, M, l0, l1, l2 => if l1 ≤ l2 then (gfR M l0 12 20 fun v42 => alI M v42 21 4 fun v47 => asI M v42 21 4 (v47 + l1) fun M50 => gfI M50 l0 12 26 fun v52 => some (v52, M50)) else (f_X12_hours_14 (f_X12_hours_7 n) fu M l0 l1 l2 0)
def f_X12_hours (M : Mm) (l0 : Option Nat) (l1 : Int32) : Option (Int32 × Mm) := pfI M l0 12 26 0 fun M2 => f_X12_hours_7  fu M2 l0 l1 0
set_option maxHeartbeats 4000000 in
set_option maxRecDepth 100000 in
theorem t_X12_hours_14 {G : GG} {X : CX} {ans : Int32 × Mm} (he : EndI G X j_X12_hours b_X12_hours ans) {k7 : Mm → Option Nat → Int32 → Int32 → Option (Int32 × Mm)} (hk7 : ∀ (M : Mm) (a0 : Option Nat) (a1 : Int32) (a2 : Int32), k7 M a0 a1 a2 = some ans → Wt G X j_X12_hours b_X12_hours 7 [(0, rf G.1 a0), (1, .int a1), (2, .int a2)] [] M 0 0) : ∀ (n : Nat) {M : Mm} {l0 : Option Nat} {l1 : Int32} {l2 : Int32} {l3 : Int32}, f_X12_hours_14 k7 n M l0 l1 l2 l3 = some ans → Wt G X j_X12_hours b_X12_hours 14 [(0, rf G.1 l0), (1, .int l1), (2, .int l2), (3, .int l3)] [] M 0 0 := by
  intro n
  induction n with
  | zero =>
    intro M l0 l1 l2 l3 h
    rw [f_X12_hours_14] at h
    cases h
  | succ n ih =>
    intro M l0 l1 l2 l3 h
    rw [f_X12_hours_14] at h
    refine wt_iload_n (pc := 14) 3 dX12_hours_14 rfl ?_
    refine wt_aload_n (pc := 15) 0 dX12_hours_15 rfl ?_
    refine wt_getR (pc := 16) dX12_hours_16 fl_X12_35 (fun _ _ _ => rfl) h (fun v16 h => ?_)
    refine wt_iconst (pc := 19) (v := 1) dX12_hours_19 (by decide) ?_
    refine wt_iaload (pc := 20) (kd := 21) dX12_hours_20 rfl rfl h (fun v20 h => ?_)
    refine wt_icmp_ge (pc := 21) (tgt := 35) dX12_hours_21 (by decide) (fun q => ?_) (fun q => ?_)
    · have h := ite_t q h
      refine wt_iinc (pc := 35) (d := 1) (ls' := [(2, .int (l2 + 1)), (0, rf G.1 l0), (1, .int l1), (3, .int l3)]) 2 dX12_hours_35 rfl (by decide) (by decide) rfl ?_
      refine wt_goto (pc := 38) (tgt := 7) dX12_hours_38 (by decide) ?_
      refine wt_sub (ls' := [(0, rf G.1 l0), (1, .int l1), (2, .int (l2 + 1))]) [1, 2, 0] rfl ?_
      exact hk7 _ _ _ _ h
    · have h := ite_f q h
      refine wt_aload_n (pc := 24) 0 dX12_hours_24 rfl ?_
      refine wt_iload_n (pc := 25) 3 dX12_hours_25 rfl ?_
      refine wt_cVV (pc := 26) (J' := j_X12_minute) (As := [.int l3]) (st := []) (B' := b_X12_minute) (u' := 0) (w' := 0) dX12_hours_26 ml_X12_390 mv_X12_minute (fun M9 e9 => c_X12_minute e9) rfl (by decide) rfl rfl (by decide) (by decide) (by decide) rfl h (fun M26 h => ?_)
      refine wt_iinc (pc := 29) (d := 1) (ls' := [(3, .int (l3 + 1)), (0, rf G.1 l0), (1, .int l1), (2, .int l2)]) 3 dX12_hours_29 rfl (by decide) (by decide) rfl ?_
      refine wt_goto (pc := 32) (tgt := 14) dX12_hours_32 (by decide) ?_
      refine wt_sub (ls' := [(0, rf G.1 l0), (1, .int l1), (2, .int l2), (3, .int (l3 + 1))]) [1, 2, 3, 0] rfl ?_
      exact ih h
set_option maxHeartbeats 4000000 in
set_option maxRecDepth 100000 in
theorem t_X12_hours_7 {G : GG} {X : CX} {ans : Int32 × Mm} (he : EndI G X j_X12_hours b_X12_hours ans) : ∀ (n : Nat) {M : Mm} {l0 : Option Nat} {l1 : Int32} {l2 : Int32}, f_X12_hours_7 n M l0 l1 l2 = some ans → Wt G X j_X12_hours b_X12_hours 7 [(0, rf G.1 l0), (1, .int l1), (2, .int l2)] [] M 0 0 := by
  intro n
  induction n with
  | zero =>
    intro M l0 l1 l2 h
    rw [f_X12_hours_7] at h
    cases h
  | succ n ih =>
    intro M l0 l1 l2 h
    rw [f_X12_hours_7] at h
    refine wt_iload_n (pc := 7) 2 dX12_hours_7 rfl ?_
    refine wt_iload_n (pc := 8) 1 dX12_hours_8 rfl ?_
    refine wt_icmp_ge (pc := 9) (tgt := 41) dX12_hours_9 (by decide) (fun q => ?_) (fun q => ?_)
    · have h := ite_t q h
      refine wt_aload_n (pc := 41) 0 dX12_hours_41 rfl ?_
      refine wt_getR (pc := 42) dX12_hours_42 fl_X12_35 (fun _ _ _ => rfl) h (fun v42 h => ?_)
      refine wt_iconst (pc := 45) (v := 4) dX12_hours_45 (by decide) ?_
      refine wt_dup2 (pc := 46) dX12_hours_46 rfl (rf_cat _ _) ?_
      refine wt_iaload (pc := 47) (kd := 21) dX12_hours_47 rfl rfl h (fun v47 h => ?_)
      refine wt_iload_n (pc := 48) 1 dX12_hours_48 rfl ?_
      refine wt_iadd (pc := 49) dX12_hours_49 ?_
      refine wt_iastore (pc := 50) (kd := 21) dX12_hours_50 rfl rfl h (fun M50 h => ?_)
      refine wt_aload_n (pc := 51) 0 dX12_hours_51 rfl ?_
      refine wt_getI (pc := 52) dX12_hours_52 fl_X12_384 (fun _ _ _ => rfl) h (fun v52 h => ?_)
      cases h
      exact he 55 _ _ _ dX12_hours_55 (by decide) (by decide)
    · have h := ite_f q h
      refine wt_iconst (pc := 12) (v := 0) dX12_hours_12 (by decide) ?_
      refine wt_istore_n (pc := 13) (i := 3) (ls' := [(3, .int 0), (0, rf G.1 l0), (1, .int l1), (2, .int l2)]) rfl dX12_hours_13 (by decide) rfl ?_
      refine wt_sub (ls' := [(0, rf G.1 l0), (1, .int l1), (2, .int l2), (3, .int 0)]) [1, 2, 3, 0] rfl ?_
      exact t_X12_hours_14 he (fun _ _ _ _ h => ih h) fu h
set_option maxHeartbeats 4000000 in
set_option maxRecDepth 100000 in
theorem t_X12_hours_e {G : GG} {X : CX} {ans : Int32 × Mm} (he : EndI G X j_X12_hours b_X12_hours ans) {M : Mm} {l0 : Option Nat} {l1 : Int32} (h : f_X12_hours M l0 l1 = some ans) : Wt G X j_X12_hours b_X12_hours 0 [(0, rf G.1 l0), (1, .int l1)] [] M 0 0 := by
  unfold f_X12_hours at h
  refine wt_aload_n (pc := 0) 0 dX12_hours_0 rfl ?_
  refine wt_iconst (pc := 1) (v := 0) dX12_hours_1 (by decide) ?_
  refine wt_putI (pc := 2) dX12_hours_2 fl_X12_384 rfl rfl h (fun M2 h => ?_)
  refine wt_iconst (pc := 5) (v := 0) dX12_hours_5 (by decide) ?_
  refine wt_istore_n (pc := 6) (i := 2) (ls' := [(2, .int 0), (0, rf G.1 l0), (1, .int l1)]) rfl dX12_hours_6 (by decide) rfl ?_
  refine wt_sub (ls' := [(0, rf G.1 l0), (1, .int l1), (2, .int 0)]) [1, 2, 0] rfl ?_
  exact t_X12_hours_7 he  fu h
set_option maxHeartbeats 4000000 in
set_option maxRecDepth 100000 in
theorem c_X12_hours {G : GG} {M : Mm} {l0 : Option Nat} {l1 : Int32} {r : Int32 × Mm} (h : f_X12_hours M l0 l1 = some r) (l : Launch) : Ct l G j_X12_hours b_X12_hours [rf G.1 l0, .int l1] M (some (.int r.1)) r.2 := cf_I (by decide +kernel) (by simp [lg_sl, rf_cat, cat_i, cat_l, j_X12_hours]) rfl (by simp [lv_args, rf_cat, cat_i, cat_l]) (fun X he => t_X12_hours_e he h)
def f_X12_hour (M : Mm) (l0 : Option Nat) (l1 : Int32) : Option (Int32 × Mm) := pfI M l0 12 1 0 fun M2 => pfI M2 l0 12 0 0 fun M7 => bd (f_X12_isIn M7 (Int32.toInt64 l1) 1 240) fun v16 M16 => if v16 = 0 then (ck M16 l0 12 <| bd (f_X12_refuse M16 l0 5) fun v24 M24 => some (v24, M24)) else (gfR M16 l0 12 20 fun v29 => alI M16 v29 21 4 fun v33 => if (v33 + l1) ≤ 9999 then (ck M16 l0 12 <| bd (f_X12_hours M16 l0 l1) fun v53 M53 => some (v53, M53)) else (ck M16 l0 12 <| bd (f_X12_refuse M16 l0 7) fun v45 M45 => some (v45, M45)))
set_option maxHeartbeats 4000000 in
set_option maxRecDepth 100000 in
theorem t_X12_hour_e {G : GG} {X : CX} {ans : Int32 × Mm} (he : EndI G X j_X12_hour b_X12_hour ans) {M : Mm} {l0 : Option Nat} {l1 : Int32} (h : f_X12_hour M l0 l1 = some ans) : Wt G X j_X12_hour b_X12_hour 0 [(0, rf G.1 l0), (1, .int l1)] [] M 0 0 := by
  unfold f_X12_hour at h
  refine wt_aload_n (pc := 0) 0 dX12_hour_0 rfl ?_
  refine wt_iconst (pc := 1) (v := 0) dX12_hour_1 (by decide) ?_
  refine wt_putI (pc := 2) dX12_hour_2 fl_X12_68 rfl rfl h (fun M2 h => ?_)
  refine wt_aload_n (pc := 5) 0 dX12_hour_5 rfl ?_
  refine wt_iconst (pc := 6) (v := 0) dX12_hour_6 (by decide) ?_
  refine wt_putI (pc := 7) dX12_hour_7 fl_X12_71 rfl rfl h (fun M7 h => ?_)
  refine wt_iload_n (pc := 10) 1 dX12_hour_10 rfl ?_
  refine wt_i2l (pc := 11) dX12_hour_11 ?_
  refine wt_lconst (pc := 12) (v := 1) dX12_hour_12 (by decide) ?_
  refine wt_ldc2 (pc := 13) dX12_hour_13 kc_X12_393 ?_
  refine wt_cSI (pc := 16) (J' := j_X12_isIn) (As := [.long (Int32.toInt64 l1), .long 1, .long 240]) (st := []) (B' := b_X12_isIn) (u' := 0) (w' := 0) dX12_hour_16 ml_X12_103 ms_X12_isIn (fun v9 M9 e9 => c_X12_isIn e9) rfl (by decide) rfl rfl (by decide) (by decide) (by decide) rfl h (fun v16 M16 h => ?_)
  refine wt_if_ne (pc := 19) (tgt := 28) dX12_hour_19 (by decide) (fun q => ?_) (fun q => ?_)
  · have h := ite_f q h
    refine wt_aload_n (pc := 28) 0 dX12_hour_28 rfl ?_
    refine wt_getR (pc := 29) dX12_hour_29 fl_X12_35 (fun _ _ _ => rfl) h (fun v29 h => ?_)
    refine wt_iconst (pc := 32) (v := 4) dX12_hour_32 (by decide) ?_
    refine wt_iaload (pc := 33) (kd := 21) dX12_hour_33 rfl rfl h (fun v33 h => ?_)
    refine wt_iload_n (pc := 34) 1 dX12_hour_34 rfl ?_
    refine wt_iadd (pc := 35) dX12_hour_35 ?_
    refine wt_sipush (pc := 36) (v := 9999) dX12_hour_36 (by decide) ?_
    refine wt_icmp_le (pc := 39) (tgt := 51) dX12_hour_39 (by decide) (fun q => ?_) (fun q => ?_)
    · have h := ite_t q h
      refine wt_aload_n (pc := 51) 0 dX12_hour_51 rfl ?_
      refine wt_iload_n (pc := 52) 1 dX12_hour_52 rfl ?_
      refine wt_cVI (pc := 53) (J' := j_X12_hours) (As := [.int l1]) (st := []) (B' := b_X12_hours) (u' := 0) (w' := 0) dX12_hour_53 ml_X12_395 mv_X12_hours (fun v9 M9 e9 => c_X12_hours e9) rfl (by decide) rfl rfl (by decide) (by decide) (by decide) rfl h (fun v53 M53 h => ?_)
      cases h
      exact he 56 _ _ _ dX12_hour_56 (by decide) (by decide)
    · have h := ite_f q h
      refine wt_aload_n (pc := 42) 0 dX12_hour_42 rfl ?_
      refine wt_bipush (pc := 43) (v := 7) dX12_hour_43 (by decide) ?_
      refine wt_cVI (pc := 45) (J' := j_X12_refuse) (As := [.int 7]) (st := []) (B' := b_X12_refuse) (u' := 0) (w' := 0) dX12_hour_45 ml_X12_331 mv_X12_refuse (fun v9 M9 e9 => c_X12_refuse e9) rfl (by decide) rfl rfl (by decide) (by decide) (by decide) rfl h (fun v45 M45 h => ?_)
      refine wt_goto (pc := 48) (tgt := 56) dX12_hour_48 (by decide) ?_
      cases h
      exact he 56 _ _ _ dX12_hour_56 (by decide) (by decide)
  · have h := ite_t q h
    refine wt_aload_n (pc := 22) 0 dX12_hour_22 rfl ?_
    refine wt_iconst (pc := 23) (v := 5) dX12_hour_23 (by decide) ?_
    refine wt_cVI (pc := 24) (J' := j_X12_refuse) (As := [.int 5]) (st := []) (B' := b_X12_refuse) (u' := 0) (w' := 0) dX12_hour_24 ml_X12_331 mv_X12_refuse (fun v9 M9 e9 => c_X12_refuse e9) rfl (by decide) rfl rfl (by decide) (by decide) (by decide) rfl h (fun v24 M24 h => ?_)
    cases h
    exact he 27 _ _ _ dX12_hour_27 (by decide) (by decide)
set_option maxHeartbeats 4000000 in
set_option maxRecDepth 100000 in
theorem c_X12_hour {G : GG} {M : Mm} {l0 : Option Nat} {l1 : Int32} {r : Int32 × Mm} (h : f_X12_hour M l0 l1 = some r) (l : Launch) : Ct l G j_X12_hour b_X12_hour [rf G.1 l0, .int l1] M (some (.int r.1)) r.2 := cf_I (by decide +kernel) (by simp [lg_sl, rf_cat, cat_i, cat_l, j_X12_hour]) rfl (by simp [lv_args, rf_cat, cat_i, cat_l]) (fun X he => t_X12_hour_e he h)
def f_X12_fallSet_39 (k4 : Mm → Option Nat → Int32 → Int32 → Int32 → Option (Int32 × Mm)) (M : Mm) (l0 : Option Nat) (l1 : Int32) (l3 : Int32) (s0 : Int32) (s1 : Int32) : Option (Int32 × Mm) := nmI (s0 ||| s1) fun x40 => k4 M l0 l1 x40 (l3 + 1)
def f_X12_fallSet_38 (k4 : Mm → Option Nat → Int32 → Int32 → Int32 → Option (Int32 × Mm)) (M : Mm) (l0 : Option Nat) (l1 : Int32) (l3 : Int32) (s0 : Int32) : Option (Int32 × Mm) := f_X12_fallSet_39 k4 M l0 l1 l3 s0 0
def f_X12_fallSet_4 : Nat → Mm → Option Nat → Int32 → Int32 → Int32 → Option (Int32 × Mm)
  | 0, _, _, _, _, _ => none
  | n + 1, M, l0, l1, l2, l3 => gfR M l0 12 20 fun v6 => alI M v6 21 0 fun v10 => if v10 ≤ l3 then (some (l2, M)) else (ck M l0 12 <| bd (f_X12_isOn M l0 l3) fun v17 M17 => if v17 = 0 then (f_X12_fallSet_38 (f_X12_fallSet_4 n) M17 l0 l1 l3 l2) else (ck M17 l0 12 <| bd (f_X12_holds M17 l0 l3) fun v26 M26 => if l1 ≤ v26 then (f_X12_fallSet_38 (f_X12_fallSet_4 n) M26 l0 l1 l3 l2) else (f_X12_fallSet_39 (f_X12_fallSet_4 n) M26 l0 l1 l3 l2 (1 <<< (l3 &&& 31)))))
def f_X12_fallSet (M : Mm) (l0 : Option Nat) (l1 : Int32) : Option (Int32 × Mm) := f_X12_fallSet_4  fu M l0 l1 0 0
set_option maxHeartbeats 4000000 in
set_option maxRecDepth 100000 in
theorem t_X12_fallSet_39 {G : GG} {X : CX} {ans : Int32 × Mm} (he : EndI G X j_X12_fallSet b_X12_fallSet ans) {k4 : Mm → Option Nat → Int32 → Int32 → Int32 → Option (Int32 × Mm)} (hk4 : ∀ (M : Mm) (a0 : Option Nat) (a1 : Int32) (a2 : Int32) (a3 : Int32), k4 M a0 a1 a2 a3 = some ans → Wt G X j_X12_fallSet b_X12_fallSet 4 [(0, rf G.1 a0), (1, .int a1), (2, .int a2), (3, .int a3)] [] M 0 0) {M : Mm} {l0 : Option Nat} {l1 : Int32} {l3 : Int32} {s0 : Int32} {s1 : Int32} (h : f_X12_fallSet_39 k4 M l0 l1 l3 s0 s1 = some ans) : Wt G X j_X12_fallSet b_X12_fallSet 39 [(0, rf G.1 l0), (1, .int l1), (3, .int l3)] [.int s1, .int s0] M 0 0 := by
  unfold f_X12_fallSet_39 at h
  refine wt_ior (pc := 39) dX12_fallSet_39 ?_
  refine wt_nmI h (fun x40 h => ?_)
  refine wt_istore_n (pc := 40) (i := 2) (ls' := [(2, .int x40), (0, rf G.1 l0), (1, .int l1), (3, .int l3)]) rfl dX12_fallSet_40 (by decide) rfl ?_
  refine wt_iinc (pc := 41) (d := 1) (ls' := [(3, .int (l3 + 1)), (2, .int x40), (0, rf G.1 l0), (1, .int l1)]) 3 dX12_fallSet_41 rfl (by decide) (by decide) rfl ?_
  refine wt_goto (pc := 44) (tgt := 4) dX12_fallSet_44 (by decide) ?_
  refine wt_sub (ls' := [(0, rf G.1 l0), (1, .int l1), (2, .int x40), (3, .int (l3 + 1))]) [2, 3, 1, 0] rfl ?_
  exact hk4 _ _ _ _ _ h
set_option maxHeartbeats 4000000 in
set_option maxRecDepth 100000 in
theorem t_X12_fallSet_38 {G : GG} {X : CX} {ans : Int32 × Mm} (he : EndI G X j_X12_fallSet b_X12_fallSet ans) {k4 : Mm → Option Nat → Int32 → Int32 → Int32 → Option (Int32 × Mm)} (hk4 : ∀ (M : Mm) (a0 : Option Nat) (a1 : Int32) (a2 : Int32) (a3 : Int32), k4 M a0 a1 a2 a3 = some ans → Wt G X j_X12_fallSet b_X12_fallSet 4 [(0, rf G.1 a0), (1, .int a1), (2, .int a2), (3, .int a3)] [] M 0 0) {M : Mm} {l0 : Option Nat} {l1 : Int32} {l3 : Int32} {s0 : Int32} (h : f_X12_fallSet_38 k4 M l0 l1 l3 s0 = some ans) : Wt G X j_X12_fallSet b_X12_fallSet 38 [(0, rf G.1 l0), (1, .int l1), (3, .int l3)] [.int s0] M 0 0 := by
  unfold f_X12_fallSet_38 at h
  refine wt_iconst (pc := 38) (v := 0) dX12_fallSet_38 (by decide) ?_
  exact t_X12_fallSet_39 he (fun _ _ _ _ _ h => hk4 _ _ _ _ _ h) h
set_option maxHeartbeats 4000000 in
set_option maxRecDepth 100000 in
theorem t_X12_fallSet_4 {G : GG} {X : CX} {ans : Int32 × Mm} (he : EndI G X j_X12_fallSet b_X12_fallSet ans) : ∀ (n : Nat) {M : Mm} {l0 : Option Nat} {l1 : Int32} {l2 : Int32} {l3 : Int32}, f_X12_fallSet_4 n M l0 l1 l2 l3 = some ans → Wt G X j_X12_fallSet b_X12_fallSet 4 [(0, rf G.1 l0), (1, .int l1), (2, .int l2), (3, .int l3)] [] M 0 0 := by
  intro n
  induction n with
  | zero =>
    intro M l0 l1 l2 l3 h
    rw [f_X12_fallSet_4] at h
    cases h
  | succ n ih =>
    intro M l0 l1 l2 l3 h
    rw [f_X12_fallSet_4] at h
    refine wt_iload_n (pc := 4) 3 dX12_fallSet_4 rfl ?_
    refine wt_aload_n (pc := 5) 0 dX12_fallSet_5 rfl ?_
    refine wt_getR (pc := 6) dX12_fallSet_6 fl_X12_35 (fun _ _ _ => rfl) h (fun v6 h => ?_)
    refine wt_iconst (pc := 9) (v := 0) dX12_fallSet_9 (by decide) ?_
    refine wt_iaload (pc := 10) (kd := 21) dX12_fallSet_10 rfl rfl h (fun v10 h => ?_)
    refine wt_icmp_ge (pc := 11) (tgt := 47) dX12_fallSet_11 (by decide) (fun q => ?_) (fun q => ?_)
    · have h := ite_t q h
      refine wt_iload_n (pc := 47) 2 dX12_fallSet_47 rfl ?_
      cases h
      exact he 48 _ _ _ dX12_fallSet_48 (by decide) (by decide)
    · have h := ite_f q h
      refine wt_iload_n (pc := 14) 2 dX12_fallSet_14 rfl ?_
      refine wt_aload_n (pc := 15) 0 dX12_fallSet_15 rfl ?_
      refine wt_iload_n (pc := 16) 3 dX12_fallSet_16 rfl ?_
      refine wt_cVI (pc := 17) (J' := j_X12_isOn) (As := [.int l3]) (st := [.int l2]) (B' := b_X12_isOn) (u' := 0) (w' := 0) dX12_fallSet_17 ml_X12_363 mv_X12_isOn (fun v9 M9 e9 => c_X12_isOn e9) rfl (by decide) rfl rfl (by decide) (by decide) (by simp [rf_cat, cat_i, cat_l, cat_r]) rfl h (fun v17 M17 h => ?_)
      refine wt_if_eq (pc := 20) (tgt := 38) dX12_fallSet_20 (by decide) (fun q => ?_) (fun q => ?_)
      · have h := ite_t q h
        refine wt_sub (ls' := [(0, rf G.1 l0), (1, .int l1), (3, .int l3)]) [0, 1, 3] rfl ?_
        exact t_X12_fallSet_38 he (fun _ _ _ _ _ h => ih h) h
      · have h := ite_f q h
        refine wt_iload_n (pc := 23) 1 dX12_fallSet_23 rfl ?_
        refine wt_aload_n (pc := 24) 0 dX12_fallSet_24 rfl ?_
        refine wt_iload_n (pc := 25) 3 dX12_fallSet_25 rfl ?_
        refine wt_cVI (pc := 26) (J' := j_X12_holds) (As := [.int l3]) (st := [.int l1, .int l2]) (B' := b_X12_holds) (u' := 0) (w' := 0) dX12_fallSet_26 ml_X12_349 mv_X12_holds (fun v9 M9 e9 => c_X12_holds e9) rfl (by decide) rfl rfl (by decide) (by decide) (by simp [rf_cat, cat_i, cat_l, cat_r]) rfl h (fun v26 M26 h => ?_)
        refine wt_icmp_le (pc := 29) (tgt := 38) dX12_fallSet_29 (by decide) (fun q => ?_) (fun q => ?_)
        · have h := ite_t q h
          refine wt_sub (ls' := [(0, rf G.1 l0), (1, .int l1), (3, .int l3)]) [0, 1, 3] rfl ?_
          exact t_X12_fallSet_38 he (fun _ _ _ _ _ h => ih h) h
        · have h := ite_f q h
          refine wt_iconst (pc := 32) (v := 1) dX12_fallSet_32 (by decide) ?_
          refine wt_iload_n (pc := 33) 3 dX12_fallSet_33 rfl ?_
          refine wt_ishl (pc := 34) dX12_fallSet_34 ?_
          refine wt_goto (pc := 35) (tgt := 39) dX12_fallSet_35 (by decide) ?_
          refine wt_sub (ls' := [(0, rf G.1 l0), (1, .int l1), (3, .int l3)]) [0, 1, 3] rfl ?_
          exact t_X12_fallSet_39 he (fun _ _ _ _ _ h => ih h) h
set_option maxHeartbeats 4000000 in
set_option maxRecDepth 100000 in
theorem t_X12_fallSet_e {G : GG} {X : CX} {ans : Int32 × Mm} (he : EndI G X j_X12_fallSet b_X12_fallSet ans) {M : Mm} {l0 : Option Nat} {l1 : Int32} (h : f_X12_fallSet M l0 l1 = some ans) : Wt G X j_X12_fallSet b_X12_fallSet 0 [(0, rf G.1 l0), (1, .int l1)] [] M 0 0 := by
  unfold f_X12_fallSet at h
  refine wt_iconst (pc := 0) (v := 0) dX12_fallSet_0 (by decide) ?_
  refine wt_istore_n (pc := 1) (i := 2) (ls' := [(2, .int 0), (0, rf G.1 l0), (1, .int l1)]) rfl dX12_fallSet_1 (by decide) rfl ?_
  refine wt_iconst (pc := 2) (v := 0) dX12_fallSet_2 (by decide) ?_
  refine wt_istore_n (pc := 3) (i := 3) (ls' := [(3, .int 0), (2, .int 0), (0, rf G.1 l0), (1, .int l1)]) rfl dX12_fallSet_3 (by decide) rfl ?_
  refine wt_sub (ls' := [(0, rf G.1 l0), (1, .int l1), (2, .int 0), (3, .int 0)]) [2, 3, 1, 0] rfl ?_
  exact t_X12_fallSet_4 he  fu h
set_option maxHeartbeats 4000000 in
set_option maxRecDepth 100000 in
theorem c_X12_fallSet {G : GG} {M : Mm} {l0 : Option Nat} {l1 : Int32} {r : Int32 × Mm} (h : f_X12_fallSet M l0 l1 = some r) (l : Launch) : Ct l G j_X12_fallSet b_X12_fallSet [rf G.1 l0, .int l1] M (some (.int r.1)) r.2 := cf_I (by decide +kernel) (by simp [lg_sl, rf_cat, cat_i, cat_l, j_X12_fallSet]) rfl (by simp [lv_args, rf_cat, cat_i, cat_l]) (fun X he => t_X12_fallSet_e he h)
def f_X12_blows_80 (k8 : Mm → Option Nat → Int32 → Int32 → Option (Int32 × Mm)) (M : Mm) (l0 : Option Nat) (l2 : Int32) (l3 : Int32) : Option (Int32 × Mm) := k8 M l0 l2 (l3 + 1)
def f_X12_blows_74 (k8 : Mm → Option Nat → Int32 → Int32 → Option (Int32 × Mm)) (k42 : Mm → Option Nat → Int32 → Int32 → Int32 → Option (Int32 × Mm)) (M : Mm) (l0 : Option Nat) (l2 : Int32) (l3 : Int32) (l4 : Int32) : Option (Int32 × Mm) := k42 M l0 l2 l3 (l4 + 1)
def f_X12_blows_42 (k8 : Mm → Option Nat → Int32 → Int32 → Option (Int32 × Mm)) : Nat → Mm → Option Nat → Int32 → Int32 → Int32 → Option (Int32 × Mm)
  | 0, _, _, _, _, _ => none
  | n + 1, M, l0, l2, l3, l4 => gfR M l0 12 20 fun v45 => alI M v45 21 1 fun v49 => if v49 ≤ l4 then (f_X12_blows_80 k8 M l0 l2 l3) else (gfR M l0 12 20 fun v54 => alI M v54 21 (149 + l4) fun v63 => if v63 = l3 then (ck M l0 12 <| bv (f_X12_drops M l0 l4) fun M71 => f_X12_blows_74 k8 (f_X12_blows_42 k8 n) M71 l0 l2 l3 l4) else (f_X12_blows_74 k8 (f_X12_blows_42 k8 n) M l0 l2 l3 l4))
def f_X12_blows_8 : Nat → Mm → Option Nat → Int32 → Int32 → Option (Int32 × Mm)
  | 0, _, _, _, _ => none
  | n + 1, M, l0, l2, l3 => gfR M l0 12 20 fun v10 => alI M v10 21 0 fun v14 => if v14 ≤ l3 then (bd (f_X12_sizeOf M l2) fun v87 M87 => some (v87, M87)) else (bd (f_X12_has M l2 l3) fun v20 M20 => if v20 = 0 then (f_X12_blows_80 (f_X12_blows_8 n) M20 l0 l2 l3) else (gfR M20 l0 12 20 fun v30 => asI M20 v30 21 (61 + l3) 0 fun M38 => f_X12_blows_42 (f_X12_blows_8 n) fu M38 l0 l2 l3 0))
def f_X12_blows (M : Mm) (l0 : Option Nat) (l1 : Int32) : Option (Int32 × Mm) := ck M l0 12 <| bd (f_X12_fallSet M l0 l1) fun v2 M2 => f_X12_blows_8  fu M2 l0 v2 0
set_option maxHeartbeats 4000000 in
set_option maxRecDepth 100000 in
theorem t_X12_blows_80 {G : GG} {X : CX} {ans : Int32 × Mm} (he : EndI G X j_X12_blows b_X12_blows ans) {k8 : Mm → Option Nat → Int32 → Int32 → Option (Int32 × Mm)} (hk8 : ∀ (M : Mm) (a0 : Option Nat) (a2 : Int32) (a3 : Int32), k8 M a0 a2 a3 = some ans → Wt G X j_X12_blows b_X12_blows 8 [(0, rf G.1 a0), (2, .int a2), (3, .int a3)] [] M 0 0) {M : Mm} {l0 : Option Nat} {l2 : Int32} {l3 : Int32} (h : f_X12_blows_80 k8 M l0 l2 l3 = some ans) : Wt G X j_X12_blows b_X12_blows 80 [(0, rf G.1 l0), (2, .int l2), (3, .int l3)] [] M 0 0 := by
  unfold f_X12_blows_80 at h
  refine wt_iinc (pc := 80) (d := 1) (ls' := [(3, .int (l3 + 1)), (0, rf G.1 l0), (2, .int l2)]) 2 dX12_blows_80 rfl (by decide) (by decide) rfl ?_
  refine wt_goto (pc := 83) (tgt := 8) dX12_blows_83 (by decide) ?_
  refine wt_sub (ls' := [(0, rf G.1 l0), (2, .int l2), (3, .int (l3 + 1))]) [1, 2, 0] rfl ?_
  exact hk8 _ _ _ _ h
set_option maxHeartbeats 4000000 in
set_option maxRecDepth 100000 in
theorem t_X12_blows_74 {G : GG} {X : CX} {ans : Int32 × Mm} (he : EndI G X j_X12_blows b_X12_blows ans) {k8 : Mm → Option Nat → Int32 → Int32 → Option (Int32 × Mm)} {k42 : Mm → Option Nat → Int32 → Int32 → Int32 → Option (Int32 × Mm)} (hk8 : ∀ (M : Mm) (a0 : Option Nat) (a2 : Int32) (a3 : Int32), k8 M a0 a2 a3 = some ans → Wt G X j_X12_blows b_X12_blows 8 [(0, rf G.1 a0), (2, .int a2), (3, .int a3)] [] M 0 0) (hk42 : ∀ (M : Mm) (a0 : Option Nat) (a2 : Int32) (a3 : Int32) (a4 : Int32), k42 M a0 a2 a3 a4 = some ans → Wt G X j_X12_blows b_X12_blows 42 [(0, rf G.1 a0), (2, .int a2), (3, .int a3), (4, .int a4)] [] M 0 0) {M : Mm} {l0 : Option Nat} {l2 : Int32} {l3 : Int32} {l4 : Int32} (h : f_X12_blows_74 k8 k42 M l0 l2 l3 l4 = some ans) : Wt G X j_X12_blows b_X12_blows 74 [(0, rf G.1 l0), (2, .int l2), (3, .int l3), (4, .int l4)] [] M 0 0 := by
  unfold f_X12_blows_74 at h
  refine wt_iinc (pc := 74) (d := 1) (ls' := [(4, .int (l4 + 1)), (0, rf G.1 l0), (2, .int l2), (3, .int l3)]) 3 dX12_blows_74 rfl (by decide) (by decide) rfl ?_
  refine wt_goto (pc := 77) (tgt := 42) dX12_blows_77 (by decide) ?_
  refine wt_sub (ls' := [(0, rf G.1 l0), (2, .int l2), (3, .int l3), (4, .int (l4 + 1))]) [1, 2, 3, 0] rfl ?_
  exact hk42 _ _ _ _ _ h
set_option maxHeartbeats 4000000 in
set_option maxRecDepth 100000 in
theorem t_X12_blows_42 {G : GG} {X : CX} {ans : Int32 × Mm} (he : EndI G X j_X12_blows b_X12_blows ans) {k8 : Mm → Option Nat → Int32 → Int32 → Option (Int32 × Mm)} (hk8 : ∀ (M : Mm) (a0 : Option Nat) (a2 : Int32) (a3 : Int32), k8 M a0 a2 a3 = some ans → Wt G X j_X12_blows b_X12_blows 8 [(0, rf G.1 a0), (2, .int a2), (3, .int a3)] [] M 0 0) : ∀ (n : Nat) {M : Mm} {l0 : Option Nat} {l2 : Int32} {l3 : Int32} {l4 : Int32}, f_X12_blows_42 k8 n M l0 l2 l3 l4 = some ans → Wt G X j_X12_blows b_X12_blows 42 [(0, rf G.1 l0), (2, .int l2), (3, .int l3), (4, .int l4)] [] M 0 0 := by
  intro n
  induction n with
  | zero =>
    intro M l0 l2 l3 l4 h
    rw [f_X12_blows_42] at h
    cases h
  | succ n ih =>
    intro M l0 l2 l3 l4 h
    rw [f_X12_blows_42] at h
    refine wt_iload (pc := 42) 3 dX12_blows_42 rfl ?_
    refine wt_aload_n (pc := 44) 0 dX12_blows_44 rfl ?_
    refine wt_getR (pc := 45) dX12_blows_45 fl_X12_35 (fun _ _ _ => rfl) h (fun v45 h => ?_)
    refine wt_iconst (pc := 48) (v := 1) dX12_blows_48 (by decide) ?_
    refine wt_iaload (pc := 49) (kd := 21) dX12_blows_49 rfl rfl h (fun v49 h => ?_)
    refine wt_icmp_ge (pc := 50) (tgt := 80) dX12_blows_50 (by decide) (fun q => ?_) (fun q => ?_)
    · have h := ite_t q h
      refine wt_sub (ls' := [(0, rf G.1 l0), (2, .int l2), (3, .int l3)]) [0, 1, 2] rfl ?_
      exact t_X12_blows_80 he (fun _ _ _ _ h => hk8 _ _ _ _ h) h
    · have h := ite_f q h
      refine wt_aload_n (pc := 53) 0 dX12_blows_53 rfl ?_
      refine wt_getR (pc := 54) dX12_blows_54 fl_X12_35 (fun _ _ _ => rfl) h (fun v54 h => ?_)
      refine wt_sipush (pc := 57) (v := 149) dX12_blows_57 (by decide) ?_
      refine wt_iload (pc := 60) 3 dX12_blows_60 rfl ?_
      refine wt_iadd (pc := 62) dX12_blows_62 ?_
      refine wt_iaload (pc := 63) (kd := 21) dX12_blows_63 rfl rfl h (fun v63 h => ?_)
      refine wt_iload_n (pc := 64) 2 dX12_blows_64 rfl ?_
      refine wt_icmp_ne (pc := 65) (tgt := 74) dX12_blows_65 (by decide) (fun q => ?_) (fun q => ?_)
      · have h := ite_f q h
        exact t_X12_blows_74 he (fun _ _ _ _ h => hk8 _ _ _ _ h) (fun _ _ _ _ _ h => ih h) h
      · have h := ite_t q h
        refine wt_aload_n (pc := 68) 0 dX12_blows_68 rfl ?_
        refine wt_iload (pc := 69) 3 dX12_blows_69 rfl ?_
        refine wt_cVV (pc := 71) (J' := j_X12_drops) (As := [.int l4]) (st := []) (B' := b_X12_drops) (u' := 0) (w' := 0) dX12_blows_71 ml_X12_381 mv_X12_drops (fun M9 e9 => c_X12_drops e9) rfl (by decide) rfl rfl (by decide) (by decide) (by decide) rfl h (fun M71 h => ?_)
        exact t_X12_blows_74 he (fun _ _ _ _ h => hk8 _ _ _ _ h) (fun _ _ _ _ _ h => ih h) h
set_option maxHeartbeats 4000000 in
set_option maxRecDepth 100000 in
theorem t_X12_blows_8 {G : GG} {X : CX} {ans : Int32 × Mm} (he : EndI G X j_X12_blows b_X12_blows ans) : ∀ (n : Nat) {M : Mm} {l0 : Option Nat} {l2 : Int32} {l3 : Int32}, f_X12_blows_8 n M l0 l2 l3 = some ans → Wt G X j_X12_blows b_X12_blows 8 [(0, rf G.1 l0), (2, .int l2), (3, .int l3)] [] M 0 0 := by
  intro n
  induction n with
  | zero =>
    intro M l0 l2 l3 h
    rw [f_X12_blows_8] at h
    cases h
  | succ n ih =>
    intro M l0 l2 l3 h
    rw [f_X12_blows_8] at h
    refine wt_iload_n (pc := 8) 2 dX12_blows_8 rfl ?_
    refine wt_aload_n (pc := 9) 0 dX12_blows_9 rfl ?_
    refine wt_getR (pc := 10) dX12_blows_10 fl_X12_35 (fun _ _ _ => rfl) h (fun v10 h => ?_)
    refine wt_iconst (pc := 13) (v := 0) dX12_blows_13 (by decide) ?_
    refine wt_iaload (pc := 14) (kd := 21) dX12_blows_14 rfl rfl h (fun v14 h => ?_)
    refine wt_icmp_ge (pc := 15) (tgt := 86) dX12_blows_15 (by decide) (fun q => ?_) (fun q => ?_)
    · have h := ite_t q h
      refine wt_iload_n (pc := 86) 1 dX12_blows_86 rfl ?_
      refine wt_cSI (pc := 87) (J' := j_X12_sizeOf) (As := [.int l2]) (st := []) (B' := b_X12_sizeOf) (u' := 0) (w' := 0) dX12_blows_87 ml_X12_401 ms_X12_sizeOf (fun v9 M9 e9 => c_X12_sizeOf e9) rfl (by decide) rfl rfl (by decide) (by decide) (by decide) rfl h (fun v87 M87 h => ?_)
      cases h
      exact he 90 _ _ _ dX12_blows_90 (by decide) (by decide)
    · have h := ite_f q h
      refine wt_iload_n (pc := 18) 1 dX12_blows_18 rfl ?_
      refine wt_iload_n (pc := 19) 2 dX12_blows_19 rfl ?_
      refine wt_cSI (pc := 20) (J' := j_X12_has) (As := [.int l2, .int l3]) (st := []) (B' := b_X12_has) (u' := 0) (w' := 0) dX12_blows_20 ml_X12_107 ms_X12_has (fun v9 M9 e9 => c_X12_has e9) rfl (by decide) rfl rfl (by decide) (by decide) (by decide) rfl h (fun v20 M20 h => ?_)
      refine wt_if_ne (pc := 23) (tgt := 29) dX12_blows_23 (by decide) (fun q => ?_) (fun q => ?_)
      · have h := ite_f q h
        refine wt_aload_n (pc := 29) 0 dX12_blows_29 rfl ?_
        refine wt_getR (pc := 30) dX12_blows_30 fl_X12_35 (fun _ _ _ => rfl) h (fun v30 h => ?_)
        refine wt_bipush (pc := 33) (v := 61) dX12_blows_33 (by decide) ?_
        refine wt_iload_n (pc := 35) 2 dX12_blows_35 rfl ?_
        refine wt_iadd (pc := 36) dX12_blows_36 ?_
        refine wt_iconst (pc := 37) (v := 0) dX12_blows_37 (by decide) ?_
        refine wt_iastore (pc := 38) (kd := 21) dX12_blows_38 rfl rfl h (fun M38 h => ?_)
        refine wt_iconst (pc := 39) (v := 0) dX12_blows_39 (by decide) ?_
        refine wt_istore (pc := 40) (i := 4) (ls' := [(4, .int 0), (0, rf G.1 l0), (2, .int l2), (3, .int l3)]) dX12_blows_40 (by decide) rfl ?_
        refine wt_sub (ls' := [(0, rf G.1 l0), (2, .int l2), (3, .int l3), (4, .int 0)]) [1, 2, 3, 0] rfl ?_
        exact t_X12_blows_42 he (fun _ _ _ _ h => ih h) fu h
      · have h := ite_t q h
        refine wt_goto (pc := 26) (tgt := 80) dX12_blows_26 (by decide) ?_
        exact t_X12_blows_80 he (fun _ _ _ _ h => ih h) h
set_option maxHeartbeats 4000000 in
set_option maxRecDepth 100000 in
theorem t_X12_blows_e {G : GG} {X : CX} {ans : Int32 × Mm} (he : EndI G X j_X12_blows b_X12_blows ans) {M : Mm} {l0 : Option Nat} {l1 : Int32} (h : f_X12_blows M l0 l1 = some ans) : Wt G X j_X12_blows b_X12_blows 0 [(0, rf G.1 l0), (1, .int l1)] [] M 0 0 := by
  unfold f_X12_blows at h
  refine wt_aload_n (pc := 0) 0 dX12_blows_0 rfl ?_
  refine wt_iload_n (pc := 1) 1 dX12_blows_1 rfl ?_
  refine wt_cVI (pc := 2) (J' := j_X12_fallSet) (As := [.int l1]) (st := []) (B' := b_X12_fallSet) (u' := 0) (w' := 0) dX12_blows_2 ml_X12_398 mv_X12_fallSet (fun v9 M9 e9 => c_X12_fallSet e9) rfl (by decide) rfl rfl (by decide) (by decide) (by decide) rfl h (fun v2 M2 h => ?_)
  refine wt_istore_n (pc := 5) (i := 2) (ls' := [(2, .int v2), (0, rf G.1 l0), (1, .int l1)]) rfl dX12_blows_5 (by decide) rfl ?_
  refine wt_iconst (pc := 6) (v := 0) dX12_blows_6 (by decide) ?_
  refine wt_istore_n (pc := 7) (i := 3) (ls' := [(3, .int 0), (2, .int v2), (0, rf G.1 l0), (1, .int l1)]) rfl dX12_blows_7 (by decide) rfl ?_
  refine wt_sub (ls' := [(0, rf G.1 l0), (2, .int v2), (3, .int 0)]) [2, 1, 0] rfl ?_
  exact t_X12_blows_8 he  fu h
set_option maxHeartbeats 4000000 in
set_option maxRecDepth 100000 in
theorem c_X12_blows {G : GG} {M : Mm} {l0 : Option Nat} {l1 : Int32} {r : Int32 × Mm} (h : f_X12_blows M l0 l1 = some r) (l : Launch) : Ct l G j_X12_blows b_X12_blows [rf G.1 l0, .int l1] M (some (.int r.1)) r.2 := cf_I (by decide +kernel) (by simp [lg_sl, rf_cat, cat_i, cat_l, j_X12_blows]) rfl (by simp [lv_args, rf_cat, cat_i, cat_l]) (fun X he => t_X12_blows_e he h)
def f_X12_gale (M : Mm) (l0 : Option Nat) (l1 : Int32) : Option (Int32 × Mm) := pfI M l0 12 1 0 fun M2 => pfI M2 l0 12 0 0 fun M7 => bd (f_X12_isIn M7 (Int32.toInt64 l1) 0 99) fun v16 M16 => if v16 = 0 then (ck M16 l0 12 <| bd (f_X12_refuse M16 l0 5) fun v32 M32 => some (v32, M32)) else (ck M16 l0 12 <| bd (f_X12_blows M16 l0 l1) fun v24 M24 => some (v24, M24))
set_option maxHeartbeats 4000000 in
set_option maxRecDepth 100000 in
theorem t_X12_gale_e {G : GG} {X : CX} {ans : Int32 × Mm} (he : EndI G X j_X12_gale b_X12_gale ans) {M : Mm} {l0 : Option Nat} {l1 : Int32} (h : f_X12_gale M l0 l1 = some ans) : Wt G X j_X12_gale b_X12_gale 0 [(0, rf G.1 l0), (1, .int l1)] [] M 0 0 := by
  unfold f_X12_gale at h
  refine wt_aload_n (pc := 0) 0 dX12_gale_0 rfl ?_
  refine wt_iconst (pc := 1) (v := 0) dX12_gale_1 (by decide) ?_
  refine wt_putI (pc := 2) dX12_gale_2 fl_X12_68 rfl rfl h (fun M2 h => ?_)
  refine wt_aload_n (pc := 5) 0 dX12_gale_5 rfl ?_
  refine wt_iconst (pc := 6) (v := 0) dX12_gale_6 (by decide) ?_
  refine wt_putI (pc := 7) dX12_gale_7 fl_X12_71 rfl rfl h (fun M7 h => ?_)
  refine wt_iload_n (pc := 10) 1 dX12_gale_10 rfl ?_
  refine wt_i2l (pc := 11) dX12_gale_11 ?_
  refine wt_lconst (pc := 12) (v := 0) dX12_gale_12 (by decide) ?_
  refine wt_ldc2 (pc := 13) dX12_gale_13 kc_X12_404 ?_
  refine wt_cSI (pc := 16) (J' := j_X12_isIn) (As := [.long (Int32.toInt64 l1), .long 0, .long 99]) (st := []) (B' := b_X12_isIn) (u' := 0) (w' := 0) dX12_gale_16 ml_X12_103 ms_X12_isIn (fun v9 M9 e9 => c_X12_isIn e9) rfl (by decide) rfl rfl (by decide) (by decide) (by decide) rfl h (fun v16 M16 h => ?_)
  refine wt_if_eq (pc := 19) (tgt := 30) dX12_gale_19 (by decide) (fun q => ?_) (fun q => ?_)
  · have h := ite_t q h
    refine wt_aload_n (pc := 30) 0 dX12_gale_30 rfl ?_
    refine wt_iconst (pc := 31) (v := 5) dX12_gale_31 (by decide) ?_
    refine wt_cVI (pc := 32) (J' := j_X12_refuse) (As := [.int 5]) (st := []) (B' := b_X12_refuse) (u' := 0) (w' := 0) dX12_gale_32 ml_X12_331 mv_X12_refuse (fun v9 M9 e9 => c_X12_refuse e9) rfl (by decide) rfl rfl (by decide) (by decide) (by decide) rfl h (fun v32 M32 h => ?_)
    cases h
    exact he 35 _ _ _ dX12_gale_35 (by decide) (by decide)
  · have h := ite_f q h
    refine wt_aload_n (pc := 22) 0 dX12_gale_22 rfl ?_
    refine wt_iload_n (pc := 23) 1 dX12_gale_23 rfl ?_
    refine wt_cVI (pc := 24) (J' := j_X12_blows) (As := [.int l1]) (st := []) (B' := b_X12_blows) (u' := 0) (w' := 0) dX12_gale_24 ml_X12_406 mv_X12_blows (fun v9 M9 e9 => c_X12_blows e9) rfl (by decide) rfl rfl (by decide) (by decide) (by decide) rfl h (fun v24 M24 h => ?_)
    refine wt_goto (pc := 27) (tgt := 35) dX12_gale_27 (by decide) ?_
    cases h
    exact he 35 _ _ _ dX12_gale_35 (by decide) (by decide)
set_option maxHeartbeats 4000000 in
set_option maxRecDepth 100000 in
theorem c_X12_gale {G : GG} {M : Mm} {l0 : Option Nat} {l1 : Int32} {r : Int32 × Mm} (h : f_X12_gale M l0 l1 = some r) (l : Launch) : Ct l G j_X12_gale b_X12_gale [rf G.1 l0, .int l1] M (some (.int r.1)) r.2 := cf_I (by decide +kernel) (by simp [lg_sl, rf_cat, cat_i, cat_l, j_X12_gale]) rfl (by simp [lv_args, rf_cat, cat_i, cat_l]) (fun X he => t_X12_gale_e he h)
def f_X12_dawns_80 : Nat → Mm → Option Nat → Int32 → Int32 → Option (Int32 × Mm)
  | 0, _, _, _, _ => none
  | n + 1, M, l0, l1, l2 => gfR M l0 12 20 fun v82 => alI M v82 21 1 fun v86 => if v86 ≤ l2 then (gfR M l0 12 20 fun v102 => asI M v102 21 4 0 fun M107 => some (l1, M107)) else (ck M l0 12 <| bv (f_X12_drops M l0 l2) fun M92 => f_X12_dawns_80 n M92 l0 l1 (l2 + 1))
def f_X12_dawns_72 (k4 : Mm → Option Nat → Int32 → Int32 → Option (Int32 × Mm)) (M : Mm) (l0 : Option Nat) (l1 : Int32) (l2 : Int32) : Option (Int32 × Mm) := k4 M l0 l1 (l2 + 1)
def f_X12_dawns_52 (k4 : Mm → Option Nat → Int32 → Int32 → Option (Int32 × Mm)) (M : Mm) (l0 : Option Nat) (l2 : Int32) (s0 : Int32) (s1 : Int32) : Option (Int32 × Mm) := nmI (s0 + s1) fun x53 => gfR M l0 12 20 fun v55 => gfR M l0 12 20 fun v63 => alI M v63 21 (21 + l2) fun v70 => asI M v55 21 (53 + l2) v70 fun M71 => f_X12_dawns_72 k4 M71 l0 x53 l2
def f_X12_dawns_4 : Nat → Mm → Option Nat → Int32 → Int32 → Option (Int32 × Mm)
  | 0, _, _, _, _ => none
  | n + 1, M, l0, l1, l2 => gfR M l0 12 20 fun v6 => alI M v6 21 0 fun v10 => if v10 ≤ l2 then (f_X12_dawns_80  fu M l0 l1 0) else (ck M l0 12 <| bd (f_X12_stands M l0 l2) fun v16 M16 => if v16 = 0 then (f_X12_dawns_72 (f_X12_dawns_4 n) M16 l0 l1 l2) else (gfR M16 l0 12 20 fun v27 => alI M16 v27 21 (53 + l2) fun v34 => gfR M16 l0 12 20 fun v36 => alI M16 v36 21 (21 + l2) fun v43 => if v43 ≤ v34 then (f_X12_dawns_52 (f_X12_dawns_4 n) M16 l0 l2 l1 0) else (f_X12_dawns_52 (f_X12_dawns_4 n) M16 l0 l2 l1 1)))
def f_X12_dawns (M : Mm) (l0 : Option Nat) : Option (Int32 × Mm) := f_X12_dawns_4  fu M l0 0 0
set_option maxHeartbeats 4000000 in
set_option maxRecDepth 100000 in
theorem t_X12_dawns_80 {G : GG} {X : CX} {ans : Int32 × Mm} (he : EndI G X j_X12_dawns b_X12_dawns ans) : ∀ (n : Nat) {M : Mm} {l0 : Option Nat} {l1 : Int32} {l2 : Int32}, f_X12_dawns_80 n M l0 l1 l2 = some ans → Wt G X j_X12_dawns b_X12_dawns 80 [(0, rf G.1 l0), (1, .int l1), (2, .int l2)] [] M 0 0 := by
  intro n
  induction n with
  | zero =>
    intro M l0 l1 l2 h
    rw [f_X12_dawns_80] at h
    cases h
  | succ n ih =>
    intro M l0 l1 l2 h
    rw [f_X12_dawns_80] at h
    refine wt_iload_n (pc := 80) 2 dX12_dawns_80 rfl ?_
    refine wt_aload_n (pc := 81) 0 dX12_dawns_81 rfl ?_
    refine wt_getR (pc := 82) dX12_dawns_82 fl_X12_35 (fun _ _ _ => rfl) h (fun v82 h => ?_)
    refine wt_iconst (pc := 85) (v := 1) dX12_dawns_85 (by decide) ?_
    refine wt_iaload (pc := 86) (kd := 21) dX12_dawns_86 rfl rfl h (fun v86 h => ?_)
    refine wt_icmp_ge (pc := 87) (tgt := 101) dX12_dawns_87 (by decide) (fun q => ?_) (fun q => ?_)
    · have h := ite_t q h
      refine wt_aload_n (pc := 101) 0 dX12_dawns_101 rfl ?_
      refine wt_getR (pc := 102) dX12_dawns_102 fl_X12_35 (fun _ _ _ => rfl) h (fun v102 h => ?_)
      refine wt_iconst (pc := 105) (v := 4) dX12_dawns_105 (by decide) ?_
      refine wt_iconst (pc := 106) (v := 0) dX12_dawns_106 (by decide) ?_
      refine wt_iastore (pc := 107) (kd := 21) dX12_dawns_107 rfl rfl h (fun M107 h => ?_)
      refine wt_iload_n (pc := 108) 1 dX12_dawns_108 rfl ?_
      cases h
      exact he 109 _ _ _ dX12_dawns_109 (by decide) (by decide)
    · have h := ite_f q h
      refine wt_aload_n (pc := 90) 0 dX12_dawns_90 rfl ?_
      refine wt_iload_n (pc := 91) 2 dX12_dawns_91 rfl ?_
      refine wt_cVV (pc := 92) (J' := j_X12_drops) (As := [.int l2]) (st := []) (B' := b_X12_drops) (u' := 0) (w' := 0) dX12_dawns_92 ml_X12_381 mv_X12_drops (fun M9 e9 => c_X12_drops e9) rfl (by decide) rfl rfl (by decide) (by decide) (by decide) rfl h (fun M92 h => ?_)
      refine wt_iinc (pc := 95) (d := 1) (ls' := [(2, .int (l2 + 1)), (0, rf G.1 l0), (1, .int l1)]) 2 dX12_dawns_95 rfl (by decide) (by decide) rfl ?_
      refine wt_goto (pc := 98) (tgt := 80) dX12_dawns_98 (by decide) ?_
      refine wt_sub (ls' := [(0, rf G.1 l0), (1, .int l1), (2, .int (l2 + 1))]) [1, 2, 0] rfl ?_
      exact ih h
set_option maxHeartbeats 4000000 in
set_option maxRecDepth 100000 in
theorem t_X12_dawns_72 {G : GG} {X : CX} {ans : Int32 × Mm} (he : EndI G X j_X12_dawns b_X12_dawns ans) {k4 : Mm → Option Nat → Int32 → Int32 → Option (Int32 × Mm)} (hk4 : ∀ (M : Mm) (a0 : Option Nat) (a1 : Int32) (a2 : Int32), k4 M a0 a1 a2 = some ans → Wt G X j_X12_dawns b_X12_dawns 4 [(0, rf G.1 a0), (1, .int a1), (2, .int a2)] [] M 0 0) {M : Mm} {l0 : Option Nat} {l1 : Int32} {l2 : Int32} (h : f_X12_dawns_72 k4 M l0 l1 l2 = some ans) : Wt G X j_X12_dawns b_X12_dawns 72 [(0, rf G.1 l0), (1, .int l1), (2, .int l2)] [] M 0 0 := by
  unfold f_X12_dawns_72 at h
  refine wt_iinc (pc := 72) (d := 1) (ls' := [(2, .int (l2 + 1)), (0, rf G.1 l0), (1, .int l1)]) 2 dX12_dawns_72 rfl (by decide) (by decide) rfl ?_
  refine wt_goto (pc := 75) (tgt := 4) dX12_dawns_75 (by decide) ?_
  refine wt_sub (ls' := [(0, rf G.1 l0), (1, .int l1), (2, .int (l2 + 1))]) [1, 2, 0] rfl ?_
  exact hk4 _ _ _ _ h
set_option maxHeartbeats 4000000 in
set_option maxRecDepth 100000 in
theorem t_X12_dawns_52 {G : GG} {X : CX} {ans : Int32 × Mm} (he : EndI G X j_X12_dawns b_X12_dawns ans) {k4 : Mm → Option Nat → Int32 → Int32 → Option (Int32 × Mm)} (hk4 : ∀ (M : Mm) (a0 : Option Nat) (a1 : Int32) (a2 : Int32), k4 M a0 a1 a2 = some ans → Wt G X j_X12_dawns b_X12_dawns 4 [(0, rf G.1 a0), (1, .int a1), (2, .int a2)] [] M 0 0) {M : Mm} {l0 : Option Nat} {l2 : Int32} {s0 : Int32} {s1 : Int32} (h : f_X12_dawns_52 k4 M l0 l2 s0 s1 = some ans) : Wt G X j_X12_dawns b_X12_dawns 52 [(0, rf G.1 l0), (2, .int l2)] [.int s1, .int s0] M 0 0 := by
  unfold f_X12_dawns_52 at h
  refine wt_iadd (pc := 52) dX12_dawns_52 ?_
  refine wt_nmI h (fun x53 h => ?_)
  refine wt_istore_n (pc := 53) (i := 1) (ls' := [(1, .int x53), (0, rf G.1 l0), (2, .int l2)]) rfl dX12_dawns_53 (by decide) (by simp [rf_cat, cat_i, cat_l, cat_r]) ?_
  refine wt_aload_n (pc := 54) 1 dX12_dawns_54 rfl ?_
  refine wt_getR (pc := 55) dX12_dawns_55 fl_X12_35 (fun _ _ _ => rfl) h (fun v55 h => ?_)
  refine wt_bipush (pc := 58) (v := 53) dX12_dawns_58 (by decide) ?_
  refine wt_iload_n (pc := 60) 2 dX12_dawns_60 rfl ?_
  refine wt_iadd (pc := 61) dX12_dawns_61 ?_
  refine wt_aload_n (pc := 62) 1 dX12_dawns_62 rfl ?_
  refine wt_getR (pc := 63) dX12_dawns_63 fl_X12_35 (fun _ _ _ => rfl) h (fun v63 h => ?_)
  refine wt_bipush (pc := 66) (v := 21) dX12_dawns_66 (by decide) ?_
  refine wt_iload_n (pc := 68) 2 dX12_dawns_68 rfl ?_
  refine wt_iadd (pc := 69) dX12_dawns_69 ?_
  refine wt_iaload (pc := 70) (kd := 21) dX12_dawns_70 rfl rfl h (fun v70 h => ?_)
  refine wt_iastore (pc := 71) (kd := 21) dX12_dawns_71 rfl rfl h (fun M71 h => ?_)
  refine wt_sub (ls' := [(0, rf G.1 l0), (1, .int x53), (2, .int l2)]) [1, 0, 2] rfl ?_
  exact t_X12_dawns_72 he (fun _ _ _ _ h => hk4 _ _ _ _ h) h
set_option maxHeartbeats 4000000 in
set_option maxRecDepth 100000 in
theorem t_X12_dawns_4 {G : GG} {X : CX} {ans : Int32 × Mm} (he : EndI G X j_X12_dawns b_X12_dawns ans) : ∀ (n : Nat) {M : Mm} {l0 : Option Nat} {l1 : Int32} {l2 : Int32}, f_X12_dawns_4 n M l0 l1 l2 = some ans → Wt G X j_X12_dawns b_X12_dawns 4 [(0, rf G.1 l0), (1, .int l1), (2, .int l2)] [] M 0 0 := by
  intro n
  induction n with
  | zero =>
    intro M l0 l1 l2 h
    rw [f_X12_dawns_4] at h
    cases h
  | succ n ih =>
    intro M l0 l1 l2 h
    rw [f_X12_dawns_4] at h
    refine wt_iload_n (pc := 4) 2 dX12_dawns_4 rfl ?_
    refine wt_aload_n (pc := 5) 0 dX12_dawns_5 rfl ?_
    refine wt_getR (pc := 6) dX12_dawns_6 fl_X12_35 (fun _ _ _ => rfl) h (fun v6 h => ?_)
    refine wt_iconst (pc := 9) (v := 0) dX12_dawns_9 (by decide) ?_
    refine wt_iaload (pc := 10) (kd := 21) dX12_dawns_10 rfl rfl h (fun v10 h => ?_)
    refine wt_icmp_ge (pc := 11) (tgt := 78) dX12_dawns_11 (by decide) (fun q => ?_) (fun q => ?_)
    · have h := ite_t q h
      refine wt_iconst (pc := 78) (v := 0) dX12_dawns_78 (by decide) ?_
      refine wt_istore_n (pc := 79) (i := 2) (ls' := [(2, .int 0), (0, rf G.1 l0), (1, .int l1)]) rfl dX12_dawns_79 (by decide) rfl ?_
      refine wt_sub (ls' := [(0, rf G.1 l0), (1, .int l1), (2, .int 0)]) [1, 2, 0] rfl ?_
      exact t_X12_dawns_80 he  fu h
    · have h := ite_f q h
      refine wt_aload_n (pc := 14) 0 dX12_dawns_14 rfl ?_
      refine wt_iload_n (pc := 15) 2 dX12_dawns_15 rfl ?_
      refine wt_cVI (pc := 16) (J' := j_X12_stands) (As := [.int l2]) (st := []) (B' := b_X12_stands) (u' := 0) (w' := 0) dX12_dawns_16 ml_X12_324 mv_X12_stands (fun v9 M9 e9 => c_X12_stands e9) rfl (by decide) rfl rfl (by decide) (by decide) (by decide) rfl h (fun v16 M16 h => ?_)
      refine wt_if_ne (pc := 19) (tgt := 25) dX12_dawns_19 (by decide) (fun q => ?_) (fun q => ?_)
      · have h := ite_f q h
        refine wt_iload_n (pc := 25) 1 dX12_dawns_25 rfl ?_
        refine wt_aload_n (pc := 26) 0 dX12_dawns_26 rfl ?_
        refine wt_getR (pc := 27) dX12_dawns_27 fl_X12_35 (fun _ _ _ => rfl) h (fun v27 h => ?_)
        refine wt_bipush (pc := 30) (v := 53) dX12_dawns_30 (by decide) ?_
        refine wt_iload_n (pc := 32) 2 dX12_dawns_32 rfl ?_
        refine wt_iadd (pc := 33) dX12_dawns_33 ?_
        refine wt_iaload (pc := 34) (kd := 21) dX12_dawns_34 rfl rfl h (fun v34 h => ?_)
        refine wt_aload_n (pc := 35) 0 dX12_dawns_35 rfl ?_
        refine wt_getR (pc := 36) dX12_dawns_36 fl_X12_35 (fun _ _ _ => rfl) h (fun v36 h => ?_)
        refine wt_bipush (pc := 39) (v := 21) dX12_dawns_39 (by decide) ?_
        refine wt_iload_n (pc := 41) 2 dX12_dawns_41 rfl ?_
        refine wt_iadd (pc := 42) dX12_dawns_42 ?_
        refine wt_iaload (pc := 43) (kd := 21) dX12_dawns_43 rfl rfl h (fun v43 h => ?_)
        refine wt_icmp_ge (pc := 44) (tgt := 51) dX12_dawns_44 (by decide) (fun q => ?_) (fun q => ?_)
        · have h := ite_t q h
          refine wt_iconst (pc := 51) (v := 0) dX12_dawns_51 (by decide) ?_
          refine wt_sub (ls' := [(0, rf G.1 l0), (2, .int l2)]) [0, 2] rfl ?_
          exact t_X12_dawns_52 he (fun _ _ _ _ h => ih h) h
        · have h := ite_f q h
          refine wt_iconst (pc := 47) (v := 1) dX12_dawns_47 (by decide) ?_
          refine wt_goto (pc := 48) (tgt := 52) dX12_dawns_48 (by decide) ?_
          refine wt_sub (ls' := [(0, rf G.1 l0), (2, .int l2)]) [0, 2] rfl ?_
          exact t_X12_dawns_52 he (fun _ _ _ _ h => ih h) h
      · have h := ite_t q h
        refine wt_goto (pc := 22) (tgt := 72) dX12_dawns_22 (by decide) ?_
        exact t_X12_dawns_72 he (fun _ _ _ _ h => ih h) h
set_option maxHeartbeats 4000000 in
set_option maxRecDepth 100000 in
theorem t_X12_dawns_e {G : GG} {X : CX} {ans : Int32 × Mm} (he : EndI G X j_X12_dawns b_X12_dawns ans) {M : Mm} {l0 : Option Nat} (h : f_X12_dawns M l0 = some ans) : Wt G X j_X12_dawns b_X12_dawns 0 [(0, rf G.1 l0)] [] M 0 0 := by
  unfold f_X12_dawns at h
  refine wt_iconst (pc := 0) (v := 0) dX12_dawns_0 (by decide) ?_
  refine wt_istore_n (pc := 1) (i := 1) (ls' := [(1, .int 0), (0, rf G.1 l0)]) rfl dX12_dawns_1 (by decide) (by simp [rf_cat, cat_i, cat_l, cat_r]) ?_
  refine wt_iconst (pc := 2) (v := 0) dX12_dawns_2 (by decide) ?_
  refine wt_istore_n (pc := 3) (i := 2) (ls' := [(2, .int 0), (1, .int 0), (0, rf G.1 l0)]) rfl dX12_dawns_3 (by decide) rfl ?_
  refine wt_sub (ls' := [(0, rf G.1 l0), (1, .int 0), (2, .int 0)]) [2, 1, 0] rfl ?_
  exact t_X12_dawns_4 he  fu h
set_option maxHeartbeats 4000000 in
set_option maxRecDepth 100000 in
theorem c_X12_dawns {G : GG} {M : Mm} {l0 : Option Nat} {r : Int32 × Mm} (h : f_X12_dawns M l0 = some r) (l : Launch) : Ct l G j_X12_dawns b_X12_dawns [rf G.1 l0] M (some (.int r.1)) r.2 := cf_I (by decide +kernel) (by simp [lg_sl, rf_cat, cat_i, cat_l, j_X12_dawns]) rfl (by simp [lv_args, rf_cat, cat_i, cat_l]) (fun X he => t_X12_dawns_e he h)
def f_X12_dawn (M : Mm) (l0 : Option Nat) : Option (Int32 × Mm) := pfI M l0 12 1 0 fun M2 => pfI M2 l0 12 0 0 fun M7 => ck M7 l0 12 <| bd (f_X12_dawns M7 l0) fun v11 M11 => some (v11, M11)
set_option maxHeartbeats 4000000 in
set_option maxRecDepth 100000 in
theorem t_X12_dawn_e {G : GG} {X : CX} {ans : Int32 × Mm} (he : EndI G X j_X12_dawn b_X12_dawn ans) {M : Mm} {l0 : Option Nat} (h : f_X12_dawn M l0 = some ans) : Wt G X j_X12_dawn b_X12_dawn 0 [(0, rf G.1 l0)] [] M 0 0 := by
  unfold f_X12_dawn at h
  refine wt_aload_n (pc := 0) 0 dX12_dawn_0 rfl ?_
  refine wt_iconst (pc := 1) (v := 0) dX12_dawn_1 (by decide) ?_
  refine wt_putI (pc := 2) dX12_dawn_2 fl_X12_68 rfl rfl h (fun M2 h => ?_)
  refine wt_aload_n (pc := 5) 0 dX12_dawn_5 rfl ?_
  refine wt_iconst (pc := 6) (v := 0) dX12_dawn_6 (by decide) ?_
  refine wt_putI (pc := 7) dX12_dawn_7 fl_X12_71 rfl rfl h (fun M7 h => ?_)
  refine wt_aload_n (pc := 10) 0 dX12_dawn_10 rfl ?_
  refine wt_cVI (pc := 11) (J' := j_X12_dawns) (As := []) (st := []) (B' := b_X12_dawns) (u' := 0) (w' := 0) dX12_dawn_11 ml_X12_409 mv_X12_dawns (fun v9 M9 e9 => c_X12_dawns e9) rfl (by decide) rfl rfl (by decide) (by decide) (by decide) rfl h (fun v11 M11 h => ?_)
  cases h
  exact he 14 _ _ _ dX12_dawn_14 (by decide) (by decide)
set_option maxHeartbeats 4000000 in
set_option maxRecDepth 100000 in
theorem c_X12_dawn {G : GG} {M : Mm} {l0 : Option Nat} {r : Int32 × Mm} (h : f_X12_dawn M l0 = some r) (l : Launch) : Ct l G j_X12_dawn b_X12_dawn [rf G.1 l0] M (some (.int r.1)) r.2 := cf_I (by decide +kernel) (by simp [lg_sl, rf_cat, cat_i, cat_l, j_X12_dawn]) rfl (by simp [lv_args, rf_cat, cat_i, cat_l]) (fun X he => t_X12_dawn_e he h)
def f_X12_help_26 (M : Mm) (l0 : Option Nat) : Option (Int32 × Mm) := ck M l0 12 <| bd (f_X12_refuse M l0 2) fun v28 M28 => some (v28, M28)
def f_X12_help_49 (M : Mm) (l0 : Option Nat) : Option (Int32 × Mm) := ck M l0 12 <| bd (f_X12_refuse M l0 5) fun v51 M51 => some (v51, M51)
def f_X12_help (M : Mm) (l0 : Option Nat) (l1 : Int32) (l2 : Int32) (l3 : Int32) : Option (Int32 × Mm) := pfI M l0 12 1 0 fun M2 => pfI M2 l0 12 0 0 fun M7 => ck M7 l0 12 <| bd (f_X12_isHouseAt M7 l0 l1) fun v12 M12 => if v12 = 0 then (f_X12_help_26  M12 l0) else (ck M12 l0 12 <| bd (f_X12_isHouseAt M12 l0 l2) fun v20 M20 => if v20 = 0 then (f_X12_help_26  M20 l0) else (if l1 = l2 then (f_X12_help_49  M20 l0) else (bd (f_X12_isIn M20 (Int32.toInt64 l3) 1 99) fun v43 M43 => if v43 = 0 then (f_X12_help_49  M43 l0) else (nmI ((69 + (8 * l1)) + l2) fun x64 => gfR M43 l0 12 20 fun v67 => alI M43 v67 21 x64 fun v72 => if (v72 + l3) ≤ 9999 then (gfR M43 l0 12 20 fun v89 => alI M43 v89 21 x64 fun v95 => asI M43 v89 21 x64 (v95 + l3) fun M98 => gfR M98 l0 12 20 fun v100 => alI M98 v100 21 x64 fun v105 => some (v105, M98)) else (ck M43 l0 12 <| bd (f_X12_refuse M43 l0 7) fun v84 M84 => some (v84, M84))))))
set_option maxHeartbeats 4000000 in
set_option maxRecDepth 100000 in
theorem t_X12_help_26 {G : GG} {X : CX} {ans : Int32 × Mm} (he : EndI G X j_X12_help b_X12_help ans) {M : Mm} {l0 : Option Nat} (h : f_X12_help_26 M l0 = some ans) : Wt G X j_X12_help b_X12_help 26 [(0, rf G.1 l0)] [] M 0 0 := by
  unfold f_X12_help_26 at h
  refine wt_aload_n (pc := 26) 0 dX12_help_26 rfl ?_
  refine wt_iconst (pc := 27) (v := 2) dX12_help_27 (by decide) ?_
  refine wt_cVI (pc := 28) (J' := j_X12_refuse) (As := [.int 2]) (st := []) (B' := b_X12_refuse) (u' := 0) (w' := 0) dX12_help_28 ml_X12_331 mv_X12_refuse (fun v9 M9 e9 => c_X12_refuse e9) rfl (by decide) rfl rfl (by decide) (by decide) (by decide) rfl h (fun v28 M28 h => ?_)
  cases h
  exact he 31 _ _ _ dX12_help_31 (by decide) (by decide)
set_option maxHeartbeats 4000000 in
set_option maxRecDepth 100000 in
theorem t_X12_help_49 {G : GG} {X : CX} {ans : Int32 × Mm} (he : EndI G X j_X12_help b_X12_help ans) {M : Mm} {l0 : Option Nat} (h : f_X12_help_49 M l0 = some ans) : Wt G X j_X12_help b_X12_help 49 [(0, rf G.1 l0)] [] M 0 0 := by
  unfold f_X12_help_49 at h
  refine wt_aload_n (pc := 49) 0 dX12_help_49 rfl ?_
  refine wt_iconst (pc := 50) (v := 5) dX12_help_50 (by decide) ?_
  refine wt_cVI (pc := 51) (J' := j_X12_refuse) (As := [.int 5]) (st := []) (B' := b_X12_refuse) (u' := 0) (w' := 0) dX12_help_51 ml_X12_331 mv_X12_refuse (fun v9 M9 e9 => c_X12_refuse e9) rfl (by decide) rfl rfl (by decide) (by decide) (by decide) rfl h (fun v51 M51 h => ?_)
  cases h
  exact he 54 _ _ _ dX12_help_54 (by decide) (by decide)
set_option maxHeartbeats 4000000 in
set_option maxRecDepth 100000 in
theorem t_X12_help_e {G : GG} {X : CX} {ans : Int32 × Mm} (he : EndI G X j_X12_help b_X12_help ans) {M : Mm} {l0 : Option Nat} {l1 : Int32} {l2 : Int32} {l3 : Int32} (h : f_X12_help M l0 l1 l2 l3 = some ans) : Wt G X j_X12_help b_X12_help 0 [(0, rf G.1 l0), (1, .int l1), (2, .int l2), (3, .int l3)] [] M 0 0 := by
  unfold f_X12_help at h
  refine wt_aload_n (pc := 0) 0 dX12_help_0 rfl ?_
  refine wt_iconst (pc := 1) (v := 0) dX12_help_1 (by decide) ?_
  refine wt_putI (pc := 2) dX12_help_2 fl_X12_68 rfl rfl h (fun M2 h => ?_)
  refine wt_aload_n (pc := 5) 0 dX12_help_5 rfl ?_
  refine wt_iconst (pc := 6) (v := 0) dX12_help_6 (by decide) ?_
  refine wt_putI (pc := 7) dX12_help_7 fl_X12_71 rfl rfl h (fun M7 h => ?_)
  refine wt_aload_n (pc := 10) 0 dX12_help_10 rfl ?_
  refine wt_iload_n (pc := 11) 1 dX12_help_11 rfl ?_
  refine wt_cVI (pc := 12) (J' := j_X12_isHouseAt) (As := [.int l1]) (st := []) (B' := b_X12_isHouseAt) (u' := 0) (w' := 0) dX12_help_12 ml_X12_341 mv_X12_isHouseAt (fun v9 M9 e9 => c_X12_isHouseAt e9) rfl (by decide) rfl rfl (by decide) (by decide) (by decide) rfl h (fun v12 M12 h => ?_)
  refine wt_if_eq (pc := 15) (tgt := 26) dX12_help_15 (by decide) (fun q => ?_) (fun q => ?_)
  · have h := ite_t q h
    refine wt_sub (ls' := [(0, rf G.1 l0)]) [0] rfl ?_
    exact t_X12_help_26 he  h
  · have h := ite_f q h
    refine wt_aload_n (pc := 18) 0 dX12_help_18 rfl ?_
    refine wt_iload_n (pc := 19) 2 dX12_help_19 rfl ?_
    refine wt_cVI (pc := 20) (J' := j_X12_isHouseAt) (As := [.int l2]) (st := []) (B' := b_X12_isHouseAt) (u' := 0) (w' := 0) dX12_help_20 ml_X12_341 mv_X12_isHouseAt (fun v9 M9 e9 => c_X12_isHouseAt e9) rfl (by decide) rfl rfl (by decide) (by decide) (by decide) rfl h (fun v20 M20 h => ?_)
    refine wt_if_ne (pc := 23) (tgt := 32) dX12_help_23 (by decide) (fun q => ?_) (fun q => ?_)
    · have h := ite_f q h
      refine wt_iload_n (pc := 32) 1 dX12_help_32 rfl ?_
      refine wt_iload_n (pc := 33) 2 dX12_help_33 rfl ?_
      refine wt_icmp_eq (pc := 34) (tgt := 49) dX12_help_34 (by decide) (fun q => ?_) (fun q => ?_)
      · have h := ite_t q h
        refine wt_sub (ls' := [(0, rf G.1 l0)]) [0] rfl ?_
        exact t_X12_help_49 he  h
      · have h := ite_f q h
        refine wt_iload_n (pc := 37) 3 dX12_help_37 rfl ?_
        refine wt_i2l (pc := 38) dX12_help_38 ?_
        refine wt_lconst (pc := 39) (v := 1) dX12_help_39 (by decide) ?_
        refine wt_ldc2 (pc := 40) dX12_help_40 kc_X12_404 ?_
        refine wt_cSI (pc := 43) (J' := j_X12_isIn) (As := [.long (Int32.toInt64 l3), .long 1, .long 99]) (st := []) (B' := b_X12_isIn) (u' := 0) (w' := 0) dX12_help_43 ml_X12_103 ms_X12_isIn (fun v9 M9 e9 => c_X12_isIn e9) rfl (by decide) rfl rfl (by decide) (by decide) (by decide) rfl h (fun v43 M43 h => ?_)
        refine wt_if_ne (pc := 46) (tgt := 55) dX12_help_46 (by decide) (fun q => ?_) (fun q => ?_)
        · have h := ite_f q h
          refine wt_bipush (pc := 55) (v := 69) dX12_help_55 (by decide) ?_
          refine wt_bipush (pc := 57) (v := 8) dX12_help_57 (by decide) ?_
          refine wt_iload_n (pc := 59) 1 dX12_help_59 rfl ?_
          refine wt_imul (pc := 60) dX12_help_60 ?_
          refine wt_iadd (pc := 61) dX12_help_61 ?_
          refine wt_iload_n (pc := 62) 2 dX12_help_62 rfl ?_
          refine wt_iadd (pc := 63) dX12_help_63 ?_
          refine wt_nmI h (fun x64 h => ?_)
          refine wt_istore (pc := 64) (i := 4) (ls' := [(4, .int x64), (0, rf G.1 l0), (1, .int l1), (2, .int l2), (3, .int l3)]) dX12_help_64 (by decide) rfl ?_
          refine wt_aload_n (pc := 66) 1 dX12_help_66 rfl ?_
          refine wt_getR (pc := 67) dX12_help_67 fl_X12_35 (fun _ _ _ => rfl) h (fun v67 h => ?_)
          refine wt_iload (pc := 70) 0 dX12_help_70 rfl ?_
          refine wt_iaload (pc := 72) (kd := 21) dX12_help_72 rfl rfl h (fun v72 h => ?_)
          refine wt_iload_n (pc := 73) 4 dX12_help_73 rfl ?_
          refine wt_iadd (pc := 74) dX12_help_74 ?_
          refine wt_sipush (pc := 75) (v := 9999) dX12_help_75 (by decide) ?_
          refine wt_icmp_le (pc := 78) (tgt := 88) dX12_help_78 (by decide) (fun q => ?_) (fun q => ?_)
          · have h := ite_t q h
            refine wt_aload_n (pc := 88) 1 dX12_help_88 rfl ?_
            refine wt_getR (pc := 89) dX12_help_89 fl_X12_35 (fun _ _ _ => rfl) h (fun v89 h => ?_)
            refine wt_iload (pc := 92) 0 dX12_help_92 rfl ?_
            refine wt_dup2 (pc := 94) dX12_help_94 rfl (rf_cat _ _) ?_
            refine wt_iaload (pc := 95) (kd := 21) dX12_help_95 rfl rfl h (fun v95 h => ?_)
            refine wt_iload_n (pc := 96) 4 dX12_help_96 rfl ?_
            refine wt_iadd (pc := 97) dX12_help_97 ?_
            refine wt_iastore (pc := 98) (kd := 21) dX12_help_98 rfl rfl h (fun M98 h => ?_)
            refine wt_aload_n (pc := 99) 1 dX12_help_99 rfl ?_
            refine wt_getR (pc := 100) dX12_help_100 fl_X12_35 (fun _ _ _ => rfl) h (fun v100 h => ?_)
            refine wt_iload (pc := 103) 0 dX12_help_103 rfl ?_
            refine wt_iaload (pc := 105) (kd := 21) dX12_help_105 rfl rfl h (fun v105 h => ?_)
            cases h
            exact he 106 _ _ _ dX12_help_106 (by decide) (by decide)
          · have h := ite_f q h
            refine wt_aload_n (pc := 81) 1 dX12_help_81 rfl ?_
            refine wt_bipush (pc := 82) (v := 7) dX12_help_82 (by decide) ?_
            refine wt_cVI (pc := 84) (J' := j_X12_refuse) (As := [.int 7]) (st := []) (B' := b_X12_refuse) (u' := 0) (w' := 0) dX12_help_84 ml_X12_331 mv_X12_refuse (fun v9 M9 e9 => c_X12_refuse e9) rfl (by decide) rfl rfl (by decide) (by decide) (by decide) rfl h (fun v84 M84 h => ?_)
            cases h
            exact he 87 _ _ _ dX12_help_87 (by decide) (by decide)
        · have h := ite_t q h
          refine wt_sub (ls' := [(0, rf G.1 l0)]) [0] rfl ?_
          exact t_X12_help_49 he  h
    · have h := ite_t q h
      refine wt_sub (ls' := [(0, rf G.1 l0)]) [0] rfl ?_
      exact t_X12_help_26 he  h
set_option maxHeartbeats 4000000 in
set_option maxRecDepth 100000 in
theorem c_X12_help {G : GG} {M : Mm} {l0 : Option Nat} {l1 : Int32} {l2 : Int32} {l3 : Int32} {r : Int32 × Mm} (h : f_X12_help M l0 l1 l2 l3 = some r) (l : Launch) : Ct l G j_X12_help b_X12_help [rf G.1 l0, .int l1, .int l2, .int l3] M (some (.int r.1)) r.2 := cf_I (by decide +kernel) (by simp [lg_sl, rf_cat, cat_i, cat_l, j_X12_help]) rfl (by simp [lv_args, rf_cat, cat_i, cat_l]) (fun X he => t_X12_help_e he h)
def f_X12_falls (M : Mm) (l0 : Option Nat) (l1 : Int32) : Option (Int32 × Mm) := pfI M l0 12 1 0 fun M2 => pfI M2 l0 12 0 0 fun M7 => bd (f_X12_isIn M7 (Int32.toInt64 l1) 0 99) fun v16 M16 => if v16 = 0 then (ck M16 l0 12 <| bd (f_X12_refuse M16 l0 5) fun v32 M32 => some (v32, M32)) else (ck M16 l0 12 <| bd (f_X12_fallSet M16 l0 l1) fun v24 M24 => some (v24, M24))
set_option maxHeartbeats 4000000 in
set_option maxRecDepth 100000 in
theorem t_X12_falls_e {G : GG} {X : CX} {ans : Int32 × Mm} (he : EndI G X j_X12_falls b_X12_falls ans) {M : Mm} {l0 : Option Nat} {l1 : Int32} (h : f_X12_falls M l0 l1 = some ans) : Wt G X j_X12_falls b_X12_falls 0 [(0, rf G.1 l0), (1, .int l1)] [] M 0 0 := by
  unfold f_X12_falls at h
  refine wt_aload_n (pc := 0) 0 dX12_falls_0 rfl ?_
  refine wt_iconst (pc := 1) (v := 0) dX12_falls_1 (by decide) ?_
  refine wt_putI (pc := 2) dX12_falls_2 fl_X12_68 rfl rfl h (fun M2 h => ?_)
  refine wt_aload_n (pc := 5) 0 dX12_falls_5 rfl ?_
  refine wt_iconst (pc := 6) (v := 0) dX12_falls_6 (by decide) ?_
  refine wt_putI (pc := 7) dX12_falls_7 fl_X12_71 rfl rfl h (fun M7 h => ?_)
  refine wt_iload_n (pc := 10) 1 dX12_falls_10 rfl ?_
  refine wt_i2l (pc := 11) dX12_falls_11 ?_
  refine wt_lconst (pc := 12) (v := 0) dX12_falls_12 (by decide) ?_
  refine wt_ldc2 (pc := 13) dX12_falls_13 kc_X12_404 ?_
  refine wt_cSI (pc := 16) (J' := j_X12_isIn) (As := [.long (Int32.toInt64 l1), .long 0, .long 99]) (st := []) (B' := b_X12_isIn) (u' := 0) (w' := 0) dX12_falls_16 ml_X12_103 ms_X12_isIn (fun v9 M9 e9 => c_X12_isIn e9) rfl (by decide) rfl rfl (by decide) (by decide) (by decide) rfl h (fun v16 M16 h => ?_)
  refine wt_if_eq (pc := 19) (tgt := 30) dX12_falls_19 (by decide) (fun q => ?_) (fun q => ?_)
  · have h := ite_t q h
    refine wt_aload_n (pc := 30) 0 dX12_falls_30 rfl ?_
    refine wt_iconst (pc := 31) (v := 5) dX12_falls_31 (by decide) ?_
    refine wt_cVI (pc := 32) (J' := j_X12_refuse) (As := [.int 5]) (st := []) (B' := b_X12_refuse) (u' := 0) (w' := 0) dX12_falls_32 ml_X12_331 mv_X12_refuse (fun v9 M9 e9 => c_X12_refuse e9) rfl (by decide) rfl rfl (by decide) (by decide) (by decide) rfl h (fun v32 M32 h => ?_)
    cases h
    exact he 35 _ _ _ dX12_falls_35 (by decide) (by decide)
  · have h := ite_f q h
    refine wt_aload_n (pc := 22) 0 dX12_falls_22 rfl ?_
    refine wt_iload_n (pc := 23) 1 dX12_falls_23 rfl ?_
    refine wt_cVI (pc := 24) (J' := j_X12_fallSet) (As := [.int l1]) (st := []) (B' := b_X12_fallSet) (u' := 0) (w' := 0) dX12_falls_24 ml_X12_398 mv_X12_fallSet (fun v9 M9 e9 => c_X12_fallSet e9) rfl (by decide) rfl rfl (by decide) (by decide) (by decide) rfl h (fun v24 M24 h => ?_)
    refine wt_goto (pc := 27) (tgt := 35) dX12_falls_27 (by decide) ?_
    cases h
    exact he 35 _ _ _ dX12_falls_35 (by decide) (by decide)
set_option maxHeartbeats 4000000 in
set_option maxRecDepth 100000 in
theorem c_X12_falls {G : GG} {M : Mm} {l0 : Option Nat} {l1 : Int32} {r : Int32 × Mm} (h : f_X12_falls M l0 l1 = some r) (l : Launch) : Ct l G j_X12_falls b_X12_falls [rf G.1 l0, .int l1] M (some (.int r.1)) r.2 := cf_I (by decide +kernel) (by simp [lg_sl, rf_cat, cat_i, cat_l, j_X12_falls]) rfl (by simp [lv_args, rf_cat, cat_i, cat_l]) (fun X he => t_X12_falls_e he h)
def f_X12_riskOf_50 (k4 : Mm → Option Nat → Int32 → Int32 → Int32 → Option (Int32 × Mm)) (M : Mm) (l0 : Option Nat) (l1 : Int32) (l3 : Int32) (s0 : Int32) (s1 : Int32) : Option (Int32 × Mm) := nmI (s0 + s1) fun x51 => k4 M l0 l1 x51 (l3 + 1)
def f_X12_riskOf_4 : Nat → Mm → Option Nat → Int32 → Int32 → Int32 → Option (Int32 × Mm)
  | 0, _, _, _, _, _ => none
  | n + 1, M, l0, l1, l2, l3 => gfR M l0 12 20 fun v6 => alI M v6 21 2 fun v10 => if v10 ≤ l3 then (some (l2, M)) else (gfR M l0 12 20 fun v17 => alI M v17 21 (161 + l3) fun v25 => ck M l0 12 <| bd (f_X12_fallSet M l0 v25) fun v26 M26 => bd (f_X12_has M26 v26 l1) fun v30 M30 => if v30 = 0 then (f_X12_riskOf_50 (f_X12_riskOf_4 n) M30 l0 l1 l3 l2 0) else (gfR M30 l0 12 20 fun v37 => alI M30 v37 21 (167 + l3) fun v45 => f_X12_riskOf_50 (f_X12_riskOf_4 n) M30 l0 l1 l3 l2 v45))
def f_X12_riskOf (M : Mm) (l0 : Option Nat) (l1 : Int32) : Option (Int32 × Mm) := f_X12_riskOf_4  fu M l0 l1 0 0
set_option maxHeartbeats 4000000 in
set_option maxRecDepth 100000 in
theorem t_X12_riskOf_50 {G : GG} {X : CX} {ans : Int32 × Mm} (he : EndI G X j_X12_riskOf b_X12_riskOf ans) {k4 : Mm → Option Nat → Int32 → Int32 → Int32 → Option (Int32 × Mm)} (hk4 : ∀ (M : Mm) (a0 : Option Nat) (a1 : Int32) (a2 : Int32) (a3 : Int32), k4 M a0 a1 a2 a3 = some ans → Wt G X j_X12_riskOf b_X12_riskOf 4 [(0, rf G.1 a0), (1, .int a1), (2, .int a2), (3, .int a3)] [] M 0 0) {M : Mm} {l0 : Option Nat} {l1 : Int32} {l3 : Int32} {s0 : Int32} {s1 : Int32} (h : f_X12_riskOf_50 k4 M l0 l1 l3 s0 s1 = some ans) : Wt G X j_X12_riskOf b_X12_riskOf 50 [(0, rf G.1 l0), (1, .int l1), (3, .int l3)] [.int s1, .int s0] M 0 0 := by
  unfold f_X12_riskOf_50 at h
  refine wt_iadd (pc := 50) dX12_riskOf_50 ?_
  refine wt_nmI h (fun x51 h => ?_)
  refine wt_istore_n (pc := 51) (i := 2) (ls' := [(2, .int x51), (0, rf G.1 l0), (1, .int l1), (3, .int l3)]) rfl dX12_riskOf_51 (by decide) rfl ?_
  refine wt_iinc (pc := 52) (d := 1) (ls' := [(3, .int (l3 + 1)), (2, .int x51), (0, rf G.1 l0), (1, .int l1)]) 3 dX12_riskOf_52 rfl (by decide) (by decide) rfl ?_
  refine wt_goto (pc := 55) (tgt := 4) dX12_riskOf_55 (by decide) ?_
  refine wt_sub (ls' := [(0, rf G.1 l0), (1, .int l1), (2, .int x51), (3, .int (l3 + 1))]) [2, 3, 1, 0] rfl ?_
  exact hk4 _ _ _ _ _ h
set_option maxHeartbeats 4000000 in
set_option maxRecDepth 100000 in
theorem t_X12_riskOf_4 {G : GG} {X : CX} {ans : Int32 × Mm} (he : EndI G X j_X12_riskOf b_X12_riskOf ans) : ∀ (n : Nat) {M : Mm} {l0 : Option Nat} {l1 : Int32} {l2 : Int32} {l3 : Int32}, f_X12_riskOf_4 n M l0 l1 l2 l3 = some ans → Wt G X j_X12_riskOf b_X12_riskOf 4 [(0, rf G.1 l0), (1, .int l1), (2, .int l2), (3, .int l3)] [] M 0 0 := by
  intro n
  induction n with
  | zero =>
    intro M l0 l1 l2 l3 h
    rw [f_X12_riskOf_4] at h
    cases h
  | succ n ih =>
    intro M l0 l1 l2 l3 h
    rw [f_X12_riskOf_4] at h
    refine wt_iload_n (pc := 4) 3 dX12_riskOf_4 rfl ?_
    refine wt_aload_n (pc := 5) 0 dX12_riskOf_5 rfl ?_
    refine wt_getR (pc := 6) dX12_riskOf_6 fl_X12_35 (fun _ _ _ => rfl) h (fun v6 h => ?_)
    refine wt_iconst (pc := 9) (v := 2) dX12_riskOf_9 (by decide) ?_
    refine wt_iaload (pc := 10) (kd := 21) dX12_riskOf_10 rfl rfl h (fun v10 h => ?_)
    refine wt_icmp_ge (pc := 11) (tgt := 58) dX12_riskOf_11 (by decide) (fun q => ?_) (fun q => ?_)
    · have h := ite_t q h
      refine wt_iload_n (pc := 58) 2 dX12_riskOf_58 rfl ?_
      cases h
      exact he 59 _ _ _ dX12_riskOf_59 (by decide) (by decide)
    · have h := ite_f q h
      refine wt_iload_n (pc := 14) 2 dX12_riskOf_14 rfl ?_
      refine wt_aload_n (pc := 15) 0 dX12_riskOf_15 rfl ?_
      refine wt_aload_n (pc := 16) 0 dX12_riskOf_16 rfl ?_
      refine wt_getR (pc := 17) dX12_riskOf_17 fl_X12_35 (fun _ _ _ => rfl) h (fun v17 h => ?_)
      refine wt_sipush (pc := 20) (v := 161) dX12_riskOf_20 (by decide) ?_
      refine wt_iload_n (pc := 23) 3 dX12_riskOf_23 rfl ?_
      refine wt_iadd (pc := 24) dX12_riskOf_24 ?_
      refine wt_iaload (pc := 25) (kd := 21) dX12_riskOf_25 rfl rfl h (fun v25 h => ?_)
      refine wt_cVI (pc := 26) (J' := j_X12_fallSet) (As := [.int v25]) (st := [.int l2]) (B' := b_X12_fallSet) (u' := 0) (w' := 0) dX12_riskOf_26 ml_X12_398 mv_X12_fallSet (fun v9 M9 e9 => c_X12_fallSet e9) rfl (by decide) rfl rfl (by decide) (by decide) (by simp [rf_cat, cat_i, cat_l, cat_r]) rfl h (fun v26 M26 h => ?_)
      refine wt_iload_n (pc := 29) 1 dX12_riskOf_29 rfl ?_
      refine wt_cSI (pc := 30) (J' := j_X12_has) (As := [.int v26, .int l1]) (st := [.int l2]) (B' := b_X12_has) (u' := 0) (w' := 0) dX12_riskOf_30 ml_X12_107 ms_X12_has (fun v9 M9 e9 => c_X12_has e9) rfl (by decide) rfl rfl (by decide) (by decide) (by simp [rf_cat, cat_i, cat_l, cat_r]) rfl h (fun v30 M30 h => ?_)
      refine wt_if_eq (pc := 33) (tgt := 49) dX12_riskOf_33 (by decide) (fun q => ?_) (fun q => ?_)
      · have h := ite_t q h
        refine wt_iconst (pc := 49) (v := 0) dX12_riskOf_49 (by decide) ?_
        refine wt_sub (ls' := [(0, rf G.1 l0), (1, .int l1), (3, .int l3)]) [0, 1, 3] rfl ?_
        exact t_X12_riskOf_50 he (fun _ _ _ _ _ h => ih h) h
      · have h := ite_f q h
        refine wt_aload_n (pc := 36) 0 dX12_riskOf_36 rfl ?_
        refine wt_getR (pc := 37) dX12_riskOf_37 fl_X12_35 (fun _ _ _ => rfl) h (fun v37 h => ?_)
        refine wt_sipush (pc := 40) (v := 167) dX12_riskOf_40 (by decide) ?_
        refine wt_iload_n (pc := 43) 3 dX12_riskOf_43 rfl ?_
        refine wt_iadd (pc := 44) dX12_riskOf_44 ?_
        refine wt_iaload (pc := 45) (kd := 21) dX12_riskOf_45 rfl rfl h (fun v45 h => ?_)
        refine wt_goto (pc := 46) (tgt := 50) dX12_riskOf_46 (by decide) ?_
        refine wt_sub (ls' := [(0, rf G.1 l0), (1, .int l1), (3, .int l3)]) [0, 1, 3] rfl ?_
        exact t_X12_riskOf_50 he (fun _ _ _ _ _ h => ih h) h
set_option maxHeartbeats 4000000 in
set_option maxRecDepth 100000 in
theorem t_X12_riskOf_e {G : GG} {X : CX} {ans : Int32 × Mm} (he : EndI G X j_X12_riskOf b_X12_riskOf ans) {M : Mm} {l0 : Option Nat} {l1 : Int32} (h : f_X12_riskOf M l0 l1 = some ans) : Wt G X j_X12_riskOf b_X12_riskOf 0 [(0, rf G.1 l0), (1, .int l1)] [] M 0 0 := by
  unfold f_X12_riskOf at h
  refine wt_iconst (pc := 0) (v := 0) dX12_riskOf_0 (by decide) ?_
  refine wt_istore_n (pc := 1) (i := 2) (ls' := [(2, .int 0), (0, rf G.1 l0), (1, .int l1)]) rfl dX12_riskOf_1 (by decide) rfl ?_
  refine wt_iconst (pc := 2) (v := 0) dX12_riskOf_2 (by decide) ?_
  refine wt_istore_n (pc := 3) (i := 3) (ls' := [(3, .int 0), (2, .int 0), (0, rf G.1 l0), (1, .int l1)]) rfl dX12_riskOf_3 (by decide) rfl ?_
  refine wt_sub (ls' := [(0, rf G.1 l0), (1, .int l1), (2, .int 0), (3, .int 0)]) [2, 3, 1, 0] rfl ?_
  exact t_X12_riskOf_4 he  fu h
set_option maxHeartbeats 4000000 in
set_option maxRecDepth 100000 in
theorem c_X12_riskOf {G : GG} {M : Mm} {l0 : Option Nat} {l1 : Int32} {r : Int32 × Mm} (h : f_X12_riskOf M l0 l1 = some r) (l : Launch) : Ct l G j_X12_riskOf b_X12_riskOf [rf G.1 l0, .int l1] M (some (.int r.1)) r.2 := cf_I (by decide +kernel) (by simp [lg_sl, rf_cat, cat_i, cat_l, j_X12_riskOf]) rfl (by simp [lv_args, rf_cat, cat_i, cat_l]) (fun X he => t_X12_riskOf_e he h)
def g_X12_risk (M : Mm) (l0 : Option Nat) (l1 : Int32) : Option (Int32 × Mm) := pfI M l0 12 1 0 fun M2 => pfI M2 l0 12 0 0 fun M7 => ck M7 l0 12 <| bd (f_X12_isHouseAt M7 l0 l1) fun v12 M12 => if v12 = 0 then (ck M12 l0 12 <| bd (f_X12_no M12 l0 2) fun v20 M20 => some (v20, M20)) else (gfR M12 l0 12 20 fun v25 => alI M12 v25 21 2 fun v29 => if v29 = 0 then (ck M12 l0 12 <| bd (f_X12_no M12 l0 8) fun v36 M36 => some (v36, M36)) else (ck M12 l0 12 <| bd (f_X12_riskOf M12 l0 l1) fun v45 M45 => ck M45 l0 12 <| bd (f_X12_allChances M45 l0) fun v50 M50 => ck M50 l0 12 <| bd (f_X12_fraction M50 l0 (Int32.toInt64 v45) (Int32.toInt64 v50)) fun v54 M54 => some (v54, M54)))
def f_X12_risk (M : Mm) (l0 : Option Nat) (l1 : Int32) : Option (Int32 × Mm) := zc (g_X12_risk M l0 l1)
set_option maxHeartbeats 4000000 in
set_option maxRecDepth 100000 in
theorem t_X12_risk_e {G : GG} {X : CX} {ans : Int32 × Mm} (he : EndI G X j_X12_risk b_X12_risk ans) {M : Mm} {l0 : Option Nat} {l1 : Int32} (h : g_X12_risk M l0 l1 = some ans) : Wt G X j_X12_risk b_X12_risk 0 [(0, rf G.1 l0), (1, .int l1)] [] M 0 0 := by
  unfold g_X12_risk at h
  refine wt_aload_n (pc := 0) 0 dX12_risk_0 rfl ?_
  refine wt_iconst (pc := 1) (v := 0) dX12_risk_1 (by decide) ?_
  refine wt_putI (pc := 2) dX12_risk_2 fl_X12_68 rfl rfl h (fun M2 h => ?_)
  refine wt_aload_n (pc := 5) 0 dX12_risk_5 rfl ?_
  refine wt_iconst (pc := 6) (v := 0) dX12_risk_6 (by decide) ?_
  refine wt_putI (pc := 7) dX12_risk_7 fl_X12_71 rfl rfl h (fun M7 h => ?_)
  refine wt_aload_n (pc := 10) 0 dX12_risk_10 rfl ?_
  refine wt_iload_n (pc := 11) 1 dX12_risk_11 rfl ?_
  refine wt_cVI (pc := 12) (J' := j_X12_isHouseAt) (As := [.int l1]) (st := []) (B' := b_X12_isHouseAt) (u' := 0) (w' := 0) dX12_risk_12 ml_X12_341 mv_X12_isHouseAt (fun v9 M9 e9 => c_X12_isHouseAt e9) rfl (by decide) rfl rfl (by decide) (by decide) (by decide) rfl h (fun v12 M12 h => ?_)
  refine wt_if_ne (pc := 15) (tgt := 24) dX12_risk_15 (by decide) (fun q => ?_) (fun q => ?_)
  · have h := ite_f q h
    refine wt_aload_n (pc := 24) 0 dX12_risk_24 rfl ?_
    refine wt_getR (pc := 25) dX12_risk_25 fl_X12_35 (fun _ _ _ => rfl) h (fun v25 h => ?_)
    refine wt_iconst (pc := 28) (v := 2) dX12_risk_28 (by decide) ?_
    refine wt_iaload (pc := 29) (kd := 21) dX12_risk_29 rfl rfl h (fun v29 h => ?_)
    refine wt_if_ne (pc := 30) (tgt := 42) dX12_risk_30 (by decide) (fun q => ?_) (fun q => ?_)
    · have h := ite_f q h
      refine wt_aload_n (pc := 42) 0 dX12_risk_42 rfl ?_
      refine wt_aload_n (pc := 43) 0 dX12_risk_43 rfl ?_
      refine wt_iload_n (pc := 44) 1 dX12_risk_44 rfl ?_
      refine wt_cVI (pc := 45) (J' := j_X12_riskOf) (As := [.int l1]) (st := [rf G.1 l0]) (B' := b_X12_riskOf) (u' := 0) (w' := 0) dX12_risk_45 ml_X12_412 mv_X12_riskOf (fun v9 M9 e9 => c_X12_riskOf e9) rfl (by decide) rfl rfl (by decide) (by decide) (by simp [rf_cat, cat_i, cat_l, cat_r]) rfl h (fun v45 M45 h => ?_)
      refine wt_i2l (pc := 48) dX12_risk_48 ?_
      refine wt_aload_n (pc := 49) 0 dX12_risk_49 rfl ?_
      refine wt_cVI (pc := 50) (J' := j_X12_allChances) (As := []) (st := [.long (Int32.toInt64 v45), rf G.1 l0]) (B' := b_X12_allChances) (u' := 0) (w' := 0) dX12_risk_50 ml_X12_338 mv_X12_allChances (fun v9 M9 e9 => c_X12_allChances e9) rfl (by decide) rfl rfl (by decide) (by decide) (by simp [rf_cat, cat_i, cat_l, cat_r]) rfl h (fun v50 M50 h => ?_)
      refine wt_i2l (pc := 53) dX12_risk_53 ?_
      refine wt_cVI (pc := 54) (J' := j_X12_fraction) (As := [.long (Int32.toInt64 v45), .long (Int32.toInt64 v50)]) (st := []) (B' := b_X12_fraction) (u' := 0) (w' := 0) dX12_risk_54 ml_X12_415 mv_X12_fraction (fun v9 M9 e9 => c_X12_fraction e9) rfl (by decide) rfl rfl (by decide) (by decide) (by decide) rfl h (fun v54 M54 h => ?_)
      cases h
      exact he 57 _ _ _ dX12_risk_57 (by decide) (by decide)
    · have h := ite_t q h
      refine wt_aload_n (pc := 33) 0 dX12_risk_33 rfl ?_
      refine wt_bipush (pc := 34) (v := 8) dX12_risk_34 (by decide) ?_
      refine wt_cVI (pc := 36) (J' := j_X12_no) (As := [.int 8]) (st := []) (B' := b_X12_no) (u' := 0) (w' := 0) dX12_risk_36 ml_X12_83 mv_X12_no (fun v9 M9 e9 => c_X12_no e9) rfl (by decide) rfl rfl (by decide) (by decide) (by decide) rfl h (fun v36 M36 h => ?_)
      refine wt_goto (pc := 39) (tgt := 57) dX12_risk_39 (by decide) ?_
      cases h
      exact he 57 _ _ _ dX12_risk_57 (by decide) (by decide)
  · have h := ite_t q h
    refine wt_aload_n (pc := 18) 0 dX12_risk_18 rfl ?_
    refine wt_iconst (pc := 19) (v := 2) dX12_risk_19 (by decide) ?_
    refine wt_cVI (pc := 20) (J' := j_X12_no) (As := [.int 2]) (st := []) (B' := b_X12_no) (u' := 0) (w' := 0) dX12_risk_20 ml_X12_83 mv_X12_no (fun v9 M9 e9 => c_X12_no e9) rfl (by decide) rfl rfl (by decide) (by decide) (by decide) rfl h (fun v20 M20 h => ?_)
    cases h
    exact he 23 _ _ _ dX12_risk_23 (by decide) (by decide)
set_option maxHeartbeats 4000000 in
set_option maxRecDepth 100000 in
theorem c_X12_risk {G : GG} {M : Mm} {l0 : Option Nat} {l1 : Int32} {r : Int32 × Mm} (h : f_X12_risk M l0 l1 = some r) (l : Launch) : Ct l G j_X12_risk b_X12_risk [rf G.1 l0, .int l1] M (some (.int r.1)) r.2 := cf_Z h (by decide +kernel) (by simp [lg_sl, rf_cat, cat_i, cat_l, j_X12_risk]) rfl (by simp [lv_args, rf_cat, cat_i, cat_l]) (fun h X he => t_X12_risk_e he h)
def f_X12_lossOf_4 : Nat → Mm → Option Nat → Int32 → Int32 → Option (Int32 × Mm)
  | 0, _, _, _, _ => none
  | n + 1, M, l0, l1, l2 => gfR M l0 12 20 fun v6 => alI M v6 21 0 fun v10 => if v10 ≤ l2 then (some (l1, M)) else (gfR M l0 12 20 fun v16 => alI M v16 21 (13 + l2) fun v23 => ck M l0 12 <| bd (f_X12_riskOf M l0 l2) fun v26 M26 => nmI (l1 + (v23 * v26)) fun x31 => f_X12_lossOf_4 n M26 l0 x31 (l2 + 1))
def f_X12_lossOf (M : Mm) (l0 : Option Nat) : Option (Int32 × Mm) := f_X12_lossOf_4  fu M l0 0 0
set_option maxHeartbeats 4000000 in
set_option maxRecDepth 100000 in
theorem t_X12_lossOf_4 {G : GG} {X : CX} {ans : Int32 × Mm} (he : EndI G X j_X12_lossOf b_X12_lossOf ans) : ∀ (n : Nat) {M : Mm} {l0 : Option Nat} {l1 : Int32} {l2 : Int32}, f_X12_lossOf_4 n M l0 l1 l2 = some ans → Wt G X j_X12_lossOf b_X12_lossOf 4 [(0, rf G.1 l0), (1, .int l1), (2, .int l2)] [] M 0 0 := by
  intro n
  induction n with
  | zero =>
    intro M l0 l1 l2 h
    rw [f_X12_lossOf_4] at h
    cases h
  | succ n ih =>
    intro M l0 l1 l2 h
    rw [f_X12_lossOf_4] at h
    refine wt_iload_n (pc := 4) 2 dX12_lossOf_4 rfl ?_
    refine wt_aload_n (pc := 5) 0 dX12_lossOf_5 rfl ?_
    refine wt_getR (pc := 6) dX12_lossOf_6 fl_X12_35 (fun _ _ _ => rfl) h (fun v6 h => ?_)
    refine wt_iconst (pc := 9) (v := 0) dX12_lossOf_9 (by decide) ?_
    refine wt_iaload (pc := 10) (kd := 21) dX12_lossOf_10 rfl rfl h (fun v10 h => ?_)
    refine wt_icmp_ge (pc := 11) (tgt := 38) dX12_lossOf_11 (by decide) (fun q => ?_) (fun q => ?_)
    · have h := ite_t q h
      refine wt_iload_n (pc := 38) 1 dX12_lossOf_38 rfl ?_
      cases h
      exact he 39 _ _ _ dX12_lossOf_39 (by decide) (by decide)
    · have h := ite_f q h
      refine wt_iload_n (pc := 14) 1 dX12_lossOf_14 rfl ?_
      refine wt_aload_n (pc := 15) 0 dX12_lossOf_15 rfl ?_
      refine wt_getR (pc := 16) dX12_lossOf_16 fl_X12_35 (fun _ _ _ => rfl) h (fun v16 h => ?_)
      refine wt_bipush (pc := 19) (v := 13) dX12_lossOf_19 (by decide) ?_
      refine wt_iload_n (pc := 21) 2 dX12_lossOf_21 rfl ?_
      refine wt_iadd (pc := 22) dX12_lossOf_22 ?_
      refine wt_iaload (pc := 23) (kd := 21) dX12_lossOf_23 rfl rfl h (fun v23 h => ?_)
      refine wt_aload_n (pc := 24) 0 dX12_lossOf_24 rfl ?_
      refine wt_iload_n (pc := 25) 2 dX12_lossOf_25 rfl ?_
      refine wt_cVI (pc := 26) (J' := j_X12_riskOf) (As := [.int l2]) (st := [.int v23, .int l1]) (B' := b_X12_riskOf) (u' := 0) (w' := 0) dX12_lossOf_26 ml_X12_412 mv_X12_riskOf (fun v9 M9 e9 => c_X12_riskOf e9) rfl (by decide) rfl rfl (by decide) (by decide) (by simp [rf_cat, cat_i, cat_l, cat_r]) rfl h (fun v26 M26 h => ?_)
      refine wt_imul (pc := 29) dX12_lossOf_29 ?_
      refine wt_iadd (pc := 30) dX12_lossOf_30 ?_
      refine wt_nmI h (fun x31 h => ?_)
      refine wt_istore_n (pc := 31) (i := 1) (ls' := [(1, .int x31), (0, rf G.1 l0), (2, .int l2)]) rfl dX12_lossOf_31 (by decide) (by simp [rf_cat, cat_i, cat_l, cat_r]) ?_
      refine wt_iinc (pc := 32) (d := 1) (ls' := [(2, .int (l2 + 1)), (1, .int x31), (0, rf G.1 l0)]) 2 dX12_lossOf_32 rfl (by decide) (by decide) rfl ?_
      refine wt_goto (pc := 35) (tgt := 4) dX12_lossOf_35 (by decide) ?_
      refine wt_sub (ls' := [(0, rf G.1 l0), (1, .int x31), (2, .int (l2 + 1))]) [2, 1, 0] rfl ?_
      exact ih h
set_option maxHeartbeats 4000000 in
set_option maxRecDepth 100000 in
theorem t_X12_lossOf_e {G : GG} {X : CX} {ans : Int32 × Mm} (he : EndI G X j_X12_lossOf b_X12_lossOf ans) {M : Mm} {l0 : Option Nat} (h : f_X12_lossOf M l0 = some ans) : Wt G X j_X12_lossOf b_X12_lossOf 0 [(0, rf G.1 l0)] [] M 0 0 := by
  unfold f_X12_lossOf at h
  refine wt_iconst (pc := 0) (v := 0) dX12_lossOf_0 (by decide) ?_
  refine wt_istore_n (pc := 1) (i := 1) (ls' := [(1, .int 0), (0, rf G.1 l0)]) rfl dX12_lossOf_1 (by decide) (by simp [rf_cat, cat_i, cat_l, cat_r]) ?_
  refine wt_iconst (pc := 2) (v := 0) dX12_lossOf_2 (by decide) ?_
  refine wt_istore_n (pc := 3) (i := 2) (ls' := [(2, .int 0), (1, .int 0), (0, rf G.1 l0)]) rfl dX12_lossOf_3 (by decide) rfl ?_
  refine wt_sub (ls' := [(0, rf G.1 l0), (1, .int 0), (2, .int 0)]) [2, 1, 0] rfl ?_
  exact t_X12_lossOf_4 he  fu h
set_option maxHeartbeats 4000000 in
set_option maxRecDepth 100000 in
theorem c_X12_lossOf {G : GG} {M : Mm} {l0 : Option Nat} {r : Int32 × Mm} (h : f_X12_lossOf M l0 = some r) (l : Launch) : Ct l G j_X12_lossOf b_X12_lossOf [rf G.1 l0] M (some (.int r.1)) r.2 := cf_I (by decide +kernel) (by simp [lg_sl, rf_cat, cat_i, cat_l, j_X12_lossOf]) rfl (by simp [lv_args, rf_cat, cat_i, cat_l]) (fun X he => t_X12_lossOf_e he h)
def g_X12_loss (M : Mm) (l0 : Option Nat) : Option (Int32 × Mm) := pfI M l0 12 1 0 fun M2 => pfI M2 l0 12 0 0 fun M7 => gfR M7 l0 12 20 fun v11 => alI M7 v11 21 2 fun v15 => if v15 = 0 then (ck M7 l0 12 <| bd (f_X12_no M7 l0 8) fun v22 M22 => some (v22, M22)) else (ck M7 l0 12 <| bd (f_X12_lossOf M7 l0) fun v30 M30 => ck M30 l0 12 <| bd (f_X12_allChances M30 l0) fun v35 M35 => ck M35 l0 12 <| bd (f_X12_fraction M35 l0 (Int32.toInt64 v30) (Int32.toInt64 v35)) fun v39 M39 => some (v39, M39))
def f_X12_loss (M : Mm) (l0 : Option Nat) : Option (Int32 × Mm) := zc (g_X12_loss M l0)
set_option maxHeartbeats 4000000 in
set_option maxRecDepth 100000 in
theorem t_X12_loss_e {G : GG} {X : CX} {ans : Int32 × Mm} (he : EndI G X j_X12_loss b_X12_loss ans) {M : Mm} {l0 : Option Nat} (h : g_X12_loss M l0 = some ans) : Wt G X j_X12_loss b_X12_loss 0 [(0, rf G.1 l0)] [] M 0 0 := by
  unfold g_X12_loss at h
  refine wt_aload_n (pc := 0) 0 dX12_loss_0 rfl ?_
  refine wt_iconst (pc := 1) (v := 0) dX12_loss_1 (by decide) ?_
  refine wt_putI (pc := 2) dX12_loss_2 fl_X12_68 rfl rfl h (fun M2 h => ?_)
  refine wt_aload_n (pc := 5) 0 dX12_loss_5 rfl ?_
  refine wt_iconst (pc := 6) (v := 0) dX12_loss_6 (by decide) ?_
  refine wt_putI (pc := 7) dX12_loss_7 fl_X12_71 rfl rfl h (fun M7 h => ?_)
  refine wt_aload_n (pc := 10) 0 dX12_loss_10 rfl ?_
  refine wt_getR (pc := 11) dX12_loss_11 fl_X12_35 (fun _ _ _ => rfl) h (fun v11 h => ?_)
  refine wt_iconst (pc := 14) (v := 2) dX12_loss_14 (by decide) ?_
  refine wt_iaload (pc := 15) (kd := 21) dX12_loss_15 rfl rfl h (fun v15 h => ?_)
  refine wt_if_ne (pc := 16) (tgt := 28) dX12_loss_16 (by decide) (fun q => ?_) (fun q => ?_)
  · have h := ite_f q h
    refine wt_aload_n (pc := 28) 0 dX12_loss_28 rfl ?_
    refine wt_aload_n (pc := 29) 0 dX12_loss_29 rfl ?_
    refine wt_cVI (pc := 30) (J' := j_X12_lossOf) (As := []) (st := [rf G.1 l0]) (B' := b_X12_lossOf) (u' := 0) (w' := 0) dX12_loss_30 ml_X12_419 mv_X12_lossOf (fun v9 M9 e9 => c_X12_lossOf e9) rfl (by decide) rfl rfl (by decide) (by decide) (by simp [rf_cat, cat_i, cat_l, cat_r]) rfl h (fun v30 M30 h => ?_)
    refine wt_i2l (pc := 33) dX12_loss_33 ?_
    refine wt_aload_n (pc := 34) 0 dX12_loss_34 rfl ?_
    refine wt_cVI (pc := 35) (J' := j_X12_allChances) (As := []) (st := [.long (Int32.toInt64 v30), rf G.1 l0]) (B' := b_X12_allChances) (u' := 0) (w' := 0) dX12_loss_35 ml_X12_338 mv_X12_allChances (fun v9 M9 e9 => c_X12_allChances e9) rfl (by decide) rfl rfl (by decide) (by decide) (by simp [rf_cat, cat_i, cat_l, cat_r]) rfl h (fun v35 M35 h => ?_)
    refine wt_i2l (pc := 38) dX12_loss_38 ?_
    refine wt_cVI (pc := 39) (J' := j_X12_fraction) (As := [.long (Int32.toInt64 v30), .long (Int32.toInt64 v35)]) (st := []) (B' := b_X12_fraction) (u' := 0) (w' := 0) dX12_loss_39 ml_X12_415 mv_X12_fraction (fun v9 M9 e9 => c_X12_fraction e9) rfl (by decide) rfl rfl (by decide) (by decide) (by decide) rfl h (fun v39 M39 h => ?_)
    cases h
    exact he 42 _ _ _ dX12_loss_42 (by decide) (by decide)
  · have h := ite_t q h
    refine wt_aload_n (pc := 19) 0 dX12_loss_19 rfl ?_
    refine wt_bipush (pc := 20) (v := 8) dX12_loss_20 (by decide) ?_
    refine wt_cVI (pc := 22) (J' := j_X12_no) (As := [.int 8]) (st := []) (B' := b_X12_no) (u' := 0) (w' := 0) dX12_loss_22 ml_X12_83 mv_X12_no (fun v9 M9 e9 => c_X12_no e9) rfl (by decide) rfl rfl (by decide) (by decide) (by decide) rfl h (fun v22 M22 h => ?_)
    refine wt_goto (pc := 25) (tgt := 42) dX12_loss_25 (by decide) ?_
    cases h
    exact he 42 _ _ _ dX12_loss_42 (by decide) (by decide)
set_option maxHeartbeats 4000000 in
set_option maxRecDepth 100000 in
theorem c_X12_loss {G : GG} {M : Mm} {l0 : Option Nat} {r : Int32 × Mm} (h : f_X12_loss M l0 = some r) (l : Launch) : Ct l G j_X12_loss b_X12_loss [rf G.1 l0] M (some (.int r.1)) r.2 := cf_Z h (by decide +kernel) (by simp [lg_sl, rf_cat, cat_i, cat_l, j_X12_loss]) rfl (by simp [lv_args, rf_cat, cat_i, cat_l]) (fun h X he => t_X12_loss_e he h)
def f_X12_keeps_2 : Nat → Mm → Option Nat → Int32 → Option (Mm)
  | 0, _, _, _ => none
  | n + 1, M, l0, l1 => if 173 ≤ l1 then (some M) else (gfR M l0 12 21 fun v10 => gfR M l0 12 20 fun v15 => alI M v15 21 l1 fun v19 => asI M v10 21 l1 v19 fun M20 => f_X12_keeps_2 n M20 l0 (l1 + 1))
def f_X12_keeps (M : Mm) (l0 : Option Nat) : Option (Mm) := f_X12_keeps_2  fu M l0 0
set_option maxHeartbeats 4000000 in
set_option maxRecDepth 100000 in
theorem t_X12_keeps_2 {G : GG} {X : CX} {ans : Mm} (he : EndV G X j_X12_keeps b_X12_keeps ans) : ∀ (n : Nat) {M : Mm} {l0 : Option Nat} {l1 : Int32}, f_X12_keeps_2 n M l0 l1 = some ans → Wt G X j_X12_keeps b_X12_keeps 2 [(0, rf G.1 l0), (1, .int l1)] [] M 0 0 := by
  intro n
  induction n with
  | zero =>
    intro M l0 l1 h
    rw [f_X12_keeps_2] at h
    cases h
  | succ n ih =>
    intro M l0 l1 h
    rw [f_X12_keeps_2] at h
    refine wt_iload_n (pc := 2) 1 dX12_keeps_2 rfl ?_
    refine wt_sipush (pc := 3) (v := 173) dX12_keeps_3 (by decide) ?_
    refine wt_icmp_ge (pc := 6) (tgt := 27) dX12_keeps_6 (by decide) (fun q => ?_) (fun q => ?_)
    · have h := ite_t q h
      cases h
      exact he 27 _ _ _ dX12_keeps_27 (by decide) (by decide)
    · have h := ite_f q h
      refine wt_aload_n (pc := 9) 0 dX12_keeps_9 rfl ?_
      refine wt_getR (pc := 10) dX12_keeps_10 fl_X12_38 (fun _ _ _ => rfl) h (fun v10 h => ?_)
      refine wt_iload_n (pc := 13) 1 dX12_keeps_13 rfl ?_
      refine wt_aload_n (pc := 14) 0 dX12_keeps_14 rfl ?_
      refine wt_getR (pc := 15) dX12_keeps_15 fl_X12_35 (fun _ _ _ => rfl) h (fun v15 h => ?_)
      refine wt_iload_n (pc := 18) 1 dX12_keeps_18 rfl ?_
      refine wt_iaload (pc := 19) (kd := 21) dX12_keeps_19 rfl rfl h (fun v19 h => ?_)
      refine wt_iastore (pc := 20) (kd := 21) dX12_keeps_20 rfl rfl h (fun M20 h => ?_)
      refine wt_iinc (pc := 21) (d := 1) (ls' := [(1, .int (l1 + 1)), (0, rf G.1 l0)]) 1 dX12_keeps_21 rfl (by decide) (by decide) (by simp [rf_cat, cat_i, cat_l, cat_r]) ?_
      refine wt_goto (pc := 24) (tgt := 2) dX12_keeps_24 (by decide) ?_
      refine wt_sub (ls' := [(0, rf G.1 l0), (1, .int (l1 + 1))]) [1, 0] rfl ?_
      exact ih h
set_option maxHeartbeats 4000000 in
set_option maxRecDepth 100000 in
theorem t_X12_keeps_e {G : GG} {X : CX} {ans : Mm} (he : EndV G X j_X12_keeps b_X12_keeps ans) {M : Mm} {l0 : Option Nat} (h : f_X12_keeps M l0 = some ans) : Wt G X j_X12_keeps b_X12_keeps 0 [(0, rf G.1 l0)] [] M 0 0 := by
  unfold f_X12_keeps at h
  refine wt_iconst (pc := 0) (v := 0) dX12_keeps_0 (by decide) ?_
  refine wt_istore_n (pc := 1) (i := 1) (ls' := [(1, .int 0), (0, rf G.1 l0)]) rfl dX12_keeps_1 (by decide) (by simp [rf_cat, cat_i, cat_l, cat_r]) ?_
  refine wt_sub (ls' := [(0, rf G.1 l0), (1, .int 0)]) [1, 0] rfl ?_
  exact t_X12_keeps_2 he  fu h
set_option maxHeartbeats 4000000 in
set_option maxRecDepth 100000 in
theorem c_X12_keeps {G : GG} {M : Mm} {l0 : Option Nat} {r : Mm} (h : f_X12_keeps M l0 = some r) (l : Launch) : Ct l G j_X12_keeps b_X12_keeps [rf G.1 l0] M none r := cf_V (by decide +kernel) (by simp [lg_sl, rf_cat, cat_i, cat_l, j_X12_keeps]) rfl (by simp [lv_args, rf_cat, cat_i, cat_l]) (fun X he => t_X12_keeps_e he h)
def f_X12_gives_2 : Nat → Mm → Option Nat → Int32 → Option (Mm)
  | 0, _, _, _ => none
  | n + 1, M, l0, l1 => if 173 ≤ l1 then (some M) else (gfR M l0 12 20 fun v10 => gfR M l0 12 21 fun v15 => alI M v15 21 l1 fun v19 => asI M v10 21 l1 v19 fun M20 => f_X12_gives_2 n M20 l0 (l1 + 1))
def f_X12_gives (M : Mm) (l0 : Option Nat) : Option (Mm) := f_X12_gives_2  fu M l0 0
set_option maxHeartbeats 4000000 in
set_option maxRecDepth 100000 in
theorem t_X12_gives_2 {G : GG} {X : CX} {ans : Mm} (he : EndV G X j_X12_gives b_X12_gives ans) : ∀ (n : Nat) {M : Mm} {l0 : Option Nat} {l1 : Int32}, f_X12_gives_2 n M l0 l1 = some ans → Wt G X j_X12_gives b_X12_gives 2 [(0, rf G.1 l0), (1, .int l1)] [] M 0 0 := by
  intro n
  induction n with
  | zero =>
    intro M l0 l1 h
    rw [f_X12_gives_2] at h
    cases h
  | succ n ih =>
    intro M l0 l1 h
    rw [f_X12_gives_2] at h
    refine wt_iload_n (pc := 2) 1 dX12_gives_2 rfl ?_
    refine wt_sipush (pc := 3) (v := 173) dX12_gives_3 (by decide) ?_
    refine wt_icmp_ge (pc := 6) (tgt := 27) dX12_gives_6 (by decide) (fun q => ?_) (fun q => ?_)
    · have h := ite_t q h
      cases h
      exact he 27 _ _ _ dX12_gives_27 (by decide) (by decide)
    · have h := ite_f q h
      refine wt_aload_n (pc := 9) 0 dX12_gives_9 rfl ?_
      refine wt_getR (pc := 10) dX12_gives_10 fl_X12_35 (fun _ _ _ => rfl) h (fun v10 h => ?_)
      refine wt_iload_n (pc := 13) 1 dX12_gives_13 rfl ?_
      refine wt_aload_n (pc := 14) 0 dX12_gives_14 rfl ?_
      refine wt_getR (pc := 15) dX12_gives_15 fl_X12_38 (fun _ _ _ => rfl) h (fun v15 h => ?_)
      refine wt_iload_n (pc := 18) 1 dX12_gives_18 rfl ?_
      refine wt_iaload (pc := 19) (kd := 21) dX12_gives_19 rfl rfl h (fun v19 h => ?_)
      refine wt_iastore (pc := 20) (kd := 21) dX12_gives_20 rfl rfl h (fun M20 h => ?_)
      refine wt_iinc (pc := 21) (d := 1) (ls' := [(1, .int (l1 + 1)), (0, rf G.1 l0)]) 1 dX12_gives_21 rfl (by decide) (by decide) (by simp [rf_cat, cat_i, cat_l, cat_r]) ?_
      refine wt_goto (pc := 24) (tgt := 2) dX12_gives_24 (by decide) ?_
      refine wt_sub (ls' := [(0, rf G.1 l0), (1, .int (l1 + 1))]) [1, 0] rfl ?_
      exact ih h
set_option maxHeartbeats 4000000 in
set_option maxRecDepth 100000 in
theorem t_X12_gives_e {G : GG} {X : CX} {ans : Mm} (he : EndV G X j_X12_gives b_X12_gives ans) {M : Mm} {l0 : Option Nat} (h : f_X12_gives M l0 = some ans) : Wt G X j_X12_gives b_X12_gives 0 [(0, rf G.1 l0)] [] M 0 0 := by
  unfold f_X12_gives at h
  refine wt_iconst (pc := 0) (v := 0) dX12_gives_0 (by decide) ?_
  refine wt_istore_n (pc := 1) (i := 1) (ls' := [(1, .int 0), (0, rf G.1 l0)]) rfl dX12_gives_1 (by decide) (by simp [rf_cat, cat_i, cat_l, cat_r]) ?_
  refine wt_sub (ls' := [(0, rf G.1 l0), (1, .int 0)]) [1, 0] rfl ?_
  exact t_X12_gives_2 he  fu h
set_option maxHeartbeats 4000000 in
set_option maxRecDepth 100000 in
theorem c_X12_gives {G : GG} {M : Mm} {l0 : Option Nat} {r : Mm} (h : f_X12_gives M l0 = some r) (l : Launch) : Ct l G j_X12_gives b_X12_gives [rf G.1 l0] M none r := cf_V (by decide +kernel) (by simp [lg_sl, rf_cat, cat_i, cat_l, j_X12_gives]) rfl (by simp [lv_args, rf_cat, cat_i, cat_l]) (fun X he => t_X12_gives_e he h)
def f_X12_saves_34 (M : Mm) (l0 : Option Nat) : Option (Int32 × Mm) := ck M l0 12 <| bd (f_X12_no M l0 5) fun v36 M36 => some (v36, M36)
def g_X12_saves (M : Mm) (l0 : Option Nat) (l1 : Int32) (l2 : Int32) : Option (Int32 × Mm) := pfI M l0 12 1 0 fun M2 => pfI M2 l0 12 0 0 fun M7 => bd (f_X12_isIn M7 (Int32.toInt64 l1) 1 240) fun v16 M16 => if v16 = 0 then (f_X12_saves_34  M16 l0) else (bd (f_X12_isIn M16 (Int32.toInt64 l2) 0 99) fun v28 M28 => if v28 = 0 then (f_X12_saves_34  M28 l0) else (gfR M28 l0 12 20 fun v41 => alI M28 v41 21 2 fun v45 => if v45 = 0 then (ck M28 l0 12 <| bd (f_X12_no M28 l0 8) fun v52 M52 => some (v52, M52)) else (ck M28 l0 12 <| bd (f_X12_lossOf M28 l0) fun v57 M57 => ck M57 l0 12 <| bv (f_X12_keeps M57 l0) fun M62 => ck M62 l0 12 <| bd (f_X12_hours M62 l0 l1) fun v67 M67 => ck M67 l0 12 <| bd (f_X12_lossOf M67 l0) fun v73 M73 => ck M73 l0 12 <| bv (f_X12_gives M73 l0) fun M79 => ck M79 l0 12 <| bd (f_X12_allChances M79 l0) fun v92 M92 => ck M92 l0 12 <| bd (f_X12_allChances M92 l0) fun v99 M99 => ck M99 l0 12 <| bd (f_X12_fraction M99 l0 (Int32.toInt64 ((v57 - v73) - ((l2 * v67) * v92))) (Int32.toInt64 v99)) fun v103 M103 => some (v103, M103))))
def f_X12_saves (M : Mm) (l0 : Option Nat) (l1 : Int32) (l2 : Int32) : Option (Int32 × Mm) := zc (g_X12_saves M l0 l1 l2)
set_option maxHeartbeats 4000000 in
set_option maxRecDepth 100000 in
theorem t_X12_saves_34 {G : GG} {X : CX} {ans : Int32 × Mm} (he : EndI G X j_X12_saves b_X12_saves ans) {M : Mm} {l0 : Option Nat} (h : f_X12_saves_34 M l0 = some ans) : Wt G X j_X12_saves b_X12_saves 34 [(0, rf G.1 l0)] [] M 0 0 := by
  unfold f_X12_saves_34 at h
  refine wt_aload_n (pc := 34) 0 dX12_saves_34 rfl ?_
  refine wt_iconst (pc := 35) (v := 5) dX12_saves_35 (by decide) ?_
  refine wt_cVI (pc := 36) (J' := j_X12_no) (As := [.int 5]) (st := []) (B' := b_X12_no) (u' := 0) (w' := 0) dX12_saves_36 ml_X12_83 mv_X12_no (fun v9 M9 e9 => c_X12_no e9) rfl (by decide) rfl rfl (by decide) (by decide) (by decide) rfl h (fun v36 M36 h => ?_)
  cases h
  exact he 39 _ _ _ dX12_saves_39 (by decide) (by decide)
set_option maxHeartbeats 4000000 in
set_option maxRecDepth 100000 in
theorem t_X12_saves_e {G : GG} {X : CX} {ans : Int32 × Mm} (he : EndI G X j_X12_saves b_X12_saves ans) {M : Mm} {l0 : Option Nat} {l1 : Int32} {l2 : Int32} (h : g_X12_saves M l0 l1 l2 = some ans) : Wt G X j_X12_saves b_X12_saves 0 [(0, rf G.1 l0), (1, .int l1), (2, .int l2)] [] M 0 0 := by
  unfold g_X12_saves at h
  refine wt_aload_n (pc := 0) 0 dX12_saves_0 rfl ?_
  refine wt_iconst (pc := 1) (v := 0) dX12_saves_1 (by decide) ?_
  refine wt_putI (pc := 2) dX12_saves_2 fl_X12_68 rfl rfl h (fun M2 h => ?_)
  refine wt_aload_n (pc := 5) 0 dX12_saves_5 rfl ?_
  refine wt_iconst (pc := 6) (v := 0) dX12_saves_6 (by decide) ?_
  refine wt_putI (pc := 7) dX12_saves_7 fl_X12_71 rfl rfl h (fun M7 h => ?_)
  refine wt_iload_n (pc := 10) 1 dX12_saves_10 rfl ?_
  refine wt_i2l (pc := 11) dX12_saves_11 ?_
  refine wt_lconst (pc := 12) (v := 1) dX12_saves_12 (by decide) ?_
  refine wt_ldc2 (pc := 13) dX12_saves_13 kc_X12_393 ?_
  refine wt_cSI (pc := 16) (J' := j_X12_isIn) (As := [.long (Int32.toInt64 l1), .long 1, .long 240]) (st := []) (B' := b_X12_isIn) (u' := 0) (w' := 0) dX12_saves_16 ml_X12_103 ms_X12_isIn (fun v9 M9 e9 => c_X12_isIn e9) rfl (by decide) rfl rfl (by decide) (by decide) (by decide) rfl h (fun v16 M16 h => ?_)
  refine wt_if_eq (pc := 19) (tgt := 34) dX12_saves_19 (by decide) (fun q => ?_) (fun q => ?_)
  · have h := ite_t q h
    refine wt_sub (ls' := [(0, rf G.1 l0)]) [0] rfl ?_
    exact t_X12_saves_34 he  h
  · have h := ite_f q h
    refine wt_iload_n (pc := 22) 2 dX12_saves_22 rfl ?_
    refine wt_i2l (pc := 23) dX12_saves_23 ?_
    refine wt_lconst (pc := 24) (v := 0) dX12_saves_24 (by decide) ?_
    refine wt_ldc2 (pc := 25) dX12_saves_25 kc_X12_404 ?_
    refine wt_cSI (pc := 28) (J' := j_X12_isIn) (As := [.long (Int32.toInt64 l2), .long 0, .long 99]) (st := []) (B' := b_X12_isIn) (u' := 0) (w' := 0) dX12_saves_28 ml_X12_103 ms_X12_isIn (fun v9 M9 e9 => c_X12_isIn e9) rfl (by decide) rfl rfl (by decide) (by decide) (by decide) rfl h (fun v28 M28 h => ?_)
    refine wt_if_ne (pc := 31) (tgt := 40) dX12_saves_31 (by decide) (fun q => ?_) (fun q => ?_)
    · have h := ite_f q h
      refine wt_aload_n (pc := 40) 0 dX12_saves_40 rfl ?_
      refine wt_getR (pc := 41) dX12_saves_41 fl_X12_35 (fun _ _ _ => rfl) h (fun v41 h => ?_)
      refine wt_iconst (pc := 44) (v := 2) dX12_saves_44 (by decide) ?_
      refine wt_iaload (pc := 45) (kd := 21) dX12_saves_45 rfl rfl h (fun v45 h => ?_)
      refine wt_if_ne (pc := 46) (tgt := 56) dX12_saves_46 (by decide) (fun q => ?_) (fun q => ?_)
      · have h := ite_f q h
        refine wt_aload_n (pc := 56) 0 dX12_saves_56 rfl ?_
        refine wt_cVI (pc := 57) (J' := j_X12_lossOf) (As := []) (st := []) (B' := b_X12_lossOf) (u' := 0) (w' := 0) dX12_saves_57 ml_X12_419 mv_X12_lossOf (fun v9 M9 e9 => c_X12_lossOf e9) rfl (by decide) rfl rfl (by decide) (by decide) (by decide) rfl h (fun v57 M57 h => ?_)
        refine wt_istore_n (pc := 60) (i := 3) (ls' := [(3, .int v57), (0, rf G.1 l0), (1, .int l1), (2, .int l2)]) rfl dX12_saves_60 (by decide) rfl ?_
        refine wt_aload_n (pc := 61) 1 dX12_saves_61 rfl ?_
        refine wt_cVV (pc := 62) (J' := j_X12_keeps) (As := []) (st := []) (B' := b_X12_keeps) (u' := 0) (w' := 0) dX12_saves_62 ml_X12_422 mv_X12_keeps (fun M9 e9 => c_X12_keeps e9) rfl (by decide) rfl rfl (by decide) (by decide) (by decide) rfl h (fun M62 h => ?_)
        refine wt_aload_n (pc := 65) 1 dX12_saves_65 rfl ?_
        refine wt_iload_n (pc := 66) 2 dX12_saves_66 rfl ?_
        refine wt_cVI (pc := 67) (J' := j_X12_hours) (As := [.int l1]) (st := []) (B' := b_X12_hours) (u' := 0) (w' := 0) dX12_saves_67 ml_X12_395 mv_X12_hours (fun v9 M9 e9 => c_X12_hours e9) rfl (by decide) rfl rfl (by decide) (by decide) (by decide) rfl h (fun v67 M67 h => ?_)
        refine wt_istore (pc := 70) (i := 4) (ls' := [(4, .int v67), (3, .int v57), (0, rf G.1 l0), (1, .int l1), (2, .int l2)]) dX12_saves_70 (by decide) rfl ?_
        refine wt_aload_n (pc := 72) 2 dX12_saves_72 rfl ?_
        refine wt_cVI (pc := 73) (J' := j_X12_lossOf) (As := []) (st := []) (B' := b_X12_lossOf) (u' := 0) (w' := 0) dX12_saves_73 ml_X12_419 mv_X12_lossOf (fun v9 M9 e9 => c_X12_lossOf e9) rfl (by decide) rfl rfl (by decide) (by decide) (by decide) rfl h (fun v73 M73 h => ?_)
        refine wt_istore (pc := 76) (i := 5) (ls' := [(5, .int v73), (4, .int v67), (3, .int v57), (0, rf G.1 l0), (1, .int l1), (2, .int l2)]) dX12_saves_76 (by decide) rfl ?_
        refine wt_aload_n (pc := 78) 3 dX12_saves_78 rfl ?_
        refine wt_cVV (pc := 79) (J' := j_X12_gives) (As := []) (st := []) (B' := b_X12_gives) (u' := 0) (w' := 0) dX12_saves_79 ml_X12_425 mv_X12_gives (fun M9 e9 => c_X12_gives e9) rfl (by decide) rfl rfl (by decide) (by decide) (by decide) rfl h (fun M79 h => ?_)
        refine wt_aload_n (pc := 82) 3 dX12_saves_82 rfl ?_
        refine wt_iload_n (pc := 83) 2 dX12_saves_83 rfl ?_
        refine wt_iload (pc := 84) 0 dX12_saves_84 rfl ?_
        refine wt_isub (pc := 86) dX12_saves_86 ?_
        refine wt_iload_n (pc := 87) 5 dX12_saves_87 rfl ?_
        refine wt_iload (pc := 88) 1 dX12_saves_88 rfl ?_
        refine wt_imul (pc := 90) dX12_saves_90 ?_
        refine wt_aload_n (pc := 91) 3 dX12_saves_91 rfl ?_
        refine wt_cVI (pc := 92) (J' := j_X12_allChances) (As := []) (st := [.int (l2 * v67), .int (v57 - v73), rf G.1 l0]) (B' := b_X12_allChances) (u' := 0) (w' := 0) dX12_saves_92 ml_X12_338 mv_X12_allChances (fun v9 M9 e9 => c_X12_allChances e9) rfl (by decide) rfl rfl (by decide) (by decide) (by simp [rf_cat, cat_i, cat_l, cat_r]) rfl h (fun v92 M92 h => ?_)
        refine wt_imul (pc := 95) dX12_saves_95 ?_
        refine wt_isub (pc := 96) dX12_saves_96 ?_
        refine wt_i2l (pc := 97) dX12_saves_97 ?_
        refine wt_aload_n (pc := 98) 3 dX12_saves_98 rfl ?_
        refine wt_cVI (pc := 99) (J' := j_X12_allChances) (As := []) (st := [.long (Int32.toInt64 ((v57 - v73) - ((l2 * v67) * v92))), rf G.1 l0]) (B' := b_X12_allChances) (u' := 0) (w' := 0) dX12_saves_99 ml_X12_338 mv_X12_allChances (fun v9 M9 e9 => c_X12_allChances e9) rfl (by decide) rfl rfl (by decide) (by decide) (by simp [rf_cat, cat_i, cat_l, cat_r]) rfl h (fun v99 M99 h => ?_)
        refine wt_i2l (pc := 102) dX12_saves_102 ?_
        refine wt_cVI (pc := 103) (J' := j_X12_fraction) (As := [.long (Int32.toInt64 ((v57 - v73) - ((l2 * v67) * v92))), .long (Int32.toInt64 v99)]) (st := []) (B' := b_X12_fraction) (u' := 0) (w' := 0) dX12_saves_103 ml_X12_415 mv_X12_fraction (fun v9 M9 e9 => c_X12_fraction e9) rfl (by decide) rfl rfl (by decide) (by decide) (by decide) rfl h (fun v103 M103 h => ?_)
        cases h
        exact he 106 _ _ _ dX12_saves_106 (by decide) (by decide)
      · have h := ite_t q h
        refine wt_aload_n (pc := 49) 0 dX12_saves_49 rfl ?_
        refine wt_bipush (pc := 50) (v := 8) dX12_saves_50 (by decide) ?_
        refine wt_cVI (pc := 52) (J' := j_X12_no) (As := [.int 8]) (st := []) (B' := b_X12_no) (u' := 0) (w' := 0) dX12_saves_52 ml_X12_83 mv_X12_no (fun v9 M9 e9 => c_X12_no e9) rfl (by decide) rfl rfl (by decide) (by decide) (by decide) rfl h (fun v52 M52 h => ?_)
        cases h
        exact he 55 _ _ _ dX12_saves_55 (by decide) (by decide)
    · have h := ite_t q h
      refine wt_sub (ls' := [(0, rf G.1 l0)]) [0] rfl ?_
      exact t_X12_saves_34 he  h
set_option maxHeartbeats 4000000 in
set_option maxRecDepth 100000 in
theorem c_X12_saves {G : GG} {M : Mm} {l0 : Option Nat} {l1 : Int32} {l2 : Int32} {r : Int32 × Mm} (h : f_X12_saves M l0 l1 l2 = some r) (l : Launch) : Ct l G j_X12_saves b_X12_saves [rf G.1 l0, .int l1, .int l2] M (some (.int r.1)) r.2 := cf_Z h (by decide +kernel) (by simp [lg_sl, rf_cat, cat_i, cat_l, j_X12_saves]) rfl (by simp [lv_args, rf_cat, cat_i, cat_l]) (fun h X he => t_X12_saves_e he h)
def f_X12_dearest_86 (M : Mm) (l0 : Option Nat) (l1 : Int32) : Option (Int32 × Mm) := if 0 ≤ l1 then (some (l1, M)) else (ck M l0 12 <| bd (f_X12_refuse M l0 8) fun v93 M93 => some (v93, M93))
def f_X12_dearest_80 (k14 : Mm → Option Nat → Int32 → Int32 → Option (Int32 × Mm)) (M : Mm) (l0 : Option Nat) (l1 : Int32) (l2 : Int32) : Option (Int32 × Mm) := k14 M l0 l1 (l2 + 1)
def f_X12_dearest_78 (k14 : Mm → Option Nat → Int32 → Int32 → Option (Int32 × Mm)) (M : Mm) (l0 : Option Nat) (l2 : Int32) : Option (Int32 × Mm) := f_X12_dearest_80 k14 M l0 l2 l2
def f_X12_dearest_14 : Nat → Mm → Option Nat → Int32 → Int32 → Option (Int32 × Mm)
  | 0, _, _, _, _ => none
  | n + 1, M, l0, l1, l2 => gfR M l0 12 20 fun v16 => alI M v16 21 0 fun v20 => if v20 ≤ l2 then (f_X12_dearest_86  M l0 l1) else (gfR M l0 12 20 fun v25 => alI M v25 21 2 fun v29 => if v29 ≤ 0 then (f_X12_dearest_86  M l0 l1) else (ck M l0 12 <| bd (f_X12_isOn M l0 l2) fun v35 M35 => if v35 = 0 then (f_X12_dearest_80 (f_X12_dearest_14 n) M35 l0 l1 l2) else (if l1 < 0 then (f_X12_dearest_78 (f_X12_dearest_14 n) M35 l0 l2) else (gfR M35 l0 12 20 fun v46 => alI M35 v46 21 (13 + l2) fun v53 => ck M35 l0 12 <| bd (f_X12_riskOf M35 l0 l2) fun v56 M56 => gfR M56 l0 12 20 fun v61 => alI M56 v61 21 (13 + l1) fun v68 => ck M56 l0 12 <| bd (f_X12_riskOf M56 l0 l1) fun v71 M71 => if (v53 * v56) ≤ (v68 * v71) then (f_X12_dearest_80 (f_X12_dearest_14 n) M71 l0 l1 l2) else (f_X12_dearest_78 (f_X12_dearest_14 n) M71 l0 l2)))))
def f_X12_dearest (M : Mm) (l0 : Option Nat) : Option (Int32 × Mm) := pfI M l0 12 1 0 fun M2 => pfI M2 l0 12 0 0 fun M7 => f_X12_dearest_14  fu M7 l0 (-1) 0
set_option maxHeartbeats 4000000 in
set_option maxRecDepth 100000 in
theorem t_X12_dearest_86 {G : GG} {X : CX} {ans : Int32 × Mm} (he : EndI G X j_X12_dearest b_X12_dearest ans) {M : Mm} {l0 : Option Nat} {l1 : Int32} (h : f_X12_dearest_86 M l0 l1 = some ans) : Wt G X j_X12_dearest b_X12_dearest 86 [(0, rf G.1 l0), (1, .int l1)] [] M 0 0 := by
  unfold f_X12_dearest_86 at h
  refine wt_iload_n (pc := 86) 1 dX12_dearest_86 rfl ?_
  refine wt_if_ge (pc := 87) (tgt := 99) dX12_dearest_87 (by decide) (fun q => ?_) (fun q => ?_)
  · have h := ite_t q h
    refine wt_iload_n (pc := 99) 1 dX12_dearest_99 rfl ?_
    cases h
    exact he 100 _ _ _ dX12_dearest_100 (by decide) (by decide)
  · have h := ite_f q h
    refine wt_aload_n (pc := 90) 0 dX12_dearest_90 rfl ?_
    refine wt_bipush (pc := 91) (v := 8) dX12_dearest_91 (by decide) ?_
    refine wt_cVI (pc := 93) (J' := j_X12_refuse) (As := [.int 8]) (st := []) (B' := b_X12_refuse) (u' := 0) (w' := 0) dX12_dearest_93 ml_X12_331 mv_X12_refuse (fun v9 M9 e9 => c_X12_refuse e9) rfl (by decide) rfl rfl (by decide) (by decide) (by decide) rfl h (fun v93 M93 h => ?_)
    refine wt_goto (pc := 96) (tgt := 100) dX12_dearest_96 (by decide) ?_
    cases h
    exact he 100 _ _ _ dX12_dearest_100 (by decide) (by decide)
set_option maxHeartbeats 4000000 in
set_option maxRecDepth 100000 in
theorem t_X12_dearest_80 {G : GG} {X : CX} {ans : Int32 × Mm} (he : EndI G X j_X12_dearest b_X12_dearest ans) {k14 : Mm → Option Nat → Int32 → Int32 → Option (Int32 × Mm)} (hk14 : ∀ (M : Mm) (a0 : Option Nat) (a1 : Int32) (a2 : Int32), k14 M a0 a1 a2 = some ans → Wt G X j_X12_dearest b_X12_dearest 14 [(0, rf G.1 a0), (1, .int a1), (2, .int a2)] [] M 0 0) {M : Mm} {l0 : Option Nat} {l1 : Int32} {l2 : Int32} (h : f_X12_dearest_80 k14 M l0 l1 l2 = some ans) : Wt G X j_X12_dearest b_X12_dearest 80 [(0, rf G.1 l0), (1, .int l1), (2, .int l2)] [] M 0 0 := by
  unfold f_X12_dearest_80 at h
  refine wt_iinc (pc := 80) (d := 1) (ls' := [(2, .int (l2 + 1)), (0, rf G.1 l0), (1, .int l1)]) 2 dX12_dearest_80 rfl (by decide) (by decide) rfl ?_
  refine wt_goto (pc := 83) (tgt := 14) dX12_dearest_83 (by decide) ?_
  refine wt_sub (ls' := [(0, rf G.1 l0), (1, .int l1), (2, .int (l2 + 1))]) [1, 2, 0] rfl ?_
  exact hk14 _ _ _ _ h
set_option maxHeartbeats 4000000 in
set_option maxRecDepth 100000 in
theorem t_X12_dearest_78 {G : GG} {X : CX} {ans : Int32 × Mm} (he : EndI G X j_X12_dearest b_X12_dearest ans) {k14 : Mm → Option Nat → Int32 → Int32 → Option (Int32 × Mm)} (hk14 : ∀ (M : Mm) (a0 : Option Nat) (a1 : Int32) (a2 : Int32), k14 M a0 a1 a2 = some ans → Wt G X j_X12_dearest b_X12_dearest 14 [(0, rf G.1 a0), (1, .int a1), (2, .int a2)] [] M 0 0) {M : Mm} {l0 : Option Nat} {l2 : Int32} (h : f_X12_dearest_78 k14 M l0 l2 = some ans) : Wt G X j_X12_dearest b_X12_dearest 78 [(0, rf G.1 l0), (2, .int l2)] [] M 0 0 := by
  unfold f_X12_dearest_78 at h
  refine wt_iload_n (pc := 78) 1 dX12_dearest_78 rfl ?_
  refine wt_istore_n (pc := 79) (i := 1) (ls' := [(1, .int l2), (0, rf G.1 l0), (2, .int l2)]) rfl dX12_dearest_79 (by decide) (by simp [rf_cat, cat_i, cat_l, cat_r]) ?_
  refine wt_sub (ls' := [(0, rf G.1 l0), (1, .int l2), (2, .int l2)]) [1, 0, 2] rfl ?_
  exact t_X12_dearest_80 he (fun _ _ _ _ h => hk14 _ _ _ _ h) h
set_option maxHeartbeats 4000000 in
set_option maxRecDepth 100000 in
theorem t_X12_dearest_14 {G : GG} {X : CX} {ans : Int32 × Mm} (he : EndI G X j_X12_dearest b_X12_dearest ans) : ∀ (n : Nat) {M : Mm} {l0 : Option Nat} {l1 : Int32} {l2 : Int32}, f_X12_dearest_14 n M l0 l1 l2 = some ans → Wt G X j_X12_dearest b_X12_dearest 14 [(0, rf G.1 l0), (1, .int l1), (2, .int l2)] [] M 0 0 := by
  intro n
  induction n with
  | zero =>
    intro M l0 l1 l2 h
    rw [f_X12_dearest_14] at h
    cases h
  | succ n ih =>
    intro M l0 l1 l2 h
    rw [f_X12_dearest_14] at h
    refine wt_iload_n (pc := 14) 2 dX12_dearest_14 rfl ?_
    refine wt_aload_n (pc := 15) 0 dX12_dearest_15 rfl ?_
    refine wt_getR (pc := 16) dX12_dearest_16 fl_X12_35 (fun _ _ _ => rfl) h (fun v16 h => ?_)
    refine wt_iconst (pc := 19) (v := 0) dX12_dearest_19 (by decide) ?_
    refine wt_iaload (pc := 20) (kd := 21) dX12_dearest_20 rfl rfl h (fun v20 h => ?_)
    refine wt_icmp_ge (pc := 21) (tgt := 86) dX12_dearest_21 (by decide) (fun q => ?_) (fun q => ?_)
    · have h := ite_t q h
      refine wt_sub (ls' := [(0, rf G.1 l0), (1, .int l1)]) [0, 1] rfl ?_
      exact t_X12_dearest_86 he  h
    · have h := ite_f q h
      refine wt_aload_n (pc := 24) 0 dX12_dearest_24 rfl ?_
      refine wt_getR (pc := 25) dX12_dearest_25 fl_X12_35 (fun _ _ _ => rfl) h (fun v25 h => ?_)
      refine wt_iconst (pc := 28) (v := 2) dX12_dearest_28 (by decide) ?_
      refine wt_iaload (pc := 29) (kd := 21) dX12_dearest_29 rfl rfl h (fun v29 h => ?_)
      refine wt_if_le (pc := 30) (tgt := 86) dX12_dearest_30 (by decide) (fun q => ?_) (fun q => ?_)
      · have h := ite_t q h
        refine wt_sub (ls' := [(0, rf G.1 l0), (1, .int l1)]) [0, 1] rfl ?_
        exact t_X12_dearest_86 he  h
      · have h := ite_f q h
        refine wt_aload_n (pc := 33) 0 dX12_dearest_33 rfl ?_
        refine wt_iload_n (pc := 34) 2 dX12_dearest_34 rfl ?_
        refine wt_cVI (pc := 35) (J' := j_X12_isOn) (As := [.int l2]) (st := []) (B' := b_X12_isOn) (u' := 0) (w' := 0) dX12_dearest_35 ml_X12_363 mv_X12_isOn (fun v9 M9 e9 => c_X12_isOn e9) rfl (by decide) rfl rfl (by decide) (by decide) (by decide) rfl h (fun v35 M35 h => ?_)
        refine wt_if_eq (pc := 38) (tgt := 80) dX12_dearest_38 (by decide) (fun q => ?_) (fun q => ?_)
        · have h := ite_t q h
          exact t_X12_dearest_80 he (fun _ _ _ _ h => ih h) h
        · have h := ite_f q h
          refine wt_iload_n (pc := 41) 1 dX12_dearest_41 rfl ?_
          refine wt_if_lt (pc := 42) (tgt := 78) dX12_dearest_42 (by decide) (fun q => ?_) (fun q => ?_)
          · have h := ite_t q h
            refine wt_sub (ls' := [(0, rf G.1 l0), (2, .int l2)]) [0, 2] rfl ?_
            exact t_X12_dearest_78 he (fun _ _ _ _ h => ih h) h
          · have h := ite_f q h
            refine wt_aload_n (pc := 45) 0 dX12_dearest_45 rfl ?_
            refine wt_getR (pc := 46) dX12_dearest_46 fl_X12_35 (fun _ _ _ => rfl) h (fun v46 h => ?_)
            refine wt_bipush (pc := 49) (v := 13) dX12_dearest_49 (by decide) ?_
            refine wt_iload_n (pc := 51) 2 dX12_dearest_51 rfl ?_
            refine wt_iadd (pc := 52) dX12_dearest_52 ?_
            refine wt_iaload (pc := 53) (kd := 21) dX12_dearest_53 rfl rfl h (fun v53 h => ?_)
            refine wt_aload_n (pc := 54) 0 dX12_dearest_54 rfl ?_
            refine wt_iload_n (pc := 55) 2 dX12_dearest_55 rfl ?_
            refine wt_cVI (pc := 56) (J' := j_X12_riskOf) (As := [.int l2]) (st := [.int v53]) (B' := b_X12_riskOf) (u' := 0) (w' := 0) dX12_dearest_56 ml_X12_412 mv_X12_riskOf (fun v9 M9 e9 => c_X12_riskOf e9) rfl (by decide) rfl rfl (by decide) (by decide) (by simp [rf_cat, cat_i, cat_l, cat_r]) rfl h (fun v56 M56 h => ?_)
            refine wt_imul (pc := 59) dX12_dearest_59 ?_
            refine wt_aload_n (pc := 60) 0 dX12_dearest_60 rfl ?_
            refine wt_getR (pc := 61) dX12_dearest_61 fl_X12_35 (fun _ _ _ => rfl) h (fun v61 h => ?_)
            refine wt_bipush (pc := 64) (v := 13) dX12_dearest_64 (by decide) ?_
            refine wt_iload_n (pc := 66) 1 dX12_dearest_66 rfl ?_
            refine wt_iadd (pc := 67) dX12_dearest_67 ?_
            refine wt_iaload (pc := 68) (kd := 21) dX12_dearest_68 rfl rfl h (fun v68 h => ?_)
            refine wt_aload_n (pc := 69) 0 dX12_dearest_69 rfl ?_
            refine wt_iload_n (pc := 70) 1 dX12_dearest_70 rfl ?_
            refine wt_cVI (pc := 71) (J' := j_X12_riskOf) (As := [.int l1]) (st := [.int v68, .int (v53 * v56)]) (B' := b_X12_riskOf) (u' := 0) (w' := 0) dX12_dearest_71 ml_X12_412 mv_X12_riskOf (fun v9 M9 e9 => c_X12_riskOf e9) rfl (by decide) rfl rfl (by decide) (by decide) (by simp [rf_cat, cat_i, cat_l, cat_r]) rfl h (fun v71 M71 h => ?_)
            refine wt_imul (pc := 74) dX12_dearest_74 ?_
            refine wt_icmp_le (pc := 75) (tgt := 80) dX12_dearest_75 (by decide) (fun q => ?_) (fun q => ?_)
            · have h := ite_t q h
              exact t_X12_dearest_80 he (fun _ _ _ _ h => ih h) h
            · have h := ite_f q h
              refine wt_sub (ls' := [(0, rf G.1 l0), (2, .int l2)]) [0, 2] rfl ?_
              exact t_X12_dearest_78 he (fun _ _ _ _ h => ih h) h
set_option maxHeartbeats 4000000 in
set_option maxRecDepth 100000 in
theorem t_X12_dearest_e {G : GG} {X : CX} {ans : Int32 × Mm} (he : EndI G X j_X12_dearest b_X12_dearest ans) {M : Mm} {l0 : Option Nat} (h : f_X12_dearest M l0 = some ans) : Wt G X j_X12_dearest b_X12_dearest 0 [(0, rf G.1 l0)] [] M 0 0 := by
  unfold f_X12_dearest at h
  refine wt_aload_n (pc := 0) 0 dX12_dearest_0 rfl ?_
  refine wt_iconst (pc := 1) (v := 0) dX12_dearest_1 (by decide) ?_
  refine wt_putI (pc := 2) dX12_dearest_2 fl_X12_68 rfl rfl h (fun M2 h => ?_)
  refine wt_aload_n (pc := 5) 0 dX12_dearest_5 rfl ?_
  refine wt_iconst (pc := 6) (v := 0) dX12_dearest_6 (by decide) ?_
  refine wt_putI (pc := 7) dX12_dearest_7 fl_X12_71 rfl rfl h (fun M7 h => ?_)
  refine wt_iconst (pc := 10) (v := (-1)) dX12_dearest_10 (by decide) ?_
  refine wt_istore_n (pc := 11) (i := 1) (ls' := [(1, .int (-1)), (0, rf G.1 l0)]) rfl dX12_dearest_11 (by decide) (by simp [rf_cat, cat_i, cat_l, cat_r]) ?_
  refine wt_iconst (pc := 12) (v := 0) dX12_dearest_12 (by decide) ?_
  refine wt_istore_n (pc := 13) (i := 2) (ls' := [(2, .int 0), (1, .int (-1)), (0, rf G.1 l0)]) rfl dX12_dearest_13 (by decide) rfl ?_
  refine wt_sub (ls' := [(0, rf G.1 l0), (1, .int (-1)), (2, .int 0)]) [2, 1, 0] rfl ?_
  exact t_X12_dearest_14 he  fu h
set_option maxHeartbeats 4000000 in
set_option maxRecDepth 100000 in
theorem c_X12_dearest {G : GG} {M : Mm} {l0 : Option Nat} {r : Int32 × Mm} (h : f_X12_dearest M l0 = some r) (l : Launch) : Ct l G j_X12_dearest b_X12_dearest [rf G.1 l0] M (some (.int r.1)) r.2 := cf_I (by decide +kernel) (by simp [lg_sl, rf_cat, cat_i, cat_l, j_X12_dearest]) rfl (by simp [lv_args, rf_cat, cat_i, cat_l]) (fun X he => t_X12_dearest_e he h)

theorem dX12_isName_0 : decode cX12_isName 0 = .ok (.aload_n 0, 1) := by decide +kernel
theorem dX12_isName_1 : decode cX12_isName 1 = .ok (.getfield 123, 3) := by decide +kernel
theorem dX12_isName_4 : decode cX12_isName 4 = .ok (.iconst 1, 1) := by decide +kernel
theorem dX12_isName_5 : decode cX12_isName 5 = .ok (.if_icmp .ne 23, 3) := by decide +kernel
theorem dX12_isName_8 : decode cX12_isName 8 = .ok (.aload_n 0, 1) := by decide +kernel
theorem dX12_isName_9 : decode cX12_isName 9 = .ok (.getfield 136, 3) := by decide +kernel
theorem dX12_isName_12 : decode cX12_isName 12 = .ok (.bipush 8, 2) := by decide +kernel
theorem dX12_isName_14 : decode cX12_isName 14 = .ok (.if_icmp .gt 14, 3) := by decide +kernel
theorem dX12_isName_17 : decode cX12_isName 17 = .ok (.aload_n 0, 1) := by decide +kernel
theorem dX12_isName_18 : decode cX12_isName 18 = .ok (.invokevirtual 218, 3) := by decide +kernel
theorem dX12_isName_21 : decode cX12_isName 21 = .ok (.ifCond .ne 7, 3) := by decide +kernel
theorem dX12_isName_24 : decode cX12_isName 24 = .ok (.iconst 1, 1) := by decide +kernel
theorem dX12_isName_25 : decode cX12_isName 25 = .ok (.goto 4, 3) := by decide +kernel
theorem dX12_isName_28 : decode cX12_isName 28 = .ok (.iconst 0, 1) := by decide +kernel
theorem dX12_isName_29 : decode cX12_isName 29 = .ok (.ireturn, 1) := by decide +kernel
def j_X12_isName : JD := (yX12_isName, cX12_isName, 1, (some .boolean))
def b_X12_isName : BD := (4, 0, 0)
theorem dX12_fail_0 : decode cX12_fail 0 = .ok (.aload_n 0, 1) := by decide +kernel
theorem dX12_fail_1 : decode cX12_fail 1 = .ok (.getfield 221, 3) := by decide +kernel
theorem dX12_fail_4 : decode cX12_fail 4 = .ok (.ifCond .le 4, 3) := by decide +kernel
theorem dX12_fail_7 : decode cX12_fail 7 = .ok (.return_, 1) := by decide +kernel
theorem dX12_fail_8 : decode cX12_fail 8 = .ok (.aload_n 0, 1) := by decide +kernel
theorem dX12_fail_9 : decode cX12_fail 9 = .ok (.iload_n 1, 1) := by decide +kernel
theorem dX12_fail_10 : decode cX12_fail 10 = .ok (.putfield 221, 3) := by decide +kernel
theorem dX12_fail_13 : decode cX12_fail 13 = .ok (.aload_n 0, 1) := by decide +kernel
theorem dX12_fail_14 : decode cX12_fail 14 = .ok (.iload_n 2, 1) := by decide +kernel
theorem dX12_fail_15 : decode cX12_fail 15 = .ok (.putfield 224, 3) := by decide +kernel
theorem dX12_fail_18 : decode cX12_fail 18 = .ok (.return_, 1) := by decide +kernel
def j_X12_fail : JD := (yX12_fail, cX12_fail, 3, none)
def b_X12_fail : BD := (0, 0, 0)
theorem dX12_wrong_0 : decode cX12_wrong 0 = .ok (.aload_n 0, 1) := by decide +kernel
theorem dX12_wrong_1 : decode cX12_wrong 1 = .ok (.aload_n 0, 1) := by decide +kernel
theorem dX12_wrong_2 : decode cX12_wrong 2 = .ok (.getfield 123, 3) := by decide +kernel
theorem dX12_wrong_5 : decode cX12_wrong 5 = .ok (.iconst 4, 1) := by decide +kernel
theorem dX12_wrong_6 : decode cX12_wrong 6 = .ok (.if_icmp .ne 7, 3) := by decide +kernel
theorem dX12_wrong_9 : decode cX12_wrong 9 = .ok (.iconst 1, 1) := by decide +kernel
theorem dX12_wrong_10 : decode cX12_wrong 10 = .ok (.goto 4, 3) := by decide +kernel
theorem dX12_wrong_13 : decode cX12_wrong 13 = .ok (.iconst 2, 1) := by decide +kernel
theorem dX12_wrong_14 : decode cX12_wrong 14 = .ok (.aload_n 0, 1) := by decide +kernel
theorem dX12_wrong_15 : decode cX12_wrong 15 = .ok (.getfield 117, 3) := by decide +kernel
theorem dX12_wrong_18 : decode cX12_wrong 18 = .ok (.invokevirtual 227, 3) := by decide +kernel
theorem dX12_wrong_21 : decode cX12_wrong 21 = .ok (.return_, 1) := by decide +kernel
def j_X12_wrong : JD := (yX12_wrong, cX12_wrong, 1, none)
def b_X12_wrong : BD := (1, 0, 0)
theorem dX12_must_0 : decode cX12_must 0 = .ok (.aload_n 0, 1) := by decide +kernel
theorem dX12_must_1 : decode cX12_must 1 = .ok (.getfield 221, 3) := by decide +kernel
theorem dX12_must_4 : decode cX12_must 4 = .ok (.ifCond .le 4, 3) := by decide +kernel
theorem dX12_must_7 : decode cX12_must 7 = .ok (.return_, 1) := by decide +kernel
theorem dX12_must_8 : decode cX12_must 8 = .ok (.iload_n 1, 1) := by decide +kernel
theorem dX12_must_9 : decode cX12_must 9 = .ok (.ifCond .eq 10, 3) := by decide +kernel
theorem dX12_must_12 : decode cX12_must 12 = .ok (.aload_n 0, 1) := by decide +kernel
theorem dX12_must_13 : decode cX12_must 13 = .ok (.invokevirtual 231, 3) := by decide +kernel
theorem dX12_must_16 : decode cX12_must 16 = .ok (.goto 7, 3) := by decide +kernel
theorem dX12_must_19 : decode cX12_must 19 = .ok (.aload_n 0, 1) := by decide +kernel
theorem dX12_must_20 : decode cX12_must 20 = .ok (.invokevirtual 234, 3) := by decide +kernel
theorem dX12_must_23 : decode cX12_must 23 = .ok (.return_, 1) := by decide +kernel
def j_X12_must : JD := (yX12_must, cX12_must, 2, none)
def b_X12_must : BD := (2, 0, 0)
theorem dX12_count_0 : decode cX12_count 0 = .ok (.aload_n 0, 1) := by decide +kernel
theorem dX12_count_1 : decode cX12_count 1 = .ok (.getfield 221, 3) := by decide +kernel
theorem dX12_count_4 : decode cX12_count 4 = .ok (.ifCond .ne 15, 3) := by decide +kernel
theorem dX12_count_7 : decode cX12_count 7 = .ok (.aload_n 0, 1) := by decide +kernel
theorem dX12_count_8 : decode cX12_count 8 = .ok (.getfield 123, 3) := by decide +kernel
theorem dX12_count_11 : decode cX12_count 11 = .ok (.iconst 2, 1) := by decide +kernel
theorem dX12_count_12 : decode cX12_count 12 = .ok (.if_icmp .eq 7, 3) := by decide +kernel
theorem dX12_count_15 : decode cX12_count 15 = .ok (.aload_n 0, 1) := by decide +kernel
theorem dX12_count_16 : decode cX12_count 16 = .ok (.invokevirtual 234, 3) := by decide +kernel
theorem dX12_count_19 : decode cX12_count 19 = .ok (.aload_n 0, 1) := by decide +kernel
theorem dX12_count_20 : decode cX12_count 20 = .ok (.getfield 221, 3) := by decide +kernel
theorem dX12_count_23 : decode cX12_count 23 = .ok (.ifCond .ne 27, 3) := by decide +kernel
theorem dX12_count_26 : decode cX12_count 26 = .ok (.aload_n 0, 1) := by decide +kernel
theorem dX12_count_27 : decode cX12_count 27 = .ok (.getfield 142, 3) := by decide +kernel
theorem dX12_count_30 : decode cX12_count 30 = .ok (.i2l, 1) := by decide +kernel
theorem dX12_count_31 : decode cX12_count 31 = .ok (.iload_n 1, 1) := by decide +kernel
theorem dX12_count_32 : decode cX12_count 32 = .ok (.i2l, 1) := by decide +kernel
theorem dX12_count_33 : decode cX12_count 33 = .ok (.iload_n 2, 1) := by decide +kernel
theorem dX12_count_34 : decode cX12_count 34 = .ok (.i2l, 1) := by decide +kernel
theorem dX12_count_35 : decode cX12_count 35 = .ok (.invokestatic 103, 3) := by decide +kernel
theorem dX12_count_38 : decode cX12_count 38 = .ok (.ifCond .ne 12, 3) := by decide +kernel
theorem dX12_count_41 : decode cX12_count 41 = .ok (.aload_n 0, 1) := by decide +kernel
theorem dX12_count_42 : decode cX12_count 42 = .ok (.iconst 4, 1) := by decide +kernel
theorem dX12_count_43 : decode cX12_count 43 = .ok (.aload_n 0, 1) := by decide +kernel
theorem dX12_count_44 : decode cX12_count 44 = .ok (.getfield 117, 3) := by decide +kernel
theorem dX12_count_47 : decode cX12_count 47 = .ok (.invokevirtual 227, 3) := by decide +kernel
theorem dX12_count_50 : decode cX12_count 50 = .ok (.aload_n 0, 1) := by decide +kernel
theorem dX12_count_51 : decode cX12_count 51 = .ok (.getfield 221, 3) := by decide +kernel
theorem dX12_count_54 : decode cX12_count 54 = .ok (.ifCond .le 5, 3) := by decide +kernel
theorem dX12_count_57 : decode cX12_count 57 = .ok (.iconst 0, 1) := by decide +kernel
theorem dX12_count_58 : decode cX12_count 58 = .ok (.ireturn, 1) := by decide +kernel
theorem dX12_count_59 : decode cX12_count 59 = .ok (.aload_n 0, 1) := by decide +kernel
theorem dX12_count_60 : decode cX12_count 60 = .ok (.getfield 142, 3) := by decide +kernel
theorem dX12_count_63 : decode cX12_count 63 = .ok (.istore_n 3, 1) := by decide +kernel
theorem dX12_count_64 : decode cX12_count 64 = .ok (.aload_n 0, 1) := by decide +kernel
theorem dX12_count_65 : decode cX12_count 65 = .ok (.invokevirtual 231, 3) := by decide +kernel
theorem dX12_count_68 : decode cX12_count 68 = .ok (.iload_n 3, 1) := by decide +kernel
theorem dX12_count_69 : decode cX12_count 69 = .ok (.ireturn, 1) := by decide +kernel
def j_X12_count : JD := (yX12_count, cX12_count, 4, (some .int))
def b_X12_count : BD := (2, 0, 0)
theorem dX12_behindWord_0 : decode cX12_behindWord 0 = .ok (.aload_n 0, 1) := by decide +kernel
theorem dX12_behindWord_1 : decode cX12_behindWord 1 = .ok (.iload_n 1, 1) := by decide +kernel
theorem dX12_behindWord_2 : decode cX12_behindWord 2 = .ok (.invokevirtual 237, 3) := by decide +kernel
theorem dX12_behindWord_5 : decode cX12_behindWord 5 = .ok (.aload_n 0, 1) := by decide +kernel
theorem dX12_behindWord_6 : decode cX12_behindWord 6 = .ok (.iload_n 2, 1) := by decide +kernel
theorem dX12_behindWord_7 : decode cX12_behindWord 7 = .ok (.iload_n 3, 1) := by decide +kernel
theorem dX12_behindWord_8 : decode cX12_behindWord 8 = .ok (.invokevirtual 241, 3) := by decide +kernel
theorem dX12_behindWord_11 : decode cX12_behindWord 11 = .ok (.ireturn, 1) := by decide +kernel
def j_X12_behindWord : JD := (yX12_behindWord, cX12_behindWord, 4, (some .int))
def b_X12_behindWord : BD := (3, 0, 0)
theorem dX12_lay_0 : decode cX12_lay 0 = .ok (.iconst 3, 1) := by decide +kernel
theorem dX12_lay_1 : decode cX12_lay 1 = .ok (.istore_n 2, 1) := by decide +kernel
theorem dX12_lay_2 : decode cX12_lay 2 = .ok (.iload_n 2, 1) := by decide +kernel
theorem dX12_lay_3 : decode cX12_lay 3 = .ok (.ifCond .lt 35, 3) := by decide +kernel
theorem dX12_lay_6 : decode cX12_lay 6 = .ok (.aload_n 0, 1) := by decide +kernel
theorem dX12_lay_7 : decode cX12_lay 7 = .ok (.getfield 24, 3) := by decide +kernel
theorem dX12_lay_10 : decode cX12_lay 10 = .ok (.aload_n 0, 1) := by decide +kernel
theorem dX12_lay_11 : decode cX12_lay 11 = .ok (.getfield 244, 3) := by decide +kernel
theorem dX12_lay_14 : decode cX12_lay 14 = .ok (.iload_n 1, 1) := by decide +kernel
theorem dX12_lay_15 : decode cX12_lay 15 = .ok (.bipush 8, 2) := by decide +kernel
theorem dX12_lay_17 : decode cX12_lay 17 = .ok (.iload_n 2, 1) := by decide +kernel
theorem dX12_lay_18 : decode cX12_lay 18 = .ok (.imul, 1) := by decide +kernel
theorem dX12_lay_19 : decode cX12_lay 19 = .ok (.ishr, 1) := by decide +kernel
theorem dX12_lay_20 : decode cX12_lay 20 = .ok (.i2b, 1) := by decide +kernel
theorem dX12_lay_21 : decode cX12_lay 21 = .ok (.bastore, 1) := by decide +kernel
theorem dX12_lay_22 : decode cX12_lay 22 = .ok (.aload_n 0, 1) := by decide +kernel
theorem dX12_lay_23 : decode cX12_lay 23 = .ok (.dup, 1) := by decide +kernel
theorem dX12_lay_24 : decode cX12_lay 24 = .ok (.getfield 244, 3) := by decide +kernel
theorem dX12_lay_27 : decode cX12_lay 27 = .ok (.iconst 1, 1) := by decide +kernel
theorem dX12_lay_28 : decode cX12_lay 28 = .ok (.iadd, 1) := by decide +kernel
theorem dX12_lay_29 : decode cX12_lay 29 = .ok (.putfield 244, 3) := by decide +kernel
theorem dX12_lay_32 : decode cX12_lay 32 = .ok (.iinc 2 (-1), 3) := by decide +kernel
theorem dX12_lay_35 : decode cX12_lay 35 = .ok (.goto (-33), 3) := by decide +kernel
theorem dX12_lay_38 : decode cX12_lay 38 = .ok (.return_, 1) := by decide +kernel
def j_X12_lay : JD := (yX12_lay, cX12_lay, 3, none)
def b_X12_lay : BD := (0, 0, 0)
theorem dX12_feed_0 : decode cX12_feed 0 = .ok (.aload_n 0, 1) := by decide +kernel
theorem dX12_feed_1 : decode cX12_feed 1 = .ok (.iconst 0, 1) := by decide +kernel
theorem dX12_feed_2 : decode cX12_feed 2 = .ok (.putfield 68, 3) := by decide +kernel
theorem dX12_feed_5 : decode cX12_feed 5 = .ok (.aload_n 0, 1) := by decide +kernel
theorem dX12_feed_6 : decode cX12_feed 6 = .ok (.getfield 244, 3) := by decide +kernel
theorem dX12_feed_9 : decode cX12_feed 9 = .ok (.bipush 20, 2) := by decide +kernel
theorem dX12_feed_11 : decode cX12_feed 11 = .ok (.iadd, 1) := by decide +kernel
theorem dX12_feed_12 : decode cX12_feed 12 = .ok (.sipush 900, 3) := by decide +kernel
theorem dX12_feed_15 : decode cX12_feed 15 = .ok (.if_icmp .le 5, 3) := by decide +kernel
theorem dX12_feed_18 : decode cX12_feed 18 = .ok (.iconst (-1), 1) := by decide +kernel
theorem dX12_feed_19 : decode cX12_feed 19 = .ok (.ireturn, 1) := by decide +kernel
theorem dX12_feed_20 : decode cX12_feed 20 = .ok (.aload_n 0, 1) := by decide +kernel
theorem dX12_feed_21 : decode cX12_feed 21 = .ok (.iload_n 1, 1) := by decide +kernel
theorem dX12_feed_22 : decode cX12_feed 22 = .ok (.invokevirtual 247, 3) := by decide +kernel
theorem dX12_feed_25 : decode cX12_feed 25 = .ok (.aload_n 0, 1) := by decide +kernel
theorem dX12_feed_26 : decode cX12_feed 26 = .ok (.iload_n 2, 1) := by decide +kernel
theorem dX12_feed_27 : decode cX12_feed 27 = .ok (.invokevirtual 247, 3) := by decide +kernel
theorem dX12_feed_30 : decode cX12_feed 30 = .ok (.aload_n 0, 1) := by decide +kernel
theorem dX12_feed_31 : decode cX12_feed 31 = .ok (.iload_n 3, 1) := by decide +kernel
theorem dX12_feed_32 : decode cX12_feed 32 = .ok (.invokevirtual 247, 3) := by decide +kernel
theorem dX12_feed_35 : decode cX12_feed 35 = .ok (.aload_n 0, 1) := by decide +kernel
theorem dX12_feed_36 : decode cX12_feed 36 = .ok (.iload 4, 2) := by decide +kernel
theorem dX12_feed_38 : decode cX12_feed 38 = .ok (.invokevirtual 247, 3) := by decide +kernel
theorem dX12_feed_41 : decode cX12_feed 41 = .ok (.aload_n 0, 1) := by decide +kernel
theorem dX12_feed_42 : decode cX12_feed 42 = .ok (.iload 5, 2) := by decide +kernel
theorem dX12_feed_44 : decode cX12_feed 44 = .ok (.invokevirtual 247, 3) := by decide +kernel
theorem dX12_feed_47 : decode cX12_feed 47 = .ok (.aload_n 0, 1) := by decide +kernel
theorem dX12_feed_48 : decode cX12_feed 48 = .ok (.getfield 244, 3) := by decide +kernel
theorem dX12_feed_51 : decode cX12_feed 51 = .ok (.ireturn, 1) := by decide +kernel
def j_X12_feed : JD := (yX12_feed, cX12_feed, 6, (some .int))
def b_X12_feed : BD := (1, 0, 0)
theorem dX12_starts_0 : decode cX12_starts 0 = .ok (.iload_n 1, 1) := by decide +kernel
theorem dX12_starts_1 : decode cX12_starts 1 = .ok (.ifCond .lt 16, 3) := by decide +kernel
theorem dX12_starts_4 : decode cX12_starts 4 = .ok (.iload_n 1, 1) := by decide +kernel
theorem dX12_starts_5 : decode cX12_starts 5 = .ok (.aload_n 0, 1) := by decide +kernel
theorem dX12_starts_6 : decode cX12_starts 6 = .ok (.getfield 244, 3) := by decide +kernel
theorem dX12_starts_9 : decode cX12_starts 9 = .ok (.if_icmp .gt 8, 3) := by decide +kernel
theorem dX12_starts_12 : decode cX12_starts 12 = .ok (.iload_n 1, 1) := by decide +kernel
theorem dX12_starts_13 : decode cX12_starts 13 = .ok (.iload_n 2, 1) := by decide +kernel
theorem dX12_starts_14 : decode cX12_starts 14 = .ok (.if_icmp .le 9, 3) := by decide +kernel
theorem dX12_starts_17 : decode cX12_starts 17 = .ok (.aload_n 0, 1) := by decide +kernel
theorem dX12_starts_18 : decode cX12_starts 18 = .ok (.iconst 5, 1) := by decide +kernel
theorem dX12_starts_19 : decode cX12_starts 19 = .ok (.invokevirtual 83, 3) := by decide +kernel
theorem dX12_starts_22 : decode cX12_starts 22 = .ok (.ireturn, 1) := by decide +kernel
theorem dX12_starts_23 : decode cX12_starts 23 = .ok (.aload_n 0, 1) := by decide +kernel
theorem dX12_starts_24 : decode cX12_starts 24 = .ok (.iload_n 1, 1) := by decide +kernel
theorem dX12_starts_25 : decode cX12_starts 25 = .ok (.putfield 111, 3) := by decide +kernel
theorem dX12_starts_28 : decode cX12_starts 28 = .ok (.aload_n 0, 1) := by decide +kernel
theorem dX12_starts_29 : decode cX12_starts 29 = .ok (.iconst 0, 1) := by decide +kernel
theorem dX12_starts_30 : decode cX12_starts 30 = .ok (.putfield 244, 3) := by decide +kernel
theorem dX12_starts_33 : decode cX12_starts 33 = .ok (.aload_n 0, 1) := by decide +kernel
theorem dX12_starts_34 : decode cX12_starts 34 = .ok (.iconst 0, 1) := by decide +kernel
theorem dX12_starts_35 : decode cX12_starts 35 = .ok (.putfield 114, 3) := by decide +kernel
theorem dX12_starts_38 : decode cX12_starts 38 = .ok (.aload_n 0, 1) := by decide +kernel
theorem dX12_starts_39 : decode cX12_starts 39 = .ok (.iconst 0, 1) := by decide +kernel
theorem dX12_starts_40 : decode cX12_starts 40 = .ok (.putfield 221, 3) := by decide +kernel
theorem dX12_starts_43 : decode cX12_starts 43 = .ok (.aload_n 0, 1) := by decide +kernel
theorem dX12_starts_44 : decode cX12_starts 44 = .ok (.invokevirtual 231, 3) := by decide +kernel
theorem dX12_starts_47 : decode cX12_starts 47 = .ok (.iconst 1, 1) := by decide +kernel
theorem dX12_starts_48 : decode cX12_starts 48 = .ok (.ireturn, 1) := by decide +kernel
def j_X12_starts : JD := (yX12_starts, cX12_starts, 3, (some .boolean))
def b_X12_starts : BD := (2, 0, 0)
theorem dX12_isWell_0 : decode cX12_isWell 0 = .ok (.aload_n 0, 1) := by decide +kernel
theorem dX12_isWell_1 : decode cX12_isWell 1 = .ok (.aload_n 0, 1) := by decide +kernel
theorem dX12_isWell_2 : decode cX12_isWell 2 = .ok (.getfield 221, 3) := by decide +kernel
theorem dX12_isWell_5 : decode cX12_isWell 5 = .ok (.putfield 28, 3) := by decide +kernel
theorem dX12_isWell_8 : decode cX12_isWell 8 = .ok (.aload_n 0, 1) := by decide +kernel
theorem dX12_isWell_9 : decode cX12_isWell 9 = .ok (.aload_n 0, 1) := by decide +kernel
theorem dX12_isWell_10 : decode cX12_isWell 10 = .ok (.getfield 221, 3) := by decide +kernel
theorem dX12_isWell_13 : decode cX12_isWell 13 = .ok (.ifCond .ne 7, 3) := by decide +kernel
theorem dX12_isWell_16 : decode cX12_isWell 16 = .ok (.iconst (-1), 1) := by decide +kernel
theorem dX12_isWell_17 : decode cX12_isWell 17 = .ok (.goto 7, 3) := by decide +kernel
theorem dX12_isWell_20 : decode cX12_isWell 20 = .ok (.aload_n 0, 1) := by decide +kernel
theorem dX12_isWell_21 : decode cX12_isWell 21 = .ok (.getfield 224, 3) := by decide +kernel
theorem dX12_isWell_24 : decode cX12_isWell 24 = .ok (.putfield 32, 3) := by decide +kernel
theorem dX12_isWell_27 : decode cX12_isWell 27 = .ok (.aload_n 0, 1) := by decide +kernel
theorem dX12_isWell_28 : decode cX12_isWell 28 = .ok (.getfield 221, 3) := by decide +kernel
theorem dX12_isWell_31 : decode cX12_isWell 31 = .ok (.ifCond .eq 12, 3) := by decide +kernel
theorem dX12_isWell_34 : decode cX12_isWell 34 = .ok (.aload_n 0, 1) := by decide +kernel
theorem dX12_isWell_35 : decode cX12_isWell 35 = .ok (.bipush 10, 2) := by decide +kernel
theorem dX12_isWell_37 : decode cX12_isWell 37 = .ok (.invokevirtual 83, 3) := by decide +kernel
theorem dX12_isWell_40 : decode cX12_isWell 40 = .ok (.ifCond .eq 7, 3) := by decide +kernel
theorem dX12_isWell_43 : decode cX12_isWell 43 = .ok (.iconst 1, 1) := by decide +kernel
theorem dX12_isWell_44 : decode cX12_isWell 44 = .ok (.goto 4, 3) := by decide +kernel
theorem dX12_isWell_47 : decode cX12_isWell 47 = .ok (.iconst 0, 1) := by decide +kernel
theorem dX12_isWell_48 : decode cX12_isWell 48 = .ok (.ireturn, 1) := by decide +kernel
def j_X12_isWell : JD := (yX12_isWell, cX12_isWell, 1, (some .boolean))
def b_X12_isWell : BD := (1, 0, 0)
theorem dX12_fault_0 : decode cX12_fault 0 = .ok (.aload_n 0, 1) := by decide +kernel
theorem dX12_fault_1 : decode cX12_fault 1 = .ok (.iconst 0, 1) := by decide +kernel
theorem dX12_fault_2 : decode cX12_fault 2 = .ok (.putfield 68, 3) := by decide +kernel
theorem dX12_fault_5 : decode cX12_fault 5 = .ok (.iload_n 1, 1) := by decide +kernel
theorem dX12_fault_6 : decode cX12_fault 6 = .ok (.ifCond .ne 10, 3) := by decide +kernel
theorem dX12_fault_9 : decode cX12_fault 9 = .ok (.aload_n 0, 1) := by decide +kernel
theorem dX12_fault_10 : decode cX12_fault 10 = .ok (.getfield 28, 3) := by decide +kernel
theorem dX12_fault_13 : decode cX12_fault 13 = .ok (.goto 16, 3) := by decide +kernel
theorem dX12_fault_16 : decode cX12_fault 16 = .ok (.iload_n 1, 1) := by decide +kernel
theorem dX12_fault_17 : decode cX12_fault 17 = .ok (.iconst 1, 1) := by decide +kernel
theorem dX12_fault_18 : decode cX12_fault 18 = .ok (.if_icmp .ne 10, 3) := by decide +kernel
theorem dX12_fault_21 : decode cX12_fault 21 = .ok (.aload_n 0, 1) := by decide +kernel
theorem dX12_fault_22 : decode cX12_fault 22 = .ok (.getfield 32, 3) := by decide +kernel
theorem dX12_fault_25 : decode cX12_fault 25 = .ok (.goto 4, 3) := by decide +kernel
theorem dX12_fault_28 : decode cX12_fault 28 = .ok (.iconst (-1), 1) := by decide +kernel
theorem dX12_fault_29 : decode cX12_fault 29 = .ok (.ireturn, 1) := by decide +kernel
def j_X12_fault : JD := (yX12_fault, cX12_fault, 2, (some .int))
def b_X12_fault : BD := (0, 0, 0)
theorem dX12_namedIn_0 : decode cX12_namedIn 0 = .ok (.iconst 0, 1) := by decide +kernel
theorem dX12_namedIn_1 : decode cX12_namedIn 1 = .ok (.istore 4, 2) := by decide +kernel
theorem dX12_namedIn_3 : decode cX12_namedIn 3 = .ok (.iload 4, 2) := by decide +kernel
theorem dX12_namedIn_5 : decode cX12_namedIn 5 = .ok (.iload_n 3, 1) := by decide +kernel
theorem dX12_namedIn_6 : decode cX12_namedIn 6 = .ok (.if_icmp .ge 34, 3) := by decide +kernel
theorem dX12_namedIn_9 : decode cX12_namedIn 9 = .ok (.aload_n 0, 1) := by decide +kernel
theorem dX12_namedIn_10 : decode cX12_namedIn 10 = .ok (.getfield 41, 3) := by decide +kernel
theorem dX12_namedIn_13 : decode cX12_namedIn 13 = .ok (.bipush 18, 2) := by decide +kernel
theorem dX12_namedIn_15 : decode cX12_namedIn 15 = .ok (.iload_n 1, 1) := by decide +kernel
theorem dX12_namedIn_16 : decode cX12_namedIn 16 = .ok (.imul, 1) := by decide +kernel
theorem dX12_namedIn_17 : decode cX12_namedIn 17 = .ok (.iload_n 2, 1) := by decide +kernel
theorem dX12_namedIn_18 : decode cX12_namedIn 18 = .ok (.iadd, 1) := by decide +kernel
theorem dX12_namedIn_19 : decode cX12_namedIn 19 = .ok (.iload 4, 2) := by decide +kernel
theorem dX12_namedIn_21 : decode cX12_namedIn 21 = .ok (.iadd, 1) := by decide +kernel
theorem dX12_namedIn_22 : decode cX12_namedIn 22 = .ok (.laload, 1) := by decide +kernel
theorem dX12_namedIn_23 : decode cX12_namedIn 23 = .ok (.aload_n 0, 1) := by decide +kernel
theorem dX12_namedIn_24 : decode cX12_namedIn 24 = .ok (.getfield 129, 3) := by decide +kernel
theorem dX12_namedIn_27 : decode cX12_namedIn 27 = .ok (.lcmp, 1) := by decide +kernel
theorem dX12_namedIn_28 : decode cX12_namedIn 28 = .ok (.ifCond .ne 6, 3) := by decide +kernel
theorem dX12_namedIn_31 : decode cX12_namedIn 31 = .ok (.iload 4, 2) := by decide +kernel
theorem dX12_namedIn_33 : decode cX12_namedIn 33 = .ok (.ireturn, 1) := by decide +kernel
theorem dX12_namedIn_34 : decode cX12_namedIn 34 = .ok (.iinc 4 1, 3) := by decide +kernel
theorem dX12_namedIn_37 : decode cX12_namedIn 37 = .ok (.goto (-34), 3) := by decide +kernel
theorem dX12_namedIn_40 : decode cX12_namedIn 40 = .ok (.iconst (-1), 1) := by decide +kernel
theorem dX12_namedIn_41 : decode cX12_namedIn 41 = .ok (.ireturn, 1) := by decide +kernel
def j_X12_namedIn : JD := (yX12_namedIn, cX12_namedIn, 5, (some .int))
def b_X12_namedIn : BD := (0, 0, 0)
theorem dX12_houseNamed_0 : decode cX12_houseNamed 0 = .ok (.aload_n 0, 1) := by decide +kernel
theorem dX12_houseNamed_1 : decode cX12_houseNamed 1 = .ok (.iload_n 1, 1) := by decide +kernel
theorem dX12_houseNamed_2 : decode cX12_houseNamed 2 = .ok (.iconst 0, 1) := by decide +kernel
theorem dX12_houseNamed_3 : decode cX12_houseNamed 3 = .ok (.aload_n 0, 1) := by decide +kernel
theorem dX12_houseNamed_4 : decode cX12_houseNamed 4 = .ok (.getfield 35, 3) := by decide +kernel
theorem dX12_houseNamed_7 : decode cX12_houseNamed 7 = .ok (.sipush 450, 3) := by decide +kernel
theorem dX12_houseNamed_10 : decode cX12_houseNamed 10 = .ok (.iload_n 1, 1) := by decide +kernel
theorem dX12_houseNamed_11 : decode cX12_houseNamed 11 = .ok (.imul, 1) := by decide +kernel
theorem dX12_houseNamed_12 : decode cX12_houseNamed 12 = .ok (.iaload, 1) := by decide +kernel
theorem dX12_houseNamed_13 : decode cX12_houseNamed 13 = .ok (.invokevirtual 251, 3) := by decide +kernel
theorem dX12_houseNamed_16 : decode cX12_houseNamed 16 = .ok (.ireturn, 1) := by decide +kernel
def j_X12_houseNamed : JD := (yX12_houseNamed, cX12_houseNamed, 2, (some .int))
def b_X12_houseNamed : BD := (1, 0, 0)
theorem dX12_gangNamed_0 : decode cX12_gangNamed 0 = .ok (.aload_n 0, 1) := by decide +kernel
theorem dX12_gangNamed_1 : decode cX12_gangNamed 1 = .ok (.iload_n 1, 1) := by decide +kernel
theorem dX12_gangNamed_2 : decode cX12_gangNamed 2 = .ok (.bipush 8, 2) := by decide +kernel
theorem dX12_gangNamed_4 : decode cX12_gangNamed 4 = .ok (.aload_n 0, 1) := by decide +kernel
theorem dX12_gangNamed_5 : decode cX12_gangNamed 5 = .ok (.getfield 35, 3) := by decide +kernel
theorem dX12_gangNamed_8 : decode cX12_gangNamed 8 = .ok (.sipush 450, 3) := by decide +kernel
theorem dX12_gangNamed_11 : decode cX12_gangNamed 11 = .ok (.iload_n 1, 1) := by decide +kernel
theorem dX12_gangNamed_12 : decode cX12_gangNamed 12 = .ok (.imul, 1) := by decide +kernel
theorem dX12_gangNamed_13 : decode cX12_gangNamed 13 = .ok (.iconst 1, 1) := by decide +kernel
theorem dX12_gangNamed_14 : decode cX12_gangNamed 14 = .ok (.iadd, 1) := by decide +kernel
theorem dX12_gangNamed_15 : decode cX12_gangNamed 15 = .ok (.iaload, 1) := by decide +kernel
theorem dX12_gangNamed_16 : decode cX12_gangNamed 16 = .ok (.invokevirtual 251, 3) := by decide +kernel
theorem dX12_gangNamed_19 : decode cX12_gangNamed 19 = .ok (.ireturn, 1) := by decide +kernel
def j_X12_gangNamed : JD := (yX12_gangNamed, cX12_gangNamed, 2, (some .int))
def b_X12_gangNamed : BD := (1, 0, 0)
theorem dX12_readNew_0 : decode cX12_readNew 0 = .ok (.aload_n 0, 1) := by decide +kernel
theorem dX12_readNew_1 : decode cX12_readNew 1 = .ok (.invokevirtual 231, 3) := by decide +kernel
theorem dX12_readNew_4 : decode cX12_readNew 4 = .ok (.aload_n 0, 1) := by decide +kernel
theorem dX12_readNew_5 : decode cX12_readNew 5 = .ok (.invokevirtual 255, 3) := by decide +kernel
theorem dX12_readNew_8 : decode cX12_readNew 8 = .ok (.ifCond .ne 7, 3) := by decide +kernel
theorem dX12_readNew_11 : decode cX12_readNew 11 = .ok (.aload_n 0, 1) := by decide +kernel
theorem dX12_readNew_12 : decode cX12_readNew 12 = .ok (.invokevirtual 234, 3) := by decide +kernel
theorem dX12_readNew_15 : decode cX12_readNew 15 = .ok (.aload_n 0, 1) := by decide +kernel
theorem dX12_readNew_16 : decode cX12_readNew 16 = .ok (.getfield 221, 3) := by decide +kernel
theorem dX12_readNew_19 : decode cX12_readNew 19 = .ok (.ifCond .ne 46, 3) := by decide +kernel
theorem dX12_readNew_22 : decode cX12_readNew 22 = .ok (.aload_n 0, 1) := by decide +kernel
theorem dX12_readNew_23 : decode cX12_readNew 23 = .ok (.iconst 4, 1) := by decide +kernel
theorem dX12_readNew_24 : decode cX12_readNew 24 = .ok (.invokevirtual 258, 3) := by decide +kernel
theorem dX12_readNew_27 : decode cX12_readNew 27 = .ok (.ifCond .ge 29, 3) := by decide +kernel
theorem dX12_readNew_30 : decode cX12_readNew 30 = .ok (.aload_n 0, 1) := by decide +kernel
theorem dX12_readNew_31 : decode cX12_readNew 31 = .ok (.iconst 4, 1) := by decide +kernel
theorem dX12_readNew_32 : decode cX12_readNew 32 = .ok (.invokevirtual 261, 3) := by decide +kernel
theorem dX12_readNew_35 : decode cX12_readNew 35 = .ok (.ifCond .ge 21, 3) := by decide +kernel
theorem dX12_readNew_38 : decode cX12_readNew 38 = .ok (.aload_n 0, 1) := by decide +kernel
theorem dX12_readNew_39 : decode cX12_readNew 39 = .ok (.iconst 4, 1) := by decide +kernel
theorem dX12_readNew_40 : decode cX12_readNew 40 = .ok (.bipush 12, 2) := by decide +kernel
theorem dX12_readNew_42 : decode cX12_readNew 42 = .ok (.aload_n 0, 1) := by decide +kernel
theorem dX12_readNew_43 : decode cX12_readNew 43 = .ok (.getfield 35, 3) := by decide +kernel
theorem dX12_readNew_46 : decode cX12_readNew 46 = .ok (.sipush 1802, 3) := by decide +kernel
theorem dX12_readNew_49 : decode cX12_readNew 49 = .ok (.iaload, 1) := by decide +kernel
theorem dX12_readNew_50 : decode cX12_readNew 50 = .ok (.invokevirtual 251, 3) := by decide +kernel
theorem dX12_readNew_53 : decode cX12_readNew 53 = .ok (.ifCond .lt 12, 3) := by decide +kernel
theorem dX12_readNew_56 : decode cX12_readNew 56 = .ok (.aload_n 0, 1) := by decide +kernel
theorem dX12_readNew_57 : decode cX12_readNew 57 = .ok (.iconst 3, 1) := by decide +kernel
theorem dX12_readNew_58 : decode cX12_readNew 58 = .ok (.aload_n 0, 1) := by decide +kernel
theorem dX12_readNew_59 : decode cX12_readNew 59 = .ok (.getfield 117, 3) := by decide +kernel
theorem dX12_readNew_62 : decode cX12_readNew 62 = .ok (.invokevirtual 227, 3) := by decide +kernel
theorem dX12_readNew_65 : decode cX12_readNew 65 = .ok (.aload_n 0, 1) := by decide +kernel
theorem dX12_readNew_66 : decode cX12_readNew 66 = .ok (.getfield 221, 3) := by decide +kernel
theorem dX12_readNew_69 : decode cX12_readNew 69 = .ok (.ifCond .le 4, 3) := by decide +kernel
theorem dX12_readNew_72 : decode cX12_readNew 72 = .ok (.return_, 1) := by decide +kernel
theorem dX12_readNew_73 : decode cX12_readNew 73 = .ok (.aload_n 0, 1) := by decide +kernel
theorem dX12_readNew_74 : decode cX12_readNew 74 = .ok (.getfield 41, 3) := by decide +kernel
theorem dX12_readNew_77 : decode cX12_readNew 77 = .ok (.bipush 72, 2) := by decide +kernel
theorem dX12_readNew_79 : decode cX12_readNew 79 = .ok (.iload_n 1, 1) := by decide +kernel
theorem dX12_readNew_80 : decode cX12_readNew 80 = .ok (.iadd, 1) := by decide +kernel
theorem dX12_readNew_81 : decode cX12_readNew 81 = .ok (.aload_n 0, 1) := by decide +kernel
theorem dX12_readNew_82 : decode cX12_readNew 82 = .ok (.getfield 129, 3) := by decide +kernel
theorem dX12_readNew_85 : decode cX12_readNew 85 = .ok (.lastore, 1) := by decide +kernel
theorem dX12_readNew_86 : decode cX12_readNew 86 = .ok (.aload_n 0, 1) := by decide +kernel
theorem dX12_readNew_87 : decode cX12_readNew 87 = .ok (.invokevirtual 231, 3) := by decide +kernel
theorem dX12_readNew_90 : decode cX12_readNew 90 = .ok (.return_, 1) := by decide +kernel
def j_X12_readNew : JD := (yX12_readNew, cX12_readNew, 2, none)
def b_X12_readNew : BD := (5, 0, 0)
theorem dX12_told_0 : decode cX12_told 0 = .ok (.aload_n 0, 1) := by decide +kernel
theorem dX12_told_1 : decode cX12_told 1 = .ok (.getfield 221, 3) := by decide +kernel
theorem dX12_told_4 : decode cX12_told 4 = .ok (.ifCond .ne 14, 3) := by decide +kernel
theorem dX12_told_7 : decode cX12_told 7 = .ok (.aload_n 0, 1) := by decide +kernel
theorem dX12_told_8 : decode cX12_told 8 = .ok (.invokevirtual 255, 3) := by decide +kernel
theorem dX12_told_11 : decode cX12_told 11 = .ok (.ifCond .ne 7, 3) := by decide +kernel
theorem dX12_told_14 : decode cX12_told 14 = .ok (.aload_n 0, 1) := by decide +kernel
theorem dX12_told_15 : decode cX12_told 15 = .ok (.invokevirtual 234, 3) := by decide +kernel
theorem dX12_told_18 : decode cX12_told 18 = .ok (.aload_n 0, 1) := by decide +kernel
theorem dX12_told_19 : decode cX12_told 19 = .ok (.getfield 221, 3) := by decide +kernel
theorem dX12_told_22 : decode cX12_told 22 = .ok (.ifCond .le 5, 3) := by decide +kernel
theorem dX12_told_25 : decode cX12_told 25 = .ok (.iconst 0, 1) := by decide +kernel
theorem dX12_told_26 : decode cX12_told 26 = .ok (.ireturn, 1) := by decide +kernel
theorem dX12_told_27 : decode cX12_told 27 = .ok (.iload_n 2, 1) := by decide +kernel
theorem dX12_told_28 : decode cX12_told 28 = .ok (.ifCond .eq 11, 3) := by decide +kernel
theorem dX12_told_31 : decode cX12_told 31 = .ok (.aload_n 0, 1) := by decide +kernel
theorem dX12_told_32 : decode cX12_told 32 = .ok (.iload_n 1, 1) := by decide +kernel
theorem dX12_told_33 : decode cX12_told 33 = .ok (.invokevirtual 261, 3) := by decide +kernel
theorem dX12_told_36 : decode cX12_told 36 = .ok (.goto 8, 3) := by decide +kernel
theorem dX12_told_39 : decode cX12_told 39 = .ok (.aload_n 0, 1) := by decide +kernel
theorem dX12_told_40 : decode cX12_told 40 = .ok (.iload_n 1, 1) := by decide +kernel
theorem dX12_told_41 : decode cX12_told 41 = .ok (.invokevirtual 258, 3) := by decide +kernel
theorem dX12_told_44 : decode cX12_told 44 = .ok (.istore_n 3, 1) := by decide +kernel
theorem dX12_told_45 : decode cX12_told 45 = .ok (.iload_n 3, 1) := by decide +kernel
theorem dX12_told_46 : decode cX12_told 46 = .ok (.ifCond .ge 12, 3) := by decide +kernel
theorem dX12_told_49 : decode cX12_told 49 = .ok (.aload_n 0, 1) := by decide +kernel
theorem dX12_told_50 : decode cX12_told 50 = .ok (.iconst 3, 1) := by decide +kernel
theorem dX12_told_51 : decode cX12_told 51 = .ok (.aload_n 0, 1) := by decide +kernel
theorem dX12_told_52 : decode cX12_told 52 = .ok (.getfield 117, 3) := by decide +kernel
theorem dX12_told_55 : decode cX12_told 55 = .ok (.invokevirtual 227, 3) := by decide +kernel
theorem dX12_told_58 : decode cX12_told 58 = .ok (.iconst 0, 1) := by decide +kernel
theorem dX12_told_59 : decode cX12_told 59 = .ok (.iload_n 3, 1) := by decide +kernel
theorem dX12_told_60 : decode cX12_told 60 = .ok (.invokestatic 264, 3) := by decide +kernel
theorem dX12_told_63 : decode cX12_told 63 = .ok (.ireturn, 1) := by decide +kernel
def j_X12_told : JD := (yX12_told, cX12_told, 4, (some .int))
def b_X12_told : BD := (5, 0, 0)
theorem dX12_readTold_0 : decode cX12_readTold 0 = .ok (.aload_n 0, 1) := by decide +kernel
theorem dX12_readTold_1 : decode cX12_readTold 1 = .ok (.iload_n 1, 1) := by decide +kernel
theorem dX12_readTold_2 : decode cX12_readTold 2 = .ok (.iload_n 2, 1) := by decide +kernel
theorem dX12_readTold_3 : decode cX12_readTold 3 = .ok (.invokevirtual 267, 3) := by decide +kernel
theorem dX12_readTold_6 : decode cX12_readTold 6 = .ok (.istore_n 3, 1) := by decide +kernel
theorem dX12_readTold_7 : decode cX12_readTold 7 = .ok (.aload_n 0, 1) := by decide +kernel
theorem dX12_readTold_8 : decode cX12_readTold 8 = .ok (.iconst 1, 1) := by decide +kernel
theorem dX12_readTold_9 : decode cX12_readTold 9 = .ok (.invokevirtual 237, 3) := by decide +kernel
theorem dX12_readTold_12 : decode cX12_readTold 12 = .ok (.iload_n 3, 1) := by decide +kernel
theorem dX12_readTold_13 : decode cX12_readTold 13 = .ok (.ireturn, 1) := by decide +kernel
def j_X12_readTold : JD := (yX12_readTold, cX12_readTold, 4, (some .int))
def b_X12_readTold : BD := (6, 0, 0)
theorem dX12_readHouse_0 : decode cX12_readHouse 0 = .ok (.aload_n 0, 1) := by decide +kernel
theorem dX12_readHouse_1 : decode cX12_readHouse 1 = .ok (.getfield 35, 3) := by decide +kernel
theorem dX12_readHouse_4 : decode cX12_readHouse 4 = .ok (.sipush 1800, 3) := by decide +kernel
theorem dX12_readHouse_7 : decode cX12_readHouse 7 = .ok (.iaload, 1) := by decide +kernel
theorem dX12_readHouse_8 : decode cX12_readHouse 8 = .ok (.istore_n 1, 1) := by decide +kernel
theorem dX12_readHouse_9 : decode cX12_readHouse 9 = .ok (.iload_n 1, 1) := by decide +kernel
theorem dX12_readHouse_10 : decode cX12_readHouse 10 = .ok (.bipush 8, 2) := by decide +kernel
theorem dX12_readHouse_12 : decode cX12_readHouse 12 = .ok (.if_icmp .ne 13, 3) := by decide +kernel
theorem dX12_readHouse_15 : decode cX12_readHouse 15 = .ok (.aload_n 0, 1) := by decide +kernel
theorem dX12_readHouse_16 : decode cX12_readHouse 16 = .ok (.bipush 6, 2) := by decide +kernel
theorem dX12_readHouse_18 : decode cX12_readHouse 18 = .ok (.aload_n 0, 1) := by decide +kernel
theorem dX12_readHouse_19 : decode cX12_readHouse 19 = .ok (.getfield 117, 3) := by decide +kernel
theorem dX12_readHouse_22 : decode cX12_readHouse 22 = .ok (.invokevirtual 227, 3) := by decide +kernel
theorem dX12_readHouse_25 : decode cX12_readHouse 25 = .ok (.aload_n 0, 1) := by decide +kernel
theorem dX12_readHouse_26 : decode cX12_readHouse 26 = .ok (.getfield 221, 3) := by decide +kernel
theorem dX12_readHouse_29 : decode cX12_readHouse 29 = .ok (.ifCond .le 4, 3) := by decide +kernel
theorem dX12_readHouse_32 : decode cX12_readHouse 32 = .ok (.return_, 1) := by decide +kernel
theorem dX12_readHouse_33 : decode cX12_readHouse 33 = .ok (.aload_n 0, 1) := by decide +kernel
theorem dX12_readHouse_34 : decode cX12_readHouse 34 = .ok (.iload_n 1, 1) := by decide +kernel
theorem dX12_readHouse_35 : decode cX12_readHouse 35 = .ok (.invokevirtual 271, 3) := by decide +kernel
theorem dX12_readHouse_38 : decode cX12_readHouse 38 = .ok (.aload_n 0, 1) := by decide +kernel
theorem dX12_readHouse_39 : decode cX12_readHouse 39 = .ok (.getfield 35, 3) := by decide +kernel
theorem dX12_readHouse_42 : decode cX12_readHouse 42 = .ok (.sipush 1805, 3) := by decide +kernel
theorem dX12_readHouse_45 : decode cX12_readHouse 45 = .ok (.iload_n 1, 1) := by decide +kernel
theorem dX12_readHouse_46 : decode cX12_readHouse 46 = .ok (.iadd, 1) := by decide +kernel
theorem dX12_readHouse_47 : decode cX12_readHouse 47 = .ok (.aload_n 0, 1) := by decide +kernel
theorem dX12_readHouse_48 : decode cX12_readHouse 48 = .ok (.aload_n 0, 1) := by decide +kernel
theorem dX12_readHouse_49 : decode cX12_readHouse 49 = .ok (.invokevirtual 163, 3) := by decide +kernel
theorem dX12_readHouse_52 : decode cX12_readHouse 52 = .ok (.iconst 0, 1) := by decide +kernel
theorem dX12_readHouse_53 : decode cX12_readHouse 53 = .ok (.bipush 60, 2) := by decide +kernel
theorem dX12_readHouse_55 : decode cX12_readHouse 55 = .ok (.invokevirtual 274, 3) := by decide +kernel
theorem dX12_readHouse_58 : decode cX12_readHouse 58 = .ok (.iastore, 1) := by decide +kernel
theorem dX12_readHouse_59 : decode cX12_readHouse 59 = .ok (.aload_n 0, 1) := by decide +kernel
theorem dX12_readHouse_60 : decode cX12_readHouse 60 = .ok (.getfield 35, 3) := by decide +kernel
theorem dX12_readHouse_63 : decode cX12_readHouse 63 = .ok (.sipush 1813, 3) := by decide +kernel
theorem dX12_readHouse_66 : decode cX12_readHouse 66 = .ok (.iload_n 1, 1) := by decide +kernel
theorem dX12_readHouse_67 : decode cX12_readHouse 67 = .ok (.iadd, 1) := by decide +kernel
theorem dX12_readHouse_68 : decode cX12_readHouse 68 = .ok (.aload_n 0, 1) := by decide +kernel
theorem dX12_readHouse_69 : decode cX12_readHouse 69 = .ok (.aload_n 0, 1) := by decide +kernel
theorem dX12_readHouse_70 : decode cX12_readHouse 70 = .ok (.invokevirtual 156, 3) := by decide +kernel
theorem dX12_readHouse_73 : decode cX12_readHouse 73 = .ok (.iconst 0, 1) := by decide +kernel
theorem dX12_readHouse_74 : decode cX12_readHouse 74 = .ok (.sipush 999, 3) := by decide +kernel
theorem dX12_readHouse_77 : decode cX12_readHouse 77 = .ok (.invokevirtual 274, 3) := by decide +kernel
theorem dX12_readHouse_80 : decode cX12_readHouse 80 = .ok (.iastore, 1) := by decide +kernel
theorem dX12_readHouse_81 : decode cX12_readHouse 81 = .ok (.aload_n 0, 1) := by decide +kernel
theorem dX12_readHouse_82 : decode cX12_readHouse 82 = .ok (.getfield 35, 3) := by decide +kernel
theorem dX12_readHouse_85 : decode cX12_readHouse 85 = .ok (.sipush 1821, 3) := by decide +kernel
theorem dX12_readHouse_88 : decode cX12_readHouse 88 = .ok (.iload_n 1, 1) := by decide +kernel
theorem dX12_readHouse_89 : decode cX12_readHouse 89 = .ok (.iadd, 1) := by decide +kernel
theorem dX12_readHouse_90 : decode cX12_readHouse 90 = .ok (.aload_n 0, 1) := by decide +kernel
theorem dX12_readHouse_91 : decode cX12_readHouse 91 = .ok (.aload_n 0, 1) := by decide +kernel
theorem dX12_readHouse_92 : decode cX12_readHouse 92 = .ok (.invokevirtual 166, 3) := by decide +kernel
theorem dX12_readHouse_95 : decode cX12_readHouse 95 = .ok (.iconst 1, 1) := by decide +kernel
theorem dX12_readHouse_96 : decode cX12_readHouse 96 = .ok (.bipush 9, 2) := by decide +kernel
theorem dX12_readHouse_98 : decode cX12_readHouse 98 = .ok (.invokevirtual 274, 3) := by decide +kernel
theorem dX12_readHouse_101 : decode cX12_readHouse 101 = .ok (.iastore, 1) := by decide +kernel
theorem dX12_readHouse_102 : decode cX12_readHouse 102 = .ok (.aload_n 0, 1) := by decide +kernel
theorem dX12_readHouse_103 : decode cX12_readHouse 103 = .ok (.getfield 35, 3) := by decide +kernel
theorem dX12_readHouse_106 : decode cX12_readHouse 106 = .ok (.sipush 1829, 3) := by decide +kernel
theorem dX12_readHouse_109 : decode cX12_readHouse 109 = .ok (.iload_n 1, 1) := by decide +kernel
theorem dX12_readHouse_110 : decode cX12_readHouse 110 = .ok (.iadd, 1) := by decide +kernel
theorem dX12_readHouse_111 : decode cX12_readHouse 111 = .ok (.aload_n 0, 1) := by decide +kernel
theorem dX12_readHouse_112 : decode cX12_readHouse 112 = .ok (.aload_n 0, 1) := by decide +kernel
theorem dX12_readHouse_113 : decode cX12_readHouse 113 = .ok (.invokevirtual 169, 3) := by decide +kernel
theorem dX12_readHouse_116 : decode cX12_readHouse 116 = .ok (.iconst 1, 1) := by decide +kernel
theorem dX12_readHouse_117 : decode cX12_readHouse 117 = .ok (.bipush 20, 2) := by decide +kernel
theorem dX12_readHouse_119 : decode cX12_readHouse 119 = .ok (.invokevirtual 274, 3) := by decide +kernel
theorem dX12_readHouse_122 : decode cX12_readHouse 122 = .ok (.iastore, 1) := by decide +kernel
theorem dX12_readHouse_123 : decode cX12_readHouse 123 = .ok (.aload_n 0, 1) := by decide +kernel
theorem dX12_readHouse_124 : decode cX12_readHouse 124 = .ok (.getfield 35, 3) := by decide +kernel
theorem dX12_readHouse_127 : decode cX12_readHouse 127 = .ok (.sipush 1837, 3) := by decide +kernel
theorem dX12_readHouse_130 : decode cX12_readHouse 130 = .ok (.iload_n 1, 1) := by decide +kernel
theorem dX12_readHouse_131 : decode cX12_readHouse 131 = .ok (.iadd, 1) := by decide +kernel
theorem dX12_readHouse_132 : decode cX12_readHouse 132 = .ok (.aload_n 0, 1) := by decide +kernel
theorem dX12_readHouse_133 : decode cX12_readHouse 133 = .ok (.getfield 221, 3) := by decide +kernel
theorem dX12_readHouse_136 : decode cX12_readHouse 136 = .ok (.ifCond .ne 21, 3) := by decide +kernel
theorem dX12_readHouse_139 : decode cX12_readHouse 139 = .ok (.aload_n 0, 1) := by decide +kernel
theorem dX12_readHouse_140 : decode cX12_readHouse 140 = .ok (.invokevirtual 172, 3) := by decide +kernel
theorem dX12_readHouse_143 : decode cX12_readHouse 143 = .ok (.ifCond .eq 14, 3) := by decide +kernel
theorem dX12_readHouse_146 : decode cX12_readHouse 146 = .ok (.aload_n 0, 1) := by decide +kernel
theorem dX12_readHouse_147 : decode cX12_readHouse 147 = .ok (.iconst 1, 1) := by decide +kernel
theorem dX12_readHouse_148 : decode cX12_readHouse 148 = .ok (.iconst 1, 1) := by decide +kernel
theorem dX12_readHouse_149 : decode cX12_readHouse 149 = .ok (.bipush 20, 2) := by decide +kernel
theorem dX12_readHouse_151 : decode cX12_readHouse 151 = .ok (.invokevirtual 274, 3) := by decide +kernel
theorem dX12_readHouse_154 : decode cX12_readHouse 154 = .ok (.goto 4, 3) := by decide +kernel
theorem dX12_readHouse_157 : decode cX12_readHouse 157 = .ok (.iconst 4, 1) := by decide +kernel
theorem dX12_readHouse_158 : decode cX12_readHouse 158 = .ok (.iastore, 1) := by decide +kernel
theorem dX12_readHouse_159 : decode cX12_readHouse 159 = .ok (.aload_n 0, 1) := by decide +kernel
theorem dX12_readHouse_160 : decode cX12_readHouse 160 = .ok (.getfield 35, 3) := by decide +kernel
theorem dX12_readHouse_163 : decode cX12_readHouse 163 = .ok (.sipush 1845, 3) := by decide +kernel
theorem dX12_readHouse_166 : decode cX12_readHouse 166 = .ok (.iload_n 1, 1) := by decide +kernel
theorem dX12_readHouse_167 : decode cX12_readHouse 167 = .ok (.iadd, 1) := by decide +kernel
theorem dX12_readHouse_168 : decode cX12_readHouse 168 = .ok (.aload_n 0, 1) := by decide +kernel
theorem dX12_readHouse_169 : decode cX12_readHouse 169 = .ok (.getfield 221, 3) := by decide +kernel
theorem dX12_readHouse_172 : decode cX12_readHouse 172 = .ok (.ifCond .ne 21, 3) := by decide +kernel
theorem dX12_readHouse_175 : decode cX12_readHouse 175 = .ok (.aload_n 0, 1) := by decide +kernel
theorem dX12_readHouse_176 : decode cX12_readHouse 176 = .ok (.invokevirtual 175, 3) := by decide +kernel
theorem dX12_readHouse_179 : decode cX12_readHouse 179 = .ok (.ifCond .eq 14, 3) := by decide +kernel
theorem dX12_readHouse_182 : decode cX12_readHouse 182 = .ok (.aload_n 0, 1) := by decide +kernel
theorem dX12_readHouse_183 : decode cX12_readHouse 183 = .ok (.iconst 1, 1) := by decide +kernel
theorem dX12_readHouse_184 : decode cX12_readHouse 184 = .ok (.iconst 0, 1) := by decide +kernel
theorem dX12_readHouse_185 : decode cX12_readHouse 185 = .ok (.bipush 9, 2) := by decide +kernel
theorem dX12_readHouse_187 : decode cX12_readHouse 187 = .ok (.invokevirtual 274, 3) := by decide +kernel
theorem dX12_readHouse_190 : decode cX12_readHouse 190 = .ok (.goto 4, 3) := by decide +kernel
theorem dX12_readHouse_193 : decode cX12_readHouse 193 = .ok (.iconst 0, 1) := by decide +kernel
theorem dX12_readHouse_194 : decode cX12_readHouse 194 = .ok (.iastore, 1) := by decide +kernel
theorem dX12_readHouse_195 : decode cX12_readHouse 195 = .ok (.aload_n 0, 1) := by decide +kernel
theorem dX12_readHouse_196 : decode cX12_readHouse 196 = .ok (.getfield 221, 3) := by decide +kernel
theorem dX12_readHouse_199 : decode cX12_readHouse 199 = .ok (.ifCond .le 4, 3) := by decide +kernel
theorem dX12_readHouse_202 : decode cX12_readHouse 202 = .ok (.return_, 1) := by decide +kernel
theorem dX12_readHouse_203 : decode cX12_readHouse 203 = .ok (.aload_n 0, 1) := by decide +kernel
theorem dX12_readHouse_204 : decode cX12_readHouse 204 = .ok (.getfield 35, 3) := by decide +kernel
theorem dX12_readHouse_207 : decode cX12_readHouse 207 = .ok (.sipush 1853, 3) := by decide +kernel
theorem dX12_readHouse_210 : decode cX12_readHouse 210 = .ok (.iload_n 1, 1) := by decide +kernel
theorem dX12_readHouse_211 : decode cX12_readHouse 211 = .ok (.iadd, 1) := by decide +kernel
theorem dX12_readHouse_212 : decode cX12_readHouse 212 = .ok (.aload_n 0, 1) := by decide +kernel
theorem dX12_readHouse_213 : decode cX12_readHouse 213 = .ok (.getfield 35, 3) := by decide +kernel
theorem dX12_readHouse_216 : decode cX12_readHouse 216 = .ok (.sipush 1821, 3) := by decide +kernel
theorem dX12_readHouse_219 : decode cX12_readHouse 219 = .ok (.iload_n 1, 1) := by decide +kernel
theorem dX12_readHouse_220 : decode cX12_readHouse 220 = .ok (.iadd, 1) := by decide +kernel
theorem dX12_readHouse_221 : decode cX12_readHouse 221 = .ok (.iaload, 1) := by decide +kernel
theorem dX12_readHouse_222 : decode cX12_readHouse 222 = .ok (.iastore, 1) := by decide +kernel
theorem dX12_readHouse_223 : decode cX12_readHouse 223 = .ok (.aload_n 0, 1) := by decide +kernel
theorem dX12_readHouse_224 : decode cX12_readHouse 224 = .ok (.getfield 35, 3) := by decide +kernel
theorem dX12_readHouse_227 : decode cX12_readHouse 227 = .ok (.sipush 1861, 3) := by decide +kernel
theorem dX12_readHouse_230 : decode cX12_readHouse 230 = .ok (.iload_n 1, 1) := by decide +kernel
theorem dX12_readHouse_231 : decode cX12_readHouse 231 = .ok (.iadd, 1) := by decide +kernel
theorem dX12_readHouse_232 : decode cX12_readHouse 232 = .ok (.iconst 1, 1) := by decide +kernel
theorem dX12_readHouse_233 : decode cX12_readHouse 233 = .ok (.iastore, 1) := by decide +kernel
theorem dX12_readHouse_234 : decode cX12_readHouse 234 = .ok (.aload_n 0, 1) := by decide +kernel
theorem dX12_readHouse_235 : decode cX12_readHouse 235 = .ok (.getfield 35, 3) := by decide +kernel
theorem dX12_readHouse_238 : decode cX12_readHouse 238 = .ok (.sipush 1800, 3) := by decide +kernel
theorem dX12_readHouse_241 : decode cX12_readHouse 241 = .ok (.dup2, 1) := by decide +kernel
theorem dX12_readHouse_242 : decode cX12_readHouse 242 = .ok (.iaload, 1) := by decide +kernel
theorem dX12_readHouse_243 : decode cX12_readHouse 243 = .ok (.iconst 1, 1) := by decide +kernel
theorem dX12_readHouse_244 : decode cX12_readHouse 244 = .ok (.iadd, 1) := by decide +kernel
theorem dX12_readHouse_245 : decode cX12_readHouse 245 = .ok (.iastore, 1) := by decide +kernel
theorem dX12_readHouse_246 : decode cX12_readHouse 246 = .ok (.return_, 1) := by decide +kernel
def j_X12_readHouse : JD := (yX12_readHouse, cX12_readHouse, 2, none)
def b_X12_readHouse : BD := (6, 0, 0)
theorem dX12_readGang_0 : decode cX12_readGang 0 = .ok (.aload_n 0, 1) := by decide +kernel
theorem dX12_readGang_1 : decode cX12_readGang 1 = .ok (.getfield 35, 3) := by decide +kernel
theorem dX12_readGang_4 : decode cX12_readGang 4 = .ok (.sipush 1801, 3) := by decide +kernel
theorem dX12_readGang_7 : decode cX12_readGang 7 = .ok (.iaload, 1) := by decide +kernel
theorem dX12_readGang_8 : decode cX12_readGang 8 = .ok (.istore_n 1, 1) := by decide +kernel
theorem dX12_readGang_9 : decode cX12_readGang 9 = .ok (.iload_n 1, 1) := by decide +kernel
theorem dX12_readGang_10 : decode cX12_readGang 10 = .ok (.iconst 4, 1) := by decide +kernel
theorem dX12_readGang_11 : decode cX12_readGang 11 = .ok (.if_icmp .ne 13, 3) := by decide +kernel
theorem dX12_readGang_14 : decode cX12_readGang 14 = .ok (.aload_n 0, 1) := by decide +kernel
theorem dX12_readGang_15 : decode cX12_readGang 15 = .ok (.bipush 6, 2) := by decide +kernel
theorem dX12_readGang_17 : decode cX12_readGang 17 = .ok (.aload_n 0, 1) := by decide +kernel
theorem dX12_readGang_18 : decode cX12_readGang 18 = .ok (.getfield 117, 3) := by decide +kernel
theorem dX12_readGang_21 : decode cX12_readGang 21 = .ok (.invokevirtual 227, 3) := by decide +kernel
theorem dX12_readGang_24 : decode cX12_readGang 24 = .ok (.aload_n 0, 1) := by decide +kernel
theorem dX12_readGang_25 : decode cX12_readGang 25 = .ok (.getfield 221, 3) := by decide +kernel
theorem dX12_readGang_28 : decode cX12_readGang 28 = .ok (.ifCond .le 4, 3) := by decide +kernel
theorem dX12_readGang_31 : decode cX12_readGang 31 = .ok (.return_, 1) := by decide +kernel
theorem dX12_readGang_32 : decode cX12_readGang 32 = .ok (.aload_n 0, 1) := by decide +kernel
theorem dX12_readGang_33 : decode cX12_readGang 33 = .ok (.bipush 8, 2) := by decide +kernel
theorem dX12_readGang_35 : decode cX12_readGang 35 = .ok (.iload_n 1, 1) := by decide +kernel
theorem dX12_readGang_36 : decode cX12_readGang 36 = .ok (.iadd, 1) := by decide +kernel
theorem dX12_readGang_37 : decode cX12_readGang 37 = .ok (.invokevirtual 271, 3) := by decide +kernel
theorem dX12_readGang_40 : decode cX12_readGang 40 = .ok (.aload_n 0, 1) := by decide +kernel
theorem dX12_readGang_41 : decode cX12_readGang 41 = .ok (.aload_n 0, 1) := by decide +kernel
theorem dX12_readGang_42 : decode cX12_readGang 42 = .ok (.invokevirtual 196, 3) := by decide +kernel
theorem dX12_readGang_45 : decode cX12_readGang 45 = .ok (.invokevirtual 237, 3) := by decide +kernel
theorem dX12_readGang_48 : decode cX12_readGang 48 = .ok (.aload_n 0, 1) := by decide +kernel
theorem dX12_readGang_49 : decode cX12_readGang 49 = .ok (.iconst 4, 1) := by decide +kernel
theorem dX12_readGang_50 : decode cX12_readGang 50 = .ok (.iconst 0, 1) := by decide +kernel
theorem dX12_readGang_51 : decode cX12_readGang 51 = .ok (.invokevirtual 278, 3) := by decide +kernel
theorem dX12_readGang_54 : decode cX12_readGang 54 = .ok (.istore_n 2, 1) := by decide +kernel
theorem dX12_readGang_55 : decode cX12_readGang 55 = .ok (.aload_n 0, 1) := by decide +kernel
theorem dX12_readGang_56 : decode cX12_readGang 56 = .ok (.getfield 35, 3) := by decide +kernel
theorem dX12_readGang_59 : decode cX12_readGang 59 = .ok (.sipush 1937, 3) := by decide +kernel
theorem dX12_readGang_62 : decode cX12_readGang 62 = .ok (.iload_n 1, 1) := by decide +kernel
theorem dX12_readGang_63 : decode cX12_readGang 63 = .ok (.iadd, 1) := by decide +kernel
theorem dX12_readGang_64 : decode cX12_readGang 64 = .ok (.aload_n 0, 1) := by decide +kernel
theorem dX12_readGang_65 : decode cX12_readGang 65 = .ok (.aload_n 0, 1) := by decide +kernel
theorem dX12_readGang_66 : decode cX12_readGang 66 = .ok (.invokevirtual 181, 3) := by decide +kernel
theorem dX12_readGang_69 : decode cX12_readGang 69 = .ok (.iconst 1, 1) := by decide +kernel
theorem dX12_readGang_70 : decode cX12_readGang 70 = .ok (.bipush 40, 2) := by decide +kernel
theorem dX12_readGang_72 : decode cX12_readGang 72 = .ok (.invokevirtual 274, 3) := by decide +kernel
theorem dX12_readGang_75 : decode cX12_readGang 75 = .ok (.iastore, 1) := by decide +kernel
theorem dX12_readGang_76 : decode cX12_readGang 76 = .ok (.aload_n 0, 1) := by decide +kernel
theorem dX12_readGang_77 : decode cX12_readGang 77 = .ok (.getfield 35, 3) := by decide +kernel
theorem dX12_readGang_80 : decode cX12_readGang 80 = .ok (.sipush 1941, 3) := by decide +kernel
theorem dX12_readGang_83 : decode cX12_readGang 83 = .ok (.iload_n 1, 1) := by decide +kernel
theorem dX12_readGang_84 : decode cX12_readGang 84 = .ok (.iadd, 1) := by decide +kernel
theorem dX12_readGang_85 : decode cX12_readGang 85 = .ok (.aload_n 0, 1) := by decide +kernel
theorem dX12_readGang_86 : decode cX12_readGang 86 = .ok (.getfield 221, 3) := by decide +kernel
theorem dX12_readGang_89 : decode cX12_readGang 89 = .ok (.ifCond .ne 21, 3) := by decide +kernel
theorem dX12_readGang_92 : decode cX12_readGang 92 = .ok (.aload_n 0, 1) := by decide +kernel
theorem dX12_readGang_93 : decode cX12_readGang 93 = .ok (.invokevirtual 184, 3) := by decide +kernel
theorem dX12_readGang_96 : decode cX12_readGang 96 = .ok (.ifCond .eq 14, 3) := by decide +kernel
theorem dX12_readGang_99 : decode cX12_readGang 99 = .ok (.aload_n 0, 1) := by decide +kernel
theorem dX12_readGang_100 : decode cX12_readGang 100 = .ok (.iconst 1, 1) := by decide +kernel
theorem dX12_readGang_101 : decode cX12_readGang 101 = .ok (.iconst 0, 1) := by decide +kernel
theorem dX12_readGang_102 : decode cX12_readGang 102 = .ok (.bipush 9, 2) := by decide +kernel
theorem dX12_readGang_104 : decode cX12_readGang 104 = .ok (.invokevirtual 274, 3) := by decide +kernel
theorem dX12_readGang_107 : decode cX12_readGang 107 = .ok (.goto 4, 3) := by decide +kernel
theorem dX12_readGang_110 : decode cX12_readGang 110 = .ok (.iconst 1, 1) := by decide +kernel
theorem dX12_readGang_111 : decode cX12_readGang 111 = .ok (.iastore, 1) := by decide +kernel
theorem dX12_readGang_112 : decode cX12_readGang 112 = .ok (.aload_n 0, 1) := by decide +kernel
theorem dX12_readGang_113 : decode cX12_readGang 113 = .ok (.getfield 221, 3) := by decide +kernel
theorem dX12_readGang_116 : decode cX12_readGang 116 = .ok (.ifCond .le 4, 3) := by decide +kernel
theorem dX12_readGang_119 : decode cX12_readGang 119 = .ok (.return_, 1) := by decide +kernel
theorem dX12_readGang_120 : decode cX12_readGang 120 = .ok (.aload_n 0, 1) := by decide +kernel
theorem dX12_readGang_121 : decode cX12_readGang 121 = .ok (.getfield 35, 3) := by decide +kernel
theorem dX12_readGang_124 : decode cX12_readGang 124 = .ok (.sipush 1933, 3) := by decide +kernel
theorem dX12_readGang_127 : decode cX12_readGang 127 = .ok (.iload_n 1, 1) := by decide +kernel
theorem dX12_readGang_128 : decode cX12_readGang 128 = .ok (.iadd, 1) := by decide +kernel
theorem dX12_readGang_129 : decode cX12_readGang 129 = .ok (.iload_n 2, 1) := by decide +kernel
theorem dX12_readGang_130 : decode cX12_readGang 130 = .ok (.iastore, 1) := by decide +kernel
theorem dX12_readGang_131 : decode cX12_readGang 131 = .ok (.aload_n 0, 1) := by decide +kernel
theorem dX12_readGang_132 : decode cX12_readGang 132 = .ok (.getfield 35, 3) := by decide +kernel
theorem dX12_readGang_135 : decode cX12_readGang 135 = .ok (.sipush 1945, 3) := by decide +kernel
theorem dX12_readGang_138 : decode cX12_readGang 138 = .ok (.iload_n 1, 1) := by decide +kernel
theorem dX12_readGang_139 : decode cX12_readGang 139 = .ok (.iadd, 1) := by decide +kernel
theorem dX12_readGang_140 : decode cX12_readGang 140 = .ok (.aload_n 0, 1) := by decide +kernel
theorem dX12_readGang_141 : decode cX12_readGang 141 = .ok (.getfield 35, 3) := by decide +kernel
theorem dX12_readGang_144 : decode cX12_readGang 144 = .ok (.sipush 1805, 3) := by decide +kernel
theorem dX12_readGang_147 : decode cX12_readGang 147 = .ok (.iload_n 2, 1) := by decide +kernel
theorem dX12_readGang_148 : decode cX12_readGang 148 = .ok (.iadd, 1) := by decide +kernel
theorem dX12_readGang_149 : decode cX12_readGang 149 = .ok (.iaload, 1) := by decide +kernel
theorem dX12_readGang_150 : decode cX12_readGang 150 = .ok (.iastore, 1) := by decide +kernel
theorem dX12_readGang_151 : decode cX12_readGang 151 = .ok (.aload_n 0, 1) := by decide +kernel
theorem dX12_readGang_152 : decode cX12_readGang 152 = .ok (.getfield 35, 3) := by decide +kernel
theorem dX12_readGang_155 : decode cX12_readGang 155 = .ok (.sipush 1949, 3) := by decide +kernel
theorem dX12_readGang_158 : decode cX12_readGang 158 = .ok (.iload_n 1, 1) := by decide +kernel
theorem dX12_readGang_159 : decode cX12_readGang 159 = .ok (.iadd, 1) := by decide +kernel
theorem dX12_readGang_160 : decode cX12_readGang 160 = .ok (.iconst (-1), 1) := by decide +kernel
theorem dX12_readGang_161 : decode cX12_readGang 161 = .ok (.iastore, 1) := by decide +kernel
theorem dX12_readGang_162 : decode cX12_readGang 162 = .ok (.aload_n 0, 1) := by decide +kernel
theorem dX12_readGang_163 : decode cX12_readGang 163 = .ok (.getfield 35, 3) := by decide +kernel
theorem dX12_readGang_166 : decode cX12_readGang 166 = .ok (.sipush 1801, 3) := by decide +kernel
theorem dX12_readGang_169 : decode cX12_readGang 169 = .ok (.dup2, 1) := by decide +kernel
theorem dX12_readGang_170 : decode cX12_readGang 170 = .ok (.iaload, 1) := by decide +kernel
theorem dX12_readGang_171 : decode cX12_readGang 171 = .ok (.iconst 1, 1) := by decide +kernel
theorem dX12_readGang_172 : decode cX12_readGang 172 = .ok (.iadd, 1) := by decide +kernel
theorem dX12_readGang_173 : decode cX12_readGang 173 = .ok (.iastore, 1) := by decide +kernel
theorem dX12_readGang_174 : decode cX12_readGang 174 = .ok (.return_, 1) := by decide +kernel
def j_X12_readGang : JD := (yX12_readGang, cX12_readGang, 3, none)
def b_X12_readGang : BD := (7, 0, 0)
theorem dX12_readHelped_0 : decode cX12_readHelped 0 = .ok (.aload_n 0, 1) := by decide +kernel
theorem dX12_readHelped_1 : decode cX12_readHelped 1 = .ok (.invokevirtual 231, 3) := by decide +kernel
theorem dX12_readHelped_4 : decode cX12_readHelped 4 = .ok (.aload_n 0, 1) := by decide +kernel
theorem dX12_readHelped_5 : decode cX12_readHelped 5 = .ok (.iconst 4, 1) := by decide +kernel
theorem dX12_readHelped_6 : decode cX12_readHelped 6 = .ok (.iconst 0, 1) := by decide +kernel
theorem dX12_readHelped_7 : decode cX12_readHelped 7 = .ok (.invokevirtual 278, 3) := by decide +kernel
theorem dX12_readHelped_10 : decode cX12_readHelped 10 = .ok (.istore_n 1, 1) := by decide +kernel
theorem dX12_readHelped_11 : decode cX12_readHelped 11 = .ok (.aload_n 0, 1) := by decide +kernel
theorem dX12_readHelped_12 : decode cX12_readHelped 12 = .ok (.aload_n 0, 1) := by decide +kernel
theorem dX12_readHelped_13 : decode cX12_readHelped 13 = .ok (.invokevirtual 190, 3) := by decide +kernel
theorem dX12_readHelped_16 : decode cX12_readHelped 16 = .ok (.invokevirtual 237, 3) := by decide +kernel
theorem dX12_readHelped_19 : decode cX12_readHelped 19 = .ok (.aload_n 0, 1) := by decide +kernel
theorem dX12_readHelped_20 : decode cX12_readHelped 20 = .ok (.iconst 4, 1) := by decide +kernel
theorem dX12_readHelped_21 : decode cX12_readHelped 21 = .ok (.iconst 0, 1) := by decide +kernel
theorem dX12_readHelped_22 : decode cX12_readHelped 22 = .ok (.invokevirtual 267, 3) := by decide +kernel
theorem dX12_readHelped_25 : decode cX12_readHelped 25 = .ok (.istore_n 2, 1) := by decide +kernel
theorem dX12_readHelped_26 : decode cX12_readHelped 26 = .ok (.aload_n 0, 1) := by decide +kernel
theorem dX12_readHelped_27 : decode cX12_readHelped 27 = .ok (.getfield 221, 3) := by decide +kernel
theorem dX12_readHelped_30 : decode cX12_readHelped 30 = .ok (.ifCond .ne 17, 3) := by decide +kernel
theorem dX12_readHelped_33 : decode cX12_readHelped 33 = .ok (.iload_n 2, 1) := by decide +kernel
theorem dX12_readHelped_34 : decode cX12_readHelped 34 = .ok (.iload_n 1, 1) := by decide +kernel
theorem dX12_readHelped_35 : decode cX12_readHelped 35 = .ok (.if_icmp .ne 12, 3) := by decide +kernel
theorem dX12_readHelped_38 : decode cX12_readHelped 38 = .ok (.aload_n 0, 1) := by decide +kernel
theorem dX12_readHelped_39 : decode cX12_readHelped 39 = .ok (.iconst 5, 1) := by decide +kernel
theorem dX12_readHelped_40 : decode cX12_readHelped 40 = .ok (.aload_n 0, 1) := by decide +kernel
theorem dX12_readHelped_41 : decode cX12_readHelped 41 = .ok (.getfield 117, 3) := by decide +kernel
theorem dX12_readHelped_44 : decode cX12_readHelped 44 = .ok (.invokevirtual 227, 3) := by decide +kernel
theorem dX12_readHelped_47 : decode cX12_readHelped 47 = .ok (.aload_n 0, 1) := by decide +kernel
theorem dX12_readHelped_48 : decode cX12_readHelped 48 = .ok (.iconst 1, 1) := by decide +kernel
theorem dX12_readHelped_49 : decode cX12_readHelped 49 = .ok (.invokevirtual 237, 3) := by decide +kernel
theorem dX12_readHelped_52 : decode cX12_readHelped 52 = .ok (.aload_n 0, 1) := by decide +kernel
theorem dX12_readHelped_53 : decode cX12_readHelped 53 = .ok (.iconst 0, 1) := by decide +kernel
theorem dX12_readHelped_54 : decode cX12_readHelped 54 = .ok (.bipush 99, 2) := by decide +kernel
theorem dX12_readHelped_56 : decode cX12_readHelped 56 = .ok (.invokevirtual 241, 3) := by decide +kernel
theorem dX12_readHelped_59 : decode cX12_readHelped 59 = .ok (.istore_n 3, 1) := by decide +kernel
theorem dX12_readHelped_60 : decode cX12_readHelped 60 = .ok (.aload_n 0, 1) := by decide +kernel
theorem dX12_readHelped_61 : decode cX12_readHelped 61 = .ok (.getfield 221, 3) := by decide +kernel
theorem dX12_readHelped_64 : decode cX12_readHelped 64 = .ok (.ifCond .ne 19, 3) := by decide +kernel
theorem dX12_readHelped_67 : decode cX12_readHelped 67 = .ok (.aload_n 0, 1) := by decide +kernel
theorem dX12_readHelped_68 : decode cX12_readHelped 68 = .ok (.getfield 35, 3) := by decide +kernel
theorem dX12_readHelped_71 : decode cX12_readHelped 71 = .ok (.sipush 1869, 3) := by decide +kernel
theorem dX12_readHelped_74 : decode cX12_readHelped 74 = .ok (.bipush 8, 2) := by decide +kernel
theorem dX12_readHelped_76 : decode cX12_readHelped 76 = .ok (.iload_n 1, 1) := by decide +kernel
theorem dX12_readHelped_77 : decode cX12_readHelped 77 = .ok (.imul, 1) := by decide +kernel
theorem dX12_readHelped_78 : decode cX12_readHelped 78 = .ok (.iadd, 1) := by decide +kernel
theorem dX12_readHelped_79 : decode cX12_readHelped 79 = .ok (.iload_n 2, 1) := by decide +kernel
theorem dX12_readHelped_80 : decode cX12_readHelped 80 = .ok (.iadd, 1) := by decide +kernel
theorem dX12_readHelped_81 : decode cX12_readHelped 81 = .ok (.iload_n 3, 1) := by decide +kernel
theorem dX12_readHelped_82 : decode cX12_readHelped 82 = .ok (.iastore, 1) := by decide +kernel
theorem dX12_readHelped_83 : decode cX12_readHelped 83 = .ok (.return_, 1) := by decide +kernel
def j_X12_readHelped : JD := (yX12_readHelped, cX12_readHelped, 4, none)
def b_X12_readHelped : BD := (7, 0, 0)
theorem dX12_readWind_0 : decode cX12_readWind 0 = .ok (.aload_n 0, 1) := by decide +kernel
theorem dX12_readWind_1 : decode cX12_readWind 1 = .ok (.getfield 35, 3) := by decide +kernel
theorem dX12_readWind_4 : decode cX12_readWind 4 = .ok (.sipush 1802, 3) := by decide +kernel
theorem dX12_readWind_7 : decode cX12_readWind 7 = .ok (.iaload, 1) := by decide +kernel
theorem dX12_readWind_8 : decode cX12_readWind 8 = .ok (.istore_n 1, 1) := by decide +kernel
theorem dX12_readWind_9 : decode cX12_readWind 9 = .ok (.iload_n 1, 1) := by decide +kernel
theorem dX12_readWind_10 : decode cX12_readWind 10 = .ok (.bipush 6, 2) := by decide +kernel
theorem dX12_readWind_12 : decode cX12_readWind 12 = .ok (.if_icmp .ne 13, 3) := by decide +kernel
theorem dX12_readWind_15 : decode cX12_readWind 15 = .ok (.aload_n 0, 1) := by decide +kernel
theorem dX12_readWind_16 : decode cX12_readWind 16 = .ok (.bipush 6, 2) := by decide +kernel
theorem dX12_readWind_18 : decode cX12_readWind 18 = .ok (.aload_n 0, 1) := by decide +kernel
theorem dX12_readWind_19 : decode cX12_readWind 19 = .ok (.getfield 117, 3) := by decide +kernel
theorem dX12_readWind_22 : decode cX12_readWind 22 = .ok (.invokevirtual 227, 3) := by decide +kernel
theorem dX12_readWind_25 : decode cX12_readWind 25 = .ok (.aload_n 0, 1) := by decide +kernel
theorem dX12_readWind_26 : decode cX12_readWind 26 = .ok (.getfield 221, 3) := by decide +kernel
theorem dX12_readWind_29 : decode cX12_readWind 29 = .ok (.ifCond .le 4, 3) := by decide +kernel
theorem dX12_readWind_32 : decode cX12_readWind 32 = .ok (.return_, 1) := by decide +kernel
theorem dX12_readWind_33 : decode cX12_readWind 33 = .ok (.aload_n 0, 1) := by decide +kernel
theorem dX12_readWind_34 : decode cX12_readWind 34 = .ok (.bipush 12, 2) := by decide +kernel
theorem dX12_readWind_36 : decode cX12_readWind 36 = .ok (.iload_n 1, 1) := by decide +kernel
theorem dX12_readWind_37 : decode cX12_readWind 37 = .ok (.iadd, 1) := by decide +kernel
theorem dX12_readWind_38 : decode cX12_readWind 38 = .ok (.invokevirtual 271, 3) := by decide +kernel
theorem dX12_readWind_41 : decode cX12_readWind 41 = .ok (.aload_n 0, 1) := by decide +kernel
theorem dX12_readWind_42 : decode cX12_readWind 42 = .ok (.getfield 35, 3) := by decide +kernel
theorem dX12_readWind_45 : decode cX12_readWind 45 = .ok (.sipush 1961, 3) := by decide +kernel
theorem dX12_readWind_48 : decode cX12_readWind 48 = .ok (.iload_n 1, 1) := by decide +kernel
theorem dX12_readWind_49 : decode cX12_readWind 49 = .ok (.iadd, 1) := by decide +kernel
theorem dX12_readWind_50 : decode cX12_readWind 50 = .ok (.aload_n 0, 1) := by decide +kernel
theorem dX12_readWind_51 : decode cX12_readWind 51 = .ok (.iconst 0, 1) := by decide +kernel
theorem dX12_readWind_52 : decode cX12_readWind 52 = .ok (.bipush 99, 2) := by decide +kernel
theorem dX12_readWind_54 : decode cX12_readWind 54 = .ok (.invokevirtual 241, 3) := by decide +kernel
theorem dX12_readWind_57 : decode cX12_readWind 57 = .ok (.iastore, 1) := by decide +kernel
theorem dX12_readWind_58 : decode cX12_readWind 58 = .ok (.aload_n 0, 1) := by decide +kernel
theorem dX12_readWind_59 : decode cX12_readWind 59 = .ok (.getfield 35, 3) := by decide +kernel
theorem dX12_readWind_62 : decode cX12_readWind 62 = .ok (.sipush 1967, 3) := by decide +kernel
theorem dX12_readWind_65 : decode cX12_readWind 65 = .ok (.iload_n 1, 1) := by decide +kernel
theorem dX12_readWind_66 : decode cX12_readWind 66 = .ok (.iadd, 1) := by decide +kernel
theorem dX12_readWind_67 : decode cX12_readWind 67 = .ok (.aload_n 0, 1) := by decide +kernel
theorem dX12_readWind_68 : decode cX12_readWind 68 = .ok (.aload_n 0, 1) := by decide +kernel
theorem dX12_readWind_69 : decode cX12_readWind 69 = .ok (.invokevirtual 196, 3) := by decide +kernel
theorem dX12_readWind_72 : decode cX12_readWind 72 = .ok (.iconst 1, 1) := by decide +kernel
theorem dX12_readWind_73 : decode cX12_readWind 73 = .ok (.bipush 99, 2) := by decide +kernel
theorem dX12_readWind_75 : decode cX12_readWind 75 = .ok (.invokevirtual 274, 3) := by decide +kernel
theorem dX12_readWind_78 : decode cX12_readWind 78 = .ok (.iastore, 1) := by decide +kernel
theorem dX12_readWind_79 : decode cX12_readWind 79 = .ok (.aload_n 0, 1) := by decide +kernel
theorem dX12_readWind_80 : decode cX12_readWind 80 = .ok (.getfield 221, 3) := by decide +kernel
theorem dX12_readWind_83 : decode cX12_readWind 83 = .ok (.ifCond .ne 15, 3) := by decide +kernel
theorem dX12_readWind_86 : decode cX12_readWind 86 = .ok (.aload_n 0, 1) := by decide +kernel
theorem dX12_readWind_87 : decode cX12_readWind 87 = .ok (.getfield 35, 3) := by decide +kernel
theorem dX12_readWind_90 : decode cX12_readWind 90 = .ok (.sipush 1802, 3) := by decide +kernel
theorem dX12_readWind_93 : decode cX12_readWind 93 = .ok (.dup2, 1) := by decide +kernel
theorem dX12_readWind_94 : decode cX12_readWind 94 = .ok (.iaload, 1) := by decide +kernel
theorem dX12_readWind_95 : decode cX12_readWind 95 = .ok (.iconst 1, 1) := by decide +kernel
theorem dX12_readWind_96 : decode cX12_readWind 96 = .ok (.iadd, 1) := by decide +kernel
theorem dX12_readWind_97 : decode cX12_readWind 97 = .ok (.iastore, 1) := by decide +kernel
theorem dX12_readWind_98 : decode cX12_readWind 98 = .ok (.return_, 1) := by decide +kernel
def j_X12_readWind : JD := (yX12_readWind, cX12_readWind, 2, none)
def b_X12_readWind : BD := (6, 0, 0)
theorem dX12_readLaw_0 : decode cX12_readLaw 0 = .ok (.aload_n 0, 1) := by decide +kernel
theorem dX12_readLaw_1 : decode cX12_readLaw 1 = .ok (.getfield 281, 3) := by decide +kernel
theorem dX12_readLaw_4 : decode cX12_readLaw 4 = .ok (.ifCond .eq 12, 3) := by decide +kernel
theorem dX12_readLaw_7 : decode cX12_readLaw 7 = .ok (.aload_n 0, 1) := by decide +kernel
theorem dX12_readLaw_8 : decode cX12_readLaw 8 = .ok (.iconst 5, 1) := by decide +kernel
theorem dX12_readLaw_9 : decode cX12_readLaw 9 = .ok (.aload_n 0, 1) := by decide +kernel
theorem dX12_readLaw_10 : decode cX12_readLaw 10 = .ok (.getfield 117, 3) := by decide +kernel
theorem dX12_readLaw_13 : decode cX12_readLaw 13 = .ok (.invokevirtual 227, 3) := by decide +kernel
theorem dX12_readLaw_16 : decode cX12_readLaw 16 = .ok (.aload_n 0, 1) := by decide +kernel
theorem dX12_readLaw_17 : decode cX12_readLaw 17 = .ok (.getfield 221, 3) := by decide +kernel
theorem dX12_readLaw_20 : decode cX12_readLaw 20 = .ok (.ifCond .le 4, 3) := by decide +kernel
theorem dX12_readLaw_23 : decode cX12_readLaw 23 = .ok (.return_, 1) := by decide +kernel
theorem dX12_readLaw_24 : decode cX12_readLaw 24 = .ok (.aload_n 0, 1) := by decide +kernel
theorem dX12_readLaw_25 : decode cX12_readLaw 25 = .ok (.iconst 1, 1) := by decide +kernel
theorem dX12_readLaw_26 : decode cX12_readLaw 26 = .ok (.putfield 281, 3) := by decide +kernel
theorem dX12_readLaw_29 : decode cX12_readLaw 29 = .ok (.aload_n 0, 1) := by decide +kernel
theorem dX12_readLaw_30 : decode cX12_readLaw 30 = .ok (.invokevirtual 231, 3) := by decide +kernel
theorem dX12_readLaw_33 : decode cX12_readLaw 33 = .ok (.aload_n 0, 1) := by decide +kernel
theorem dX12_readLaw_34 : decode cX12_readLaw 34 = .ok (.getfield 35, 3) := by decide +kernel
theorem dX12_readLaw_37 : decode cX12_readLaw 37 = .ok (.sipush 1803, 3) := by decide +kernel
theorem dX12_readLaw_40 : decode cX12_readLaw 40 = .ok (.iconst 0, 1) := by decide +kernel
theorem dX12_readLaw_41 : decode cX12_readLaw 41 = .ok (.aload_n 0, 1) := by decide +kernel
theorem dX12_readLaw_42 : decode cX12_readLaw 42 = .ok (.invokevirtual 205, 3) := by decide +kernel
theorem dX12_readLaw_45 : decode cX12_readLaw 45 = .ok (.invokestatic 264, 3) := by decide +kernel
theorem dX12_readLaw_48 : decode cX12_readLaw 48 = .ok (.iastore, 1) := by decide +kernel
theorem dX12_readLaw_49 : decode cX12_readLaw 49 = .ok (.aload_n 0, 1) := by decide +kernel
theorem dX12_readLaw_50 : decode cX12_readLaw 50 = .ok (.aload_n 0, 1) := by decide +kernel
theorem dX12_readLaw_51 : decode cX12_readLaw 51 = .ok (.invokevirtual 205, 3) := by decide +kernel
theorem dX12_readLaw_54 : decode cX12_readLaw 54 = .ok (.ifCond .lt 7, 3) := by decide +kernel
theorem dX12_readLaw_57 : decode cX12_readLaw 57 = .ok (.iconst 1, 1) := by decide +kernel
theorem dX12_readLaw_58 : decode cX12_readLaw 58 = .ok (.goto 4, 3) := by decide +kernel
theorem dX12_readLaw_61 : decode cX12_readLaw 61 = .ok (.iconst 0, 1) := by decide +kernel
theorem dX12_readLaw_62 : decode cX12_readLaw 62 = .ok (.invokevirtual 237, 3) := by decide +kernel
theorem dX12_readLaw_65 : decode cX12_readLaw 65 = .ok (.return_, 1) := by decide +kernel
def j_X12_readLaw : JD := (yX12_readLaw, cX12_readLaw, 1, none)
def b_X12_readLaw : BD := (3, 0, 0)
theorem dX12_copy_0 : decode cX12_copy 0 = .ok (.iconst 0, 1) := by decide +kernel
theorem dX12_copy_1 : decode cX12_copy 1 = .ok (.istore_n 3, 1) := by decide +kernel
theorem dX12_copy_2 : decode cX12_copy 2 = .ok (.iload_n 3, 1) := by decide +kernel
theorem dX12_copy_3 : decode cX12_copy 3 = .ok (.sipush 450, 3) := by decide +kernel
theorem dX12_copy_6 : decode cX12_copy 6 = .ok (.if_icmp .ge 33, 3) := by decide +kernel
theorem dX12_copy_9 : decode cX12_copy 9 = .ok (.aload_n 0, 1) := by decide +kernel
theorem dX12_copy_10 : decode cX12_copy 10 = .ok (.getfield 35, 3) := by decide +kernel
theorem dX12_copy_13 : decode cX12_copy 13 = .ok (.sipush 450, 3) := by decide +kernel
theorem dX12_copy_16 : decode cX12_copy 16 = .ok (.iload_n 2, 1) := by decide +kernel
theorem dX12_copy_17 : decode cX12_copy 17 = .ok (.imul, 1) := by decide +kernel
theorem dX12_copy_18 : decode cX12_copy 18 = .ok (.iload_n 3, 1) := by decide +kernel
theorem dX12_copy_19 : decode cX12_copy 19 = .ok (.iadd, 1) := by decide +kernel
theorem dX12_copy_20 : decode cX12_copy 20 = .ok (.aload_n 0, 1) := by decide +kernel
theorem dX12_copy_21 : decode cX12_copy 21 = .ok (.getfield 35, 3) := by decide +kernel
theorem dX12_copy_24 : decode cX12_copy 24 = .ok (.sipush 450, 3) := by decide +kernel
theorem dX12_copy_27 : decode cX12_copy 27 = .ok (.iload_n 1, 1) := by decide +kernel
theorem dX12_copy_28 : decode cX12_copy 28 = .ok (.imul, 1) := by decide +kernel
theorem dX12_copy_29 : decode cX12_copy 29 = .ok (.iload_n 3, 1) := by decide +kernel
theorem dX12_copy_30 : decode cX12_copy 30 = .ok (.iadd, 1) := by decide +kernel
theorem dX12_copy_31 : decode cX12_copy 31 = .ok (.iaload, 1) := by decide +kernel
theorem dX12_copy_32 : decode cX12_copy 32 = .ok (.iastore, 1) := by decide +kernel
theorem dX12_copy_33 : decode cX12_copy 33 = .ok (.iinc 3 1, 3) := by decide +kernel
theorem dX12_copy_36 : decode cX12_copy 36 = .ok (.goto (-34), 3) := by decide +kernel
theorem dX12_copy_39 : decode cX12_copy 39 = .ok (.iconst 0, 1) := by decide +kernel
theorem dX12_copy_40 : decode cX12_copy 40 = .ok (.istore_n 3, 1) := by decide +kernel
theorem dX12_copy_41 : decode cX12_copy 41 = .ok (.iload_n 3, 1) := by decide +kernel
theorem dX12_copy_42 : decode cX12_copy 42 = .ok (.bipush 18, 2) := by decide +kernel
theorem dX12_copy_44 : decode cX12_copy 44 = .ok (.if_icmp .ge 31, 3) := by decide +kernel
theorem dX12_copy_47 : decode cX12_copy 47 = .ok (.aload_n 0, 1) := by decide +kernel
theorem dX12_copy_48 : decode cX12_copy 48 = .ok (.getfield 41, 3) := by decide +kernel
theorem dX12_copy_51 : decode cX12_copy 51 = .ok (.bipush 18, 2) := by decide +kernel
theorem dX12_copy_53 : decode cX12_copy 53 = .ok (.iload_n 2, 1) := by decide +kernel
theorem dX12_copy_54 : decode cX12_copy 54 = .ok (.imul, 1) := by decide +kernel
theorem dX12_copy_55 : decode cX12_copy 55 = .ok (.iload_n 3, 1) := by decide +kernel
theorem dX12_copy_56 : decode cX12_copy 56 = .ok (.iadd, 1) := by decide +kernel
theorem dX12_copy_57 : decode cX12_copy 57 = .ok (.aload_n 0, 1) := by decide +kernel
theorem dX12_copy_58 : decode cX12_copy 58 = .ok (.getfield 41, 3) := by decide +kernel
theorem dX12_copy_61 : decode cX12_copy 61 = .ok (.bipush 18, 2) := by decide +kernel
theorem dX12_copy_63 : decode cX12_copy 63 = .ok (.iload_n 1, 1) := by decide +kernel
theorem dX12_copy_64 : decode cX12_copy 64 = .ok (.imul, 1) := by decide +kernel
theorem dX12_copy_65 : decode cX12_copy 65 = .ok (.iload_n 3, 1) := by decide +kernel
theorem dX12_copy_66 : decode cX12_copy 66 = .ok (.iadd, 1) := by decide +kernel
theorem dX12_copy_67 : decode cX12_copy 67 = .ok (.laload, 1) := by decide +kernel
theorem dX12_copy_68 : decode cX12_copy 68 = .ok (.lastore, 1) := by decide +kernel
theorem dX12_copy_69 : decode cX12_copy 69 = .ok (.iinc 3 1, 3) := by decide +kernel
theorem dX12_copy_72 : decode cX12_copy 72 = .ok (.goto (-31), 3) := by decide +kernel
theorem dX12_copy_75 : decode cX12_copy 75 = .ok (.return_, 1) := by decide +kernel
def j_X12_copy : JD := (yX12_copy, cX12_copy, 4, none)
def b_X12_copy : BD := (0, 0, 0)
theorem dX12_shore_0 : decode cX12_shore 0 = .ok (.aload_n 0, 1) := by decide +kernel
theorem dX12_shore_1 : decode cX12_shore 1 = .ok (.iconst 0, 1) := by decide +kernel
theorem dX12_shore_2 : decode cX12_shore 2 = .ok (.putfield 68, 3) := by decide +kernel
theorem dX12_shore_5 : decode cX12_shore 5 = .ok (.aload_n 0, 1) := by decide +kernel
theorem dX12_shore_6 : decode cX12_shore 6 = .ok (.iconst 0, 1) := by decide +kernel
theorem dX12_shore_7 : decode cX12_shore 7 = .ok (.putfield 71, 3) := by decide +kernel
theorem dX12_shore_10 : decode cX12_shore 10 = .ok (.aload_n 0, 1) := by decide +kernel
theorem dX12_shore_11 : decode cX12_shore 11 = .ok (.iload_n 1, 1) := by decide +kernel
theorem dX12_shore_12 : decode cX12_shore 12 = .ok (.sipush 900, 3) := by decide +kernel
theorem dX12_shore_15 : decode cX12_shore 15 = .ok (.invokevirtual 285, 3) := by decide +kernel
theorem dX12_shore_18 : decode cX12_shore 18 = .ok (.ifCond .ne 5, 3) := by decide +kernel
theorem dX12_shore_21 : decode cX12_shore 21 = .ok (.iconst (-1), 1) := by decide +kernel
theorem dX12_shore_22 : decode cX12_shore 22 = .ok (.ireturn, 1) := by decide +kernel
theorem dX12_shore_23 : decode cX12_shore 23 = .ok (.iconst 0, 1) := by decide +kernel
theorem dX12_shore_24 : decode cX12_shore 24 = .ok (.istore_n 2, 1) := by decide +kernel
theorem dX12_shore_25 : decode cX12_shore 25 = .ok (.iload_n 2, 1) := by decide +kernel
theorem dX12_shore_26 : decode cX12_shore 26 = .ok (.sipush 450, 3) := by decide +kernel
theorem dX12_shore_29 : decode cX12_shore 29 = .ok (.if_icmp .ge 20, 3) := by decide +kernel
theorem dX12_shore_32 : decode cX12_shore 32 = .ok (.aload_n 0, 1) := by decide +kernel
theorem dX12_shore_33 : decode cX12_shore 33 = .ok (.getfield 35, 3) := by decide +kernel
theorem dX12_shore_36 : decode cX12_shore 36 = .ok (.sipush 1800, 3) := by decide +kernel
theorem dX12_shore_39 : decode cX12_shore 39 = .ok (.iload_n 2, 1) := by decide +kernel
theorem dX12_shore_40 : decode cX12_shore 40 = .ok (.iadd, 1) := by decide +kernel
theorem dX12_shore_41 : decode cX12_shore 41 = .ok (.iconst 0, 1) := by decide +kernel
theorem dX12_shore_42 : decode cX12_shore 42 = .ok (.iastore, 1) := by decide +kernel
theorem dX12_shore_43 : decode cX12_shore 43 = .ok (.iinc 2 1, 3) := by decide +kernel
theorem dX12_shore_46 : decode cX12_shore 46 = .ok (.goto (-21), 3) := by decide +kernel
theorem dX12_shore_49 : decode cX12_shore 49 = .ok (.aload_n 0, 1) := by decide +kernel
theorem dX12_shore_50 : decode cX12_shore 50 = .ok (.getfield 35, 3) := by decide +kernel
theorem dX12_shore_53 : decode cX12_shore 53 = .ok (.sipush 1803, 3) := by decide +kernel
theorem dX12_shore_56 : decode cX12_shore 56 = .ok (.iconst 3, 1) := by decide +kernel
theorem dX12_shore_57 : decode cX12_shore 57 = .ok (.iastore, 1) := by decide +kernel
theorem dX12_shore_58 : decode cX12_shore 58 = .ok (.aload_n 0, 1) := by decide +kernel
theorem dX12_shore_59 : decode cX12_shore 59 = .ok (.iconst 0, 1) := by decide +kernel
theorem dX12_shore_60 : decode cX12_shore 60 = .ok (.putfield 281, 3) := by decide +kernel
theorem dX12_shore_63 : decode cX12_shore 63 = .ok (.aload_n 0, 1) := by decide +kernel
theorem dX12_shore_64 : decode cX12_shore 64 = .ok (.getfield 221, 3) := by decide +kernel
theorem dX12_shore_67 : decode cX12_shore 67 = .ok (.ifCond .ne 97, 3) := by decide +kernel
theorem dX12_shore_70 : decode cX12_shore 70 = .ok (.aload_n 0, 1) := by decide +kernel
theorem dX12_shore_71 : decode cX12_shore 71 = .ok (.getfield 123, 3) := by decide +kernel
theorem dX12_shore_74 : decode cX12_shore 74 = .ok (.ifCond .eq 90, 3) := by decide +kernel
theorem dX12_shore_77 : decode cX12_shore 77 = .ok (.aload_n 0, 1) := by decide +kernel
theorem dX12_shore_78 : decode cX12_shore 78 = .ok (.invokevirtual 160, 3) := by decide +kernel
theorem dX12_shore_81 : decode cX12_shore 81 = .ok (.ifCond .eq 10, 3) := by decide +kernel
theorem dX12_shore_84 : decode cX12_shore 84 = .ok (.aload_n 0, 1) := by decide +kernel
theorem dX12_shore_85 : decode cX12_shore 85 = .ok (.invokevirtual 288, 3) := by decide +kernel
theorem dX12_shore_88 : decode cX12_shore 88 = .ok (.goto 63, 3) := by decide +kernel
theorem dX12_shore_91 : decode cX12_shore 91 = .ok (.aload_n 0, 1) := by decide +kernel
theorem dX12_shore_92 : decode cX12_shore 92 = .ok (.invokevirtual 178, 3) := by decide +kernel
theorem dX12_shore_95 : decode cX12_shore 95 = .ok (.ifCond .eq 10, 3) := by decide +kernel
theorem dX12_shore_98 : decode cX12_shore 98 = .ok (.aload_n 0, 1) := by decide +kernel
theorem dX12_shore_99 : decode cX12_shore 99 = .ok (.invokevirtual 291, 3) := by decide +kernel
theorem dX12_shore_102 : decode cX12_shore 102 = .ok (.goto 49, 3) := by decide +kernel
theorem dX12_shore_105 : decode cX12_shore 105 = .ok (.aload_n 0, 1) := by decide +kernel
theorem dX12_shore_106 : decode cX12_shore 106 = .ok (.invokevirtual 187, 3) := by decide +kernel
theorem dX12_shore_109 : decode cX12_shore 109 = .ok (.ifCond .eq 10, 3) := by decide +kernel
theorem dX12_shore_112 : decode cX12_shore 112 = .ok (.aload_n 0, 1) := by decide +kernel
theorem dX12_shore_113 : decode cX12_shore 113 = .ok (.invokevirtual 294, 3) := by decide +kernel
theorem dX12_shore_116 : decode cX12_shore 116 = .ok (.goto 35, 3) := by decide +kernel
theorem dX12_shore_119 : decode cX12_shore 119 = .ok (.aload_n 0, 1) := by decide +kernel
theorem dX12_shore_120 : decode cX12_shore 120 = .ok (.invokevirtual 193, 3) := by decide +kernel
theorem dX12_shore_123 : decode cX12_shore 123 = .ok (.ifCond .eq 10, 3) := by decide +kernel
theorem dX12_shore_126 : decode cX12_shore 126 = .ok (.aload_n 0, 1) := by decide +kernel
theorem dX12_shore_127 : decode cX12_shore 127 = .ok (.invokevirtual 297, 3) := by decide +kernel
theorem dX12_shore_130 : decode cX12_shore 130 = .ok (.goto 21, 3) := by decide +kernel
theorem dX12_shore_133 : decode cX12_shore 133 = .ok (.aload_n 0, 1) := by decide +kernel
theorem dX12_shore_134 : decode cX12_shore 134 = .ok (.invokevirtual 199, 3) := by decide +kernel
theorem dX12_shore_137 : decode cX12_shore 137 = .ok (.ifCond .eq 10, 3) := by decide +kernel
theorem dX12_shore_140 : decode cX12_shore 140 = .ok (.aload_n 0, 1) := by decide +kernel
theorem dX12_shore_141 : decode cX12_shore 141 = .ok (.invokevirtual 300, 3) := by decide +kernel
theorem dX12_shore_144 : decode cX12_shore 144 = .ok (.goto 7, 3) := by decide +kernel
theorem dX12_shore_147 : decode cX12_shore 147 = .ok (.aload_n 0, 1) := by decide +kernel
theorem dX12_shore_148 : decode cX12_shore 148 = .ok (.invokevirtual 234, 3) := by decide +kernel
theorem dX12_shore_151 : decode cX12_shore 151 = .ok (.aload_n 0, 1) := by decide +kernel
theorem dX12_shore_152 : decode cX12_shore 152 = .ok (.aload_n 0, 1) := by decide +kernel
theorem dX12_shore_153 : decode cX12_shore 153 = .ok (.bipush 59, 2) := by decide +kernel
theorem dX12_shore_155 : decode cX12_shore 155 = .ok (.invokevirtual 303, 3) := by decide +kernel
theorem dX12_shore_158 : decode cX12_shore 158 = .ok (.invokevirtual 237, 3) := by decide +kernel
theorem dX12_shore_161 : decode cX12_shore 161 = .ok (.goto (-98), 3) := by decide +kernel
theorem dX12_shore_164 : decode cX12_shore 164 = .ok (.aload_n 0, 1) := by decide +kernel
theorem dX12_shore_165 : decode cX12_shore 165 = .ok (.invokevirtual 306, 3) := by decide +kernel
theorem dX12_shore_168 : decode cX12_shore 168 = .ok (.ifCond .ne 5, 3) := by decide +kernel
theorem dX12_shore_171 : decode cX12_shore 171 = .ok (.iconst (-1), 1) := by decide +kernel
theorem dX12_shore_172 : decode cX12_shore 172 = .ok (.ireturn, 1) := by decide +kernel
theorem dX12_shore_173 : decode cX12_shore 173 = .ok (.aload_n 0, 1) := by decide +kernel
theorem dX12_shore_174 : decode cX12_shore 174 = .ok (.iconst 4, 1) := by decide +kernel
theorem dX12_shore_175 : decode cX12_shore 175 = .ok (.iconst 0, 1) := by decide +kernel
theorem dX12_shore_176 : decode cX12_shore 176 = .ok (.invokevirtual 309, 3) := by decide +kernel
theorem dX12_shore_179 : decode cX12_shore 179 = .ok (.aload_n 0, 1) := by decide +kernel
theorem dX12_shore_180 : decode cX12_shore 180 = .ok (.getfield 35, 3) := by decide +kernel
theorem dX12_shore_183 : decode cX12_shore 183 = .ok (.iconst 0, 1) := by decide +kernel
theorem dX12_shore_184 : decode cX12_shore 184 = .ok (.iaload, 1) := by decide +kernel
theorem dX12_shore_185 : decode cX12_shore 185 = .ok (.ireturn, 1) := by decide +kernel
def j_X12_shore : JD := (yX12_shore, cX12_shore, 3, (some .int))
def b_X12_shore : BD := (8, 0, 0)
theorem mv_X12_isName : MV j_X12_isName 12 0 := ⟨⟨gw_at 1760 (by decide +kernel) rfl, gw_at 221 (by decide +kernel) rfl, ⟨by decide +kernel, by decide +kernel⟩, by decide +kernel, by decide, by decide +kernel⟩, ⟨_, rfl, rfl⟩, gw_at 1759 (by decide +kernel) rfl, gw_at 118 (by decide +kernel) rfl⟩
theorem mv_X12_fail : MV j_X12_fail 12 2 := ⟨⟨gw_at 1752 (by decide +kernel) rfl, gw_at 221 (by decide +kernel) rfl, ⟨by decide +kernel, by decide +kernel⟩, by decide +kernel, by decide, by decide +kernel⟩, ⟨_, rfl, rfl⟩, gw_at 1751 (by decide +kernel) rfl, gw_at 116 (by decide +kernel) rfl⟩
theorem mv_X12_wrong : MV j_X12_wrong 12 0 := ⟨⟨gw_at 1844 (by decide +kernel) rfl, gw_at 221 (by decide +kernel) rfl, ⟨by decide +kernel, by decide +kernel⟩, by decide +kernel, by decide, by decide +kernel⟩, ⟨_, rfl, rfl⟩, gw_at 1843 (by decide +kernel) rfl, gw_at 139 (by decide +kernel) rfl⟩
theorem mv_X12_must : MV j_X12_must 12 1 := ⟨⟨gw_at 1864 (by decide +kernel) rfl, gw_at 221 (by decide +kernel) rfl, ⟨by decide +kernel, by decide +kernel⟩, by decide +kernel, by decide, by decide +kernel⟩, ⟨_, rfl, rfl⟩, gw_at 1863 (by decide +kernel) rfl, gw_at 144 (by decide +kernel) rfl⟩
theorem mv_X12_count : MV j_X12_count 12 2 := ⟨⟨gw_at 1868 (by decide +kernel) rfl, gw_at 221 (by decide +kernel) rfl, ⟨by decide +kernel, by decide +kernel⟩, by decide +kernel, by decide, by decide +kernel⟩, ⟨_, rfl, rfl⟩, gw_at 1867 (by decide +kernel) rfl, gw_at 145 (by decide +kernel) rfl⟩
theorem mv_X12_behindWord : MV j_X12_behindWord 12 3 := ⟨⟨gw_at 1860 (by decide +kernel) rfl, gw_at 221 (by decide +kernel) rfl, ⟨by decide +kernel, by decide +kernel⟩, by decide +kernel, by decide, by decide +kernel⟩, ⟨_, rfl, rfl⟩, gw_at 1859 (by decide +kernel) rfl, gw_at 143 (by decide +kernel) rfl⟩
theorem mv_X12_lay : MV j_X12_lay 12 1 := ⟨⟨gw_at 1701 (by decide +kernel) rfl, gw_at 221 (by decide +kernel) rfl, ⟨by decide +kernel, by decide +kernel⟩, by decide +kernel, by decide, by decide +kernel⟩, ⟨_, rfl, rfl⟩, gw_at 1700 (by decide +kernel) rfl, gw_at 108 (by decide +kernel) rfl⟩
theorem mv_X12_starts : MV j_X12_starts 12 2 := ⟨⟨gw_at 1713 (by decide +kernel) rfl, gw_at 221 (by decide +kernel) rfl, ⟨by decide +kernel, by decide +kernel⟩, by decide +kernel, by decide, by decide +kernel⟩, ⟨_, rfl, rfl⟩, gw_at 1712 (by decide +kernel) rfl, gw_at 109 (by decide +kernel) rfl⟩
theorem mv_X12_isWell : MV j_X12_isWell 12 0 := ⟨⟨gw_at 1904 (by decide +kernel) rfl, gw_at 221 (by decide +kernel) rfl, ⟨by decide +kernel, by decide +kernel⟩, by decide +kernel, by decide, by decide +kernel⟩, ⟨_, rfl, rfl⟩, gw_at 1903 (by decide +kernel) rfl, gw_at 153 (by decide +kernel) rfl⟩
theorem mv_X12_namedIn : MV j_X12_namedIn 12 3 := ⟨⟨gw_at 1852 (by decide +kernel) rfl, gw_at 221 (by decide +kernel) rfl, ⟨by decide +kernel, by decide +kernel⟩, by decide +kernel, by decide, by decide +kernel⟩, ⟨_, rfl, rfl⟩, gw_at 1851 (by decide +kernel) rfl, gw_at 141 (by decide +kernel) rfl⟩
theorem mv_X12_houseNamed : MV j_X12_houseNamed 12 1 := ⟨⟨gw_at 1848 (by decide +kernel) rfl, gw_at 221 (by decide +kernel) rfl, ⟨by decide +kernel, by decide +kernel⟩, by decide +kernel, by decide, by decide +kernel⟩, ⟨_, rfl, rfl⟩, gw_at 1847 (by decide +kernel) rfl, gw_at 140 (by decide +kernel) rfl⟩
theorem mv_X12_gangNamed : MV j_X12_gangNamed 12 1 := ⟨⟨gw_at 1856 (by decide +kernel) rfl, gw_at 221 (by decide +kernel) rfl, ⟨by decide +kernel, by decide +kernel⟩, by decide +kernel, by decide, by decide +kernel⟩, ⟨_, rfl, rfl⟩, gw_at 1855 (by decide +kernel) rfl, gw_at 142 (by decide +kernel) rfl⟩
theorem mv_X12_readNew : MV j_X12_readNew 12 1 := ⟨⟨gw_at 1756 (by decide +kernel) rfl, gw_at 221 (by decide +kernel) rfl, ⟨by decide +kernel, by decide +kernel⟩, by decide +kernel, by decide, by decide +kernel⟩, ⟨_, rfl, rfl⟩, gw_at 1755 (by decide +kernel) rfl, gw_at 117 (by decide +kernel) rfl⟩
theorem mv_X12_told : MV j_X12_told 12 2 := ⟨⟨gw_at 1883 (by decide +kernel) rfl, gw_at 221 (by decide +kernel) rfl, ⟨by decide +kernel, by decide +kernel⟩, by decide +kernel, by decide, by decide +kernel⟩, ⟨_, rfl, rfl⟩, gw_at 1882 (by decide +kernel) rfl, gw_at 148 (by decide +kernel) rfl⟩
theorem mv_X12_readTold : MV j_X12_readTold 12 2 := ⟨⟨gw_at 1879 (by decide +kernel) rfl, gw_at 221 (by decide +kernel) rfl, ⟨by decide +kernel, by decide +kernel⟩, by decide +kernel, by decide, by decide +kernel⟩, ⟨_, rfl, rfl⟩, gw_at 1878 (by decide +kernel) rfl, gw_at 147 (by decide +kernel) rfl⟩
theorem mv_X12_readHouse : MV j_X12_readHouse 12 0 := ⟨⟨gw_at 1748 (by decide +kernel) rfl, gw_at 221 (by decide +kernel) rfl, ⟨by decide +kernel, by decide +kernel⟩, by decide +kernel, by decide, by decide +kernel⟩, ⟨_, rfl, rfl⟩, gw_at 1747 (by decide +kernel) rfl, gw_at 115 (by decide +kernel) rfl⟩
theorem mv_X12_readGang : MV j_X12_readGang 12 0 := ⟨⟨gw_at 1875 (by decide +kernel) rfl, gw_at 221 (by decide +kernel) rfl, ⟨by decide +kernel, by decide +kernel⟩, by decide +kernel, by decide, by decide +kernel⟩, ⟨_, rfl, rfl⟩, gw_at 1874 (by decide +kernel) rfl, gw_at 146 (by decide +kernel) rfl⟩
theorem mv_X12_readHelped : MV j_X12_readHelped 12 0 := ⟨⟨gw_at 1888 (by decide +kernel) rfl, gw_at 221 (by decide +kernel) rfl, ⟨by decide +kernel, by decide +kernel⟩, by decide +kernel, by decide, by decide +kernel⟩, ⟨_, rfl, rfl⟩, gw_at 1887 (by decide +kernel) rfl, gw_at 149 (by decide +kernel) rfl⟩
theorem mv_X12_readWind : MV j_X12_readWind 12 0 := ⟨⟨gw_at 1892 (by decide +kernel) rfl, gw_at 221 (by decide +kernel) rfl, ⟨by decide +kernel, by decide +kernel⟩, by decide +kernel, by decide, by decide +kernel⟩, ⟨_, rfl, rfl⟩, gw_at 1891 (by decide +kernel) rfl, gw_at 150 (by decide +kernel) rfl⟩
theorem mv_X12_readLaw : MV j_X12_readLaw 12 0 := ⟨⟨gw_at 1896 (by decide +kernel) rfl, gw_at 221 (by decide +kernel) rfl, ⟨by decide +kernel, by decide +kernel⟩, by decide +kernel, by decide, by decide +kernel⟩, ⟨_, rfl, rfl⟩, gw_at 1895 (by decide +kernel) rfl, gw_at 151 (by decide +kernel) rfl⟩
theorem mv_X12_copy : MV j_X12_copy 12 2 := ⟨⟨gw_at 1908 (by decide +kernel) rfl, gw_at 221 (by decide +kernel) rfl, ⟨by decide +kernel, by decide +kernel⟩, by decide +kernel, by decide, by decide +kernel⟩, ⟨_, rfl, rfl⟩, gw_at 1907 (by decide +kernel) rfl, gw_at 154 (by decide +kernel) rfl⟩
theorem ml_X12_218 : MLk RX12 218 j_X12_isKept.1 := Or.inl (gw_at 1761 (by decide +kernel) rfl)
theorem ml_X12_227 : MLk RX12 227 j_X12_fail.1 := Or.inl (gw_at 1749 (by decide +kernel) rfl)
theorem ml_X12_231 : MLk RX12 231 j_X12_next.1 := Or.inl (gw_at 1714 (by decide +kernel) rfl)
theorem ml_X12_234 : MLk RX12 234 j_X12_wrong.1 := Or.inl (gw_at 1841 (by decide +kernel) rfl)
theorem ml_X12_237 : MLk RX12 237 j_X12_must.1 := Or.inl (gw_at 1861 (by decide +kernel) rfl)
theorem ml_X12_241 : MLk RX12 241 j_X12_count.1 := Or.inl (gw_at 1865 (by decide +kernel) rfl)
theorem ml_X12_247 : MLk RX12 247 j_X12_lay.1 := Or.inl (gw_at 1698 (by decide +kernel) rfl)
theorem ml_X12_251 : MLk RX12 251 j_X12_namedIn.1 := Or.inl (gw_at 1849 (by decide +kernel) rfl)
theorem ml_X12_255 : MLk RX12 255 j_X12_isName.1 := Or.inl (gw_at 1757 (by decide +kernel) rfl)
theorem ml_X12_258 : MLk RX12 258 j_X12_houseNamed.1 := Or.inl (gw_at 1845 (by decide +kernel) rfl)
theorem ml_X12_261 : MLk RX12 261 j_X12_gangNamed.1 := Or.inl (gw_at 1853 (by decide +kernel) rfl)
theorem ml_X12_267 : MLk RX12 267 j_X12_told.1 := Or.inl (gw_at 1880 (by decide +kernel) rfl)
theorem ml_X12_271 : MLk RX12 271 j_X12_readNew.1 := Or.inl (gw_at 1753 (by decide +kernel) rfl)
theorem ml_X12_274 : MLk RX12 274 j_X12_behindWord.1 := Or.inl (gw_at 1857 (by decide +kernel) rfl)
theorem ml_X12_278 : MLk RX12 278 j_X12_readTold.1 := Or.inl (gw_at 1876 (by decide +kernel) rfl)
theorem ml_X12_285 : MLk RX12 285 j_X12_starts.1 := Or.inl (gw_at 1710 (by decide +kernel) rfl)
theorem ml_X12_288 : MLk RX12 288 j_X12_readHouse.1 := Or.inl (gw_at 1745 (by decide +kernel) rfl)
theorem ml_X12_291 : MLk RX12 291 j_X12_readGang.1 := Or.inl (gw_at 1872 (by decide +kernel) rfl)
theorem ml_X12_294 : MLk RX12 294 j_X12_readHelped.1 := Or.inl (gw_at 1885 (by decide +kernel) rfl)
theorem ml_X12_297 : MLk RX12 297 j_X12_readWind.1 := Or.inl (gw_at 1889 (by decide +kernel) rfl)
theorem ml_X12_300 : MLk RX12 300 j_X12_readLaw.1 := Or.inl (gw_at 1893 (by decide +kernel) rfl)
theorem ml_X12_303 : MLk RX12 303 j_X12_isSign.1 := Or.inl (gw_at 1897 (by decide +kernel) rfl)
theorem ml_X12_306 : MLk RX12 306 j_X12_isWell.1 := Or.inl (gw_at 1901 (by decide +kernel) rfl)
theorem ml_X12_309 : MLk RX12 309 j_X12_copy.1 := Or.inl (gw_at 1905 (by decide +kernel) rfl)
def g_X12_isName (M : Mm) (l0 : Option Nat) : Option (Int32 × Mm) := gfI M l0 12 14 fun v1 => if v1 = 1 then (gfI M l0 12 18 fun v9 => if 8 < v9 then (some (0, M)) else (ck M l0 12 <| bd (f_X12_isKept M l0) fun v18 M18 => if v18 = 0 then (some (1, M18)) else (some (0, M18)))) else (some (0, M))
def f_X12_isName (M : Mm) (l0 : Option Nat) : Option (Int32 × Mm) := zc (g_X12_isName M l0)
set_option maxHeartbeats 4000000 in
set_option maxRecDepth 100000 in
theorem t_X12_isName_e {G : GG} {X : CX} {ans : Int32 × Mm} (he : EndI G X j_X12_isName b_X12_isName ans) {M : Mm} {l0 : Option Nat} (h : g_X12_isName M l0 = some ans) : Wt G X j_X12_isName b_X12_isName 0 [(0, rf G.1 l0)] [] M 0 0 := by
  unfold g_X12_isName at h
  refine wt_aload_n (pc := 0) 0 dX12_isName_0 rfl ?_
  refine wt_getI (pc := 1) dX12_isName_1 fl_X12_123 (fun _ _ _ => rfl) h (fun v1 h => ?_)
  refine wt_iconst (pc := 4) (v := 1) dX12_isName_4 (by decide) ?_
  refine wt_icmp_ne (pc := 5) (tgt := 28) dX12_isName_5 (by decide) (fun q => ?_) (fun q => ?_)
  · have h := ite_f q h
    refine wt_iconst (pc := 28) (v := 0) dX12_isName_28 (by decide) ?_
    cases h
    exact he 29 _ _ _ dX12_isName_29 (by decide) (by decide)
  · have h := ite_t q h
    refine wt_aload_n (pc := 8) 0 dX12_isName_8 rfl ?_
    refine wt_getI (pc := 9) dX12_isName_9 fl_X12_136 (fun _ _ _ => rfl) h (fun v9 h => ?_)
    refine wt_bipush (pc := 12) (v := 8) dX12_isName_12 (by decide) ?_
    refine wt_icmp_gt (pc := 14) (tgt := 28) dX12_isName_14 (by decide) (fun q => ?_) (fun q => ?_)
    · have h := ite_t q h
      refine wt_iconst (pc := 28) (v := 0) dX12_isName_28 (by decide) ?_
      cases h
      exact he 29 _ _ _ dX12_isName_29 (by decide) (by decide)
    · have h := ite_f q h
      refine wt_aload_n (pc := 17) 0 dX12_isName_17 rfl ?_
      refine wt_cVI (pc := 18) (J' := j_X12_isKept) (As := []) (st := []) (B' := b_X12_isKept) (u' := 0) (w' := 0) dX12_isName_18 ml_X12_218 mv_X12_isKept (fun v9 M9 e9 => c_X12_isKept e9) rfl (by decide) rfl rfl (by decide) (by decide) (by decide) rfl h (fun v18 M18 h => ?_)
      refine wt_if_ne (pc := 21) (tgt := 28) dX12_isName_21 (by decide) (fun q => ?_) (fun q => ?_)
      · have h := ite_f q h
        refine wt_iconst (pc := 28) (v := 0) dX12_isName_28 (by decide) ?_
        cases h
        exact he 29 _ _ _ dX12_isName_29 (by decide) (by decide)
      · have h := ite_t q h
        refine wt_iconst (pc := 24) (v := 1) dX12_isName_24 (by decide) ?_
        refine wt_goto (pc := 25) (tgt := 29) dX12_isName_25 (by decide) ?_
        cases h
        exact he 29 _ _ _ dX12_isName_29 (by decide) (by decide)
set_option maxHeartbeats 4000000 in
set_option maxRecDepth 100000 in
theorem c_X12_isName {G : GG} {M : Mm} {l0 : Option Nat} {r : Int32 × Mm} (h : f_X12_isName M l0 = some r) (l : Launch) : Ct l G j_X12_isName b_X12_isName [rf G.1 l0] M (some (.int r.1)) r.2 := cf_Z h (by decide +kernel) (by simp [lg_sl, rf_cat, cat_i, cat_l, j_X12_isName]) rfl (by simp [lv_args, rf_cat, cat_i, cat_l]) (fun h X he => t_X12_isName_e he h)
def f_X12_fail (M : Mm) (l0 : Option Nat) (l1 : Int32) (l2 : Int32) : Option (Mm) := gfI M l0 12 12 fun v1 => if v1 ≤ 0 then (pfI M l0 12 12 l1 fun M10 => pfI M10 l0 12 13 l2 fun M15 => some M15) else (some M)
set_option maxHeartbeats 4000000 in
set_option maxRecDepth 100000 in
theorem t_X12_fail_e {G : GG} {X : CX} {ans : Mm} (he : EndV G X j_X12_fail b_X12_fail ans) {M : Mm} {l0 : Option Nat} {l1 : Int32} {l2 : Int32} (h : f_X12_fail M l0 l1 l2 = some ans) : Wt G X j_X12_fail b_X12_fail 0 [(0, rf G.1 l0), (1, .int l1), (2, .int l2)] [] M 0 0 := by
  unfold f_X12_fail at h
  refine wt_aload_n (pc := 0) 0 dX12_fail_0 rfl ?_
  refine wt_getI (pc := 1) dX12_fail_1 fl_X12_221 (fun _ _ _ => rfl) h (fun v1 h => ?_)
  refine wt_if_le (pc := 4) (tgt := 8) dX12_fail_4 (by decide) (fun q => ?_) (fun q => ?_)
  · have h := ite_t q h
    refine wt_aload_n (pc := 8) 0 dX12_fail_8 rfl ?_
    refine wt_iload_n (pc := 9) 1 dX12_fail_9 rfl ?_
    refine wt_putI (pc := 10) dX12_fail_10 fl_X12_221 rfl rfl h (fun M10 h => ?_)
    refine wt_aload_n (pc := 13) 0 dX12_fail_13 rfl ?_
    refine wt_iload_n (pc := 14) 2 dX12_fail_14 rfl ?_
    refine wt_putI (pc := 15) dX12_fail_15 fl_X12_224 rfl rfl h (fun M15 h => ?_)
    cases h
    exact he 18 _ _ _ dX12_fail_18 (by decide) (by decide)
  · have h := ite_f q h
    cases h
    exact he 7 _ _ _ dX12_fail_7 (by decide) (by decide)
set_option maxHeartbeats 4000000 in
set_option maxRecDepth 100000 in
theorem c_X12_fail {G : GG} {M : Mm} {l0 : Option Nat} {l1 : Int32} {l2 : Int32} {r : Mm} (h : f_X12_fail M l0 l1 l2 = some r) (l : Launch) : Ct l G j_X12_fail b_X12_fail [rf G.1 l0, .int l1, .int l2] M none r := cf_V (by decide +kernel) (by simp [lg_sl, rf_cat, cat_i, cat_l, j_X12_fail]) rfl (by simp [lv_args, rf_cat, cat_i, cat_l]) (fun X he => t_X12_fail_e he h)
def f_X12_wrong_14 (M : Mm) (l0 : Option Nat) (s0 : Option Nat) (s1 : Int32) : Option (Mm) := gfI M l0 12 15 fun v15 => ck M s0 12 <| bv (f_X12_fail M s0 s1 v15) fun M18 => some M18
def f_X12_wrong (M : Mm) (l0 : Option Nat) : Option (Mm) := gfI M l0 12 14 fun v2 => if v2 = 4 then (f_X12_wrong_14  M l0 l0 1) else (f_X12_wrong_14  M l0 l0 2)
set_option maxHeartbeats 4000000 in
set_option maxRecDepth 100000 in
theorem t_X12_wrong_14 {G : GG} {X : CX} {ans : Mm} (he : EndV G X j_X12_wrong b_X12_wrong ans) {M : Mm} {l0 : Option Nat} {s0 : Option Nat} {s1 : Int32} (h : f_X12_wrong_14 M l0 s0 s1 = some ans) : Wt G X j_X12_wrong b_X12_wrong 14 [(0, rf G.1 l0)] [.int s1, rf G.1 s0] M 0 0 := by
  unfold f_X12_wrong_14 at h
  refine wt_aload_n (pc := 14) 0 dX12_wrong_14 rfl ?_
  refine wt_getI (pc := 15) dX12_wrong_15 fl_X12_117 (fun _ _ _ => rfl) h (fun v15 h => ?_)
  refine wt_cVV (pc := 18) (J' := j_X12_fail) (As := [.int s1, .int v15]) (st := []) (B' := b_X12_fail) (u' := 0) (w' := 0) dX12_wrong_18 ml_X12_227 mv_X12_fail (fun M9 e9 => c_X12_fail e9) rfl (by decide) rfl rfl (by decide) (by decide) (by decide) rfl h (fun M18 h => ?_)
  cases h
  exact he 21 _ _ _ dX12_wrong_21 (by decide) (by decide)
set_option maxHeartbeats 4000000 in
set_option maxRecDepth 100000 in
theorem t_X12_wrong_e {G : GG} {X : CX} {ans : Mm} (he : EndV G X j_X12_wrong b_X12_wrong ans) {M : Mm} {l0 : Option Nat} (h : f_X12_wrong M l0 = some ans) : Wt G X j_X12_wrong b_X12_wrong 0 [(0, rf G.1 l0)] [] M 0 0 := by
  unfold f_X12_wrong at h
  refine wt_aload_n (pc := 0) 0 dX12_wrong_0 rfl ?_
  refine wt_aload_n (pc := 1) 0 dX12_wrong_1 rfl ?_
  refine wt_getI (pc := 2) dX12_wrong_2 fl_X12_123 (fun _ _ _ => rfl) h (fun v2 h => ?_)
  refine wt_iconst (pc := 5) (v := 4) dX12_wrong_5 (by decide) ?_
  refine wt_icmp_ne (pc := 6) (tgt := 13) dX12_wrong_6 (by decide) (fun q => ?_) (fun q => ?_)
  · have h := ite_f q h
    refine wt_iconst (pc := 13) (v := 2) dX12_wrong_13 (by decide) ?_
    exact t_X12_wrong_14 he  h
  · have h := ite_t q h
    refine wt_iconst (pc := 9) (v := 1) dX12_wrong_9 (by decide) ?_
    refine wt_goto (pc := 10) (tgt := 14) dX12_wrong_10 (by decide) ?_
    exact t_X12_wrong_14 he  h
set_option maxHeartbeats 4000000 in
set_option maxRecDepth 100000 in
theorem c_X12_wrong {G : GG} {M : Mm} {l0 : Option Nat} {r : Mm} (h : f_X12_wrong M l0 = some r) (l : Launch) : Ct l G j_X12_wrong b_X12_wrong [rf G.1 l0] M none r := cf_V (by decide +kernel) (by simp [lg_sl, rf_cat, cat_i, cat_l, j_X12_wrong]) rfl (by simp [lv_args, rf_cat, cat_i, cat_l]) (fun X he => t_X12_wrong_e he h)
def f_X12_must (M : Mm) (l0 : Option Nat) (l1 : Int32) : Option (Mm) := gfI M l0 12 12 fun v1 => if v1 ≤ 0 then (if l1 = 0 then (ck M l0 12 <| bv (f_X12_wrong M l0) fun M20 => some M20) else (ck M l0 12 <| bv (f_X12_next M l0) fun M13 => some M13)) else (some M)
set_option maxHeartbeats 4000000 in
set_option maxRecDepth 100000 in
theorem t_X12_must_e {G : GG} {X : CX} {ans : Mm} (he : EndV G X j_X12_must b_X12_must ans) {M : Mm} {l0 : Option Nat} {l1 : Int32} (h : f_X12_must M l0 l1 = some ans) : Wt G X j_X12_must b_X12_must 0 [(0, rf G.1 l0), (1, .int l1)] [] M 0 0 := by
  unfold f_X12_must at h
  refine wt_aload_n (pc := 0) 0 dX12_must_0 rfl ?_
  refine wt_getI (pc := 1) dX12_must_1 fl_X12_221 (fun _ _ _ => rfl) h (fun v1 h => ?_)
  refine wt_if_le (pc := 4) (tgt := 8) dX12_must_4 (by decide) (fun q => ?_) (fun q => ?_)
  · have h := ite_t q h
    refine wt_iload_n (pc := 8) 1 dX12_must_8 rfl ?_
    refine wt_if_eq (pc := 9) (tgt := 19) dX12_must_9 (by decide) (fun q => ?_) (fun q => ?_)
    · have h := ite_t q h
      refine wt_aload_n (pc := 19) 0 dX12_must_19 rfl ?_
      refine wt_cVV (pc := 20) (J' := j_X12_wrong) (As := []) (st := []) (B' := b_X12_wrong) (u' := 0) (w' := 0) dX12_must_20 ml_X12_234 mv_X12_wrong (fun M9 e9 => c_X12_wrong e9) rfl (by decide) rfl rfl (by decide) (by decide) (by decide) rfl h (fun M20 h => ?_)
      cases h
      exact he 23 _ _ _ dX12_must_23 (by decide) (by decide)
    · have h := ite_f q h
      refine wt_aload_n (pc := 12) 0 dX12_must_12 rfl ?_
      refine wt_cVV (pc := 13) (J' := j_X12_next) (As := []) (st := []) (B' := b_X12_next) (u' := 0) (w' := 0) dX12_must_13 ml_X12_231 mv_X12_next (fun M9 e9 => c_X12_next e9) rfl (by decide) rfl rfl (by decide) (by decide) (by decide) rfl h (fun M13 h => ?_)
      refine wt_goto (pc := 16) (tgt := 23) dX12_must_16 (by decide) ?_
      cases h
      exact he 23 _ _ _ dX12_must_23 (by decide) (by decide)
  · have h := ite_f q h
    cases h
    exact he 7 _ _ _ dX12_must_7 (by decide) (by decide)
set_option maxHeartbeats 4000000 in
set_option maxRecDepth 100000 in
theorem c_X12_must {G : GG} {M : Mm} {l0 : Option Nat} {l1 : Int32} {r : Mm} (h : f_X12_must M l0 l1 = some r) (l : Launch) : Ct l G j_X12_must b_X12_must [rf G.1 l0, .int l1] M none r := cf_V (by decide +kernel) (by simp [lg_sl, rf_cat, cat_i, cat_l, j_X12_must]) rfl (by simp [lv_args, rf_cat, cat_i, cat_l]) (fun X he => t_X12_must_e he h)
def f_X12_count_50 (M : Mm) (l0 : Option Nat) : Option (Int32 × Mm) := gfI M l0 12 12 fun v51 => if v51 ≤ 0 then (gfI M l0 12 17 fun v60 => ck M l0 12 <| bv (f_X12_next M l0) fun M65 => some (v60, M65)) else (some (0, M))
def f_X12_count_19 (M : Mm) (l0 : Option Nat) (l1 : Int32) (l2 : Int32) : Option (Int32 × Mm) := gfI M l0 12 12 fun v20 => if v20 = 0 then (gfI M l0 12 17 fun v27 => bd (f_X12_isIn M (Int32.toInt64 v27) (Int32.toInt64 l1) (Int32.toInt64 l2)) fun v35 M35 => if v35 = 0 then (gfI M35 l0 12 15 fun v44 => ck M35 l0 12 <| bv (f_X12_fail M35 l0 4 v44) fun M47 => f_X12_count_50  M47 l0) else (f_X12_count_50  M35 l0)) else (f_X12_count_50  M l0)
def f_X12_count (M : Mm) (l0 : Option Nat) (l1 : Int32) (l2 : Int32) : Option (Int32 × Mm) := gfI M l0 12 12 fun v1 => if v1 = 0 then (gfI M l0 12 14 fun v8 => if v8 = 2 then (f_X12_count_19  M l0 l1 l2) else (ck M l0 12 <| bv (f_X12_wrong M l0) fun M16 => f_X12_count_19  M16 l0 l1 l2)) else (f_X12_count_19  M l0 l1 l2)
set_option maxHeartbeats 4000000 in
set_option maxRecDepth 100000 in
theorem t_X12_count_50 {G : GG} {X : CX} {ans : Int32 × Mm} (he : EndI G X j_X12_count b_X12_count ans) {M : Mm} {l0 : Option Nat} (h : f_X12_count_50 M l0 = some ans) : Wt G X j_X12_count b_X12_count 50 [(0, rf G.1 l0)] [] M 0 0 := by
  unfold f_X12_count_50 at h
  refine wt_aload_n (pc := 50) 0 dX12_count_50 rfl ?_
  refine wt_getI (pc := 51) dX12_count_51 fl_X12_221 (fun _ _ _ => rfl) h (fun v51 h => ?_)
  refine wt_if_le (pc := 54) (tgt := 59) dX12_count_54 (by decide) (fun q => ?_) (fun q => ?_)
  · have h := ite_t q h
    refine wt_aload_n (pc := 59) 0 dX12_count_59 rfl ?_
    refine wt_getI (pc := 60) dX12_count_60 fl_X12_142 (fun _ _ _ => rfl) h (fun v60 h => ?_)
    refine wt_istore_n (pc := 63) (i := 3) (ls' := [(3, .int v60), (0, rf G.1 l0)]) rfl dX12_count_63 (by decide) rfl ?_
    refine wt_aload_n (pc := 64) 1 dX12_count_64 rfl ?_
    refine wt_cVV (pc := 65) (J' := j_X12_next) (As := []) (st := []) (B' := b_X12_next) (u' := 0) (w' := 0) dX12_count_65 ml_X12_231 mv_X12_next (fun M9 e9 => c_X12_next e9) rfl (by decide) rfl rfl (by decide) (by decide) (by decide) rfl h (fun M65 h => ?_)
    refine wt_iload_n (pc := 68) 0 dX12_count_68 rfl ?_
    cases h
    exact he 69 _ _ _ dX12_count_69 (by decide) (by decide)
  · have h := ite_f q h
    refine wt_iconst (pc := 57) (v := 0) dX12_count_57 (by decide) ?_
    cases h
    exact he 58 _ _ _ dX12_count_58 (by decide) (by decide)
set_option maxHeartbeats 4000000 in
set_option maxRecDepth 100000 in
theorem t_X12_count_19 {G : GG} {X : CX} {ans : Int32 × Mm} (he : EndI G X j_X12_count b_X12_count ans) {M : Mm} {l0 : Option Nat} {l1 : Int32} {l2 : Int32} (h : f_X12_count_19 M l0 l1 l2 = some ans) : Wt G X j_X12_count b_X12_count 19 [(0, rf G.1 l0), (1, .int l1), (2, .int l2)] [] M 0 0 := by
  unfold f_X12_count_19 at h
  refine wt_aload_n (pc := 19) 0 dX12_count_19 rfl ?_
  refine wt_getI (pc := 20) dX12_count_20 fl_X12_221 (fun _ _ _ => rfl) h (fun v20 h => ?_)
  refine wt_if_ne (pc := 23) (tgt := 50) dX12_count_23 (by decide) (fun q => ?_) (fun q => ?_)
  · have h := ite_f q h
    refine wt_sub (ls' := [(0, rf G.1 l0)]) [0] rfl ?_
    exact t_X12_count_50 he  h
  · have h := ite_t q h
    refine wt_aload_n (pc := 26) 0 dX12_count_26 rfl ?_
    refine wt_getI (pc := 27) dX12_count_27 fl_X12_142 (fun _ _ _ => rfl) h (fun v27 h => ?_)
    refine wt_i2l (pc := 30) dX12_count_30 ?_
    refine wt_iload_n (pc := 31) 1 dX12_count_31 rfl ?_
    refine wt_i2l (pc := 32) dX12_count_32 ?_
    refine wt_iload_n (pc := 33) 2 dX12_count_33 rfl ?_
    refine wt_i2l (pc := 34) dX12_count_34 ?_
    refine wt_cSI (pc := 35) (J' := j_X12_isIn) (As := [.long (Int32.toInt64 v27), .long (Int32.toInt64 l1), .long (Int32.toInt64 l2)]) (st := []) (B' := b_X12_isIn) (u' := 0) (w' := 0) dX12_count_35 ml_X12_103 ms_X12_isIn (fun v9 M9 e9 => c_X12_isIn e9) rfl (by decide) rfl rfl (by decide) (by decide) (by decide) rfl h (fun v35 M35 h => ?_)
    refine wt_if_ne (pc := 38) (tgt := 50) dX12_count_38 (by decide) (fun q => ?_) (fun q => ?_)
    · have h := ite_f q h
      refine wt_sub (ls' := [(0, rf G.1 l0)]) [0] rfl ?_
      exact t_X12_count_50 he  h
    · have h := ite_t q h
      refine wt_aload_n (pc := 41) 0 dX12_count_41 rfl ?_
      refine wt_iconst (pc := 42) (v := 4) dX12_count_42 (by decide) ?_
      refine wt_aload_n (pc := 43) 0 dX12_count_43 rfl ?_
      refine wt_getI (pc := 44) dX12_count_44 fl_X12_117 (fun _ _ _ => rfl) h (fun v44 h => ?_)
      refine wt_cVV (pc := 47) (J' := j_X12_fail) (As := [.int 4, .int v44]) (st := []) (B' := b_X12_fail) (u' := 0) (w' := 0) dX12_count_47 ml_X12_227 mv_X12_fail (fun M9 e9 => c_X12_fail e9) rfl (by decide) rfl rfl (by decide) (by decide) (by decide) rfl h (fun M47 h => ?_)
      refine wt_sub (ls' := [(0, rf G.1 l0)]) [0] rfl ?_
      exact t_X12_count_50 he  h
set_option maxHeartbeats 4000000 in
set_option maxRecDepth 100000 in
theorem t_X12_count_e {G : GG} {X : CX} {ans : Int32 × Mm} (he : EndI G X j_X12_count b_X12_count ans) {M : Mm} {l0 : Option Nat} {l1 : Int32} {l2 : Int32} (h : f_X12_count M l0 l1 l2 = some ans) : Wt G X j_X12_count b_X12_count 0 [(0, rf G.1 l0), (1, .int l1), (2, .int l2)] [] M 0 0 := by
  unfold f_X12_count at h
  refine wt_aload_n (pc := 0) 0 dX12_count_0 rfl ?_
  refine wt_getI (pc := 1) dX12_count_1 fl_X12_221 (fun _ _ _ => rfl) h (fun v1 h => ?_)
  refine wt_if_ne (pc := 4) (tgt := 19) dX12_count_4 (by decide) (fun q => ?_) (fun q => ?_)
  · have h := ite_f q h
    exact t_X12_count_19 he  h
  · have h := ite_t q h
    refine wt_aload_n (pc := 7) 0 dX12_count_7 rfl ?_
    refine wt_getI (pc := 8) dX12_count_8 fl_X12_123 (fun _ _ _ => rfl) h (fun v8 h => ?_)
    refine wt_iconst (pc := 11) (v := 2) dX12_count_11 (by decide) ?_
    refine wt_icmp_eq (pc := 12) (tgt := 19) dX12_count_12 (by decide) (fun q => ?_) (fun q => ?_)
    · have h := ite_t q h
      exact t_X12_count_19 he  h
    · have h := ite_f q h
      refine wt_aload_n (pc := 15) 0 dX12_count_15 rfl ?_
      refine wt_cVV (pc := 16) (J' := j_X12_wrong) (As := []) (st := []) (B' := b_X12_wrong) (u' := 0) (w' := 0) dX12_count_16 ml_X12_234 mv_X12_wrong (fun M9 e9 => c_X12_wrong e9) rfl (by decide) rfl rfl (by decide) (by decide) (by decide) rfl h (fun M16 h => ?_)
      exact t_X12_count_19 he  h
set_option maxHeartbeats 4000000 in
set_option maxRecDepth 100000 in
theorem c_X12_count {G : GG} {M : Mm} {l0 : Option Nat} {l1 : Int32} {l2 : Int32} {r : Int32 × Mm} (h : f_X12_count M l0 l1 l2 = some r) (l : Launch) : Ct l G j_X12_count b_X12_count [rf G.1 l0, .int l1, .int l2] M (some (.int r.1)) r.2 := cf_I (by decide +kernel) (by simp [lg_sl, rf_cat, cat_i, cat_l, j_X12_count]) rfl (by simp [lv_args, rf_cat, cat_i, cat_l]) (fun X he => t_X12_count_e he h)
def f_X12_behindWord (M : Mm) (l0 : Option Nat) (l1 : Int32) (l2 : Int32) (l3 : Int32) : Option (Int32 × Mm) := ck M l0 12 <| bv (f_X12_must M l0 l1) fun M2 => ck M2 l0 12 <| bd (f_X12_count M2 l0 l2 l3) fun v8 M8 => some (v8, M8)
set_option maxHeartbeats 4000000 in
set_option maxRecDepth 100000 in
theorem t_X12_behindWord_e {G : GG} {X : CX} {ans : Int32 × Mm} (he : EndI G X j_X12_behindWord b_X12_behindWord ans) {M : Mm} {l0 : Option Nat} {l1 : Int32} {l2 : Int32} {l3 : Int32} (h : f_X12_behindWord M l0 l1 l2 l3 = some ans) : Wt G X j_X12_behindWord b_X12_behindWord 0 [(0, rf G.1 l0), (1, .int l1), (2, .int l2), (3, .int l3)] [] M 0 0 := by
  unfold f_X12_behindWord at h
  refine wt_aload_n (pc := 0) 0 dX12_behindWord_0 rfl ?_
  refine wt_iload_n (pc := 1) 1 dX12_behindWord_1 rfl ?_
  refine wt_cVV (pc := 2) (J' := j_X12_must) (As := [.int l1]) (st := []) (B' := b_X12_must) (u' := 0) (w' := 0) dX12_behindWord_2 ml_X12_237 mv_X12_must (fun M9 e9 => c_X12_must e9) rfl (by decide) rfl rfl (by decide) (by decide) (by decide) rfl h (fun M2 h => ?_)
  refine wt_aload_n (pc := 5) 0 dX12_behindWord_5 rfl ?_
  refine wt_iload_n (pc := 6) 2 dX12_behindWord_6 rfl ?_
  refine wt_iload_n (pc := 7) 3 dX12_behindWord_7 rfl ?_
  refine wt_cVI (pc := 8) (J' := j_X12_count) (As := [.int l2, .int l3]) (st := []) (B' := b_X12_count) (u' := 0) (w' := 0) dX12_behindWord_8 ml_X12_241 mv_X12_count (fun v9 M9 e9 => c_X12_count e9) rfl (by decide) rfl rfl (by decide) (by decide) (by decide) rfl h (fun v8 M8 h => ?_)
  cases h
  exact he 11 _ _ _ dX12_behindWord_11 (by decide) (by decide)
set_option maxHeartbeats 4000000 in
set_option maxRecDepth 100000 in
theorem c_X12_behindWord {G : GG} {M : Mm} {l0 : Option Nat} {l1 : Int32} {l2 : Int32} {l3 : Int32} {r : Int32 × Mm} (h : f_X12_behindWord M l0 l1 l2 l3 = some r) (l : Launch) : Ct l G j_X12_behindWord b_X12_behindWord [rf G.1 l0, .int l1, .int l2, .int l3] M (some (.int r.1)) r.2 := cf_I (by decide +kernel) (by simp [lg_sl, rf_cat, cat_i, cat_l, j_X12_behindWord]) rfl (by simp [lv_args, rf_cat, cat_i, cat_l]) (fun X he => t_X12_behindWord_e he h)
def f_X12_lay_2 : Nat → Mm → Option Nat → Int32 → Int32 → Option (Mm)
  | 0, _, _, _, _ => none
  | n + 1, M, l0, l1, l2 => if l2 < 0 then (some M) else (gfR M l0 12 7 fun v7 => gfI M l0 12 8 fun v11 => asB M v7 20 v11 (Int8.toInt32 (Int32.toInt8 (l1 >>> ((8 * l2) &&& 31)))) fun M21 => gfI M21 l0 12 8 fun v24 => pfI M21 l0 12 8 (v24 + 1) fun M29 => f_X12_lay_2 n M29 l0 l1 (l2 + (-1)))
def f_X12_lay (M : Mm) (l0 : Option Nat) (l1 : Int32) : Option (Mm) := f_X12_lay_2  fu M l0 l1 3
set_option maxHeartbeats 4000000 in
set_option maxRecDepth 100000 in
theorem t_X12_lay_2 {G : GG} {X : CX} {ans : Mm} (he : EndV G X j_X12_lay b_X12_lay ans) : ∀ (n : Nat) {M : Mm} {l0 : Option Nat} {l1 : Int32} {l2 : Int32}, f_X12_lay_2 n M l0 l1 l2 = some ans → Wt G X j_X12_lay b_X12_lay 2 [(0, rf G.1 l0), (1, .int l1), (2, .int l2)] [] M 0 0 := by
  intro n
  induction n with
  | zero =>
    intro M l0 l1 l2 h
    rw [f_X12_lay_2] at h
    cases h
  | succ n ih =>
    intro M l0 l1 l2 h
    rw [f_X12_lay_2] at h
    refine wt_iload_n (pc := 2) 2 dX12_lay_2 rfl ?_
    refine wt_if_lt (pc := 3) (tgt := 38) dX12_lay_3 (by decide) (fun q => ?_) (fun q => ?_)
    · have h := ite_t q h
      cases h
      exact he 38 _ _ _ dX12_lay_38 (by decide) (by decide)
    · have h := ite_f q h
      refine wt_aload_n (pc := 6) 0 dX12_lay_6 rfl ?_
      refine wt_getR (pc := 7) dX12_lay_7 fl_X12_24 (fun _ _ _ => rfl) h (fun v7 h => ?_)
      refine wt_aload_n (pc := 10) 0 dX12_lay_10 rfl ?_
      refine wt_getI (pc := 11) dX12_lay_11 fl_X12_244 (fun _ _ _ => rfl) h (fun v11 h => ?_)
      refine wt_iload_n (pc := 14) 1 dX12_lay_14 rfl ?_
      refine wt_bipush (pc := 15) (v := 8) dX12_lay_15 (by decide) ?_
      refine wt_iload_n (pc := 17) 2 dX12_lay_17 rfl ?_
      refine wt_imul (pc := 18) dX12_lay_18 ?_
      refine wt_ishr (pc := 19) dX12_lay_19 ?_
      refine wt_i2b (pc := 20) dX12_lay_20 ?_
      refine wt_bastore (pc := 21) (kd := 20) dX12_lay_21 rfl rfl h (fun M21 h => ?_)
      refine wt_aload_n (pc := 22) 0 dX12_lay_22 rfl ?_
      refine wt_dup (pc := 23) dX12_lay_23 (rf_cat _ _) ?_
      refine wt_getI (pc := 24) dX12_lay_24 fl_X12_244 (fun _ _ _ => rfl) h (fun v24 h => ?_)
      refine wt_iconst (pc := 27) (v := 1) dX12_lay_27 (by decide) ?_
      refine wt_iadd (pc := 28) dX12_lay_28 ?_
      refine wt_putI (pc := 29) dX12_lay_29 fl_X12_244 rfl rfl h (fun M29 h => ?_)
      refine wt_iinc (pc := 32) (d := (-1)) (ls' := [(2, .int (l2 + (-1))), (0, rf G.1 l0), (1, .int l1)]) 2 dX12_lay_32 rfl (by decide) (by decide) rfl ?_
      refine wt_goto (pc := 35) (tgt := 2) dX12_lay_35 (by decide) ?_
      refine wt_sub (ls' := [(0, rf G.1 l0), (1, .int l1), (2, .int (l2 + (-1)))]) [1, 2, 0] rfl ?_
      exact ih h
set_option maxHeartbeats 4000000 in
set_option maxRecDepth 100000 in
theorem t_X12_lay_e {G : GG} {X : CX} {ans : Mm} (he : EndV G X j_X12_lay b_X12_lay ans) {M : Mm} {l0 : Option Nat} {l1 : Int32} (h : f_X12_lay M l0 l1 = some ans) : Wt G X j_X12_lay b_X12_lay 0 [(0, rf G.1 l0), (1, .int l1)] [] M 0 0 := by
  unfold f_X12_lay at h
  refine wt_iconst (pc := 0) (v := 3) dX12_lay_0 (by decide) ?_
  refine wt_istore_n (pc := 1) (i := 2) (ls' := [(2, .int 3), (0, rf G.1 l0), (1, .int l1)]) rfl dX12_lay_1 (by decide) rfl ?_
  refine wt_sub (ls' := [(0, rf G.1 l0), (1, .int l1), (2, .int 3)]) [1, 2, 0] rfl ?_
  exact t_X12_lay_2 he  fu h
set_option maxHeartbeats 4000000 in
set_option maxRecDepth 100000 in
theorem c_X12_lay {G : GG} {M : Mm} {l0 : Option Nat} {l1 : Int32} {r : Mm} (h : f_X12_lay M l0 l1 = some r) (l : Launch) : Ct l G j_X12_lay b_X12_lay [rf G.1 l0, .int l1] M none r := cf_V (by decide +kernel) (by simp [lg_sl, rf_cat, cat_i, cat_l, j_X12_lay]) rfl (by simp [lv_args, rf_cat, cat_i, cat_l]) (fun X he => t_X12_lay_e he h)
def f_X12_feed (M : Mm) (l0 : Option Nat) (l1 : Int32) (l2 : Int32) (l3 : Int32) (l4 : Int32) (l5 : Int32) : Option (Int32 × Mm) := pfI M l0 12 1 0 fun M2 => gfI M2 l0 12 8 fun v6 => if (v6 + 20) ≤ 900 then (ck M2 l0 12 <| bv (f_X12_lay M2 l0 l1) fun M22 => ck M22 l0 12 <| bv (f_X12_lay M22 l0 l2) fun M27 => ck M27 l0 12 <| bv (f_X12_lay M27 l0 l3) fun M32 => ck M32 l0 12 <| bv (f_X12_lay M32 l0 l4) fun M38 => ck M38 l0 12 <| bv (f_X12_lay M38 l0 l5) fun M44 => gfI M44 l0 12 8 fun v48 => some (v48, M44)) else (some ((-1), M2))
set_option maxHeartbeats 4000000 in
set_option maxRecDepth 100000 in
theorem t_X12_feed_e {G : GG} {X : CX} {ans : Int32 × Mm} (he : EndI G X j_X12_feed b_X12_feed ans) {M : Mm} {l0 : Option Nat} {l1 : Int32} {l2 : Int32} {l3 : Int32} {l4 : Int32} {l5 : Int32} (h : f_X12_feed M l0 l1 l2 l3 l4 l5 = some ans) : Wt G X j_X12_feed b_X12_feed 0 [(0, rf G.1 l0), (1, .int l1), (2, .int l2), (3, .int l3), (4, .int l4), (5, .int l5)] [] M 0 0 := by
  unfold f_X12_feed at h
  refine wt_aload_n (pc := 0) 0 dX12_feed_0 rfl ?_
  refine wt_iconst (pc := 1) (v := 0) dX12_feed_1 (by decide) ?_
  refine wt_putI (pc := 2) dX12_feed_2 fl_X12_68 rfl rfl h (fun M2 h => ?_)
  refine wt_aload_n (pc := 5) 0 dX12_feed_5 rfl ?_
  refine wt_getI (pc := 6) dX12_feed_6 fl_X12_244 (fun _ _ _ => rfl) h (fun v6 h => ?_)
  refine wt_bipush (pc := 9) (v := 20) dX12_feed_9 (by decide) ?_
  refine wt_iadd (pc := 11) dX12_feed_11 ?_
  refine wt_sipush (pc := 12) (v := 900) dX12_feed_12 (by decide) ?_
  refine wt_icmp_le (pc := 15) (tgt := 20) dX12_feed_15 (by decide) (fun q => ?_) (fun q => ?_)
  · have h := ite_t q h
    refine wt_aload_n (pc := 20) 0 dX12_feed_20 rfl ?_
    refine wt_iload_n (pc := 21) 1 dX12_feed_21 rfl ?_
    refine wt_cVV (pc := 22) (J' := j_X12_lay) (As := [.int l1]) (st := []) (B' := b_X12_lay) (u' := 0) (w' := 0) dX12_feed_22 ml_X12_247 mv_X12_lay (fun M9 e9 => c_X12_lay e9) rfl (by decide) rfl rfl (by decide) (by decide) (by decide) rfl h (fun M22 h => ?_)
    refine wt_aload_n (pc := 25) 0 dX12_feed_25 rfl ?_
    refine wt_iload_n (pc := 26) 2 dX12_feed_26 rfl ?_
    refine wt_cVV (pc := 27) (J' := j_X12_lay) (As := [.int l2]) (st := []) (B' := b_X12_lay) (u' := 0) (w' := 0) dX12_feed_27 ml_X12_247 mv_X12_lay (fun M9 e9 => c_X12_lay e9) rfl (by decide) rfl rfl (by decide) (by decide) (by decide) rfl h (fun M27 h => ?_)
    refine wt_aload_n (pc := 30) 0 dX12_feed_30 rfl ?_
    refine wt_iload_n (pc := 31) 3 dX12_feed_31 rfl ?_
    refine wt_cVV (pc := 32) (J' := j_X12_lay) (As := [.int l3]) (st := []) (B' := b_X12_lay) (u' := 0) (w' := 0) dX12_feed_32 ml_X12_247 mv_X12_lay (fun M9 e9 => c_X12_lay e9) rfl (by decide) rfl rfl (by decide) (by decide) (by decide) rfl h (fun M32 h => ?_)
    refine wt_aload_n (pc := 35) 0 dX12_feed_35 rfl ?_
    refine wt_iload (pc := 36) 4 dX12_feed_36 rfl ?_
    refine wt_cVV (pc := 38) (J' := j_X12_lay) (As := [.int l4]) (st := []) (B' := b_X12_lay) (u' := 0) (w' := 0) dX12_feed_38 ml_X12_247 mv_X12_lay (fun M9 e9 => c_X12_lay e9) rfl (by decide) rfl rfl (by decide) (by decide) (by decide) rfl h (fun M38 h => ?_)
    refine wt_aload_n (pc := 41) 0 dX12_feed_41 rfl ?_
    refine wt_iload (pc := 42) 5 dX12_feed_42 rfl ?_
    refine wt_cVV (pc := 44) (J' := j_X12_lay) (As := [.int l5]) (st := []) (B' := b_X12_lay) (u' := 0) (w' := 0) dX12_feed_44 ml_X12_247 mv_X12_lay (fun M9 e9 => c_X12_lay e9) rfl (by decide) rfl rfl (by decide) (by decide) (by decide) rfl h (fun M44 h => ?_)
    refine wt_aload_n (pc := 47) 0 dX12_feed_47 rfl ?_
    refine wt_getI (pc := 48) dX12_feed_48 fl_X12_244 (fun _ _ _ => rfl) h (fun v48 h => ?_)
    cases h
    exact he 51 _ _ _ dX12_feed_51 (by decide) (by decide)
  · have h := ite_f q h
    refine wt_iconst (pc := 18) (v := (-1)) dX12_feed_18 (by decide) ?_
    cases h
    exact he 19 _ _ _ dX12_feed_19 (by decide) (by decide)
set_option maxHeartbeats 4000000 in
set_option maxRecDepth 100000 in
theorem c_X12_feed {G : GG} {M : Mm} {l0 : Option Nat} {l1 : Int32} {l2 : Int32} {l3 : Int32} {l4 : Int32} {l5 : Int32} {r : Int32 × Mm} (h : f_X12_feed M l0 l1 l2 l3 l4 l5 = some r) (l : Launch) : Ct l G j_X12_feed b_X12_feed [rf G.1 l0, .int l1, .int l2, .int l3, .int l4, .int l5] M (some (.int r.1)) r.2 := cf_I (by decide +kernel) (by simp [lg_sl, rf_cat, cat_i, cat_l, j_X12_feed]) rfl (by simp [lv_args, rf_cat, cat_i, cat_l]) (fun X he => t_X12_feed_e he h)
def f_X12_starts_17 (M : Mm) (l0 : Option Nat) : Option (Int32 × Mm) := ck M l0 12 <| bd (f_X12_no M l0 5) fun v19 M19 => some (v19, M19)
def g_X12_starts (M : Mm) (l0 : Option Nat) (l1 : Int32) (l2 : Int32) : Option (Int32 × Mm) := if l1 < 0 then (f_X12_starts_17  M l0) else (gfI M l0 12 8 fun v6 => if v6 < l1 then (f_X12_starts_17  M l0) else (if l1 ≤ l2 then (pfI M l0 12 9 l1 fun M25 => pfI M25 l0 12 8 0 fun M30 => pfI M30 l0 12 16 0 fun M35 => pfI M35 l0 12 12 0 fun M40 => ck M40 l0 12 <| bv (f_X12_next M40 l0) fun M44 => some (1, M44)) else (f_X12_starts_17  M l0)))
def f_X12_starts (M : Mm) (l0 : Option Nat) (l1 : Int32) (l2 : Int32) : Option (Int32 × Mm) := zc (g_X12_starts M l0 l1 l2)
set_option maxHeartbeats 4000000 in
set_option maxRecDepth 100000 in
theorem t_X12_starts_17 {G : GG} {X : CX} {ans : Int32 × Mm} (he : EndI G X j_X12_starts b_X12_starts ans) {M : Mm} {l0 : Option Nat} (h : f_X12_starts_17 M l0 = some ans) : Wt G X j_X12_starts b_X12_starts 17 [(0, rf G.1 l0)] [] M 0 0 := by
  unfold f_X12_starts_17 at h
  refine wt_aload_n (pc := 17) 0 dX12_starts_17 rfl ?_
  refine wt_iconst (pc := 18) (v := 5) dX12_starts_18 (by decide) ?_
  refine wt_cVI (pc := 19) (J' := j_X12_no) (As := [.int 5]) (st := []) (B' := b_X12_no) (u' := 0) (w' := 0) dX12_starts_19 ml_X12_83 mv_X12_no (fun v9 M9 e9 => c_X12_no e9) rfl (by decide) rfl rfl (by decide) (by decide) (by decide) rfl h (fun v19 M19 h => ?_)
  cases h
  exact he 22 _ _ _ dX12_starts_22 (by decide) (by decide)
set_option maxHeartbeats 4000000 in
set_option maxRecDepth 100000 in
theorem t_X12_starts_e {G : GG} {X : CX} {ans : Int32 × Mm} (he : EndI G X j_X12_starts b_X12_starts ans) {M : Mm} {l0 : Option Nat} {l1 : Int32} {l2 : Int32} (h : g_X12_starts M l0 l1 l2 = some ans) : Wt G X j_X12_starts b_X12_starts 0 [(0, rf G.1 l0), (1, .int l1), (2, .int l2)] [] M 0 0 := by
  unfold g_X12_starts at h
  refine wt_iload_n (pc := 0) 1 dX12_starts_0 rfl ?_
  refine wt_if_lt (pc := 1) (tgt := 17) dX12_starts_1 (by decide) (fun q => ?_) (fun q => ?_)
  · have h := ite_t q h
    refine wt_sub (ls' := [(0, rf G.1 l0)]) [0] rfl ?_
    exact t_X12_starts_17 he  h
  · have h := ite_f q h
    refine wt_iload_n (pc := 4) 1 dX12_starts_4 rfl ?_
    refine wt_aload_n (pc := 5) 0 dX12_starts_5 rfl ?_
    refine wt_getI (pc := 6) dX12_starts_6 fl_X12_244 (fun _ _ _ => rfl) h (fun v6 h => ?_)
    refine wt_icmp_gt (pc := 9) (tgt := 17) dX12_starts_9 (by decide) (fun q => ?_) (fun q => ?_)
    · have h := ite_t q h
      refine wt_sub (ls' := [(0, rf G.1 l0)]) [0] rfl ?_
      exact t_X12_starts_17 he  h
    · have h := ite_f q h
      refine wt_iload_n (pc := 12) 1 dX12_starts_12 rfl ?_
      refine wt_iload_n (pc := 13) 2 dX12_starts_13 rfl ?_
      refine wt_icmp_le (pc := 14) (tgt := 23) dX12_starts_14 (by decide) (fun q => ?_) (fun q => ?_)
      · have h := ite_t q h
        refine wt_aload_n (pc := 23) 0 dX12_starts_23 rfl ?_
        refine wt_iload_n (pc := 24) 1 dX12_starts_24 rfl ?_
        refine wt_putI (pc := 25) dX12_starts_25 fl_X12_111 rfl rfl h (fun M25 h => ?_)
        refine wt_aload_n (pc := 28) 0 dX12_starts_28 rfl ?_
        refine wt_iconst (pc := 29) (v := 0) dX12_starts_29 (by decide) ?_
        refine wt_putI (pc := 30) dX12_starts_30 fl_X12_244 rfl rfl h (fun M30 h => ?_)
        refine wt_aload_n (pc := 33) 0 dX12_starts_33 rfl ?_
        refine wt_iconst (pc := 34) (v := 0) dX12_starts_34 (by decide) ?_
        refine wt_putI (pc := 35) dX12_starts_35 fl_X12_114 rfl rfl h (fun M35 h => ?_)
        refine wt_aload_n (pc := 38) 0 dX12_starts_38 rfl ?_
        refine wt_iconst (pc := 39) (v := 0) dX12_starts_39 (by decide) ?_
        refine wt_putI (pc := 40) dX12_starts_40 fl_X12_221 rfl rfl h (fun M40 h => ?_)
        refine wt_aload_n (pc := 43) 0 dX12_starts_43 rfl ?_
        refine wt_cVV (pc := 44) (J' := j_X12_next) (As := []) (st := []) (B' := b_X12_next) (u' := 0) (w' := 0) dX12_starts_44 ml_X12_231 mv_X12_next (fun M9 e9 => c_X12_next e9) rfl (by decide) rfl rfl (by decide) (by decide) (by decide) rfl h (fun M44 h => ?_)
        refine wt_iconst (pc := 47) (v := 1) dX12_starts_47 (by decide) ?_
        cases h
        exact he 48 _ _ _ dX12_starts_48 (by decide) (by decide)
      · have h := ite_f q h
        refine wt_sub (ls' := [(0, rf G.1 l0)]) [0] rfl ?_
        exact t_X12_starts_17 he  h
set_option maxHeartbeats 4000000 in
set_option maxRecDepth 100000 in
theorem c_X12_starts {G : GG} {M : Mm} {l0 : Option Nat} {l1 : Int32} {l2 : Int32} {r : Int32 × Mm} (h : f_X12_starts M l0 l1 l2 = some r) (l : Launch) : Ct l G j_X12_starts b_X12_starts [rf G.1 l0, .int l1, .int l2] M (some (.int r.1)) r.2 := cf_Z h (by decide +kernel) (by simp [lg_sl, rf_cat, cat_i, cat_l, j_X12_starts]) rfl (by simp [lv_args, rf_cat, cat_i, cat_l]) (fun h X he => t_X12_starts_e he h)
def f_X12_isWell_43 (M : Mm)  : Option (Int32 × Mm) := some (1, M)
def f_X12_isWell_24 (M : Mm) (l0 : Option Nat) (s0 : Option Nat) (s1 : Int32) : Option (Int32 × Mm) := pfI M s0 12 11 s1 fun M24 => gfI M24 l0 12 12 fun v28 => if v28 = 0 then (f_X12_isWell_43  M24) else (ck M24 l0 12 <| bd (f_X12_no M24 l0 10) fun v37 M37 => if v37 = 0 then (some (0, M37)) else (f_X12_isWell_43  M37))
def g_X12_isWell (M : Mm) (l0 : Option Nat) : Option (Int32 × Mm) := gfI M l0 12 12 fun v2 => pfI M l0 12 10 v2 fun M5 => gfI M5 l0 12 12 fun v10 => if v10 = 0 then (f_X12_isWell_24  M5 l0 l0 (-1)) else (gfI M5 l0 12 13 fun v21 => f_X12_isWell_24  M5 l0 l0 v21)
def f_X12_isWell (M : Mm) (l0 : Option Nat) : Option (Int32 × Mm) := zc (g_X12_isWell M l0)
set_option maxHeartbeats 4000000 in
set_option maxRecDepth 100000 in
theorem t_X12_isWell_43 {G : GG} {X : CX} {ans : Int32 × Mm} (he : EndI G X j_X12_isWell b_X12_isWell ans) {M : Mm}  (h : f_X12_isWell_43 M = some ans) : Wt G X j_X12_isWell b_X12_isWell 43 [] [] M 0 0 := by
  unfold f_X12_isWell_43 at h
  refine wt_iconst (pc := 43) (v := 1) dX12_isWell_43 (by decide) ?_
  refine wt_goto (pc := 44) (tgt := 48) dX12_isWell_44 (by decide) ?_
  cases h
  exact he 48 _ _ _ dX12_isWell_48 (by decide) (by decide)
set_option maxHeartbeats 4000000 in
set_option maxRecDepth 100000 in
theorem t_X12_isWell_24 {G : GG} {X : CX} {ans : Int32 × Mm} (he : EndI G X j_X12_isWell b_X12_isWell ans) {M : Mm} {l0 : Option Nat} {s0 : Option Nat} {s1 : Int32} (h : f_X12_isWell_24 M l0 s0 s1 = some ans) : Wt G X j_X12_isWell b_X12_isWell 24 [(0, rf G.1 l0)] [.int s1, rf G.1 s0] M 0 0 := by
  unfold f_X12_isWell_24 at h
  refine wt_putI (pc := 24) dX12_isWell_24 fl_X12_32 rfl rfl h (fun M24 h => ?_)
  refine wt_aload_n (pc := 27) 0 dX12_isWell_27 rfl ?_
  refine wt_getI (pc := 28) dX12_isWell_28 fl_X12_221 (fun _ _ _ => rfl) h (fun v28 h => ?_)
  refine wt_if_eq (pc := 31) (tgt := 43) dX12_isWell_31 (by decide) (fun q => ?_) (fun q => ?_)
  · have h := ite_t q h
    refine wt_sub (ls' := []) [] rfl ?_
    exact t_X12_isWell_43 he  h
  · have h := ite_f q h
    refine wt_aload_n (pc := 34) 0 dX12_isWell_34 rfl ?_
    refine wt_bipush (pc := 35) (v := 10) dX12_isWell_35 (by decide) ?_
    refine wt_cVI (pc := 37) (J' := j_X12_no) (As := [.int 10]) (st := []) (B' := b_X12_no) (u' := 0) (w' := 0) dX12_isWell_37 ml_X12_83 mv_X12_no (fun v9 M9 e9 => c_X12_no e9) rfl (by decide) rfl rfl (by decide) (by decide) (by decide) rfl h (fun v37 M37 h => ?_)
    refine wt_if_eq (pc := 40) (tgt := 47) dX12_isWell_40 (by decide) (fun q => ?_) (fun q => ?_)
    · have h := ite_t q h
      refine wt_iconst (pc := 47) (v := 0) dX12_isWell_47 (by decide) ?_
      cases h
      exact he 48 _ _ _ dX12_isWell_48 (by decide) (by decide)
    · have h := ite_f q h
      refine wt_sub (ls' := []) [] rfl ?_
      exact t_X12_isWell_43 he  h
set_option maxHeartbeats 4000000 in
set_option maxRecDepth 100000 in
theorem t_X12_isWell_e {G : GG} {X : CX} {ans : Int32 × Mm} (he : EndI G X j_X12_isWell b_X12_isWell ans) {M : Mm} {l0 : Option Nat} (h : g_X12_isWell M l0 = some ans) : Wt G X j_X12_isWell b_X12_isWell 0 [(0, rf G.1 l0)] [] M 0 0 := by
  unfold g_X12_isWell at h
  refine wt_aload_n (pc := 0) 0 dX12_isWell_0 rfl ?_
  refine wt_aload_n (pc := 1) 0 dX12_isWell_1 rfl ?_
  refine wt_getI (pc := 2) dX12_isWell_2 fl_X12_221 (fun _ _ _ => rfl) h (fun v2 h => ?_)
  refine wt_putI (pc := 5) dX12_isWell_5 fl_X12_28 rfl rfl h (fun M5 h => ?_)
  refine wt_aload_n (pc := 8) 0 dX12_isWell_8 rfl ?_
  refine wt_aload_n (pc := 9) 0 dX12_isWell_9 rfl ?_
  refine wt_getI (pc := 10) dX12_isWell_10 fl_X12_221 (fun _ _ _ => rfl) h (fun v10 h => ?_)
  refine wt_if_ne (pc := 13) (tgt := 20) dX12_isWell_13 (by decide) (fun q => ?_) (fun q => ?_)
  · have h := ite_f q h
    refine wt_aload_n (pc := 20) 0 dX12_isWell_20 rfl ?_
    refine wt_getI (pc := 21) dX12_isWell_21 fl_X12_224 (fun _ _ _ => rfl) h (fun v21 h => ?_)
    exact t_X12_isWell_24 he  h
  · have h := ite_t q h
    refine wt_iconst (pc := 16) (v := (-1)) dX12_isWell_16 (by decide) ?_
    refine wt_goto (pc := 17) (tgt := 24) dX12_isWell_17 (by decide) ?_
    exact t_X12_isWell_24 he  h
set_option maxHeartbeats 4000000 in
set_option maxRecDepth 100000 in
theorem c_X12_isWell {G : GG} {M : Mm} {l0 : Option Nat} {r : Int32 × Mm} (h : f_X12_isWell M l0 = some r) (l : Launch) : Ct l G j_X12_isWell b_X12_isWell [rf G.1 l0] M (some (.int r.1)) r.2 := cf_Z h (by decide +kernel) (by simp [lg_sl, rf_cat, cat_i, cat_l, j_X12_isWell]) rfl (by simp [lv_args, rf_cat, cat_i, cat_l]) (fun h X he => t_X12_isWell_e he h)
def f_X12_fault (M : Mm) (l0 : Option Nat) (l1 : Int32) : Option (Int32 × Mm) := pfI M l0 12 1 0 fun M2 => if l1 = 0 then (gfI M2 l0 12 10 fun v10 => some (v10, M2)) else (if l1 = 1 then (gfI M2 l0 12 11 fun v22 => some (v22, M2)) else (some ((-1), M2)))
set_option maxHeartbeats 4000000 in
set_option maxRecDepth 100000 in
theorem t_X12_fault_e {G : GG} {X : CX} {ans : Int32 × Mm} (he : EndI G X j_X12_fault b_X12_fault ans) {M : Mm} {l0 : Option Nat} {l1 : Int32} (h : f_X12_fault M l0 l1 = some ans) : Wt G X j_X12_fault b_X12_fault 0 [(0, rf G.1 l0), (1, .int l1)] [] M 0 0 := by
  unfold f_X12_fault at h
  refine wt_aload_n (pc := 0) 0 dX12_fault_0 rfl ?_
  refine wt_iconst (pc := 1) (v := 0) dX12_fault_1 (by decide) ?_
  refine wt_putI (pc := 2) dX12_fault_2 fl_X12_68 rfl rfl h (fun M2 h => ?_)
  refine wt_iload_n (pc := 5) 1 dX12_fault_5 rfl ?_
  refine wt_if_ne (pc := 6) (tgt := 16) dX12_fault_6 (by decide) (fun q => ?_) (fun q => ?_)
  · have h := ite_f q h
    refine wt_iload_n (pc := 16) 1 dX12_fault_16 rfl ?_
    refine wt_iconst (pc := 17) (v := 1) dX12_fault_17 (by decide) ?_
    refine wt_icmp_ne (pc := 18) (tgt := 28) dX12_fault_18 (by decide) (fun q => ?_) (fun q => ?_)
    · have h := ite_f q h
      refine wt_iconst (pc := 28) (v := (-1)) dX12_fault_28 (by decide) ?_
      cases h
      exact he 29 _ _ _ dX12_fault_29 (by decide) (by decide)
    · have h := ite_t q h
      refine wt_aload_n (pc := 21) 0 dX12_fault_21 rfl ?_
      refine wt_getI (pc := 22) dX12_fault_22 fl_X12_32 (fun _ _ _ => rfl) h (fun v22 h => ?_)
      refine wt_goto (pc := 25) (tgt := 29) dX12_fault_25 (by decide) ?_
      cases h
      exact he 29 _ _ _ dX12_fault_29 (by decide) (by decide)
  · have h := ite_t q h
    refine wt_aload_n (pc := 9) 0 dX12_fault_9 rfl ?_
    refine wt_getI (pc := 10) dX12_fault_10 fl_X12_28 (fun _ _ _ => rfl) h (fun v10 h => ?_)
    refine wt_goto (pc := 13) (tgt := 29) dX12_fault_13 (by decide) ?_
    cases h
    exact he 29 _ _ _ dX12_fault_29 (by decide) (by decide)
set_option maxHeartbeats 4000000 in
set_option maxRecDepth 100000 in
theorem c_X12_fault {G : GG} {M : Mm} {l0 : Option Nat} {l1 : Int32} {r : Int32 × Mm} (h : f_X12_fault M l0 l1 = some r) (l : Launch) : Ct l G j_X12_fault b_X12_fault [rf G.1 l0, .int l1] M (some (.int r.1)) r.2 := cf_I (by decide +kernel) (by simp [lg_sl, rf_cat, cat_i, cat_l, j_X12_fault]) rfl (by simp [lv_args, rf_cat, cat_i, cat_l]) (fun X he => t_X12_fault_e he h)
def f_X12_namedIn_3 : Nat → Mm → Option Nat → Int32 → Int32 → Int32 → Int32 → Option (Int32 × Mm)
  | 0, _, _, _, _, _, _ => none
  | n + 1, M, l0, l1, l2, l3, l4 => if l3 ≤ l4 then (some ((-1), M)) else (gfR M l0 12 22 fun v10 => alL M v10 22 (((18 * l1) + l2) + l4) fun v22 => gfL M l0 12 19 fun v24 => if (lg_cmp v22 v24) = 0 then (some (l4, M)) else (f_X12_namedIn_3 n M l0 l1 l2 l3 (l4 + 1)))
def f_X12_namedIn (M : Mm) (l0 : Option Nat) (l1 : Int32) (l2 : Int32) (l3 : Int32) : Option (Int32 × Mm) := f_X12_namedIn_3  fu M l0 l1 l2 l3 0
set_option maxHeartbeats 4000000 in
set_option maxRecDepth 100000 in
theorem t_X12_namedIn_3 {G : GG} {X : CX} {ans : Int32 × Mm} (he : EndI G X j_X12_namedIn b_X12_namedIn ans) : ∀ (n : Nat) {M : Mm} {l0 : Option Nat} {l1 : Int32} {l2 : Int32} {l3 : Int32} {l4 : Int32}, f_X12_namedIn_3 n M l0 l1 l2 l3 l4 = some ans → Wt G X j_X12_namedIn b_X12_namedIn 3 [(0, rf G.1 l0), (1, .int l1), (2, .int l2), (3, .int l3), (4, .int l4)] [] M 0 0 := by
  intro n
  induction n with
  | zero =>
    intro M l0 l1 l2 l3 l4 h
    rw [f_X12_namedIn_3] at h
    cases h
  | succ n ih =>
    intro M l0 l1 l2 l3 l4 h
    rw [f_X12_namedIn_3] at h
    refine wt_iload (pc := 3) 4 dX12_namedIn_3 rfl ?_
    refine wt_iload_n (pc := 5) 3 dX12_namedIn_5 rfl ?_
    refine wt_icmp_ge (pc := 6) (tgt := 40) dX12_namedIn_6 (by decide) (fun q => ?_) (fun q => ?_)
    · have h := ite_t q h
      refine wt_iconst (pc := 40) (v := (-1)) dX12_namedIn_40 (by decide) ?_
      cases h
      exact he 41 _ _ _ dX12_namedIn_41 (by decide) (by decide)
    · have h := ite_f q h
      refine wt_aload_n (pc := 9) 0 dX12_namedIn_9 rfl ?_
      refine wt_getR (pc := 10) dX12_namedIn_10 fl_X12_41 (fun _ _ _ => rfl) h (fun v10 h => ?_)
      refine wt_bipush (pc := 13) (v := 18) dX12_namedIn_13 (by decide) ?_
      refine wt_iload_n (pc := 15) 1 dX12_namedIn_15 rfl ?_
      refine wt_imul (pc := 16) dX12_namedIn_16 ?_
      refine wt_iload_n (pc := 17) 2 dX12_namedIn_17 rfl ?_
      refine wt_iadd (pc := 18) dX12_namedIn_18 ?_
      refine wt_iload (pc := 19) 4 dX12_namedIn_19 rfl ?_
      refine wt_iadd (pc := 21) dX12_namedIn_21 ?_
      refine wt_laload (pc := 22) (kd := 22) dX12_namedIn_22 rfl rfl h (fun v22 h => ?_)
      refine wt_aload_n (pc := 23) 0 dX12_namedIn_23 rfl ?_
      refine wt_getL (pc := 24) dX12_namedIn_24 fl_X12_129 (fun _ _ _ => rfl) h (fun v24 h => ?_)
      refine wt_lcmp (pc := 27) dX12_namedIn_27 ?_
      refine wt_if_ne (pc := 28) (tgt := 34) dX12_namedIn_28 (by decide) (fun q => ?_) (fun q => ?_)
      · have h := ite_f q h
        refine wt_iinc (pc := 34) (d := 1) (ls' := [(4, .int (l4 + 1)), (0, rf G.1 l0), (1, .int l1), (2, .int l2), (3, .int l3)]) 4 dX12_namedIn_34 rfl (by decide) (by decide) rfl ?_
        refine wt_goto (pc := 37) (tgt := 3) dX12_namedIn_37 (by decide) ?_
        refine wt_sub (ls' := [(0, rf G.1 l0), (1, .int l1), (2, .int l2), (3, .int l3), (4, .int (l4 + 1))]) [1, 2, 3, 4, 0] rfl ?_
        exact ih h
      · have h := ite_t q h
        refine wt_iload (pc := 31) 4 dX12_namedIn_31 rfl ?_
        cases h
        exact he 33 _ _ _ dX12_namedIn_33 (by decide) (by decide)
set_option maxHeartbeats 4000000 in
set_option maxRecDepth 100000 in
theorem t_X12_namedIn_e {G : GG} {X : CX} {ans : Int32 × Mm} (he : EndI G X j_X12_namedIn b_X12_namedIn ans) {M : Mm} {l0 : Option Nat} {l1 : Int32} {l2 : Int32} {l3 : Int32} (h : f_X12_namedIn M l0 l1 l2 l3 = some ans) : Wt G X j_X12_namedIn b_X12_namedIn 0 [(0, rf G.1 l0), (1, .int l1), (2, .int l2), (3, .int l3)] [] M 0 0 := by
  unfold f_X12_namedIn at h
  refine wt_iconst (pc := 0) (v := 0) dX12_namedIn_0 (by decide) ?_
  refine wt_istore (pc := 1) (i := 4) (ls' := [(4, .int 0), (0, rf G.1 l0), (1, .int l1), (2, .int l2), (3, .int l3)]) dX12_namedIn_1 (by decide) rfl ?_
  refine wt_sub (ls' := [(0, rf G.1 l0), (1, .int l1), (2, .int l2), (3, .int l3), (4, .int 0)]) [1, 2, 3, 4, 0] rfl ?_
  exact t_X12_namedIn_3 he  fu h
set_option maxHeartbeats 4000000 in
set_option maxRecDepth 100000 in
theorem c_X12_namedIn {G : GG} {M : Mm} {l0 : Option Nat} {l1 : Int32} {l2 : Int32} {l3 : Int32} {r : Int32 × Mm} (h : f_X12_namedIn M l0 l1 l2 l3 = some r) (l : Launch) : Ct l G j_X12_namedIn b_X12_namedIn [rf G.1 l0, .int l1, .int l2, .int l3] M (some (.int r.1)) r.2 := cf_I (by decide +kernel) (by simp [lg_sl, rf_cat, cat_i, cat_l, j_X12_namedIn]) rfl (by simp [lv_args, rf_cat, cat_i, cat_l]) (fun X he => t_X12_namedIn_e he h)
def f_X12_houseNamed (M : Mm) (l0 : Option Nat) (l1 : Int32) : Option (Int32 × Mm) := gfR M l0 12 20 fun v4 => alI M v4 21 (450 * l1) fun v12 => ck M l0 12 <| bd (f_X12_namedIn M l0 l1 0 v12) fun v13 M13 => some (v13, M13)
set_option maxHeartbeats 4000000 in
set_option maxRecDepth 100000 in
theorem t_X12_houseNamed_e {G : GG} {X : CX} {ans : Int32 × Mm} (he : EndI G X j_X12_houseNamed b_X12_houseNamed ans) {M : Mm} {l0 : Option Nat} {l1 : Int32} (h : f_X12_houseNamed M l0 l1 = some ans) : Wt G X j_X12_houseNamed b_X12_houseNamed 0 [(0, rf G.1 l0), (1, .int l1)] [] M 0 0 := by
  unfold f_X12_houseNamed at h
  refine wt_aload_n (pc := 0) 0 dX12_houseNamed_0 rfl ?_
  refine wt_iload_n (pc := 1) 1 dX12_houseNamed_1 rfl ?_
  refine wt_iconst (pc := 2) (v := 0) dX12_houseNamed_2 (by decide) ?_
  refine wt_aload_n (pc := 3) 0 dX12_houseNamed_3 rfl ?_
  refine wt_getR (pc := 4) dX12_houseNamed_4 fl_X12_35 (fun _ _ _ => rfl) h (fun v4 h => ?_)
  refine wt_sipush (pc := 7) (v := 450) dX12_houseNamed_7 (by decide) ?_
  refine wt_iload_n (pc := 10) 1 dX12_houseNamed_10 rfl ?_
  refine wt_imul (pc := 11) dX12_houseNamed_11 ?_
  refine wt_iaload (pc := 12) (kd := 21) dX12_houseNamed_12 rfl rfl h (fun v12 h => ?_)
  refine wt_cVI (pc := 13) (J' := j_X12_namedIn) (As := [.int l1, .int 0, .int v12]) (st := []) (B' := b_X12_namedIn) (u' := 0) (w' := 0) dX12_houseNamed_13 ml_X12_251 mv_X12_namedIn (fun v9 M9 e9 => c_X12_namedIn e9) rfl (by decide) rfl rfl (by decide) (by decide) (by decide) rfl h (fun v13 M13 h => ?_)
  cases h
  exact he 16 _ _ _ dX12_houseNamed_16 (by decide) (by decide)
set_option maxHeartbeats 4000000 in
set_option maxRecDepth 100000 in
theorem c_X12_houseNamed {G : GG} {M : Mm} {l0 : Option Nat} {l1 : Int32} {r : Int32 × Mm} (h : f_X12_houseNamed M l0 l1 = some r) (l : Launch) : Ct l G j_X12_houseNamed b_X12_houseNamed [rf G.1 l0, .int l1] M (some (.int r.1)) r.2 := cf_I (by decide +kernel) (by simp [lg_sl, rf_cat, cat_i, cat_l, j_X12_houseNamed]) rfl (by simp [lv_args, rf_cat, cat_i, cat_l]) (fun X he => t_X12_houseNamed_e he h)
def f_X12_gangNamed (M : Mm) (l0 : Option Nat) (l1 : Int32) : Option (Int32 × Mm) := gfR M l0 12 20 fun v5 => alI M v5 21 ((450 * l1) + 1) fun v15 => ck M l0 12 <| bd (f_X12_namedIn M l0 l1 8 v15) fun v16 M16 => some (v16, M16)
set_option maxHeartbeats 4000000 in
set_option maxRecDepth 100000 in
theorem t_X12_gangNamed_e {G : GG} {X : CX} {ans : Int32 × Mm} (he : EndI G X j_X12_gangNamed b_X12_gangNamed ans) {M : Mm} {l0 : Option Nat} {l1 : Int32} (h : f_X12_gangNamed M l0 l1 = some ans) : Wt G X j_X12_gangNamed b_X12_gangNamed 0 [(0, rf G.1 l0), (1, .int l1)] [] M 0 0 := by
  unfold f_X12_gangNamed at h
  refine wt_aload_n (pc := 0) 0 dX12_gangNamed_0 rfl ?_
  refine wt_iload_n (pc := 1) 1 dX12_gangNamed_1 rfl ?_
  refine wt_bipush (pc := 2) (v := 8) dX12_gangNamed_2 (by decide) ?_
  refine wt_aload_n (pc := 4) 0 dX12_gangNamed_4 rfl ?_
  refine wt_getR (pc := 5) dX12_gangNamed_5 fl_X12_35 (fun _ _ _ => rfl) h (fun v5 h => ?_)
  refine wt_sipush (pc := 8) (v := 450) dX12_gangNamed_8 (by decide) ?_
  refine wt_iload_n (pc := 11) 1 dX12_gangNamed_11 rfl ?_
  refine wt_imul (pc := 12) dX12_gangNamed_12 ?_
  refine wt_iconst (pc := 13) (v := 1) dX12_gangNamed_13 (by decide) ?_
  refine wt_iadd (pc := 14) dX12_gangNamed_14 ?_
  refine wt_iaload (pc := 15) (kd := 21) dX12_gangNamed_15 rfl rfl h (fun v15 h => ?_)
  refine wt_cVI (pc := 16) (J' := j_X12_namedIn) (As := [.int l1, .int 8, .int v15]) (st := []) (B' := b_X12_namedIn) (u' := 0) (w' := 0) dX12_gangNamed_16 ml_X12_251 mv_X12_namedIn (fun v9 M9 e9 => c_X12_namedIn e9) rfl (by decide) rfl rfl (by decide) (by decide) (by decide) rfl h (fun v16 M16 h => ?_)
  cases h
  exact he 19 _ _ _ dX12_gangNamed_19 (by decide) (by decide)
set_option maxHeartbeats 4000000 in
set_option maxRecDepth 100000 in
theorem c_X12_gangNamed {G : GG} {M : Mm} {l0 : Option Nat} {l1 : Int32} {r : Int32 × Mm} (h : f_X12_gangNamed M l0 l1 = some r) (l : Launch) : Ct l G j_X12_gangNamed b_X12_gangNamed [rf G.1 l0, .int l1] M (some (.int r.1)) r.2 := cf_I (by decide +kernel) (by simp [lg_sl, rf_cat, cat_i, cat_l, j_X12_gangNamed]) rfl (by simp [lv_args, rf_cat, cat_i, cat_l]) (fun X he => t_X12_gangNamed_e he h)
def f_X12_readNew_65 (M : Mm) (l0 : Option Nat) (l1 : Int32) : Option (Mm) := gfI M l0 12 12 fun v66 => if v66 ≤ 0 then (gfR M l0 12 22 fun v74 => gfL M l0 12 19 fun v82 => asL M v74 22 (72 + l1) v82 fun M85 => ck M85 l0 12 <| bv (f_X12_next M85 l0) fun M87 => some M87) else (some M)
def f_X12_readNew_56 (M : Mm) (l0 : Option Nat) (l1 : Int32) : Option (Mm) := gfI M l0 12 15 fun v59 => ck M l0 12 <| bv (f_X12_fail M l0 3 v59) fun M62 => f_X12_readNew_65  M62 l0 l1
def f_X12_readNew_15 (M : Mm) (l0 : Option Nat) (l1 : Int32) : Option (Mm) := gfI M l0 12 12 fun v16 => if v16 = 0 then (ck M l0 12 <| bd (f_X12_houseNamed M l0 4) fun v24 M24 => if 0 ≤ v24 then (f_X12_readNew_56  M24 l0 l1) else (ck M24 l0 12 <| bd (f_X12_gangNamed M24 l0 4) fun v32 M32 => if 0 ≤ v32 then (f_X12_readNew_56  M32 l0 l1) else (gfR M32 l0 12 20 fun v43 => alI M32 v43 21 1802 fun v49 => ck M32 l0 12 <| bd (f_X12_namedIn M32 l0 4 12 v49) fun v50 M50 => if v50 < 0 then (f_X12_readNew_65  M50 l0 l1) else (f_X12_readNew_56  M50 l0 l1)))) else (f_X12_readNew_65  M l0 l1)
def f_X12_readNew (M : Mm) (l0 : Option Nat) (l1 : Int32) : Option (Mm) := ck M l0 12 <| bv (f_X12_next M l0) fun M1 => ck M1 l0 12 <| bd (f_X12_isName M1 l0) fun v5 M5 => if v5 = 0 then (ck M5 l0 12 <| bv (f_X12_wrong M5 l0) fun M12 => f_X12_readNew_15  M12 l0 l1) else (f_X12_readNew_15  M5 l0 l1)
set_option maxHeartbeats 4000000 in
set_option maxRecDepth 100000 in
theorem t_X12_readNew_65 {G : GG} {X : CX} {ans : Mm} (he : EndV G X j_X12_readNew b_X12_readNew ans) {M : Mm} {l0 : Option Nat} {l1 : Int32} (h : f_X12_readNew_65 M l0 l1 = some ans) : Wt G X j_X12_readNew b_X12_readNew 65 [(0, rf G.1 l0), (1, .int l1)] [] M 0 0 := by
  unfold f_X12_readNew_65 at h
  refine wt_aload_n (pc := 65) 0 dX12_readNew_65 rfl ?_
  refine wt_getI (pc := 66) dX12_readNew_66 fl_X12_221 (fun _ _ _ => rfl) h (fun v66 h => ?_)
  refine wt_if_le (pc := 69) (tgt := 73) dX12_readNew_69 (by decide) (fun q => ?_) (fun q => ?_)
  · have h := ite_t q h
    refine wt_aload_n (pc := 73) 0 dX12_readNew_73 rfl ?_
    refine wt_getR (pc := 74) dX12_readNew_74 fl_X12_41 (fun _ _ _ => rfl) h (fun v74 h => ?_)
    refine wt_bipush (pc := 77) (v := 72) dX12_readNew_77 (by decide) ?_
    refine wt_iload_n (pc := 79) 1 dX12_readNew_79 rfl ?_
    refine wt_iadd (pc := 80) dX12_readNew_80 ?_
    refine wt_aload_n (pc := 81) 0 dX12_readNew_81 rfl ?_
    refine wt_getL (pc := 82) dX12_readNew_82 fl_X12_129 (fun _ _ _ => rfl) h (fun v82 h => ?_)
    refine wt_lastore (pc := 85) (kd := 22) dX12_readNew_85 rfl rfl h (fun M85 h => ?_)
    refine wt_aload_n (pc := 86) 0 dX12_readNew_86 rfl ?_
    refine wt_cVV (pc := 87) (J' := j_X12_next) (As := []) (st := []) (B' := b_X12_next) (u' := 0) (w' := 0) dX12_readNew_87 ml_X12_231 mv_X12_next (fun M9 e9 => c_X12_next e9) rfl (by decide) rfl rfl (by decide) (by decide) (by decide) rfl h (fun M87 h => ?_)
    cases h
    exact he 90 _ _ _ dX12_readNew_90 (by decide) (by decide)
  · have h := ite_f q h
    cases h
    exact he 72 _ _ _ dX12_readNew_72 (by decide) (by decide)
set_option maxHeartbeats 4000000 in
set_option maxRecDepth 100000 in
theorem t_X12_readNew_56 {G : GG} {X : CX} {ans : Mm} (he : EndV G X j_X12_readNew b_X12_readNew ans) {M : Mm} {l0 : Option Nat} {l1 : Int32} (h : f_X12_readNew_56 M l0 l1 = some ans) : Wt G X j_X12_readNew b_X12_readNew 56 [(0, rf G.1 l0), (1, .int l1)] [] M 0 0 := by
  unfold f_X12_readNew_56 at h
  refine wt_aload_n (pc := 56) 0 dX12_readNew_56 rfl ?_
  refine wt_iconst (pc := 57) (v := 3) dX12_readNew_57 (by decide) ?_
  refine wt_aload_n (pc := 58) 0 dX12_readNew_58 rfl ?_
  refine wt_getI (pc := 59) dX12_readNew_59 fl_X12_117 (fun _ _ _ => rfl) h (fun v59 h => ?_)
  refine wt_cVV (pc := 62) (J' := j_X12_fail) (As := [.int 3, .int v59]) (st := []) (B' := b_X12_fail) (u' := 0) (w' := 0) dX12_readNew_62 ml_X12_227 mv_X12_fail (fun M9 e9 => c_X12_fail e9) rfl (by decide) rfl rfl (by decide) (by decide) (by decide) rfl h (fun M62 h => ?_)
  exact t_X12_readNew_65 he  h
set_option maxHeartbeats 4000000 in
set_option maxRecDepth 100000 in
theorem t_X12_readNew_15 {G : GG} {X : CX} {ans : Mm} (he : EndV G X j_X12_readNew b_X12_readNew ans) {M : Mm} {l0 : Option Nat} {l1 : Int32} (h : f_X12_readNew_15 M l0 l1 = some ans) : Wt G X j_X12_readNew b_X12_readNew 15 [(0, rf G.1 l0), (1, .int l1)] [] M 0 0 := by
  unfold f_X12_readNew_15 at h
  refine wt_aload_n (pc := 15) 0 dX12_readNew_15 rfl ?_
  refine wt_getI (pc := 16) dX12_readNew_16 fl_X12_221 (fun _ _ _ => rfl) h (fun v16 h => ?_)
  refine wt_if_ne (pc := 19) (tgt := 65) dX12_readNew_19 (by decide) (fun q => ?_) (fun q => ?_)
  · have h := ite_f q h
    exact t_X12_readNew_65 he  h
  · have h := ite_t q h
    refine wt_aload_n (pc := 22) 0 dX12_readNew_22 rfl ?_
    refine wt_iconst (pc := 23) (v := 4) dX12_readNew_23 (by decide) ?_
    refine wt_cVI (pc := 24) (J' := j_X12_houseNamed) (As := [.int 4]) (st := []) (B' := b_X12_houseNamed) (u' := 0) (w' := 0) dX12_readNew_24 ml_X12_258 mv_X12_houseNamed (fun v9 M9 e9 => c_X12_houseNamed e9) rfl (by decide) rfl rfl (by decide) (by decide) (by decide) rfl h (fun v24 M24 h => ?_)
    refine wt_if_ge (pc := 27) (tgt := 56) dX12_readNew_27 (by decide) (fun q => ?_) (fun q => ?_)
    · have h := ite_t q h
      exact t_X12_readNew_56 he  h
    · have h := ite_f q h
      refine wt_aload_n (pc := 30) 0 dX12_readNew_30 rfl ?_
      refine wt_iconst (pc := 31) (v := 4) dX12_readNew_31 (by decide) ?_
      refine wt_cVI (pc := 32) (J' := j_X12_gangNamed) (As := [.int 4]) (st := []) (B' := b_X12_gangNamed) (u' := 0) (w' := 0) dX12_readNew_32 ml_X12_261 mv_X12_gangNamed (fun v9 M9 e9 => c_X12_gangNamed e9) rfl (by decide) rfl rfl (by decide) (by decide) (by decide) rfl h (fun v32 M32 h => ?_)
      refine wt_if_ge (pc := 35) (tgt := 56) dX12_readNew_35 (by decide) (fun q => ?_) (fun q => ?_)
      · have h := ite_t q h
        exact t_X12_readNew_56 he  h
      · have h := ite_f q h
        refine wt_aload_n (pc := 38) 0 dX12_readNew_38 rfl ?_
        refine wt_iconst (pc := 39) (v := 4) dX12_readNew_39 (by decide) ?_
        refine wt_bipush (pc := 40) (v := 12) dX12_readNew_40 (by decide) ?_
        refine wt_aload_n (pc := 42) 0 dX12_readNew_42 rfl ?_
        refine wt_getR (pc := 43) dX12_readNew_43 fl_X12_35 (fun _ _ _ => rfl) h (fun v43 h => ?_)
        refine wt_sipush (pc := 46) (v := 1802) dX12_readNew_46 (by decide) ?_
        refine wt_iaload (pc := 49) (kd := 21) dX12_readNew_49 rfl rfl h (fun v49 h => ?_)
        refine wt_cVI (pc := 50) (J' := j_X12_namedIn) (As := [.int 4, .int 12, .int v49]) (st := []) (B' := b_X12_namedIn) (u' := 0) (w' := 0) dX12_readNew_50 ml_X12_251 mv_X12_namedIn (fun v9 M9 e9 => c_X12_namedIn e9) rfl (by decide) rfl rfl (by decide) (by decide) (by decide) rfl h (fun v50 M50 h => ?_)
        refine wt_if_lt (pc := 53) (tgt := 65) dX12_readNew_53 (by decide) (fun q => ?_) (fun q => ?_)
        · have h := ite_t q h
          exact t_X12_readNew_65 he  h
        · have h := ite_f q h
          exact t_X12_readNew_56 he  h
set_option maxHeartbeats 4000000 in
set_option maxRecDepth 100000 in
theorem t_X12_readNew_e {G : GG} {X : CX} {ans : Mm} (he : EndV G X j_X12_readNew b_X12_readNew ans) {M : Mm} {l0 : Option Nat} {l1 : Int32} (h : f_X12_readNew M l0 l1 = some ans) : Wt G X j_X12_readNew b_X12_readNew 0 [(0, rf G.1 l0), (1, .int l1)] [] M 0 0 := by
  unfold f_X12_readNew at h
  refine wt_aload_n (pc := 0) 0 dX12_readNew_0 rfl ?_
  refine wt_cVV (pc := 1) (J' := j_X12_next) (As := []) (st := []) (B' := b_X12_next) (u' := 0) (w' := 0) dX12_readNew_1 ml_X12_231 mv_X12_next (fun M9 e9 => c_X12_next e9) rfl (by decide) rfl rfl (by decide) (by decide) (by decide) rfl h (fun M1 h => ?_)
  refine wt_aload_n (pc := 4) 0 dX12_readNew_4 rfl ?_
  refine wt_cVI (pc := 5) (J' := j_X12_isName) (As := []) (st := []) (B' := b_X12_isName) (u' := 0) (w' := 0) dX12_readNew_5 ml_X12_255 mv_X12_isName (fun v9 M9 e9 => c_X12_isName e9) rfl (by decide) rfl rfl (by decide) (by decide) (by decide) rfl h (fun v5 M5 h => ?_)
  refine wt_if_ne (pc := 8) (tgt := 15) dX12_readNew_8 (by decide) (fun q => ?_) (fun q => ?_)
  · have h := ite_f q h
    exact t_X12_readNew_15 he  h
  · have h := ite_t q h
    refine wt_aload_n (pc := 11) 0 dX12_readNew_11 rfl ?_
    refine wt_cVV (pc := 12) (J' := j_X12_wrong) (As := []) (st := []) (B' := b_X12_wrong) (u' := 0) (w' := 0) dX12_readNew_12 ml_X12_234 mv_X12_wrong (fun M9 e9 => c_X12_wrong e9) rfl (by decide) rfl rfl (by decide) (by decide) (by decide) rfl h (fun M12 h => ?_)
    exact t_X12_readNew_15 he  h
set_option maxHeartbeats 4000000 in
set_option maxRecDepth 100000 in
theorem c_X12_readNew {G : GG} {M : Mm} {l0 : Option Nat} {l1 : Int32} {r : Mm} (h : f_X12_readNew M l0 l1 = some r) (l : Launch) : Ct l G j_X12_readNew b_X12_readNew [rf G.1 l0, .int l1] M none r := cf_V (by decide +kernel) (by simp [lg_sl, rf_cat, cat_i, cat_l, j_X12_readNew]) rfl (by simp [lv_args, rf_cat, cat_i, cat_l]) (fun X he => t_X12_readNew_e he h)
def f_X12_told_58 (M : Mm) (l3 : Int32) : Option (Int32 × Mm) := some ((mxI 0 l3), M)
def f_X12_told_44 (M : Mm) (l0 : Option Nat) (s0 : Int32) : Option (Int32 × Mm) := if 0 ≤ s0 then (f_X12_told_58  M s0) else (gfI M l0 12 15 fun v52 => ck M l0 12 <| bv (f_X12_fail M l0 3 v52) fun M55 => f_X12_told_58  M55 s0)
def f_X12_told_18 (M : Mm) (l0 : Option Nat) (l1 : Int32) (l2 : Int32) : Option (Int32 × Mm) := gfI M l0 12 12 fun v19 => if v19 ≤ 0 then (if l2 = 0 then (ck M l0 12 <| bd (f_X12_houseNamed M l0 l1) fun v41 M41 => f_X12_told_44  M41 l0 v41) else (ck M l0 12 <| bd (f_X12_gangNamed M l0 l1) fun v33 M33 => f_X12_told_44  M33 l0 v33)) else (some (0, M))
def f_X12_told (M : Mm) (l0 : Option Nat) (l1 : Int32) (l2 : Int32) : Option (Int32 × Mm) := gfI M l0 12 12 fun v1 => if v1 = 0 then (ck M l0 12 <| bd (f_X12_isName M l0) fun v8 M8 => if v8 = 0 then (ck M8 l0 12 <| bv (f_X12_wrong M8 l0) fun M15 => f_X12_told_18  M15 l0 l1 l2) else (f_X12_told_18  M8 l0 l1 l2)) else (f_X12_told_18  M l0 l1 l2)
set_option maxHeartbeats 4000000 in
set_option maxRecDepth 100000 in
theorem t_X12_told_58 {G : GG} {X : CX} {ans : Int32 × Mm} (he : EndI G X j_X12_told b_X12_told ans) {M : Mm} {l3 : Int32} (h : f_X12_told_58 M l3 = some ans) : Wt G X j_X12_told b_X12_told 58 [(3, .int l3)] [] M 0 0 := by
  unfold f_X12_told_58 at h
  refine wt_iconst (pc := 58) (v := 0) dX12_told_58 (by decide) ?_
  refine wt_iload_n (pc := 59) 0 dX12_told_59 rfl ?_
  refine wt_mmax (pc := 60) dX12_told_60 bi_X12_264 mw_max.1 mw_max.2.1 mw_max.2.2 (by decide) (by decide) (by decide) (by decide) ?_
  cases h
  exact he 63 _ _ _ dX12_told_63 (by decide) (by decide)
set_option maxHeartbeats 4000000 in
set_option maxRecDepth 100000 in
theorem t_X12_told_44 {G : GG} {X : CX} {ans : Int32 × Mm} (he : EndI G X j_X12_told b_X12_told ans) {M : Mm} {l0 : Option Nat} {s0 : Int32} (h : f_X12_told_44 M l0 s0 = some ans) : Wt G X j_X12_told b_X12_told 44 [(0, rf G.1 l0)] [.int s0] M 0 0 := by
  unfold f_X12_told_44 at h
  refine wt_istore_n (pc := 44) (i := 3) (ls' := [(3, .int s0), (0, rf G.1 l0)]) rfl dX12_told_44 (by decide) rfl ?_
  refine wt_iload_n (pc := 45) 0 dX12_told_45 rfl ?_
  refine wt_if_ge (pc := 46) (tgt := 58) dX12_told_46 (by decide) (fun q => ?_) (fun q => ?_)
  · have h := ite_t q h
    refine wt_sub (ls' := [(3, .int s0)]) [0] rfl ?_
    exact t_X12_told_58 he  h
  · have h := ite_f q h
    refine wt_aload_n (pc := 49) 1 dX12_told_49 rfl ?_
    refine wt_iconst (pc := 50) (v := 3) dX12_told_50 (by decide) ?_
    refine wt_aload_n (pc := 51) 1 dX12_told_51 rfl ?_
    refine wt_getI (pc := 52) dX12_told_52 fl_X12_117 (fun _ _ _ => rfl) h (fun v52 h => ?_)
    refine wt_cVV (pc := 55) (J' := j_X12_fail) (As := [.int 3, .int v52]) (st := []) (B' := b_X12_fail) (u' := 0) (w' := 0) dX12_told_55 ml_X12_227 mv_X12_fail (fun M9 e9 => c_X12_fail e9) rfl (by decide) rfl rfl (by decide) (by decide) (by decide) rfl h (fun M55 h => ?_)
    refine wt_sub (ls' := [(3, .int s0)]) [0] rfl ?_
    exact t_X12_told_58 he  h
set_option maxHeartbeats 4000000 in
set_option maxRecDepth 100000 in
theorem t_X12_told_18 {G : GG} {X : CX} {ans : Int32 × Mm} (he : EndI G X j_X12_told b_X12_told ans) {M : Mm} {l0 : Option Nat} {l1 : Int32} {l2 : Int32} (h : f_X12_told_18 M l0 l1 l2 = some ans) : Wt G X j_X12_told b_X12_told 18 [(0, rf G.1 l0), (1, .int l1), (2, .int l2)] [] M 0 0 := by
  unfold f_X12_told_18 at h
  refine wt_aload_n (pc := 18) 0 dX12_told_18 rfl ?_
  refine wt_getI (pc := 19) dX12_told_19 fl_X12_221 (fun _ _ _ => rfl) h (fun v19 h => ?_)
  refine wt_if_le (pc := 22) (tgt := 27) dX12_told_22 (by decide) (fun q => ?_) (fun q => ?_)
  · have h := ite_t q h
    refine wt_iload_n (pc := 27) 2 dX12_told_27 rfl ?_
    refine wt_if_eq (pc := 28) (tgt := 39) dX12_told_28 (by decide) (fun q => ?_) (fun q => ?_)
    · have h := ite_t q h
      refine wt_aload_n (pc := 39) 0 dX12_told_39 rfl ?_
      refine wt_iload_n (pc := 40) 1 dX12_told_40 rfl ?_
      refine wt_cVI (pc := 41) (J' := j_X12_houseNamed) (As := [.int l1]) (st := []) (B' := b_X12_houseNamed) (u' := 0) (w' := 0) dX12_told_41 ml_X12_258 mv_X12_houseNamed (fun v9 M9 e9 => c_X12_houseNamed e9) rfl (by decide) rfl rfl (by decide) (by decide) (by decide) rfl h (fun v41 M41 h => ?_)
      refine wt_sub (ls' := [(0, rf G.1 l0)]) [0] rfl ?_
      exact t_X12_told_44 he  h
    · have h := ite_f q h
      refine wt_aload_n (pc := 31) 0 dX12_told_31 rfl ?_
      refine wt_iload_n (pc := 32) 1 dX12_told_32 rfl ?_
      refine wt_cVI (pc := 33) (J' := j_X12_gangNamed) (As := [.int l1]) (st := []) (B' := b_X12_gangNamed) (u' := 0) (w' := 0) dX12_told_33 ml_X12_261 mv_X12_gangNamed (fun v9 M9 e9 => c_X12_gangNamed e9) rfl (by decide) rfl rfl (by decide) (by decide) (by decide) rfl h (fun v33 M33 h => ?_)
      refine wt_goto (pc := 36) (tgt := 44) dX12_told_36 (by decide) ?_
      refine wt_sub (ls' := [(0, rf G.1 l0)]) [0] rfl ?_
      exact t_X12_told_44 he  h
  · have h := ite_f q h
    refine wt_iconst (pc := 25) (v := 0) dX12_told_25 (by decide) ?_
    cases h
    exact he 26 _ _ _ dX12_told_26 (by decide) (by decide)
set_option maxHeartbeats 4000000 in
set_option maxRecDepth 100000 in
theorem t_X12_told_e {G : GG} {X : CX} {ans : Int32 × Mm} (he : EndI G X j_X12_told b_X12_told ans) {M : Mm} {l0 : Option Nat} {l1 : Int32} {l2 : Int32} (h : f_X12_told M l0 l1 l2 = some ans) : Wt G X j_X12_told b_X12_told 0 [(0, rf G.1 l0), (1, .int l1), (2, .int l2)] [] M 0 0 := by
  unfold f_X12_told at h
  refine wt_aload_n (pc := 0) 0 dX12_told_0 rfl ?_
  refine wt_getI (pc := 1) dX12_told_1 fl_X12_221 (fun _ _ _ => rfl) h (fun v1 h => ?_)
  refine wt_if_ne (pc := 4) (tgt := 18) dX12_told_4 (by decide) (fun q => ?_) (fun q => ?_)
  · have h := ite_f q h
    exact t_X12_told_18 he  h
  · have h := ite_t q h
    refine wt_aload_n (pc := 7) 0 dX12_told_7 rfl ?_
    refine wt_cVI (pc := 8) (J' := j_X12_isName) (As := []) (st := []) (B' := b_X12_isName) (u' := 0) (w' := 0) dX12_told_8 ml_X12_255 mv_X12_isName (fun v9 M9 e9 => c_X12_isName e9) rfl (by decide) rfl rfl (by decide) (by decide) (by decide) rfl h (fun v8 M8 h => ?_)
    refine wt_if_ne (pc := 11) (tgt := 18) dX12_told_11 (by decide) (fun q => ?_) (fun q => ?_)
    · have h := ite_f q h
      exact t_X12_told_18 he  h
    · have h := ite_t q h
      refine wt_aload_n (pc := 14) 0 dX12_told_14 rfl ?_
      refine wt_cVV (pc := 15) (J' := j_X12_wrong) (As := []) (st := []) (B' := b_X12_wrong) (u' := 0) (w' := 0) dX12_told_15 ml_X12_234 mv_X12_wrong (fun M9 e9 => c_X12_wrong e9) rfl (by decide) rfl rfl (by decide) (by decide) (by decide) rfl h (fun M15 h => ?_)
      exact t_X12_told_18 he  h
set_option maxHeartbeats 4000000 in
set_option maxRecDepth 100000 in
theorem c_X12_told {G : GG} {M : Mm} {l0 : Option Nat} {l1 : Int32} {l2 : Int32} {r : Int32 × Mm} (h : f_X12_told M l0 l1 l2 = some r) (l : Launch) : Ct l G j_X12_told b_X12_told [rf G.1 l0, .int l1, .int l2] M (some (.int r.1)) r.2 := cf_I (by decide +kernel) (by simp [lg_sl, rf_cat, cat_i, cat_l, j_X12_told]) rfl (by simp [lv_args, rf_cat, cat_i, cat_l]) (fun X he => t_X12_told_e he h)
def f_X12_readTold (M : Mm) (l0 : Option Nat) (l1 : Int32) (l2 : Int32) : Option (Int32 × Mm) := ck M l0 12 <| bd (f_X12_told M l0 l1 l2) fun v3 M3 => ck M3 l0 12 <| bv (f_X12_must M3 l0 1) fun M9 => some (v3, M9)
set_option maxHeartbeats 4000000 in
set_option maxRecDepth 100000 in
theorem t_X12_readTold_e {G : GG} {X : CX} {ans : Int32 × Mm} (he : EndI G X j_X12_readTold b_X12_readTold ans) {M : Mm} {l0 : Option Nat} {l1 : Int32} {l2 : Int32} (h : f_X12_readTold M l0 l1 l2 = some ans) : Wt G X j_X12_readTold b_X12_readTold 0 [(0, rf G.1 l0), (1, .int l1), (2, .int l2)] [] M 0 0 := by
  unfold f_X12_readTold at h
  refine wt_aload_n (pc := 0) 0 dX12_readTold_0 rfl ?_
  refine wt_iload_n (pc := 1) 1 dX12_readTold_1 rfl ?_
  refine wt_iload_n (pc := 2) 2 dX12_readTold_2 rfl ?_
  refine wt_cVI (pc := 3) (J' := j_X12_told) (As := [.int l1, .int l2]) (st := []) (B' := b_X12_told) (u' := 0) (w' := 0) dX12_readTold_3 ml_X12_267 mv_X12_told (fun v9 M9 e9 => c_X12_told e9) rfl (by decide) rfl rfl (by decide) (by decide) (by decide) rfl h (fun v3 M3 h => ?_)
  refine wt_istore_n (pc := 6) (i := 3) (ls' := [(3, .int v3), (0, rf G.1 l0), (1, .int l1), (2, .int l2)]) rfl dX12_readTold_6 (by decide) rfl ?_
  refine wt_aload_n (pc := 7) 1 dX12_readTold_7 rfl ?_
  refine wt_iconst (pc := 8) (v := 1) dX12_readTold_8 (by decide) ?_
  refine wt_cVV (pc := 9) (J' := j_X12_must) (As := [.int 1]) (st := []) (B' := b_X12_must) (u' := 0) (w' := 0) dX12_readTold_9 ml_X12_237 mv_X12_must (fun M9 e9 => c_X12_must e9) rfl (by decide) rfl rfl (by decide) (by decide) (by decide) rfl h (fun M9 h => ?_)
  refine wt_iload_n (pc := 12) 0 dX12_readTold_12 rfl ?_
  cases h
  exact he 13 _ _ _ dX12_readTold_13 (by decide) (by decide)
set_option maxHeartbeats 4000000 in
set_option maxRecDepth 100000 in
theorem c_X12_readTold {G : GG} {M : Mm} {l0 : Option Nat} {l1 : Int32} {l2 : Int32} {r : Int32 × Mm} (h : f_X12_readTold M l0 l1 l2 = some r) (l : Launch) : Ct l G j_X12_readTold b_X12_readTold [rf G.1 l0, .int l1, .int l2] M (some (.int r.1)) r.2 := cf_I (by decide +kernel) (by simp [lg_sl, rf_cat, cat_i, cat_l, j_X12_readTold]) rfl (by simp [lv_args, rf_cat, cat_i, cat_l]) (fun X he => t_X12_readTold_e he h)
def f_X12_readHouse_194 (M : Mm) (l0 : Option Nat) (l1 : Int32) (s0 : Option Nat) (s1 : Int32) (s2 : Int32) : Option (Mm) := asI M s0 21 s1 s2 fun M194 => gfI M194 l0 12 12 fun v196 => if v196 ≤ 0 then (gfR M194 l0 12 20 fun v204 => gfR M194 l0 12 20 fun v213 => alI M194 v213 21 (1821 + l1) fun v221 => asI M194 v204 21 (1853 + l1) v221 fun M222 => gfR M222 l0 12 20 fun v224 => asI M222 v224 21 (1861 + l1) 1 fun M233 => gfR M233 l0 12 20 fun v235 => alI M233 v235 21 1800 fun v242 => asI M233 v235 21 1800 (v242 + 1) fun M245 => some M245) else (some M194)
def f_X12_readHouse_193 (M : Mm) (l0 : Option Nat) (l1 : Int32) (s0 : Option Nat) (s1 : Int32) : Option (Mm) := f_X12_readHouse_194  M l0 l1 s0 s1 0
def f_X12_readHouse_158 (M : Mm) (l0 : Option Nat) (l1 : Int32) (s0 : Option Nat) (s1 : Int32) (s2 : Int32) : Option (Mm) := asI M s0 21 s1 s2 fun M158 => gfR M158 l0 12 20 fun v160 => gfI M158 l0 12 12 fun v169 => if v169 = 0 then (ck M158 l0 12 <| bd (f_X12_isPegs M158 l0) fun v176 M176 => if v176 = 0 then (f_X12_readHouse_193  M176 l0 l1 v160 (1845 + l1)) else (ck M176 l0 12 <| bd (f_X12_behindWord M176 l0 1 0 9) fun v187 M187 => f_X12_readHouse_194  M187 l0 l1 v160 (1845 + l1) v187)) else (f_X12_readHouse_193  M158 l0 l1 v160 (1845 + l1))
def f_X12_readHouse_157 (M : Mm) (l0 : Option Nat) (l1 : Int32) (s0 : Option Nat) (s1 : Int32) : Option (Mm) := f_X12_readHouse_158  M l0 l1 s0 s1 4
def f_X12_readHouse_25 (M : Mm) (l0 : Option Nat) (l1 : Int32) : Option (Mm) := gfI M l0 12 12 fun v26 => if v26 ≤ 0 then (ck M l0 12 <| bv (f_X12_readNew M l0 l1) fun M35 => gfR M35 l0 12 20 fun v39 => ck M35 l0 12 <| bd (f_X12_isAt M35 l0) fun v49 M49 => ck M49 l0 12 <| bd (f_X12_behindWord M49 l0 v49 0 60) fun v55 M55 => asI M55 v39 21 (1805 + l1) v55 fun M58 => gfR M58 l0 12 20 fun v60 => ck M58 l0 12 <| bd (f_X12_isWorth M58 l0) fun v70 M70 => ck M70 l0 12 <| bd (f_X12_behindWord M70 l0 v70 0 999) fun v77 M77 => asI M77 v60 21 (1813 + l1) v77 fun M80 => gfR M80 l0 12 20 fun v82 => ck M80 l0 12 <| bd (f_X12_isPieces M80 l0) fun v92 M92 => ck M92 l0 12 <| bd (f_X12_behindWord M92 l0 v92 1 9) fun v98 M98 => asI M98 v82 21 (1821 + l1) v98 fun M101 => gfR M101 l0 12 20 fun v103 => ck M101 l0 12 <| bd (f_X12_isWeight M101 l0) fun v113 M113 => ck M113 l0 12 <| bd (f_X12_behindWord M113 l0 v113 1 20) fun v119 M119 => asI M119 v103 21 (1829 + l1) v119 fun M122 => gfR M122 l0 12 20 fun v124 => gfI M122 l0 12 12 fun v133 => if v133 = 0 then (ck M122 l0 12 <| bd (f_X12_isLong M122 l0) fun v140 M140 => if v140 = 0 then (f_X12_readHouse_157  M140 l0 l1 v124 (1837 + l1)) else (ck M140 l0 12 <| bd (f_X12_behindWord M140 l0 1 1 20) fun v151 M151 => f_X12_readHouse_158  M151 l0 l1 v124 (1837 + l1) v151)) else (f_X12_readHouse_157  M122 l0 l1 v124 (1837 + l1))) else (some M)
def f_X12_readHouse (M : Mm) (l0 : Option Nat) : Option (Mm) := gfR M l0 12 20 fun v1 => alI M v1 21 1800 fun v7 => if v7 = 8 then (gfI M l0 12 15 fun v19 => ck M l0 12 <| bv (f_X12_fail M l0 6 v19) fun M22 => f_X12_readHouse_25  M22 l0 v7) else (f_X12_readHouse_25  M l0 v7)
set_option maxHeartbeats 4000000 in
set_option maxRecDepth 100000 in
theorem t_X12_readHouse_194 {G : GG} {X : CX} {ans : Mm} (he : EndV G X j_X12_readHouse b_X12_readHouse ans) {M : Mm} {l0 : Option Nat} {l1 : Int32} {s0 : Option Nat} {s1 : Int32} {s2 : Int32} (h : f_X12_readHouse_194 M l0 l1 s0 s1 s2 = some ans) : Wt G X j_X12_readHouse b_X12_readHouse 194 [(0, rf G.1 l0), (1, .int l1)] [.int s2, .int s1, rf G.1 s0] M 0 0 := by
  unfold f_X12_readHouse_194 at h
  refine wt_iastore (pc := 194) (kd := 21) dX12_readHouse_194 rfl rfl h (fun M194 h => ?_)
  refine wt_aload_n (pc := 195) 0 dX12_readHouse_195 rfl ?_
  refine wt_getI (pc := 196) dX12_readHouse_196 fl_X12_221 (fun _ _ _ => rfl) h (fun v196 h => ?_)
  refine wt_if_le (pc := 199) (tgt := 203) dX12_readHouse_199 (by decide) (fun q => ?_) (fun q => ?_)
  · have h := ite_t q h
    refine wt_aload_n (pc := 203) 0 dX12_readHouse_203 rfl ?_
    refine wt_getR (pc := 204) dX12_readHouse_204 fl_X12_35 (fun _ _ _ => rfl) h (fun v204 h => ?_)
    refine wt_sipush (pc := 207) (v := 1853) dX12_readHouse_207 (by decide) ?_
    refine wt_iload_n (pc := 210) 1 dX12_readHouse_210 rfl ?_
    refine wt_iadd (pc := 211) dX12_readHouse_211 ?_
    refine wt_aload_n (pc := 212) 0 dX12_readHouse_212 rfl ?_
    refine wt_getR (pc := 213) dX12_readHouse_213 fl_X12_35 (fun _ _ _ => rfl) h (fun v213 h => ?_)
    refine wt_sipush (pc := 216) (v := 1821) dX12_readHouse_216 (by decide) ?_
    refine wt_iload_n (pc := 219) 1 dX12_readHouse_219 rfl ?_
    refine wt_iadd (pc := 220) dX12_readHouse_220 ?_
    refine wt_iaload (pc := 221) (kd := 21) dX12_readHouse_221 rfl rfl h (fun v221 h => ?_)
    refine wt_iastore (pc := 222) (kd := 21) dX12_readHouse_222 rfl rfl h (fun M222 h => ?_)
    refine wt_aload_n (pc := 223) 0 dX12_readHouse_223 rfl ?_
    refine wt_getR (pc := 224) dX12_readHouse_224 fl_X12_35 (fun _ _ _ => rfl) h (fun v224 h => ?_)
    refine wt_sipush (pc := 227) (v := 1861) dX12_readHouse_227 (by decide) ?_
    refine wt_iload_n (pc := 230) 1 dX12_readHouse_230 rfl ?_
    refine wt_iadd (pc := 231) dX12_readHouse_231 ?_
    refine wt_iconst (pc := 232) (v := 1) dX12_readHouse_232 (by decide) ?_
    refine wt_iastore (pc := 233) (kd := 21) dX12_readHouse_233 rfl rfl h (fun M233 h => ?_)
    refine wt_aload_n (pc := 234) 0 dX12_readHouse_234 rfl ?_
    refine wt_getR (pc := 235) dX12_readHouse_235 fl_X12_35 (fun _ _ _ => rfl) h (fun v235 h => ?_)
    refine wt_sipush (pc := 238) (v := 1800) dX12_readHouse_238 (by decide) ?_
    refine wt_dup2 (pc := 241) dX12_readHouse_241 rfl (rf_cat _ _) ?_
    refine wt_iaload (pc := 242) (kd := 21) dX12_readHouse_242 rfl rfl h (fun v242 h => ?_)
    refine wt_iconst (pc := 243) (v := 1) dX12_readHouse_243 (by decide) ?_
    refine wt_iadd (pc := 244) dX12_readHouse_244 ?_
    refine wt_iastore (pc := 245) (kd := 21) dX12_readHouse_245 rfl rfl h (fun M245 h => ?_)
    cases h
    exact he 246 _ _ _ dX12_readHouse_246 (by decide) (by decide)
  · have h := ite_f q h
    cases h
    exact he 202 _ _ _ dX12_readHouse_202 (by decide) (by decide)
set_option maxHeartbeats 4000000 in
set_option maxRecDepth 100000 in
theorem t_X12_readHouse_193 {G : GG} {X : CX} {ans : Mm} (he : EndV G X j_X12_readHouse b_X12_readHouse ans) {M : Mm} {l0 : Option Nat} {l1 : Int32} {s0 : Option Nat} {s1 : Int32} (h : f_X12_readHouse_193 M l0 l1 s0 s1 = some ans) : Wt G X j_X12_readHouse b_X12_readHouse 193 [(0, rf G.1 l0), (1, .int l1)] [.int s1, rf G.1 s0] M 0 0 := by
  unfold f_X12_readHouse_193 at h
  refine wt_iconst (pc := 193) (v := 0) dX12_readHouse_193 (by decide) ?_
  exact t_X12_readHouse_194 he  h
set_option maxHeartbeats 4000000 in
set_option maxRecDepth 100000 in
theorem t_X12_readHouse_158 {G : GG} {X : CX} {ans : Mm} (he : EndV G X j_X12_readHouse b_X12_readHouse ans) {M : Mm} {l0 : Option Nat} {l1 : Int32} {s0 : Option Nat} {s1 : Int32} {s2 : Int32} (h : f_X12_readHouse_158 M l0 l1 s0 s1 s2 = some ans) : Wt G X j_X12_readHouse b_X12_readHouse 158 [(0, rf G.1 l0), (1, .int l1)] [.int s2, .int s1, rf G.1 s0] M 0 0 := by
  unfold f_X12_readHouse_158 at h
  refine wt_iastore (pc := 158) (kd := 21) dX12_readHouse_158 rfl rfl h (fun M158 h => ?_)
  refine wt_aload_n (pc := 159) 0 dX12_readHouse_159 rfl ?_
  refine wt_getR (pc := 160) dX12_readHouse_160 fl_X12_35 (fun _ _ _ => rfl) h (fun v160 h => ?_)
  refine wt_sipush (pc := 163) (v := 1845) dX12_readHouse_163 (by decide) ?_
  refine wt_iload_n (pc := 166) 1 dX12_readHouse_166 rfl ?_
  refine wt_iadd (pc := 167) dX12_readHouse_167 ?_
  refine wt_aload_n (pc := 168) 0 dX12_readHouse_168 rfl ?_
  refine wt_getI (pc := 169) dX12_readHouse_169 fl_X12_221 (fun _ _ _ => rfl) h (fun v169 h => ?_)
  refine wt_if_ne (pc := 172) (tgt := 193) dX12_readHouse_172 (by decide) (fun q => ?_) (fun q => ?_)
  · have h := ite_f q h
    exact t_X12_readHouse_193 he  h
  · have h := ite_t q h
    refine wt_aload_n (pc := 175) 0 dX12_readHouse_175 rfl ?_
    refine wt_cVI (pc := 176) (J' := j_X12_isPegs) (As := []) (st := [.int (1845 + l1), rf G.1 v160]) (B' := b_X12_isPegs) (u' := 0) (w' := 0) dX12_readHouse_176 ml_X12_175 mv_X12_isPegs (fun v9 M9 e9 => c_X12_isPegs e9) rfl (by decide) rfl rfl (by decide) (by decide) (by simp [rf_cat, cat_i, cat_l, cat_r]) rfl h (fun v176 M176 h => ?_)
    refine wt_if_eq (pc := 179) (tgt := 193) dX12_readHouse_179 (by decide) (fun q => ?_) (fun q => ?_)
    · have h := ite_t q h
      exact t_X12_readHouse_193 he  h
    · have h := ite_f q h
      refine wt_aload_n (pc := 182) 0 dX12_readHouse_182 rfl ?_
      refine wt_iconst (pc := 183) (v := 1) dX12_readHouse_183 (by decide) ?_
      refine wt_iconst (pc := 184) (v := 0) dX12_readHouse_184 (by decide) ?_
      refine wt_bipush (pc := 185) (v := 9) dX12_readHouse_185 (by decide) ?_
      refine wt_cVI (pc := 187) (J' := j_X12_behindWord) (As := [.int 1, .int 0, .int 9]) (st := [.int (1845 + l1), rf G.1 v160]) (B' := b_X12_behindWord) (u' := 0) (w' := 0) dX12_readHouse_187 ml_X12_274 mv_X12_behindWord (fun v9 M9 e9 => c_X12_behindWord e9) rfl (by decide) rfl rfl (by decide) (by decide) (by simp [rf_cat, cat_i, cat_l, cat_r]) rfl h (fun v187 M187 h => ?_)
      refine wt_goto (pc := 190) (tgt := 194) dX12_readHouse_190 (by decide) ?_
      exact t_X12_readHouse_194 he  h
set_option maxHeartbeats 4000000 in
set_option maxRecDepth 100000 in
theorem t_X12_readHouse_157 {G : GG} {X : CX} {ans : Mm} (he : EndV G X j_X12_readHouse b_X12_readHouse ans) {M : Mm} {l0 : Option Nat} {l1 : Int32} {s0 : Option Nat} {s1 : Int32} (h : f_X12_readHouse_157 M l0 l1 s0 s1 = some ans) : Wt G X j_X12_readHouse b_X12_readHouse 157 [(0, rf G.1 l0), (1, .int l1)] [.int s1, rf G.1 s0] M 0 0 := by
  unfold f_X12_readHouse_157 at h
  refine wt_iconst (pc := 157) (v := 4) dX12_readHouse_157 (by decide) ?_
  exact t_X12_readHouse_158 he  h
set_option maxHeartbeats 4000000 in
set_option maxRecDepth 100000 in
theorem t_X12_readHouse_25 {G : GG} {X : CX} {ans : Mm} (he : EndV G X j_X12_readHouse b_X12_readHouse ans) {M : Mm} {l0 : Option Nat} {l1 : Int32} (h : f_X12_readHouse_25 M l0 l1 = some ans) : Wt G X j_X12_readHouse b_X12_readHouse 25 [(0, rf G.1 l0), (1, .int l1)] [] M 0 0 := by
  unfold f_X12_readHouse_25 at h
  refine wt_aload_n (pc := 25) 0 dX12_readHouse_25 rfl ?_
  refine wt_getI (pc := 26) dX12_readHouse_26 fl_X12_221 (fun _ _ _ => rfl) h (fun v26 h => ?_)
  refine wt_if_le (pc := 29) (tgt := 33) dX12_readHouse_29 (by decide) (fun q => ?_) (fun q => ?_)
  · have h := ite_t q h
    refine wt_aload_n (pc := 33) 0 dX12_readHouse_33 rfl ?_
    refine wt_iload_n (pc := 34) 1 dX12_readHouse_34 rfl ?_
    refine wt_cVV (pc := 35) (J' := j_X12_readNew) (As := [.int l1]) (st := []) (B' := b_X12_readNew) (u' := 0) (w' := 0) dX12_readHouse_35 ml_X12_271 mv_X12_readNew (fun M9 e9 => c_X12_readNew e9) rfl (by decide) rfl rfl (by decide) (by decide) (by decide) rfl h (fun M35 h => ?_)
    refine wt_aload_n (pc := 38) 0 dX12_readHouse_38 rfl ?_
    refine wt_getR (pc := 39) dX12_readHouse_39 fl_X12_35 (fun _ _ _ => rfl) h (fun v39 h => ?_)
    refine wt_sipush (pc := 42) (v := 1805) dX12_readHouse_42 (by decide) ?_
    refine wt_iload_n (pc := 45) 1 dX12_readHouse_45 rfl ?_
    refine wt_iadd (pc := 46) dX12_readHouse_46 ?_
    refine wt_aload_n (pc := 47) 0 dX12_readHouse_47 rfl ?_
    refine wt_aload_n (pc := 48) 0 dX12_readHouse_48 rfl ?_
    refine wt_cVI (pc := 49) (J' := j_X12_isAt) (As := []) (st := [rf G.1 l0, .int (1805 + l1), rf G.1 v39]) (B' := b_X12_isAt) (u' := 0) (w' := 0) dX12_readHouse_49 ml_X12_163 mv_X12_isAt (fun v9 M9 e9 => c_X12_isAt e9) rfl (by decide) rfl rfl (by decide) (by decide) (by simp [rf_cat, cat_i, cat_l, cat_r]) rfl h (fun v49 M49 h => ?_)
    refine wt_iconst (pc := 52) (v := 0) dX12_readHouse_52 (by decide) ?_
    refine wt_bipush (pc := 53) (v := 60) dX12_readHouse_53 (by decide) ?_
    refine wt_cVI (pc := 55) (J' := j_X12_behindWord) (As := [.int v49, .int 0, .int 60]) (st := [.int (1805 + l1), rf G.1 v39]) (B' := b_X12_behindWord) (u' := 0) (w' := 0) dX12_readHouse_55 ml_X12_274 mv_X12_behindWord (fun v9 M9 e9 => c_X12_behindWord e9) rfl (by decide) rfl rfl (by decide) (by decide) (by simp [rf_cat, cat_i, cat_l, cat_r]) rfl h (fun v55 M55 h => ?_)
    refine wt_iastore (pc := 58) (kd := 21) dX12_readHouse_58 rfl rfl h (fun M58 h => ?_)
    refine wt_aload_n (pc := 59) 0 dX12_readHouse_59 rfl ?_
    refine wt_getR (pc := 60) dX12_readHouse_60 fl_X12_35 (fun _ _ _ => rfl) h (fun v60 h => ?_)
    refine wt_sipush (pc := 63) (v := 1813) dX12_readHouse_63 (by decide) ?_
    refine wt_iload_n (pc := 66) 1 dX12_readHouse_66 rfl ?_
    refine wt_iadd (pc := 67) dX12_readHouse_67 ?_
    refine wt_aload_n (pc := 68) 0 dX12_readHouse_68 rfl ?_
    refine wt_aload_n (pc := 69) 0 dX12_readHouse_69 rfl ?_
    refine wt_cVI (pc := 70) (J' := j_X12_isWorth) (As := []) (st := [rf G.1 l0, .int (1813 + l1), rf G.1 v60]) (B' := b_X12_isWorth) (u' := 0) (w' := 0) dX12_readHouse_70 ml_X12_156 mv_X12_isWorth (fun v9 M9 e9 => c_X12_isWorth e9) rfl (by decide) rfl rfl (by decide) (by decide) (by simp [rf_cat, cat_i, cat_l, cat_r]) rfl h (fun v70 M70 h => ?_)
    refine wt_iconst (pc := 73) (v := 0) dX12_readHouse_73 (by decide) ?_
    refine wt_sipush (pc := 74) (v := 999) dX12_readHouse_74 (by decide) ?_
    refine wt_cVI (pc := 77) (J' := j_X12_behindWord) (As := [.int v70, .int 0, .int 999]) (st := [.int (1813 + l1), rf G.1 v60]) (B' := b_X12_behindWord) (u' := 0) (w' := 0) dX12_readHouse_77 ml_X12_274 mv_X12_behindWord (fun v9 M9 e9 => c_X12_behindWord e9) rfl (by decide) rfl rfl (by decide) (by decide) (by simp [rf_cat, cat_i, cat_l, cat_r]) rfl h (fun v77 M77 h => ?_)
    refine wt_iastore (pc := 80) (kd := 21) dX12_readHouse_80 rfl rfl h (fun M80 h => ?_)
    refine wt_aload_n (pc := 81) 0 dX12_readHouse_81 rfl ?_
    refine wt_getR (pc := 82) dX12_readHouse_82 fl_X12_35 (fun _ _ _ => rfl) h (fun v82 h => ?_)
    refine wt_sipush (pc := 85) (v := 1821) dX12_readHouse_85 (by decide) ?_
    refine wt_iload_n (pc := 88) 1 dX12_readHouse_88 rfl ?_
    refine wt_iadd (pc := 89) dX12_readHouse_89 ?_
    refine wt_aload_n (pc := 90) 0 dX12_readHouse_90 rfl ?_
    refine wt_aload_n (pc := 91) 0 dX12_readHouse_91 rfl ?_
    refine wt_cVI (pc := 92) (J' := j_X12_isPieces) (As := []) (st := [rf G.1 l0, .int (1821 + l1), rf G.1 v82]) (B' := b_X12_isPieces) (u' := 0) (w' := 0) dX12_readHouse_92 ml_X12_166 mv_X12_isPieces (fun v9 M9 e9 => c_X12_isPieces e9) rfl (by decide) rfl rfl (by decide) (by decide) (by simp [rf_cat, cat_i, cat_l, cat_r]) rfl h (fun v92 M92 h => ?_)
    refine wt_iconst (pc := 95) (v := 1) dX12_readHouse_95 (by decide) ?_
    refine wt_bipush (pc := 96) (v := 9) dX12_readHouse_96 (by decide) ?_
    refine wt_cVI (pc := 98) (J' := j_X12_behindWord) (As := [.int v92, .int 1, .int 9]) (st := [.int (1821 + l1), rf G.1 v82]) (B' := b_X12_behindWord) (u' := 0) (w' := 0) dX12_readHouse_98 ml_X12_274 mv_X12_behindWord (fun v9 M9 e9 => c_X12_behindWord e9) rfl (by decide) rfl rfl (by decide) (by decide) (by simp [rf_cat, cat_i, cat_l, cat_r]) rfl h (fun v98 M98 h => ?_)
    refine wt_iastore (pc := 101) (kd := 21) dX12_readHouse_101 rfl rfl h (fun M101 h => ?_)
    refine wt_aload_n (pc := 102) 0 dX12_readHouse_102 rfl ?_
    refine wt_getR (pc := 103) dX12_readHouse_103 fl_X12_35 (fun _ _ _ => rfl) h (fun v103 h => ?_)
    refine wt_sipush (pc := 106) (v := 1829) dX12_readHouse_106 (by decide) ?_
    refine wt_iload_n (pc := 109) 1 dX12_readHouse_109 rfl ?_
    refine wt_iadd (pc := 110) dX12_readHouse_110 ?_
    refine wt_aload_n (pc := 111) 0 dX12_readHouse_111 rfl ?_
    refine wt_aload_n (pc := 112) 0 dX12_readHouse_112 rfl ?_
    refine wt_cVI (pc := 113) (J' := j_X12_isWeight) (As := []) (st := [rf G.1 l0, .int (1829 + l1), rf G.1 v103]) (B' := b_X12_isWeight) (u' := 0) (w' := 0) dX12_readHouse_113 ml_X12_169 mv_X12_isWeight (fun v9 M9 e9 => c_X12_isWeight e9) rfl (by decide) rfl rfl (by decide) (by decide) (by simp [rf_cat, cat_i, cat_l, cat_r]) rfl h (fun v113 M113 h => ?_)
    refine wt_iconst (pc := 116) (v := 1) dX12_readHouse_116 (by decide) ?_
    refine wt_bipush (pc := 117) (v := 20) dX12_readHouse_117 (by decide) ?_
    refine wt_cVI (pc := 119) (J' := j_X12_behindWord) (As := [.int v113, .int 1, .int 20]) (st := [.int (1829 + l1), rf G.1 v103]) (B' := b_X12_behindWord) (u' := 0) (w' := 0) dX12_readHouse_119 ml_X12_274 mv_X12_behindWord (fun v9 M9 e9 => c_X12_behindWord e9) rfl (by decide) rfl rfl (by decide) (by decide) (by simp [rf_cat, cat_i, cat_l, cat_r]) rfl h (fun v119 M119 h => ?_)
    refine wt_iastore (pc := 122) (kd := 21) dX12_readHouse_122 rfl rfl h (fun M122 h => ?_)
    refine wt_aload_n (pc := 123) 0 dX12_readHouse_123 rfl ?_
    refine wt_getR (pc := 124) dX12_readHouse_124 fl_X12_35 (fun _ _ _ => rfl) h (fun v124 h => ?_)
    refine wt_sipush (pc := 127) (v := 1837) dX12_readHouse_127 (by decide) ?_
    refine wt_iload_n (pc := 130) 1 dX12_readHouse_130 rfl ?_
    refine wt_iadd (pc := 131) dX12_readHouse_131 ?_
    refine wt_aload_n (pc := 132) 0 dX12_readHouse_132 rfl ?_
    refine wt_getI (pc := 133) dX12_readHouse_133 fl_X12_221 (fun _ _ _ => rfl) h (fun v133 h => ?_)
    refine wt_if_ne (pc := 136) (tgt := 157) dX12_readHouse_136 (by decide) (fun q => ?_) (fun q => ?_)
    · have h := ite_f q h
      exact t_X12_readHouse_157 he  h
    · have h := ite_t q h
      refine wt_aload_n (pc := 139) 0 dX12_readHouse_139 rfl ?_
      refine wt_cVI (pc := 140) (J' := j_X12_isLong) (As := []) (st := [.int (1837 + l1), rf G.1 v124]) (B' := b_X12_isLong) (u' := 0) (w' := 0) dX12_readHouse_140 ml_X12_172 mv_X12_isLong (fun v9 M9 e9 => c_X12_isLong e9) rfl (by decide) rfl rfl (by decide) (by decide) (by simp [rf_cat, cat_i, cat_l, cat_r]) rfl h (fun v140 M140 h => ?_)
      refine wt_if_eq (pc := 143) (tgt := 157) dX12_readHouse_143 (by decide) (fun q => ?_) (fun q => ?_)
      · have h := ite_t q h
        exact t_X12_readHouse_157 he  h
      · have h := ite_f q h
        refine wt_aload_n (pc := 146) 0 dX12_readHouse_146 rfl ?_
        refine wt_iconst (pc := 147) (v := 1) dX12_readHouse_147 (by decide) ?_
        refine wt_iconst (pc := 148) (v := 1) dX12_readHouse_148 (by decide) ?_
        refine wt_bipush (pc := 149) (v := 20) dX12_readHouse_149 (by decide) ?_
        refine wt_cVI (pc := 151) (J' := j_X12_behindWord) (As := [.int 1, .int 1, .int 20]) (st := [.int (1837 + l1), rf G.1 v124]) (B' := b_X12_behindWord) (u' := 0) (w' := 0) dX12_readHouse_151 ml_X12_274 mv_X12_behindWord (fun v9 M9 e9 => c_X12_behindWord e9) rfl (by decide) rfl rfl (by decide) (by decide) (by simp [rf_cat, cat_i, cat_l, cat_r]) rfl h (fun v151 M151 h => ?_)
        refine wt_goto (pc := 154) (tgt := 158) dX12_readHouse_154 (by decide) ?_
        exact t_X12_readHouse_158 he  h
  · have h := ite_f q h
    cases h
    exact he 32 _ _ _ dX12_readHouse_32 (by decide) (by decide)
set_option maxHeartbeats 4000000 in
set_option maxRecDepth 100000 in
theorem t_X12_readHouse_e {G : GG} {X : CX} {ans : Mm} (he : EndV G X j_X12_readHouse b_X12_readHouse ans) {M : Mm} {l0 : Option Nat} (h : f_X12_readHouse M l0 = some ans) : Wt G X j_X12_readHouse b_X12_readHouse 0 [(0, rf G.1 l0)] [] M 0 0 := by
  unfold f_X12_readHouse at h
  refine wt_aload_n (pc := 0) 0 dX12_readHouse_0 rfl ?_
  refine wt_getR (pc := 1) dX12_readHouse_1 fl_X12_35 (fun _ _ _ => rfl) h (fun v1 h => ?_)
  refine wt_sipush (pc := 4) (v := 1800) dX12_readHouse_4 (by decide) ?_
  refine wt_iaload (pc := 7) (kd := 21) dX12_readHouse_7 rfl rfl h (fun v7 h => ?_)
  refine wt_istore_n (pc := 8) (i := 1) (ls' := [(1, .int v7), (0, rf G.1 l0)]) rfl dX12_readHouse_8 (by decide) (by simp [rf_cat, cat_i, cat_l, cat_r]) ?_
  refine wt_iload_n (pc := 9) 0 dX12_readHouse_9 rfl ?_
  refine wt_bipush (pc := 10) (v := 8) dX12_readHouse_10 (by decide) ?_
  refine wt_icmp_ne (pc := 12) (tgt := 25) dX12_readHouse_12 (by decide) (fun q => ?_) (fun q => ?_)
  · have h := ite_f q h
    refine wt_sub (ls' := [(0, rf G.1 l0), (1, .int v7)]) [1, 0] rfl ?_
    exact t_X12_readHouse_25 he  h
  · have h := ite_t q h
    refine wt_aload_n (pc := 15) 1 dX12_readHouse_15 rfl ?_
    refine wt_bipush (pc := 16) (v := 6) dX12_readHouse_16 (by decide) ?_
    refine wt_aload_n (pc := 18) 1 dX12_readHouse_18 rfl ?_
    refine wt_getI (pc := 19) dX12_readHouse_19 fl_X12_117 (fun _ _ _ => rfl) h (fun v19 h => ?_)
    refine wt_cVV (pc := 22) (J' := j_X12_fail) (As := [.int 6, .int v19]) (st := []) (B' := b_X12_fail) (u' := 0) (w' := 0) dX12_readHouse_22 ml_X12_227 mv_X12_fail (fun M9 e9 => c_X12_fail e9) rfl (by decide) rfl rfl (by decide) (by decide) (by decide) rfl h (fun M22 h => ?_)
    refine wt_sub (ls' := [(0, rf G.1 l0), (1, .int v7)]) [1, 0] rfl ?_
    exact t_X12_readHouse_25 he  h
set_option maxHeartbeats 4000000 in
set_option maxRecDepth 100000 in
theorem c_X12_readHouse {G : GG} {M : Mm} {l0 : Option Nat} {r : Mm} (h : f_X12_readHouse M l0 = some r) (l : Launch) : Ct l G j_X12_readHouse b_X12_readHouse [rf G.1 l0] M none r := cf_V (by decide +kernel) (by simp [lg_sl, rf_cat, cat_i, cat_l, j_X12_readHouse]) rfl (by simp [lv_args, rf_cat, cat_i, cat_l]) (fun X he => t_X12_readHouse_e he h)
def f_X12_readGang_111 (M : Mm) (l0 : Option Nat) (l1 : Int32) (l2 : Int32) (s0 : Option Nat) (s1 : Int32) (s2 : Int32) : Option (Mm) := asI M s0 21 s1 s2 fun M111 => gfI M111 l0 12 12 fun v113 => if v113 ≤ 0 then (gfR M111 l0 12 20 fun v121 => asI M111 v121 21 (1933 + l1) l2 fun M130 => gfR M130 l0 12 20 fun v132 => gfR M130 l0 12 20 fun v141 => alI M130 v141 21 (1805 + l2) fun v149 => asI M130 v132 21 (1945 + l1) v149 fun M150 => gfR M150 l0 12 20 fun v152 => asI M150 v152 21 (1949 + l1) (-1) fun M161 => gfR M161 l0 12 20 fun v163 => alI M161 v163 21 1801 fun v170 => asI M161 v163 21 1801 (v170 + 1) fun M173 => some M173) else (some M111)
def f_X12_readGang_110 (M : Mm) (l0 : Option Nat) (l1 : Int32) (l2 : Int32) (s0 : Option Nat) (s1 : Int32) : Option (Mm) := f_X12_readGang_111  M l0 l1 l2 s0 s1 1
def f_X12_readGang_24 (M : Mm) (l0 : Option Nat) (l1 : Int32) : Option (Mm) := gfI M l0 12 12 fun v25 => if v25 ≤ 0 then (ck M l0 12 <| bv (f_X12_readNew M l0 (8 + l1)) fun M37 => ck M37 l0 12 <| bd (f_X12_isOf M37 l0) fun v42 M42 => ck M42 l0 12 <| bv (f_X12_must M42 l0 v42) fun M45 => ck M45 l0 12 <| bd (f_X12_readTold M45 l0 4 0) fun v51 M51 => gfR M51 l0 12 20 fun v56 => ck M51 l0 12 <| bd (f_X12_isHands M51 l0) fun v66 M66 => ck M66 l0 12 <| bd (f_X12_behindWord M66 l0 v66 1 40) fun v72 M72 => asI M72 v56 21 (1937 + l1) v72 fun M75 => gfR M75 l0 12 20 fun v77 => gfI M75 l0 12 12 fun v86 => if v86 = 0 then (ck M75 l0 12 <| bd (f_X12_isPace M75 l0) fun v93 M93 => if v93 = 0 then (f_X12_readGang_110  M93 l0 l1 v51 v77 (1941 + l1)) else (ck M93 l0 12 <| bd (f_X12_behindWord M93 l0 1 0 9) fun v104 M104 => f_X12_readGang_111  M104 l0 l1 v51 v77 (1941 + l1) v104)) else (f_X12_readGang_110  M75 l0 l1 v51 v77 (1941 + l1))) else (some M)
def f_X12_readGang (M : Mm) (l0 : Option Nat) : Option (Mm) := gfR M l0 12 20 fun v1 => alI M v1 21 1801 fun v7 => if v7 = 4 then (gfI M l0 12 15 fun v18 => ck M l0 12 <| bv (f_X12_fail M l0 6 v18) fun M21 => f_X12_readGang_24  M21 l0 v7) else (f_X12_readGang_24  M l0 v7)
set_option maxHeartbeats 4000000 in
set_option maxRecDepth 100000 in
theorem t_X12_readGang_111 {G : GG} {X : CX} {ans : Mm} (he : EndV G X j_X12_readGang b_X12_readGang ans) {M : Mm} {l0 : Option Nat} {l1 : Int32} {l2 : Int32} {s0 : Option Nat} {s1 : Int32} {s2 : Int32} (h : f_X12_readGang_111 M l0 l1 l2 s0 s1 s2 = some ans) : Wt G X j_X12_readGang b_X12_readGang 111 [(0, rf G.1 l0), (1, .int l1), (2, .int l2)] [.int s2, .int s1, rf G.1 s0] M 0 0 := by
  unfold f_X12_readGang_111 at h
  refine wt_iastore (pc := 111) (kd := 21) dX12_readGang_111 rfl rfl h (fun M111 h => ?_)
  refine wt_aload_n (pc := 112) 0 dX12_readGang_112 rfl ?_
  refine wt_getI (pc := 113) dX12_readGang_113 fl_X12_221 (fun _ _ _ => rfl) h (fun v113 h => ?_)
  refine wt_if_le (pc := 116) (tgt := 120) dX12_readGang_116 (by decide) (fun q => ?_) (fun q => ?_)
  · have h := ite_t q h
    refine wt_aload_n (pc := 120) 0 dX12_readGang_120 rfl ?_
    refine wt_getR (pc := 121) dX12_readGang_121 fl_X12_35 (fun _ _ _ => rfl) h (fun v121 h => ?_)
    refine wt_sipush (pc := 124) (v := 1933) dX12_readGang_124 (by decide) ?_
    refine wt_iload_n (pc := 127) 1 dX12_readGang_127 rfl ?_
    refine wt_iadd (pc := 128) dX12_readGang_128 ?_
    refine wt_iload_n (pc := 129) 2 dX12_readGang_129 rfl ?_
    refine wt_iastore (pc := 130) (kd := 21) dX12_readGang_130 rfl rfl h (fun M130 h => ?_)
    refine wt_aload_n (pc := 131) 0 dX12_readGang_131 rfl ?_
    refine wt_getR (pc := 132) dX12_readGang_132 fl_X12_35 (fun _ _ _ => rfl) h (fun v132 h => ?_)
    refine wt_sipush (pc := 135) (v := 1945) dX12_readGang_135 (by decide) ?_
    refine wt_iload_n (pc := 138) 1 dX12_readGang_138 rfl ?_
    refine wt_iadd (pc := 139) dX12_readGang_139 ?_
    refine wt_aload_n (pc := 140) 0 dX12_readGang_140 rfl ?_
    refine wt_getR (pc := 141) dX12_readGang_141 fl_X12_35 (fun _ _ _ => rfl) h (fun v141 h => ?_)
    refine wt_sipush (pc := 144) (v := 1805) dX12_readGang_144 (by decide) ?_
    refine wt_iload_n (pc := 147) 2 dX12_readGang_147 rfl ?_
    refine wt_iadd (pc := 148) dX12_readGang_148 ?_
    refine wt_iaload (pc := 149) (kd := 21) dX12_readGang_149 rfl rfl h (fun v149 h => ?_)
    refine wt_iastore (pc := 150) (kd := 21) dX12_readGang_150 rfl rfl h (fun M150 h => ?_)
    refine wt_aload_n (pc := 151) 0 dX12_readGang_151 rfl ?_
    refine wt_getR (pc := 152) dX12_readGang_152 fl_X12_35 (fun _ _ _ => rfl) h (fun v152 h => ?_)
    refine wt_sipush (pc := 155) (v := 1949) dX12_readGang_155 (by decide) ?_
    refine wt_iload_n (pc := 158) 1 dX12_readGang_158 rfl ?_
    refine wt_iadd (pc := 159) dX12_readGang_159 ?_
    refine wt_iconst (pc := 160) (v := (-1)) dX12_readGang_160 (by decide) ?_
    refine wt_iastore (pc := 161) (kd := 21) dX12_readGang_161 rfl rfl h (fun M161 h => ?_)
    refine wt_aload_n (pc := 162) 0 dX12_readGang_162 rfl ?_
    refine wt_getR (pc := 163) dX12_readGang_163 fl_X12_35 (fun _ _ _ => rfl) h (fun v163 h => ?_)
    refine wt_sipush (pc := 166) (v := 1801) dX12_readGang_166 (by decide) ?_
    refine wt_dup2 (pc := 169) dX12_readGang_169 rfl (rf_cat _ _) ?_
    refine wt_iaload (pc := 170) (kd := 21) dX12_readGang_170 rfl rfl h (fun v170 h => ?_)
    refine wt_iconst (pc := 171) (v := 1) dX12_readGang_171 (by decide) ?_
    refine wt_iadd (pc := 172) dX12_readGang_172 ?_
    refine wt_iastore (pc := 173) (kd := 21) dX12_readGang_173 rfl rfl h (fun M173 h => ?_)
    cases h
    exact he 174 _ _ _ dX12_readGang_174 (by decide) (by decide)
  · have h := ite_f q h
    cases h
    exact he 119 _ _ _ dX12_readGang_119 (by decide) (by decide)
set_option maxHeartbeats 4000000 in
set_option maxRecDepth 100000 in
theorem t_X12_readGang_110 {G : GG} {X : CX} {ans : Mm} (he : EndV G X j_X12_readGang b_X12_readGang ans) {M : Mm} {l0 : Option Nat} {l1 : Int32} {l2 : Int32} {s0 : Option Nat} {s1 : Int32} (h : f_X12_readGang_110 M l0 l1 l2 s0 s1 = some ans) : Wt G X j_X12_readGang b_X12_readGang 110 [(0, rf G.1 l0), (1, .int l1), (2, .int l2)] [.int s1, rf G.1 s0] M 0 0 := by
  unfold f_X12_readGang_110 at h
  refine wt_iconst (pc := 110) (v := 1) dX12_readGang_110 (by decide) ?_
  exact t_X12_readGang_111 he  h
set_option maxHeartbeats 4000000 in
set_option maxRecDepth 100000 in
theorem t_X12_readGang_24 {G : GG} {X : CX} {ans : Mm} (he : EndV G X j_X12_readGang b_X12_readGang ans) {M : Mm} {l0 : Option Nat} {l1 : Int32} (h : f_X12_readGang_24 M l0 l1 = some ans) : Wt G X j_X12_readGang b_X12_readGang 24 [(0, rf G.1 l0), (1, .int l1)] [] M 0 0 := by
  unfold f_X12_readGang_24 at h
  refine wt_aload_n (pc := 24) 0 dX12_readGang_24 rfl ?_
  refine wt_getI (pc := 25) dX12_readGang_25 fl_X12_221 (fun _ _ _ => rfl) h (fun v25 h => ?_)
  refine wt_if_le (pc := 28) (tgt := 32) dX12_readGang_28 (by decide) (fun q => ?_) (fun q => ?_)
  · have h := ite_t q h
    refine wt_aload_n (pc := 32) 0 dX12_readGang_32 rfl ?_
    refine wt_bipush (pc := 33) (v := 8) dX12_readGang_33 (by decide) ?_
    refine wt_iload_n (pc := 35) 1 dX12_readGang_35 rfl ?_
    refine wt_iadd (pc := 36) dX12_readGang_36 ?_
    refine wt_cVV (pc := 37) (J' := j_X12_readNew) (As := [.int (8 + l1)]) (st := []) (B' := b_X12_readNew) (u' := 0) (w' := 0) dX12_readGang_37 ml_X12_271 mv_X12_readNew (fun M9 e9 => c_X12_readNew e9) rfl (by decide) rfl rfl (by decide) (by decide) (by decide) rfl h (fun M37 h => ?_)
    refine wt_aload_n (pc := 40) 0 dX12_readGang_40 rfl ?_
    refine wt_aload_n (pc := 41) 0 dX12_readGang_41 rfl ?_
    refine wt_cVI (pc := 42) (J' := j_X12_isOf) (As := []) (st := [rf G.1 l0]) (B' := b_X12_isOf) (u' := 0) (w' := 0) dX12_readGang_42 ml_X12_196 mv_X12_isOf (fun v9 M9 e9 => c_X12_isOf e9) rfl (by decide) rfl rfl (by decide) (by decide) (by simp [rf_cat, cat_i, cat_l, cat_r]) rfl h (fun v42 M42 h => ?_)
    refine wt_cVV (pc := 45) (J' := j_X12_must) (As := [.int v42]) (st := []) (B' := b_X12_must) (u' := 0) (w' := 0) dX12_readGang_45 ml_X12_237 mv_X12_must (fun M9 e9 => c_X12_must e9) rfl (by decide) rfl rfl (by decide) (by decide) (by decide) rfl h (fun M45 h => ?_)
    refine wt_aload_n (pc := 48) 0 dX12_readGang_48 rfl ?_
    refine wt_iconst (pc := 49) (v := 4) dX12_readGang_49 (by decide) ?_
    refine wt_iconst (pc := 50) (v := 0) dX12_readGang_50 (by decide) ?_
    refine wt_cVI (pc := 51) (J' := j_X12_readTold) (As := [.int 4, .int 0]) (st := []) (B' := b_X12_readTold) (u' := 0) (w' := 0) dX12_readGang_51 ml_X12_278 mv_X12_readTold (fun v9 M9 e9 => c_X12_readTold e9) rfl (by decide) rfl rfl (by decide) (by decide) (by decide) rfl h (fun v51 M51 h => ?_)
    refine wt_istore_n (pc := 54) (i := 2) (ls' := [(2, .int v51), (0, rf G.1 l0), (1, .int l1)]) rfl dX12_readGang_54 (by decide) rfl ?_
    refine wt_aload_n (pc := 55) 1 dX12_readGang_55 rfl ?_
    refine wt_getR (pc := 56) dX12_readGang_56 fl_X12_35 (fun _ _ _ => rfl) h (fun v56 h => ?_)
    refine wt_sipush (pc := 59) (v := 1937) dX12_readGang_59 (by decide) ?_
    refine wt_iload_n (pc := 62) 2 dX12_readGang_62 rfl ?_
    refine wt_iadd (pc := 63) dX12_readGang_63 ?_
    refine wt_aload_n (pc := 64) 1 dX12_readGang_64 rfl ?_
    refine wt_aload_n (pc := 65) 1 dX12_readGang_65 rfl ?_
    refine wt_cVI (pc := 66) (J' := j_X12_isHands) (As := []) (st := [rf G.1 l0, .int (1937 + l1), rf G.1 v56]) (B' := b_X12_isHands) (u' := 0) (w' := 0) dX12_readGang_66 ml_X12_181 mv_X12_isHands (fun v9 M9 e9 => c_X12_isHands e9) rfl (by decide) rfl rfl (by decide) (by decide) (by simp [rf_cat, cat_i, cat_l, cat_r]) rfl h (fun v66 M66 h => ?_)
    refine wt_iconst (pc := 69) (v := 1) dX12_readGang_69 (by decide) ?_
    refine wt_bipush (pc := 70) (v := 40) dX12_readGang_70 (by decide) ?_
    refine wt_cVI (pc := 72) (J' := j_X12_behindWord) (As := [.int v66, .int 1, .int 40]) (st := [.int (1937 + l1), rf G.1 v56]) (B' := b_X12_behindWord) (u' := 0) (w' := 0) dX12_readGang_72 ml_X12_274 mv_X12_behindWord (fun v9 M9 e9 => c_X12_behindWord e9) rfl (by decide) rfl rfl (by decide) (by decide) (by simp [rf_cat, cat_i, cat_l, cat_r]) rfl h (fun v72 M72 h => ?_)
    refine wt_iastore (pc := 75) (kd := 21) dX12_readGang_75 rfl rfl h (fun M75 h => ?_)
    refine wt_aload_n (pc := 76) 1 dX12_readGang_76 rfl ?_
    refine wt_getR (pc := 77) dX12_readGang_77 fl_X12_35 (fun _ _ _ => rfl) h (fun v77 h => ?_)
    refine wt_sipush (pc := 80) (v := 1941) dX12_readGang_80 (by decide) ?_
    refine wt_iload_n (pc := 83) 2 dX12_readGang_83 rfl ?_
    refine wt_iadd (pc := 84) dX12_readGang_84 ?_
    refine wt_aload_n (pc := 85) 1 dX12_readGang_85 rfl ?_
    refine wt_getI (pc := 86) dX12_readGang_86 fl_X12_221 (fun _ _ _ => rfl) h (fun v86 h => ?_)
    refine wt_if_ne (pc := 89) (tgt := 110) dX12_readGang_89 (by decide) (fun q => ?_) (fun q => ?_)
    · have h := ite_f q h
      refine wt_sub (ls' := [(0, rf G.1 l0), (1, .int l1), (2, .int v51)]) [1, 2, 0] rfl ?_
      exact t_X12_readGang_110 he  h
    · have h := ite_t q h
      refine wt_aload_n (pc := 92) 1 dX12_readGang_92 rfl ?_
      refine wt_cVI (pc := 93) (J' := j_X12_isPace) (As := []) (st := [.int (1941 + l1), rf G.1 v77]) (B' := b_X12_isPace) (u' := 0) (w' := 0) dX12_readGang_93 ml_X12_184 mv_X12_isPace (fun v9 M9 e9 => c_X12_isPace e9) rfl (by decide) rfl rfl (by decide) (by decide) (by simp [rf_cat, cat_i, cat_l, cat_r]) rfl h (fun v93 M93 h => ?_)
      refine wt_if_eq (pc := 96) (tgt := 110) dX12_readGang_96 (by decide) (fun q => ?_) (fun q => ?_)
      · have h := ite_t q h
        refine wt_sub (ls' := [(0, rf G.1 l0), (1, .int l1), (2, .int v51)]) [1, 2, 0] rfl ?_
        exact t_X12_readGang_110 he  h
      · have h := ite_f q h
        refine wt_aload_n (pc := 99) 1 dX12_readGang_99 rfl ?_
        refine wt_iconst (pc := 100) (v := 1) dX12_readGang_100 (by decide) ?_
        refine wt_iconst (pc := 101) (v := 0) dX12_readGang_101 (by decide) ?_
        refine wt_bipush (pc := 102) (v := 9) dX12_readGang_102 (by decide) ?_
        refine wt_cVI (pc := 104) (J' := j_X12_behindWord) (As := [.int 1, .int 0, .int 9]) (st := [.int (1941 + l1), rf G.1 v77]) (B' := b_X12_behindWord) (u' := 0) (w' := 0) dX12_readGang_104 ml_X12_274 mv_X12_behindWord (fun v9 M9 e9 => c_X12_behindWord e9) rfl (by decide) rfl rfl (by decide) (by decide) (by simp [rf_cat, cat_i, cat_l, cat_r]) rfl h (fun v104 M104 h => ?_)
        refine wt_goto (pc := 107) (tgt := 111) dX12_readGang_107 (by decide) ?_
        refine wt_sub (ls' := [(0, rf G.1 l0), (1, .int l1), (2, .int v51)]) [1, 2, 0] rfl ?_
        exact t_X12_readGang_111 he  h
  · have h := ite_f q h
    cases h
    exact he 31 _ _ _ dX12_readGang_31 (by decide) (by decide)
set_option maxHeartbeats 4000000 in
set_option maxRecDepth 100000 in
theorem t_X12_readGang_e {G : GG} {X : CX} {ans : Mm} (he : EndV G X j_X12_readGang b_X12_readGang ans) {M : Mm} {l0 : Option Nat} (h : f_X12_readGang M l0 = some ans) : Wt G X j_X12_readGang b_X12_readGang 0 [(0, rf G.1 l0)] [] M 0 0 := by
  unfold f_X12_readGang at h
  refine wt_aload_n (pc := 0) 0 dX12_readGang_0 rfl ?_
  refine wt_getR (pc := 1) dX12_readGang_1 fl_X12_35 (fun _ _ _ => rfl) h (fun v1 h => ?_)
  refine wt_sipush (pc := 4) (v := 1801) dX12_readGang_4 (by decide) ?_
  refine wt_iaload (pc := 7) (kd := 21) dX12_readGang_7 rfl rfl h (fun v7 h => ?_)
  refine wt_istore_n (pc := 8) (i := 1) (ls' := [(1, .int v7), (0, rf G.1 l0)]) rfl dX12_readGang_8 (by decide) (by simp [rf_cat, cat_i, cat_l, cat_r]) ?_
  refine wt_iload_n (pc := 9) 0 dX12_readGang_9 rfl ?_
  refine wt_iconst (pc := 10) (v := 4) dX12_readGang_10 (by decide) ?_
  refine wt_icmp_ne (pc := 11) (tgt := 24) dX12_readGang_11 (by decide) (fun q => ?_) (fun q => ?_)
  · have h := ite_f q h
    refine wt_sub (ls' := [(0, rf G.1 l0), (1, .int v7)]) [1, 0] rfl ?_
    exact t_X12_readGang_24 he  h
  · have h := ite_t q h
    refine wt_aload_n (pc := 14) 1 dX12_readGang_14 rfl ?_
    refine wt_bipush (pc := 15) (v := 6) dX12_readGang_15 (by decide) ?_
    refine wt_aload_n (pc := 17) 1 dX12_readGang_17 rfl ?_
    refine wt_getI (pc := 18) dX12_readGang_18 fl_X12_117 (fun _ _ _ => rfl) h (fun v18 h => ?_)
    refine wt_cVV (pc := 21) (J' := j_X12_fail) (As := [.int 6, .int v18]) (st := []) (B' := b_X12_fail) (u' := 0) (w' := 0) dX12_readGang_21 ml_X12_227 mv_X12_fail (fun M9 e9 => c_X12_fail e9) rfl (by decide) rfl rfl (by decide) (by decide) (by decide) rfl h (fun M21 h => ?_)
    refine wt_sub (ls' := [(0, rf G.1 l0), (1, .int v7)]) [1, 0] rfl ?_
    exact t_X12_readGang_24 he  h
set_option maxHeartbeats 4000000 in
set_option maxRecDepth 100000 in
theorem c_X12_readGang {G : GG} {M : Mm} {l0 : Option Nat} {r : Mm} (h : f_X12_readGang M l0 = some r) (l : Launch) : Ct l G j_X12_readGang b_X12_readGang [rf G.1 l0] M none r := cf_V (by decide +kernel) (by simp [lg_sl, rf_cat, cat_i, cat_l, j_X12_readGang]) rfl (by simp [lv_args, rf_cat, cat_i, cat_l]) (fun X he => t_X12_readGang_e he h)
def f_X12_readHelped_47 (M : Mm) (l0 : Option Nat) (l1 : Int32) (l2 : Int32) : Option (Mm) := ck M l0 12 <| bv (f_X12_must M l0 1) fun M49 => ck M49 l0 12 <| bd (f_X12_count M49 l0 0 99) fun v56 M56 => gfI M56 l0 12 12 fun v61 => if v61 = 0 then (gfR M56 l0 12 20 fun v68 => asI M56 v68 21 ((1869 + (8 * l1)) + l2) v56 fun M82 => some M82) else (some M56)
def f_X12_readHelped (M : Mm) (l0 : Option Nat) : Option (Mm) := ck M l0 12 <| bv (f_X12_next M l0) fun M1 => ck M1 l0 12 <| bd (f_X12_readTold M1 l0 4 0) fun v7 M7 => ck M7 l0 12 <| bd (f_X12_isBy M7 l0) fun v13 M13 => ck M13 l0 12 <| bv (f_X12_must M13 l0 v13) fun M16 => ck M16 l0 12 <| bd (f_X12_told M16 l0 4 0) fun v22 M22 => gfI M22 l0 12 12 fun v27 => if v27 = 0 then (if v22 = v7 then (gfI M22 l0 12 15 fun v41 => ck M22 l0 12 <| bv (f_X12_fail M22 l0 5 v41) fun M44 => f_X12_readHelped_47  M44 l0 v7 v22) else (f_X12_readHelped_47  M22 l0 v7 v22)) else (f_X12_readHelped_47  M22 l0 v7 v22)
set_option maxHeartbeats 4000000 in
set_option maxRecDepth 100000 in
theorem t_X12_readHelped_47 {G : GG} {X : CX} {ans : Mm} (he : EndV G X j_X12_readHelped b_X12_readHelped ans) {M : Mm} {l0 : Option Nat} {l1 : Int32} {l2 : Int32} (h : f_X12_readHelped_47 M l0 l1 l2 = some ans) : Wt G X j_X12_readHelped b_X12_readHelped 47 [(0, rf G.1 l0), (1, .int l1), (2, .int l2)] [] M 0 0 := by
  unfold f_X12_readHelped_47 at h
  refine wt_aload_n (pc := 47) 0 dX12_readHelped_47 rfl ?_
  refine wt_iconst (pc := 48) (v := 1) dX12_readHelped_48 (by decide) ?_
  refine wt_cVV (pc := 49) (J' := j_X12_must) (As := [.int 1]) (st := []) (B' := b_X12_must) (u' := 0) (w' := 0) dX12_readHelped_49 ml_X12_237 mv_X12_must (fun M9 e9 => c_X12_must e9) rfl (by decide) rfl rfl (by decide) (by decide) (by decide) rfl h (fun M49 h => ?_)
  refine wt_aload_n (pc := 52) 0 dX12_readHelped_52 rfl ?_
  refine wt_iconst (pc := 53) (v := 0) dX12_readHelped_53 (by decide) ?_
  refine wt_bipush (pc := 54) (v := 99) dX12_readHelped_54 (by decide) ?_
  refine wt_cVI (pc := 56) (J' := j_X12_count) (As := [.int 0, .int 99]) (st := []) (B' := b_X12_count) (u' := 0) (w' := 0) dX12_readHelped_56 ml_X12_241 mv_X12_count (fun v9 M9 e9 => c_X12_count e9) rfl (by decide) rfl rfl (by decide) (by decide) (by decide) rfl h (fun v56 M56 h => ?_)
  refine wt_istore_n (pc := 59) (i := 3) (ls' := [(3, .int v56), (0, rf G.1 l0), (1, .int l1), (2, .int l2)]) rfl dX12_readHelped_59 (by decide) rfl ?_
  refine wt_aload_n (pc := 60) 1 dX12_readHelped_60 rfl ?_
  refine wt_getI (pc := 61) dX12_readHelped_61 fl_X12_221 (fun _ _ _ => rfl) h (fun v61 h => ?_)
  refine wt_if_ne (pc := 64) (tgt := 83) dX12_readHelped_64 (by decide) (fun q => ?_) (fun q => ?_)
  · have h := ite_f q h
    cases h
    exact he 83 _ _ _ dX12_readHelped_83 (by decide) (by decide)
  · have h := ite_t q h
    refine wt_aload_n (pc := 67) 1 dX12_readHelped_67 rfl ?_
    refine wt_getR (pc := 68) dX12_readHelped_68 fl_X12_35 (fun _ _ _ => rfl) h (fun v68 h => ?_)
    refine wt_sipush (pc := 71) (v := 1869) dX12_readHelped_71 (by decide) ?_
    refine wt_bipush (pc := 74) (v := 8) dX12_readHelped_74 (by decide) ?_
    refine wt_iload_n (pc := 76) 2 dX12_readHelped_76 rfl ?_
    refine wt_imul (pc := 77) dX12_readHelped_77 ?_
    refine wt_iadd (pc := 78) dX12_readHelped_78 ?_
    refine wt_iload_n (pc := 79) 3 dX12_readHelped_79 rfl ?_
    refine wt_iadd (pc := 80) dX12_readHelped_80 ?_
    refine wt_iload_n (pc := 81) 0 dX12_readHelped_81 rfl ?_
    refine wt_iastore (pc := 82) (kd := 21) dX12_readHelped_82 rfl rfl h (fun M82 h => ?_)
    cases h
    exact he 83 _ _ _ dX12_readHelped_83 (by decide) (by decide)
set_option maxHeartbeats 4000000 in
set_option maxRecDepth 100000 in
theorem t_X12_readHelped_e {G : GG} {X : CX} {ans : Mm} (he : EndV G X j_X12_readHelped b_X12_readHelped ans) {M : Mm} {l0 : Option Nat} (h : f_X12_readHelped M l0 = some ans) : Wt G X j_X12_readHelped b_X12_readHelped 0 [(0, rf G.1 l0)] [] M 0 0 := by
  unfold f_X12_readHelped at h
  refine wt_aload_n (pc := 0) 0 dX12_readHelped_0 rfl ?_
  refine wt_cVV (pc := 1) (J' := j_X12_next) (As := []) (st := []) (B' := b_X12_next) (u' := 0) (w' := 0) dX12_readHelped_1 ml_X12_231 mv_X12_next (fun M9 e9 => c_X12_next e9) rfl (by decide) rfl rfl (by decide) (by decide) (by decide) rfl h (fun M1 h => ?_)
  refine wt_aload_n (pc := 4) 0 dX12_readHelped_4 rfl ?_
  refine wt_iconst (pc := 5) (v := 4) dX12_readHelped_5 (by decide) ?_
  refine wt_iconst (pc := 6) (v := 0) dX12_readHelped_6 (by decide) ?_
  refine wt_cVI (pc := 7) (J' := j_X12_readTold) (As := [.int 4, .int 0]) (st := []) (B' := b_X12_readTold) (u' := 0) (w' := 0) dX12_readHelped_7 ml_X12_278 mv_X12_readTold (fun v9 M9 e9 => c_X12_readTold e9) rfl (by decide) rfl rfl (by decide) (by decide) (by decide) rfl h (fun v7 M7 h => ?_)
  refine wt_istore_n (pc := 10) (i := 1) (ls' := [(1, .int v7), (0, rf G.1 l0)]) rfl dX12_readHelped_10 (by decide) (by simp [rf_cat, cat_i, cat_l, cat_r]) ?_
  refine wt_aload_n (pc := 11) 1 dX12_readHelped_11 rfl ?_
  refine wt_aload_n (pc := 12) 1 dX12_readHelped_12 rfl ?_
  refine wt_cVI (pc := 13) (J' := j_X12_isBy) (As := []) (st := [rf G.1 l0]) (B' := b_X12_isBy) (u' := 0) (w' := 0) dX12_readHelped_13 ml_X12_190 mv_X12_isBy (fun v9 M9 e9 => c_X12_isBy e9) rfl (by decide) rfl rfl (by decide) (by decide) (by simp [rf_cat, cat_i, cat_l, cat_r]) rfl h (fun v13 M13 h => ?_)
  refine wt_cVV (pc := 16) (J' := j_X12_must) (As := [.int v13]) (st := []) (B' := b_X12_must) (u' := 0) (w' := 0) dX12_readHelped_16 ml_X12_237 mv_X12_must (fun M9 e9 => c_X12_must e9) rfl (by decide) rfl rfl (by decide) (by decide) (by decide) rfl h (fun M16 h => ?_)
  refine wt_aload_n (pc := 19) 1 dX12_readHelped_19 rfl ?_
  refine wt_iconst (pc := 20) (v := 4) dX12_readHelped_20 (by decide) ?_
  refine wt_iconst (pc := 21) (v := 0) dX12_readHelped_21 (by decide) ?_
  refine wt_cVI (pc := 22) (J' := j_X12_told) (As := [.int 4, .int 0]) (st := []) (B' := b_X12_told) (u' := 0) (w' := 0) dX12_readHelped_22 ml_X12_267 mv_X12_told (fun v9 M9 e9 => c_X12_told e9) rfl (by decide) rfl rfl (by decide) (by decide) (by decide) rfl h (fun v22 M22 h => ?_)
  refine wt_istore_n (pc := 25) (i := 2) (ls' := [(2, .int v22), (1, .int v7), (0, rf G.1 l0)]) rfl dX12_readHelped_25 (by decide) rfl ?_
  refine wt_aload_n (pc := 26) 2 dX12_readHelped_26 rfl ?_
  refine wt_getI (pc := 27) dX12_readHelped_27 fl_X12_221 (fun _ _ _ => rfl) h (fun v27 h => ?_)
  refine wt_if_ne (pc := 30) (tgt := 47) dX12_readHelped_30 (by decide) (fun q => ?_) (fun q => ?_)
  · have h := ite_f q h
    refine wt_sub (ls' := [(0, rf G.1 l0), (1, .int v7), (2, .int v22)]) [2, 1, 0] rfl ?_
    exact t_X12_readHelped_47 he  h
  · have h := ite_t q h
    refine wt_iload_n (pc := 33) 0 dX12_readHelped_33 rfl ?_
    refine wt_iload_n (pc := 34) 1 dX12_readHelped_34 rfl ?_
    refine wt_icmp_ne (pc := 35) (tgt := 47) dX12_readHelped_35 (by decide) (fun q => ?_) (fun q => ?_)
    · have h := ite_f q h
      refine wt_sub (ls' := [(0, rf G.1 l0), (1, .int v7), (2, .int v22)]) [2, 1, 0] rfl ?_
      exact t_X12_readHelped_47 he  h
    · have h := ite_t q h
      refine wt_aload_n (pc := 38) 2 dX12_readHelped_38 rfl ?_
      refine wt_iconst (pc := 39) (v := 5) dX12_readHelped_39 (by decide) ?_
      refine wt_aload_n (pc := 40) 2 dX12_readHelped_40 rfl ?_
      refine wt_getI (pc := 41) dX12_readHelped_41 fl_X12_117 (fun _ _ _ => rfl) h (fun v41 h => ?_)
      refine wt_cVV (pc := 44) (J' := j_X12_fail) (As := [.int 5, .int v41]) (st := []) (B' := b_X12_fail) (u' := 0) (w' := 0) dX12_readHelped_44 ml_X12_227 mv_X12_fail (fun M9 e9 => c_X12_fail e9) rfl (by decide) rfl rfl (by decide) (by decide) (by decide) rfl h (fun M44 h => ?_)
      refine wt_sub (ls' := [(0, rf G.1 l0), (1, .int v7), (2, .int v22)]) [2, 1, 0] rfl ?_
      exact t_X12_readHelped_47 he  h
set_option maxHeartbeats 4000000 in
set_option maxRecDepth 100000 in
theorem c_X12_readHelped {G : GG} {M : Mm} {l0 : Option Nat} {r : Mm} (h : f_X12_readHelped M l0 = some r) (l : Launch) : Ct l G j_X12_readHelped b_X12_readHelped [rf G.1 l0] M none r := cf_V (by decide +kernel) (by simp [lg_sl, rf_cat, cat_i, cat_l, j_X12_readHelped]) rfl (by simp [lv_args, rf_cat, cat_i, cat_l]) (fun X he => t_X12_readHelped_e he h)
def f_X12_readWind_25 (M : Mm) (l0 : Option Nat) (l1 : Int32) : Option (Mm) := gfI M l0 12 12 fun v26 => if v26 ≤ 0 then (ck M l0 12 <| bv (f_X12_readNew M l0 (12 + l1)) fun M38 => gfR M38 l0 12 20 fun v42 => ck M38 l0 12 <| bd (f_X12_count M38 l0 0 99) fun v54 M54 => asI M54 v42 21 (1961 + l1) v54 fun M57 => gfR M57 l0 12 20 fun v59 => ck M57 l0 12 <| bd (f_X12_isOf M57 l0) fun v69 M69 => ck M69 l0 12 <| bd (f_X12_behindWord M69 l0 v69 1 99) fun v75 M75 => asI M75 v59 21 (1967 + l1) v75 fun M78 => gfI M78 l0 12 12 fun v80 => if v80 = 0 then (gfR M78 l0 12 20 fun v87 => alI M78 v87 21 1802 fun v94 => asI M78 v87 21 1802 (v94 + 1) fun M97 => some M97) else (some M78)) else (some M)
def f_X12_readWind (M : Mm) (l0 : Option Nat) : Option (Mm) := gfR M l0 12 20 fun v1 => alI M v1 21 1802 fun v7 => if v7 = 6 then (gfI M l0 12 15 fun v19 => ck M l0 12 <| bv (f_X12_fail M l0 6 v19) fun M22 => f_X12_readWind_25  M22 l0 v7) else (f_X12_readWind_25  M l0 v7)
set_option maxHeartbeats 4000000 in
set_option maxRecDepth 100000 in
theorem t_X12_readWind_25 {G : GG} {X : CX} {ans : Mm} (he : EndV G X j_X12_readWind b_X12_readWind ans) {M : Mm} {l0 : Option Nat} {l1 : Int32} (h : f_X12_readWind_25 M l0 l1 = some ans) : Wt G X j_X12_readWind b_X12_readWind 25 [(0, rf G.1 l0), (1, .int l1)] [] M 0 0 := by
  unfold f_X12_readWind_25 at h
  refine wt_aload_n (pc := 25) 0 dX12_readWind_25 rfl ?_
  refine wt_getI (pc := 26) dX12_readWind_26 fl_X12_221 (fun _ _ _ => rfl) h (fun v26 h => ?_)
  refine wt_if_le (pc := 29) (tgt := 33) dX12_readWind_29 (by decide) (fun q => ?_) (fun q => ?_)
  · have h := ite_t q h
    refine wt_aload_n (pc := 33) 0 dX12_readWind_33 rfl ?_
    refine wt_bipush (pc := 34) (v := 12) dX12_readWind_34 (by decide) ?_
    refine wt_iload_n (pc := 36) 1 dX12_readWind_36 rfl ?_
    refine wt_iadd (pc := 37) dX12_readWind_37 ?_
    refine wt_cVV (pc := 38) (J' := j_X12_readNew) (As := [.int (12 + l1)]) (st := []) (B' := b_X12_readNew) (u' := 0) (w' := 0) dX12_readWind_38 ml_X12_271 mv_X12_readNew (fun M9 e9 => c_X12_readNew e9) rfl (by decide) rfl rfl (by decide) (by decide) (by decide) rfl h (fun M38 h => ?_)
    refine wt_aload_n (pc := 41) 0 dX12_readWind_41 rfl ?_
    refine wt_getR (pc := 42) dX12_readWind_42 fl_X12_35 (fun _ _ _ => rfl) h (fun v42 h => ?_)
    refine wt_sipush (pc := 45) (v := 1961) dX12_readWind_45 (by decide) ?_
    refine wt_iload_n (pc := 48) 1 dX12_readWind_48 rfl ?_
    refine wt_iadd (pc := 49) dX12_readWind_49 ?_
    refine wt_aload_n (pc := 50) 0 dX12_readWind_50 rfl ?_
    refine wt_iconst (pc := 51) (v := 0) dX12_readWind_51 (by decide) ?_
    refine wt_bipush (pc := 52) (v := 99) dX12_readWind_52 (by decide) ?_
    refine wt_cVI (pc := 54) (J' := j_X12_count) (As := [.int 0, .int 99]) (st := [.int (1961 + l1), rf G.1 v42]) (B' := b_X12_count) (u' := 0) (w' := 0) dX12_readWind_54 ml_X12_241 mv_X12_count (fun v9 M9 e9 => c_X12_count e9) rfl (by decide) rfl rfl (by decide) (by decide) (by simp [rf_cat, cat_i, cat_l, cat_r]) rfl h (fun v54 M54 h => ?_)
    refine wt_iastore (pc := 57) (kd := 21) dX12_readWind_57 rfl rfl h (fun M57 h => ?_)
    refine wt_aload_n (pc := 58) 0 dX12_readWind_58 rfl ?_
    refine wt_getR (pc := 59) dX12_readWind_59 fl_X12_35 (fun _ _ _ => rfl) h (fun v59 h => ?_)
    refine wt_sipush (pc := 62) (v := 1967) dX12_readWind_62 (by decide) ?_
    refine wt_iload_n (pc := 65) 1 dX12_readWind_65 rfl ?_
    refine wt_iadd (pc := 66) dX12_readWind_66 ?_
    refine wt_aload_n (pc := 67) 0 dX12_readWind_67 rfl ?_
    refine wt_aload_n (pc := 68) 0 dX12_readWind_68 rfl ?_
    refine wt_cVI (pc := 69) (J' := j_X12_isOf) (As := []) (st := [rf G.1 l0, .int (1967 + l1), rf G.1 v59]) (B' := b_X12_isOf) (u' := 0) (w' := 0) dX12_readWind_69 ml_X12_196 mv_X12_isOf (fun v9 M9 e9 => c_X12_isOf e9) rfl (by decide) rfl rfl (by decide) (by decide) (by simp [rf_cat, cat_i, cat_l, cat_r]) rfl h (fun v69 M69 h => ?_)
    refine wt_iconst (pc := 72) (v := 1) dX12_readWind_72 (by decide) ?_
    refine wt_bipush (pc := 73) (v := 99) dX12_readWind_73 (by decide) ?_
    refine wt_cVI (pc := 75) (J' := j_X12_behindWord) (As := [.int v69, .int 1, .int 99]) (st := [.int (1967 + l1), rf G.1 v59]) (B' := b_X12_behindWord) (u' := 0) (w' := 0) dX12_readWind_75 ml_X12_274 mv_X12_behindWord (fun v9 M9 e9 => c_X12_behindWord e9) rfl (by decide) rfl rfl (by decide) (by decide) (by simp [rf_cat, cat_i, cat_l, cat_r]) rfl h (fun v75 M75 h => ?_)
    refine wt_iastore (pc := 78) (kd := 21) dX12_readWind_78 rfl rfl h (fun M78 h => ?_)
    refine wt_aload_n (pc := 79) 0 dX12_readWind_79 rfl ?_
    refine wt_getI (pc := 80) dX12_readWind_80 fl_X12_221 (fun _ _ _ => rfl) h (fun v80 h => ?_)
    refine wt_if_ne (pc := 83) (tgt := 98) dX12_readWind_83 (by decide) (fun q => ?_) (fun q => ?_)
    · have h := ite_f q h
      cases h
      exact he 98 _ _ _ dX12_readWind_98 (by decide) (by decide)
    · have h := ite_t q h
      refine wt_aload_n (pc := 86) 0 dX12_readWind_86 rfl ?_
      refine wt_getR (pc := 87) dX12_readWind_87 fl_X12_35 (fun _ _ _ => rfl) h (fun v87 h => ?_)
      refine wt_sipush (pc := 90) (v := 1802) dX12_readWind_90 (by decide) ?_
      refine wt_dup2 (pc := 93) dX12_readWind_93 rfl (rf_cat _ _) ?_
      refine wt_iaload (pc := 94) (kd := 21) dX12_readWind_94 rfl rfl h (fun v94 h => ?_)
      refine wt_iconst (pc := 95) (v := 1) dX12_readWind_95 (by decide) ?_
      refine wt_iadd (pc := 96) dX12_readWind_96 ?_
      refine wt_iastore (pc := 97) (kd := 21) dX12_readWind_97 rfl rfl h (fun M97 h => ?_)
      cases h
      exact he 98 _ _ _ dX12_readWind_98 (by decide) (by decide)
  · have h := ite_f q h
    cases h
    exact he 32 _ _ _ dX12_readWind_32 (by decide) (by decide)
set_option maxHeartbeats 4000000 in
set_option maxRecDepth 100000 in
theorem t_X12_readWind_e {G : GG} {X : CX} {ans : Mm} (he : EndV G X j_X12_readWind b_X12_readWind ans) {M : Mm} {l0 : Option Nat} (h : f_X12_readWind M l0 = some ans) : Wt G X j_X12_readWind b_X12_readWind 0 [(0, rf G.1 l0)] [] M 0 0 := by
  unfold f_X12_readWind at h
  refine wt_aload_n (pc := 0) 0 dX12_readWind_0 rfl ?_
  refine wt_getR (pc := 1) dX12_readWind_1 fl_X12_35 (fun _ _ _ => rfl) h (fun v1 h => ?_)
  refine wt_sipush (pc := 4) (v := 1802) dX12_readWind_4 (by decide) ?_
  refine wt_iaload (pc := 7) (kd := 21) dX12_readWind_7 rfl rfl h (fun v7 h => ?_)
  refine wt_istore_n (pc := 8) (i := 1) (ls' := [(1, .int v7), (0, rf G.1 l0)]) rfl dX12_readWind_8 (by decide) (by simp [rf_cat, cat_i, cat_l, cat_r]) ?_
  refine wt_iload_n (pc := 9) 0 dX12_readWind_9 rfl ?_
  refine wt_bipush (pc := 10) (v := 6) dX12_readWind_10 (by decide) ?_
  refine wt_icmp_ne (pc := 12) (tgt := 25) dX12_readWind_12 (by decide) (fun q => ?_) (fun q => ?_)
  · have h := ite_f q h
    refine wt_sub (ls' := [(0, rf G.1 l0), (1, .int v7)]) [1, 0] rfl ?_
    exact t_X12_readWind_25 he  h
  · have h := ite_t q h
    refine wt_aload_n (pc := 15) 1 dX12_readWind_15 rfl ?_
    refine wt_bipush (pc := 16) (v := 6) dX12_readWind_16 (by decide) ?_
    refine wt_aload_n (pc := 18) 1 dX12_readWind_18 rfl ?_
    refine wt_getI (pc := 19) dX12_readWind_19 fl_X12_117 (fun _ _ _ => rfl) h (fun v19 h => ?_)
    refine wt_cVV (pc := 22) (J' := j_X12_fail) (As := [.int 6, .int v19]) (st := []) (B' := b_X12_fail) (u' := 0) (w' := 0) dX12_readWind_22 ml_X12_227 mv_X12_fail (fun M9 e9 => c_X12_fail e9) rfl (by decide) rfl rfl (by decide) (by decide) (by decide) rfl h (fun M22 h => ?_)
    refine wt_sub (ls' := [(0, rf G.1 l0), (1, .int v7)]) [1, 0] rfl ?_
    exact t_X12_readWind_25 he  h
set_option maxHeartbeats 4000000 in
set_option maxRecDepth 100000 in
theorem c_X12_readWind {G : GG} {M : Mm} {l0 : Option Nat} {r : Mm} (h : f_X12_readWind M l0 = some r) (l : Launch) : Ct l G j_X12_readWind b_X12_readWind [rf G.1 l0] M none r := cf_V (by decide +kernel) (by simp [lg_sl, rf_cat, cat_i, cat_l, j_X12_readWind]) rfl (by simp [lv_args, rf_cat, cat_i, cat_l]) (fun X he => t_X12_readWind_e he h)
def f_X12_readLaw_62 (M : Mm) (s0 : Option Nat) (s1 : Int32) : Option (Mm) := ck M s0 12 <| bv (f_X12_must M s0 s1) fun M62 => some M62
def f_X12_readLaw_16 (M : Mm) (l0 : Option Nat) : Option (Mm) := gfI M l0 12 12 fun v17 => if v17 ≤ 0 then (pfZ M l0 12 24 1 fun M26 => ck M26 l0 12 <| bv (f_X12_next M26 l0) fun M30 => gfR M30 l0 12 20 fun v34 => ck M30 l0 12 <| bd (f_X12_lawWord M30 l0) fun v42 M42 => asI M42 v34 21 1803 (mxI 0 v42) fun M48 => ck M48 l0 12 <| bd (f_X12_lawWord M48 l0) fun v51 M51 => if v51 < 0 then (f_X12_readLaw_62  M51 l0 0) else (f_X12_readLaw_62  M51 l0 1)) else (some M)
def f_X12_readLaw (M : Mm) (l0 : Option Nat) : Option (Mm) := gfI M l0 12 24 fun v1 => if v1 = 0 then (f_X12_readLaw_16  M l0) else (gfI M l0 12 15 fun v10 => ck M l0 12 <| bv (f_X12_fail M l0 5 v10) fun M13 => f_X12_readLaw_16  M13 l0)
set_option maxHeartbeats 4000000 in
set_option maxRecDepth 100000 in
theorem t_X12_readLaw_62 {G : GG} {X : CX} {ans : Mm} (he : EndV G X j_X12_readLaw b_X12_readLaw ans) {M : Mm} {s0 : Option Nat} {s1 : Int32} (h : f_X12_readLaw_62 M s0 s1 = some ans) : Wt G X j_X12_readLaw b_X12_readLaw 62 [] [.int s1, rf G.1 s0] M 0 0 := by
  unfold f_X12_readLaw_62 at h
  refine wt_cVV (pc := 62) (J' := j_X12_must) (As := [.int s1]) (st := []) (B' := b_X12_must) (u' := 0) (w' := 0) dX12_readLaw_62 ml_X12_237 mv_X12_must (fun M9 e9 => c_X12_must e9) rfl (by decide) rfl rfl (by decide) (by decide) (by decide) rfl h (fun M62 h => ?_)
  cases h
  exact he 65 _ _ _ dX12_readLaw_65 (by decide) (by decide)
set_option maxHeartbeats 4000000 in
set_option maxRecDepth 100000 in
theorem t_X12_readLaw_16 {G : GG} {X : CX} {ans : Mm} (he : EndV G X j_X12_readLaw b_X12_readLaw ans) {M : Mm} {l0 : Option Nat} (h : f_X12_readLaw_16 M l0 = some ans) : Wt G X j_X12_readLaw b_X12_readLaw 16 [(0, rf G.1 l0)] [] M 0 0 := by
  unfold f_X12_readLaw_16 at h
  refine wt_aload_n (pc := 16) 0 dX12_readLaw_16 rfl ?_
  refine wt_getI (pc := 17) dX12_readLaw_17 fl_X12_221 (fun _ _ _ => rfl) h (fun v17 h => ?_)
  refine wt_if_le (pc := 20) (tgt := 24) dX12_readLaw_20 (by decide) (fun q => ?_) (fun q => ?_)
  · have h := ite_t q h
    refine wt_aload_n (pc := 24) 0 dX12_readLaw_24 rfl ?_
    refine wt_iconst (pc := 25) (v := 1) dX12_readLaw_25 (by decide) ?_
    refine wt_putZ (pc := 26) dX12_readLaw_26 fl_X12_281 rfl rfl h (fun M26 h => ?_)
    refine wt_aload_n (pc := 29) 0 dX12_readLaw_29 rfl ?_
    refine wt_cVV (pc := 30) (J' := j_X12_next) (As := []) (st := []) (B' := b_X12_next) (u' := 0) (w' := 0) dX12_readLaw_30 ml_X12_231 mv_X12_next (fun M9 e9 => c_X12_next e9) rfl (by decide) rfl rfl (by decide) (by decide) (by decide) rfl h (fun M30 h => ?_)
    refine wt_aload_n (pc := 33) 0 dX12_readLaw_33 rfl ?_
    refine wt_getR (pc := 34) dX12_readLaw_34 fl_X12_35 (fun _ _ _ => rfl) h (fun v34 h => ?_)
    refine wt_sipush (pc := 37) (v := 1803) dX12_readLaw_37 (by decide) ?_
    refine wt_iconst (pc := 40) (v := 0) dX12_readLaw_40 (by decide) ?_
    refine wt_aload_n (pc := 41) 0 dX12_readLaw_41 rfl ?_
    refine wt_cVI (pc := 42) (J' := j_X12_lawWord) (As := []) (st := [.int 0, .int 1803, rf G.1 v34]) (B' := b_X12_lawWord) (u' := 0) (w' := 0) dX12_readLaw_42 ml_X12_205 mv_X12_lawWord (fun v9 M9 e9 => c_X12_lawWord e9) rfl (by decide) rfl rfl (by decide) (by decide) (by simp [rf_cat, cat_i, cat_l, cat_r]) rfl h (fun v42 M42 h => ?_)
    refine wt_mmax (pc := 45) dX12_readLaw_45 bi_X12_264 mw_max.1 mw_max.2.1 mw_max.2.2 (by decide) (by decide) (by decide) (by simp [rf_cat, cat_i, cat_l, cat_r]) ?_
    refine wt_iastore (pc := 48) (kd := 21) dX12_readLaw_48 rfl rfl h (fun M48 h => ?_)
    refine wt_aload_n (pc := 49) 0 dX12_readLaw_49 rfl ?_
    refine wt_aload_n (pc := 50) 0 dX12_readLaw_50 rfl ?_
    refine wt_cVI (pc := 51) (J' := j_X12_lawWord) (As := []) (st := [rf G.1 l0]) (B' := b_X12_lawWord) (u' := 0) (w' := 0) dX12_readLaw_51 ml_X12_205 mv_X12_lawWord (fun v9 M9 e9 => c_X12_lawWord e9) rfl (by decide) rfl rfl (by decide) (by decide) (by simp [rf_cat, cat_i, cat_l, cat_r]) rfl h (fun v51 M51 h => ?_)
    refine wt_if_lt (pc := 54) (tgt := 61) dX12_readLaw_54 (by decide) (fun q => ?_) (fun q => ?_)
    · have h := ite_t q h
      refine wt_iconst (pc := 61) (v := 0) dX12_readLaw_61 (by decide) ?_
      refine wt_sub (ls' := []) [] rfl ?_
      exact t_X12_readLaw_62 he  h
    · have h := ite_f q h
      refine wt_iconst (pc := 57) (v := 1) dX12_readLaw_57 (by decide) ?_
      refine wt_goto (pc := 58) (tgt := 62) dX12_readLaw_58 (by decide) ?_
      refine wt_sub (ls' := []) [] rfl ?_
      exact t_X12_readLaw_62 he  h
  · have h := ite_f q h
    cases h
    exact he 23 _ _ _ dX12_readLaw_23 (by decide) (by decide)
set_option maxHeartbeats 4000000 in
set_option maxRecDepth 100000 in
theorem t_X12_readLaw_e {G : GG} {X : CX} {ans : Mm} (he : EndV G X j_X12_readLaw b_X12_readLaw ans) {M : Mm} {l0 : Option Nat} (h : f_X12_readLaw M l0 = some ans) : Wt G X j_X12_readLaw b_X12_readLaw 0 [(0, rf G.1 l0)] [] M 0 0 := by
  unfold f_X12_readLaw at h
  refine wt_aload_n (pc := 0) 0 dX12_readLaw_0 rfl ?_
  refine wt_getI (pc := 1) dX12_readLaw_1 fl_X12_281 (fun _ _ _ => rfl) h (fun v1 h => ?_)
  refine wt_if_eq (pc := 4) (tgt := 16) dX12_readLaw_4 (by decide) (fun q => ?_) (fun q => ?_)
  · have h := ite_t q h
    exact t_X12_readLaw_16 he  h
  · have h := ite_f q h
    refine wt_aload_n (pc := 7) 0 dX12_readLaw_7 rfl ?_
    refine wt_iconst (pc := 8) (v := 5) dX12_readLaw_8 (by decide) ?_
    refine wt_aload_n (pc := 9) 0 dX12_readLaw_9 rfl ?_
    refine wt_getI (pc := 10) dX12_readLaw_10 fl_X12_117 (fun _ _ _ => rfl) h (fun v10 h => ?_)
    refine wt_cVV (pc := 13) (J' := j_X12_fail) (As := [.int 5, .int v10]) (st := []) (B' := b_X12_fail) (u' := 0) (w' := 0) dX12_readLaw_13 ml_X12_227 mv_X12_fail (fun M9 e9 => c_X12_fail e9) rfl (by decide) rfl rfl (by decide) (by decide) (by decide) rfl h (fun M13 h => ?_)
    exact t_X12_readLaw_16 he  h
set_option maxHeartbeats 4000000 in
set_option maxRecDepth 100000 in
theorem c_X12_readLaw {G : GG} {M : Mm} {l0 : Option Nat} {r : Mm} (h : f_X12_readLaw M l0 = some r) (l : Launch) : Ct l G j_X12_readLaw b_X12_readLaw [rf G.1 l0] M none r := cf_V (by decide +kernel) (by simp [lg_sl, rf_cat, cat_i, cat_l, j_X12_readLaw]) rfl (by simp [lv_args, rf_cat, cat_i, cat_l]) (fun X he => t_X12_readLaw_e he h)
def f_X12_copy_41 : Nat → Mm → Option Nat → Int32 → Int32 → Int32 → Option (Mm)
  | 0, _, _, _, _, _ => none
  | n + 1, M, l0, l1, l2, l3 => if 18 ≤ l3 then (some M) else (gfR M l0 12 22 fun v48 => gfR M l0 12 22 fun v58 => alL M v58 22 ((18 * l1) + l3) fun v67 => asL M v48 22 ((18 * l2) + l3) v67 fun M68 => f_X12_copy_41 n M68 l0 l1 l2 (l3 + 1))
def f_X12_copy_2 : Nat → Mm → Option Nat → Int32 → Int32 → Int32 → Option (Mm)
  | 0, _, _, _, _, _ => none
  | n + 1, M, l0, l1, l2, l3 => if 450 ≤ l3 then (f_X12_copy_41  fu M l0 l1 l2 0) else (gfR M l0 12 20 fun v10 => gfR M l0 12 20 fun v21 => alI M v21 21 ((450 * l1) + l3) fun v31 => asI M v10 21 ((450 * l2) + l3) v31 fun M32 => f_X12_copy_2 n M32 l0 l1 l2 (l3 + 1))
def f_X12_copy (M : Mm) (l0 : Option Nat) (l1 : Int32) (l2 : Int32) : Option (Mm) := f_X12_copy_2  fu M l0 l1 l2 0
set_option maxHeartbeats 4000000 in
set_option maxRecDepth 100000 in
theorem t_X12_copy_41 {G : GG} {X : CX} {ans : Mm} (he : EndV G X j_X12_copy b_X12_copy ans) : ∀ (n : Nat) {M : Mm} {l0 : Option Nat} {l1 : Int32} {l2 : Int32} {l3 : Int32}, f_X12_copy_41 n M l0 l1 l2 l3 = some ans → Wt G X j_X12_copy b_X12_copy 41 [(0, rf G.1 l0), (1, .int l1), (2, .int l2), (3, .int l3)] [] M 0 0 := by
  intro n
  induction n with
  | zero =>
    intro M l0 l1 l2 l3 h
    rw [f_X12_copy_41] at h
    cases h
  | succ n ih =>
    intro M l0 l1 l2 l3 h
    rw [f_X12_copy_41] at h
    refine wt_iload_n (pc := 41) 3 dX12_copy_41 rfl ?_
    refine wt_bipush (pc := 42) (v := 18) dX12_copy_42 (by decide) ?_
    refine wt_icmp_ge (pc := 44) (tgt := 75) dX12_copy_44 (by decide) (fun q => ?_) (fun q => ?_)
    · have h := ite_t q h
      cases h
      exact he 75 _ _ _ dX12_copy_75 (by decide) (by decide)
    · have h := ite_f q h
      refine wt_aload_n (pc := 47) 0 dX12_copy_47 rfl ?_
      refine wt_getR (pc := 48) dX12_copy_48 fl_X12_41 (fun _ _ _ => rfl) h (fun v48 h => ?_)
      refine wt_bipush (pc := 51) (v := 18) dX12_copy_51 (by decide) ?_
      refine wt_iload_n (pc := 53) 2 dX12_copy_53 rfl ?_
      refine wt_imul (pc := 54) dX12_copy_54 ?_
      refine wt_iload_n (pc := 55) 3 dX12_copy_55 rfl ?_
      refine wt_iadd (pc := 56) dX12_copy_56 ?_
      refine wt_aload_n (pc := 57) 0 dX12_copy_57 rfl ?_
      refine wt_getR (pc := 58) dX12_copy_58 fl_X12_41 (fun _ _ _ => rfl) h (fun v58 h => ?_)
      refine wt_bipush (pc := 61) (v := 18) dX12_copy_61 (by decide) ?_
      refine wt_iload_n (pc := 63) 1 dX12_copy_63 rfl ?_
      refine wt_imul (pc := 64) dX12_copy_64 ?_
      refine wt_iload_n (pc := 65) 3 dX12_copy_65 rfl ?_
      refine wt_iadd (pc := 66) dX12_copy_66 ?_
      refine wt_laload (pc := 67) (kd := 22) dX12_copy_67 rfl rfl h (fun v67 h => ?_)
      refine wt_lastore (pc := 68) (kd := 22) dX12_copy_68 rfl rfl h (fun M68 h => ?_)
      refine wt_iinc (pc := 69) (d := 1) (ls' := [(3, .int (l3 + 1)), (0, rf G.1 l0), (1, .int l1), (2, .int l2)]) 3 dX12_copy_69 rfl (by decide) (by decide) rfl ?_
      refine wt_goto (pc := 72) (tgt := 41) dX12_copy_72 (by decide) ?_
      refine wt_sub (ls' := [(0, rf G.1 l0), (1, .int l1), (2, .int l2), (3, .int (l3 + 1))]) [1, 2, 3, 0] rfl ?_
      exact ih h
set_option maxHeartbeats 4000000 in
set_option maxRecDepth 100000 in
theorem t_X12_copy_2 {G : GG} {X : CX} {ans : Mm} (he : EndV G X j_X12_copy b_X12_copy ans) : ∀ (n : Nat) {M : Mm} {l0 : Option Nat} {l1 : Int32} {l2 : Int32} {l3 : Int32}, f_X12_copy_2 n M l0 l1 l2 l3 = some ans → Wt G X j_X12_copy b_X12_copy 2 [(0, rf G.1 l0), (1, .int l1), (2, .int l2), (3, .int l3)] [] M 0 0 := by
  intro n
  induction n with
  | zero =>
    intro M l0 l1 l2 l3 h
    rw [f_X12_copy_2] at h
    cases h
  | succ n ih =>
    intro M l0 l1 l2 l3 h
    rw [f_X12_copy_2] at h
    refine wt_iload_n (pc := 2) 3 dX12_copy_2 rfl ?_
    refine wt_sipush (pc := 3) (v := 450) dX12_copy_3 (by decide) ?_
    refine wt_icmp_ge (pc := 6) (tgt := 39) dX12_copy_6 (by decide) (fun q => ?_) (fun q => ?_)
    · have h := ite_t q h
      refine wt_iconst (pc := 39) (v := 0) dX12_copy_39 (by decide) ?_
      refine wt_istore_n (pc := 40) (i := 3) (ls' := [(3, .int 0), (0, rf G.1 l0), (1, .int l1), (2, .int l2)]) rfl dX12_copy_40 (by decide) rfl ?_
      refine wt_sub (ls' := [(0, rf G.1 l0), (1, .int l1), (2, .int l2), (3, .int 0)]) [1, 2, 3, 0] rfl ?_
      exact t_X12_copy_41 he  fu h
    · have h := ite_f q h
      refine wt_aload_n (pc := 9) 0 dX12_copy_9 rfl ?_
      refine wt_getR (pc := 10) dX12_copy_10 fl_X12_35 (fun _ _ _ => rfl) h (fun v10 h => ?_)
      refine wt_sipush (pc := 13) (v := 450) dX12_copy_13 (by decide) ?_
      refine wt_iload_n (pc := 16) 2 dX12_copy_16 rfl ?_
      refine wt_imul (pc := 17) dX12_copy_17 ?_
      refine wt_iload_n (pc := 18) 3 dX12_copy_18 rfl ?_
      refine wt_iadd (pc := 19) dX12_copy_19 ?_
      refine wt_aload_n (pc := 20) 0 dX12_copy_20 rfl ?_
      refine wt_getR (pc := 21) dX12_copy_21 fl_X12_35 (fun _ _ _ => rfl) h (fun v21 h => ?_)
      refine wt_sipush (pc := 24) (v := 450) dX12_copy_24 (by decide) ?_
      refine wt_iload_n (pc := 27) 1 dX12_copy_27 rfl ?_
      refine wt_imul (pc := 28) dX12_copy_28 ?_
      refine wt_iload_n (pc := 29) 3 dX12_copy_29 rfl ?_
      refine wt_iadd (pc := 30) dX12_copy_30 ?_
      refine wt_iaload (pc := 31) (kd := 21) dX12_copy_31 rfl rfl h (fun v31 h => ?_)
      refine wt_iastore (pc := 32) (kd := 21) dX12_copy_32 rfl rfl h (fun M32 h => ?_)
      refine wt_iinc (pc := 33) (d := 1) (ls' := [(3, .int (l3 + 1)), (0, rf G.1 l0), (1, .int l1), (2, .int l2)]) 3 dX12_copy_33 rfl (by decide) (by decide) rfl ?_
      refine wt_goto (pc := 36) (tgt := 2) dX12_copy_36 (by decide) ?_
      refine wt_sub (ls' := [(0, rf G.1 l0), (1, .int l1), (2, .int l2), (3, .int (l3 + 1))]) [1, 2, 3, 0] rfl ?_
      exact ih h
set_option maxHeartbeats 4000000 in
set_option maxRecDepth 100000 in
theorem t_X12_copy_e {G : GG} {X : CX} {ans : Mm} (he : EndV G X j_X12_copy b_X12_copy ans) {M : Mm} {l0 : Option Nat} {l1 : Int32} {l2 : Int32} (h : f_X12_copy M l0 l1 l2 = some ans) : Wt G X j_X12_copy b_X12_copy 0 [(0, rf G.1 l0), (1, .int l1), (2, .int l2)] [] M 0 0 := by
  unfold f_X12_copy at h
  refine wt_iconst (pc := 0) (v := 0) dX12_copy_0 (by decide) ?_
  refine wt_istore_n (pc := 1) (i := 3) (ls' := [(3, .int 0), (0, rf G.1 l0), (1, .int l1), (2, .int l2)]) rfl dX12_copy_1 (by decide) rfl ?_
  refine wt_sub (ls' := [(0, rf G.1 l0), (1, .int l1), (2, .int l2), (3, .int 0)]) [1, 2, 3, 0] rfl ?_
  exact t_X12_copy_2 he  fu h
set_option maxHeartbeats 4000000 in
set_option maxRecDepth 100000 in
theorem c_X12_copy {G : GG} {M : Mm} {l0 : Option Nat} {l1 : Int32} {l2 : Int32} {r : Mm} (h : f_X12_copy M l0 l1 l2 = some r) (l : Launch) : Ct l G j_X12_copy b_X12_copy [rf G.1 l0, .int l1, .int l2] M none r := cf_V (by decide +kernel) (by simp [lg_sl, rf_cat, cat_i, cat_l, j_X12_copy]) rfl (by simp [lv_args, rf_cat, cat_i, cat_l]) (fun X he => t_X12_copy_e he h)
def f_X12_shore_164 (M : Mm) (l0 : Option Nat) : Option (Int32 × Mm) := ck M l0 12 <| bd (f_X12_isWell M l0) fun v165 M165 => if v165 = 0 then (some ((-1), M165)) else (ck M165 l0 12 <| bv (f_X12_copy M165 l0 4 0) fun M176 => gfR M176 l0 12 20 fun v180 => alI M176 v180 21 0 fun v184 => some (v184, M176))
def f_X12_shore_151 (k63 : Mm → Option Nat → Option (Int32 × Mm)) (M : Mm) (l0 : Option Nat) : Option (Int32 × Mm) := ck M l0 12 <| bd (f_X12_isSign M l0 59) fun v155 M155 => ck M155 l0 12 <| bv (f_X12_must M155 l0 v155) fun M158 => k63 M158 l0
def f_X12_shore_63 : Nat → Mm → Option Nat → Option (Int32 × Mm)
  | 0, _, _ => none
  | n + 1, M, l0 => gfI M l0 12 12 fun v64 => if v64 = 0 then (gfI M l0 12 14 fun v71 => if v71 = 0 then (f_X12_shore_164  M l0) else (ck M l0 12 <| bd (f_X12_isHouse M l0) fun v78 M78 => if v78 = 0 then (ck M78 l0 12 <| bd (f_X12_isGang M78 l0) fun v92 M92 => if v92 = 0 then (ck M92 l0 12 <| bd (f_X12_isHelped M92 l0) fun v106 M106 => if v106 = 0 then (ck M106 l0 12 <| bd (f_X12_isWind M106 l0) fun v120 M120 => if v120 = 0 then (ck M120 l0 12 <| bd (f_X12_isLaw M120 l0) fun v134 M134 => if v134 = 0 then (ck M134 l0 12 <| bv (f_X12_wrong M134 l0) fun M148 => f_X12_shore_151 (f_X12_shore_63 n) M148 l0) else (ck M134 l0 12 <| bv (f_X12_readLaw M134 l0) fun M141 => f_X12_shore_151 (f_X12_shore_63 n) M141 l0)) else (ck M120 l0 12 <| bv (f_X12_readWind M120 l0) fun M127 => f_X12_shore_151 (f_X12_shore_63 n) M127 l0)) else (ck M106 l0 12 <| bv (f_X12_readHelped M106 l0) fun M113 => f_X12_shore_151 (f_X12_shore_63 n) M113 l0)) else (ck M92 l0 12 <| bv (f_X12_readGang M92 l0) fun M99 => f_X12_shore_151 (f_X12_shore_63 n) M99 l0)) else (ck M78 l0 12 <| bv (f_X12_readHouse M78 l0) fun M85 => f_X12_shore_151 (f_X12_shore_63 n) M85 l0))) else (f_X12_shore_164  M l0)
def f_X12_shore_25 : Nat → Mm → Option Nat → Int32 → Option (Int32 × Mm)
  | 0, _, _, _ => none
  | n + 1, M, l0, l2 => if 450 ≤ l2 then (gfR M l0 12 20 fun v50 => asI M v50 21 1803 3 fun M57 => pfZ M57 l0 12 24 0 fun M60 => f_X12_shore_63  fu M60 l0) else (gfR M l0 12 20 fun v33 => asI M v33 21 (1800 + l2) 0 fun M42 => f_X12_shore_25 n M42 l0 (l2 + 1))
def f_X12_shore (M : Mm) (l0 : Option Nat) (l1 : Int32) : Option (Int32 × Mm) := pfI M l0 12 1 0 fun M2 => pfI M2 l0 12 0 0 fun M7 => ck M7 l0 12 <| bd (f_X12_starts M7 l0 l1 900) fun v15 M15 => if v15 = 0 then (some ((-1), M15)) else (f_X12_shore_25  fu M15 l0 0)
set_option maxHeartbeats 4000000 in
set_option maxRecDepth 100000 in
theorem t_X12_shore_164 {G : GG} {X : CX} {ans : Int32 × Mm} (he : EndI G X j_X12_shore b_X12_shore ans) {M : Mm} {l0 : Option Nat} (h : f_X12_shore_164 M l0 = some ans) : Wt G X j_X12_shore b_X12_shore 164 [(0, rf G.1 l0)] [] M 0 0 := by
  unfold f_X12_shore_164 at h
  refine wt_aload_n (pc := 164) 0 dX12_shore_164 rfl ?_
  refine wt_cVI (pc := 165) (J' := j_X12_isWell) (As := []) (st := []) (B' := b_X12_isWell) (u' := 0) (w' := 0) dX12_shore_165 ml_X12_306 mv_X12_isWell (fun v9 M9 e9 => c_X12_isWell e9) rfl (by decide) rfl rfl (by decide) (by decide) (by decide) rfl h (fun v165 M165 h => ?_)
  refine wt_if_ne (pc := 168) (tgt := 173) dX12_shore_168 (by decide) (fun q => ?_) (fun q => ?_)
  · have h := ite_f q h
    refine wt_aload_n (pc := 173) 0 dX12_shore_173 rfl ?_
    refine wt_iconst (pc := 174) (v := 4) dX12_shore_174 (by decide) ?_
    refine wt_iconst (pc := 175) (v := 0) dX12_shore_175 (by decide) ?_
    refine wt_cVV (pc := 176) (J' := j_X12_copy) (As := [.int 4, .int 0]) (st := []) (B' := b_X12_copy) (u' := 0) (w' := 0) dX12_shore_176 ml_X12_309 mv_X12_copy (fun M9 e9 => c_X12_copy e9) rfl (by decide) rfl rfl (by decide) (by decide) (by decide) rfl h (fun M176 h => ?_)
    refine wt_aload_n (pc := 179) 0 dX12_shore_179 rfl ?_
    refine wt_getR (pc := 180) dX12_shore_180 fl_X12_35 (fun _ _ _ => rfl) h (fun v180 h => ?_)
    refine wt_iconst (pc := 183) (v := 0) dX12_shore_183 (by decide) ?_
    refine wt_iaload (pc := 184) (kd := 21) dX12_shore_184 rfl rfl h (fun v184 h => ?_)
    cases h
    exact he 185 _ _ _ dX12_shore_185 (by decide) (by decide)
  · have h := ite_t q h
    refine wt_iconst (pc := 171) (v := (-1)) dX12_shore_171 (by decide) ?_
    cases h
    exact he 172 _ _ _ dX12_shore_172 (by decide) (by decide)
set_option maxHeartbeats 4000000 in
set_option maxRecDepth 100000 in
theorem t_X12_shore_151 {G : GG} {X : CX} {ans : Int32 × Mm} (he : EndI G X j_X12_shore b_X12_shore ans) {k63 : Mm → Option Nat → Option (Int32 × Mm)} (hk63 : ∀ (M : Mm) (a0 : Option Nat), k63 M a0 = some ans → Wt G X j_X12_shore b_X12_shore 63 [(0, rf G.1 a0)] [] M 0 0) {M : Mm} {l0 : Option Nat} (h : f_X12_shore_151 k63 M l0 = some ans) : Wt G X j_X12_shore b_X12_shore 151 [(0, rf G.1 l0)] [] M 0 0 := by
  unfold f_X12_shore_151 at h
  refine wt_aload_n (pc := 151) 0 dX12_shore_151 rfl ?_
  refine wt_aload_n (pc := 152) 0 dX12_shore_152 rfl ?_
  refine wt_bipush (pc := 153) (v := 59) dX12_shore_153 (by decide) ?_
  refine wt_cVI (pc := 155) (J' := j_X12_isSign) (As := [.int 59]) (st := [rf G.1 l0]) (B' := b_X12_isSign) (u' := 0) (w' := 0) dX12_shore_155 ml_X12_303 mv_X12_isSign (fun v9 M9 e9 => c_X12_isSign e9) rfl (by decide) rfl rfl (by decide) (by decide) (by simp [rf_cat, cat_i, cat_l, cat_r]) rfl h (fun v155 M155 h => ?_)
  refine wt_cVV (pc := 158) (J' := j_X12_must) (As := [.int v155]) (st := []) (B' := b_X12_must) (u' := 0) (w' := 0) dX12_shore_158 ml_X12_237 mv_X12_must (fun M9 e9 => c_X12_must e9) rfl (by decide) rfl rfl (by decide) (by decide) (by decide) rfl h (fun M158 h => ?_)
  refine wt_goto (pc := 161) (tgt := 63) dX12_shore_161 (by decide) ?_
  exact hk63 _ _ h
set_option maxHeartbeats 4000000 in
set_option maxRecDepth 100000 in
theorem t_X12_shore_63 {G : GG} {X : CX} {ans : Int32 × Mm} (he : EndI G X j_X12_shore b_X12_shore ans) : ∀ (n : Nat) {M : Mm} {l0 : Option Nat}, f_X12_shore_63 n M l0 = some ans → Wt G X j_X12_shore b_X12_shore 63 [(0, rf G.1 l0)] [] M 0 0 := by
  intro n
  induction n with
  | zero =>
    intro M l0 h
    rw [f_X12_shore_63] at h
    cases h
  | succ n ih =>
    intro M l0 h
    rw [f_X12_shore_63] at h
    refine wt_aload_n (pc := 63) 0 dX12_shore_63 rfl ?_
    refine wt_getI (pc := 64) dX12_shore_64 fl_X12_221 (fun _ _ _ => rfl) h (fun v64 h => ?_)
    refine wt_if_ne (pc := 67) (tgt := 164) dX12_shore_67 (by decide) (fun q => ?_) (fun q => ?_)
    · have h := ite_f q h
      exact t_X12_shore_164 he  h
    · have h := ite_t q h
      refine wt_aload_n (pc := 70) 0 dX12_shore_70 rfl ?_
      refine wt_getI (pc := 71) dX12_shore_71 fl_X12_123 (fun _ _ _ => rfl) h (fun v71 h => ?_)
      refine wt_if_eq (pc := 74) (tgt := 164) dX12_shore_74 (by decide) (fun q => ?_) (fun q => ?_)
      · have h := ite_t q h
        exact t_X12_shore_164 he  h
      · have h := ite_f q h
        refine wt_aload_n (pc := 77) 0 dX12_shore_77 rfl ?_
        refine wt_cVI (pc := 78) (J' := j_X12_isHouse) (As := []) (st := []) (B' := b_X12_isHouse) (u' := 0) (w' := 0) dX12_shore_78 ml_X12_160 mv_X12_isHouse (fun v9 M9 e9 => c_X12_isHouse e9) rfl (by decide) rfl rfl (by decide) (by decide) (by decide) rfl h (fun v78 M78 h => ?_)
        refine wt_if_eq (pc := 81) (tgt := 91) dX12_shore_81 (by decide) (fun q => ?_) (fun q => ?_)
        · have h := ite_t q h
          refine wt_aload_n (pc := 91) 0 dX12_shore_91 rfl ?_
          refine wt_cVI (pc := 92) (J' := j_X12_isGang) (As := []) (st := []) (B' := b_X12_isGang) (u' := 0) (w' := 0) dX12_shore_92 ml_X12_178 mv_X12_isGang (fun v9 M9 e9 => c_X12_isGang e9) rfl (by decide) rfl rfl (by decide) (by decide) (by decide) rfl h (fun v92 M92 h => ?_)
          refine wt_if_eq (pc := 95) (tgt := 105) dX12_shore_95 (by decide) (fun q => ?_) (fun q => ?_)
          · have h := ite_t q h
            refine wt_aload_n (pc := 105) 0 dX12_shore_105 rfl ?_
            refine wt_cVI (pc := 106) (J' := j_X12_isHelped) (As := []) (st := []) (B' := b_X12_isHelped) (u' := 0) (w' := 0) dX12_shore_106 ml_X12_187 mv_X12_isHelped (fun v9 M9 e9 => c_X12_isHelped e9) rfl (by decide) rfl rfl (by decide) (by decide) (by decide) rfl h (fun v106 M106 h => ?_)
            refine wt_if_eq (pc := 109) (tgt := 119) dX12_shore_109 (by decide) (fun q => ?_) (fun q => ?_)
            · have h := ite_t q h
              refine wt_aload_n (pc := 119) 0 dX12_shore_119 rfl ?_
              refine wt_cVI (pc := 120) (J' := j_X12_isWind) (As := []) (st := []) (B' := b_X12_isWind) (u' := 0) (w' := 0) dX12_shore_120 ml_X12_193 mv_X12_isWind (fun v9 M9 e9 => c_X12_isWind e9) rfl (by decide) rfl rfl (by decide) (by decide) (by decide) rfl h (fun v120 M120 h => ?_)
              refine wt_if_eq (pc := 123) (tgt := 133) dX12_shore_123 (by decide) (fun q => ?_) (fun q => ?_)
              · have h := ite_t q h
                refine wt_aload_n (pc := 133) 0 dX12_shore_133 rfl ?_
                refine wt_cVI (pc := 134) (J' := j_X12_isLaw) (As := []) (st := []) (B' := b_X12_isLaw) (u' := 0) (w' := 0) dX12_shore_134 ml_X12_199 mv_X12_isLaw (fun v9 M9 e9 => c_X12_isLaw e9) rfl (by decide) rfl rfl (by decide) (by decide) (by decide) rfl h (fun v134 M134 h => ?_)
                refine wt_if_eq (pc := 137) (tgt := 147) dX12_shore_137 (by decide) (fun q => ?_) (fun q => ?_)
                · have h := ite_t q h
                  refine wt_aload_n (pc := 147) 0 dX12_shore_147 rfl ?_
                  refine wt_cVV (pc := 148) (J' := j_X12_wrong) (As := []) (st := []) (B' := b_X12_wrong) (u' := 0) (w' := 0) dX12_shore_148 ml_X12_234 mv_X12_wrong (fun M9 e9 => c_X12_wrong e9) rfl (by decide) rfl rfl (by decide) (by decide) (by decide) rfl h (fun M148 h => ?_)
                  exact t_X12_shore_151 he (fun _ _ h => ih h) h
                · have h := ite_f q h
                  refine wt_aload_n (pc := 140) 0 dX12_shore_140 rfl ?_
                  refine wt_cVV (pc := 141) (J' := j_X12_readLaw) (As := []) (st := []) (B' := b_X12_readLaw) (u' := 0) (w' := 0) dX12_shore_141 ml_X12_300 mv_X12_readLaw (fun M9 e9 => c_X12_readLaw e9) rfl (by decide) rfl rfl (by decide) (by decide) (by decide) rfl h (fun M141 h => ?_)
                  refine wt_goto (pc := 144) (tgt := 151) dX12_shore_144 (by decide) ?_
                  exact t_X12_shore_151 he (fun _ _ h => ih h) h
              · have h := ite_f q h
                refine wt_aload_n (pc := 126) 0 dX12_shore_126 rfl ?_
                refine wt_cVV (pc := 127) (J' := j_X12_readWind) (As := []) (st := []) (B' := b_X12_readWind) (u' := 0) (w' := 0) dX12_shore_127 ml_X12_297 mv_X12_readWind (fun M9 e9 => c_X12_readWind e9) rfl (by decide) rfl rfl (by decide) (by decide) (by decide) rfl h (fun M127 h => ?_)
                refine wt_goto (pc := 130) (tgt := 151) dX12_shore_130 (by decide) ?_
                exact t_X12_shore_151 he (fun _ _ h => ih h) h
            · have h := ite_f q h
              refine wt_aload_n (pc := 112) 0 dX12_shore_112 rfl ?_
              refine wt_cVV (pc := 113) (J' := j_X12_readHelped) (As := []) (st := []) (B' := b_X12_readHelped) (u' := 0) (w' := 0) dX12_shore_113 ml_X12_294 mv_X12_readHelped (fun M9 e9 => c_X12_readHelped e9) rfl (by decide) rfl rfl (by decide) (by decide) (by decide) rfl h (fun M113 h => ?_)
              refine wt_goto (pc := 116) (tgt := 151) dX12_shore_116 (by decide) ?_
              exact t_X12_shore_151 he (fun _ _ h => ih h) h
          · have h := ite_f q h
            refine wt_aload_n (pc := 98) 0 dX12_shore_98 rfl ?_
            refine wt_cVV (pc := 99) (J' := j_X12_readGang) (As := []) (st := []) (B' := b_X12_readGang) (u' := 0) (w' := 0) dX12_shore_99 ml_X12_291 mv_X12_readGang (fun M9 e9 => c_X12_readGang e9) rfl (by decide) rfl rfl (by decide) (by decide) (by decide) rfl h (fun M99 h => ?_)
            refine wt_goto (pc := 102) (tgt := 151) dX12_shore_102 (by decide) ?_
            exact t_X12_shore_151 he (fun _ _ h => ih h) h
        · have h := ite_f q h
          refine wt_aload_n (pc := 84) 0 dX12_shore_84 rfl ?_
          refine wt_cVV (pc := 85) (J' := j_X12_readHouse) (As := []) (st := []) (B' := b_X12_readHouse) (u' := 0) (w' := 0) dX12_shore_85 ml_X12_288 mv_X12_readHouse (fun M9 e9 => c_X12_readHouse e9) rfl (by decide) rfl rfl (by decide) (by decide) (by decide) rfl h (fun M85 h => ?_)
          refine wt_goto (pc := 88) (tgt := 151) dX12_shore_88 (by decide) ?_
          exact t_X12_shore_151 he (fun _ _ h => ih h) h
set_option maxHeartbeats 4000000 in
set_option maxRecDepth 100000 in
theorem t_X12_shore_25 {G : GG} {X : CX} {ans : Int32 × Mm} (he : EndI G X j_X12_shore b_X12_shore ans) : ∀ (n : Nat) {M : Mm} {l0 : Option Nat} {l2 : Int32}, f_X12_shore_25 n M l0 l2 = some ans → Wt G X j_X12_shore b_X12_shore 25 [(0, rf G.1 l0), (2, .int l2)] [] M 0 0 := by
  intro n
  induction n with
  | zero =>
    intro M l0 l2 h
    rw [f_X12_shore_25] at h
    cases h
  | succ n ih =>
    intro M l0 l2 h
    rw [f_X12_shore_25] at h
    refine wt_iload_n (pc := 25) 1 dX12_shore_25 rfl ?_
    refine wt_sipush (pc := 26) (v := 450) dX12_shore_26 (by decide) ?_
    refine wt_icmp_ge (pc := 29) (tgt := 49) dX12_shore_29 (by decide) (fun q => ?_) (fun q => ?_)
    · have h := ite_t q h
      refine wt_aload_n (pc := 49) 0 dX12_shore_49 rfl ?_
      refine wt_getR (pc := 50) dX12_shore_50 fl_X12_35 (fun _ _ _ => rfl) h (fun v50 h => ?_)
      refine wt_sipush (pc := 53) (v := 1803) dX12_shore_53 (by decide) ?_
      refine wt_iconst (pc := 56) (v := 3) dX12_shore_56 (by decide) ?_
      refine wt_iastore (pc := 57) (kd := 21) dX12_shore_57 rfl rfl h (fun M57 h => ?_)
      refine wt_aload_n (pc := 58) 0 dX12_shore_58 rfl ?_
      refine wt_iconst (pc := 59) (v := 0) dX12_shore_59 (by decide) ?_
      refine wt_putZ (pc := 60) dX12_shore_60 fl_X12_281 rfl rfl h (fun M60 h => ?_)
      refine wt_sub (ls' := [(0, rf G.1 l0)]) [0] rfl ?_
      exact t_X12_shore_63 he  fu h
    · have h := ite_f q h
      refine wt_aload_n (pc := 32) 0 dX12_shore_32 rfl ?_
      refine wt_getR (pc := 33) dX12_shore_33 fl_X12_35 (fun _ _ _ => rfl) h (fun v33 h => ?_)
      refine wt_sipush (pc := 36) (v := 1800) dX12_shore_36 (by decide) ?_
      refine wt_iload_n (pc := 39) 1 dX12_shore_39 rfl ?_
      refine wt_iadd (pc := 40) dX12_shore_40 ?_
      refine wt_iconst (pc := 41) (v := 0) dX12_shore_41 (by decide) ?_
      refine wt_iastore (pc := 42) (kd := 21) dX12_shore_42 rfl rfl h (fun M42 h => ?_)
      refine wt_iinc (pc := 43) (d := 1) (ls' := [(2, .int (l2 + 1)), (0, rf G.1 l0)]) 1 dX12_shore_43 rfl (by decide) (by decide) rfl ?_
      refine wt_goto (pc := 46) (tgt := 25) dX12_shore_46 (by decide) ?_
      refine wt_sub (ls' := [(0, rf G.1 l0), (2, .int (l2 + 1))]) [1, 0] rfl ?_
      exact ih h
set_option maxHeartbeats 4000000 in
set_option maxRecDepth 100000 in
theorem t_X12_shore_e {G : GG} {X : CX} {ans : Int32 × Mm} (he : EndI G X j_X12_shore b_X12_shore ans) {M : Mm} {l0 : Option Nat} {l1 : Int32} (h : f_X12_shore M l0 l1 = some ans) : Wt G X j_X12_shore b_X12_shore 0 [(0, rf G.1 l0), (1, .int l1)] [] M 0 0 := by
  unfold f_X12_shore at h
  refine wt_aload_n (pc := 0) 0 dX12_shore_0 rfl ?_
  refine wt_iconst (pc := 1) (v := 0) dX12_shore_1 (by decide) ?_
  refine wt_putI (pc := 2) dX12_shore_2 fl_X12_68 rfl rfl h (fun M2 h => ?_)
  refine wt_aload_n (pc := 5) 0 dX12_shore_5 rfl ?_
  refine wt_iconst (pc := 6) (v := 0) dX12_shore_6 (by decide) ?_
  refine wt_putI (pc := 7) dX12_shore_7 fl_X12_71 rfl rfl h (fun M7 h => ?_)
  refine wt_aload_n (pc := 10) 0 dX12_shore_10 rfl ?_
  refine wt_iload_n (pc := 11) 1 dX12_shore_11 rfl ?_
  refine wt_sipush (pc := 12) (v := 900) dX12_shore_12 (by decide) ?_
  refine wt_cVI (pc := 15) (J' := j_X12_starts) (As := [.int l1, .int 900]) (st := []) (B' := b_X12_starts) (u' := 0) (w' := 0) dX12_shore_15 ml_X12_285 mv_X12_starts (fun v9 M9 e9 => c_X12_starts e9) rfl (by decide) rfl rfl (by decide) (by decide) (by decide) rfl h (fun v15 M15 h => ?_)
  refine wt_if_ne (pc := 18) (tgt := 23) dX12_shore_18 (by decide) (fun q => ?_) (fun q => ?_)
  · have h := ite_f q h
    refine wt_iconst (pc := 23) (v := 0) dX12_shore_23 (by decide) ?_
    refine wt_istore_n (pc := 24) (i := 2) (ls' := [(2, .int 0), (0, rf G.1 l0), (1, .int l1)]) rfl dX12_shore_24 (by decide) rfl ?_
    refine wt_sub (ls' := [(0, rf G.1 l0), (2, .int 0)]) [1, 0] rfl ?_
    exact t_X12_shore_25 he  fu h
  · have h := ite_t q h
    refine wt_iconst (pc := 21) (v := (-1)) dX12_shore_21 (by decide) ?_
    cases h
    exact he 22 _ _ _ dX12_shore_22 (by decide) (by decide)
set_option maxHeartbeats 4000000 in
set_option maxRecDepth 100000 in
theorem c_X12_shore {G : GG} {M : Mm} {l0 : Option Nat} {l1 : Int32} {r : Int32 × Mm} (h : f_X12_shore M l0 l1 = some r) (l : Launch) : Ct l G j_X12_shore b_X12_shore [rf G.1 l0, .int l1] M (some (.int r.1)) r.2 := cf_I (by decide +kernel) (by simp [lg_sl, rf_cat, cat_i, cat_l, j_X12_shore]) rfl (by simp [lv_args, rf_cat, cat_i, cat_l]) (fun X he => t_X12_shore_e he h)

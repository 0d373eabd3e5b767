theorem dX12_isSign_0 : decode cX12_isSign 0 = .ok (.aload_n 0, 1) := by decide +kernel
theorem dX12_isSign_1 : decode cX12_isSign 1 = .ok (.getfield 123, 3) := by decide +kernel
theorem dX12_isSign_4 : decode cX12_isSign 4 = .ok (.iconst 3, 1) := by decide +kernel
theorem dX12_isSign_5 : decode cX12_isSign 5 = .ok (.if_icmp .ne 15, 3) := by decide +kernel
theorem dX12_isSign_8 : decode cX12_isSign 8 = .ok (.aload_n 0, 1) := by decide +kernel
theorem dX12_isSign_9 : decode cX12_isSign 9 = .ok (.getfield 142, 3) := by decide +kernel
theorem dX12_isSign_12 : decode cX12_isSign 12 = .ok (.iload_n 1, 1) := by decide +kernel
theorem dX12_isSign_13 : decode cX12_isSign 13 = .ok (.if_icmp .ne 7, 3) := by decide +kernel
theorem dX12_isSign_16 : decode cX12_isSign 16 = .ok (.iconst 1, 1) := by decide +kernel
theorem dX12_isSign_17 : decode cX12_isSign 17 = .ok (.goto 4, 3) := by decide +kernel
theorem dX12_isSign_20 : decode cX12_isSign 20 = .ok (.iconst 0, 1) := by decide +kernel
theorem dX12_isSign_21 : decode cX12_isSign 21 = .ok (.ireturn, 1) := by decide +kernel
def j_X12_isSign : JD := (yX12_isSign, cX12_isSign, 2, (some .boolean))
def b_X12_isSign : BD := (0, 0, 0)
theorem dX12_spelled_0 : decode cX12_spelled 0 = .ok (.iload_n 0, 1) := by decide +kernel
theorem dX12_spelled_1 : decode cX12_spelled 1 = .ok (.i2l, 1) := by decide +kernel
theorem dX12_spelled_2 : decode cX12_spelled 2 = .ok (.ldc2_w 134, 3) := by decide +kernel
theorem dX12_spelled_5 : decode cX12_spelled 5 = .ok (.lsub, 1) := by decide +kernel
theorem dX12_spelled_6 : decode cX12_spelled 6 = .ok (.ldc2_w 132, 3) := by decide +kernel
theorem dX12_spelled_9 : decode cX12_spelled 9 = .ok (.lmul, 1) := by decide +kernel
theorem dX12_spelled_10 : decode cX12_spelled 10 = .ok (.iload_n 1, 1) := by decide +kernel
theorem dX12_spelled_11 : decode cX12_spelled 11 = .ok (.i2l, 1) := by decide +kernel
theorem dX12_spelled_12 : decode cX12_spelled 12 = .ok (.ladd, 1) := by decide +kernel
theorem dX12_spelled_13 : decode cX12_spelled 13 = .ok (.ldc2_w 134, 3) := by decide +kernel
theorem dX12_spelled_16 : decode cX12_spelled 16 = .ok (.lsub, 1) := by decide +kernel
theorem dX12_spelled_17 : decode cX12_spelled 17 = .ok (.lstore 6, 2) := by decide +kernel
theorem dX12_spelled_19 : decode cX12_spelled 19 = .ok (.iload_n 2, 1) := by decide +kernel
theorem dX12_spelled_20 : decode cX12_spelled 20 = .ok (.ifCond .le 19, 3) := by decide +kernel
theorem dX12_spelled_23 : decode cX12_spelled 23 = .ok (.lload 6, 2) := by decide +kernel
theorem dX12_spelled_25 : decode cX12_spelled 25 = .ok (.ldc2_w 132, 3) := by decide +kernel
theorem dX12_spelled_28 : decode cX12_spelled 28 = .ok (.lmul, 1) := by decide +kernel
theorem dX12_spelled_29 : decode cX12_spelled 29 = .ok (.iload_n 2, 1) := by decide +kernel
theorem dX12_spelled_30 : decode cX12_spelled 30 = .ok (.i2l, 1) := by decide +kernel
theorem dX12_spelled_31 : decode cX12_spelled 31 = .ok (.ladd, 1) := by decide +kernel
theorem dX12_spelled_32 : decode cX12_spelled 32 = .ok (.ldc2_w 134, 3) := by decide +kernel
theorem dX12_spelled_35 : decode cX12_spelled 35 = .ok (.lsub, 1) := by decide +kernel
theorem dX12_spelled_36 : decode cX12_spelled 36 = .ok (.goto 5, 3) := by decide +kernel
theorem dX12_spelled_39 : decode cX12_spelled 39 = .ok (.lload 6, 2) := by decide +kernel
theorem dX12_spelled_41 : decode cX12_spelled 41 = .ok (.lstore 6, 2) := by decide +kernel
theorem dX12_spelled_43 : decode cX12_spelled 43 = .ok (.iload_n 3, 1) := by decide +kernel
theorem dX12_spelled_44 : decode cX12_spelled 44 = .ok (.ifCond .le 19, 3) := by decide +kernel
theorem dX12_spelled_47 : decode cX12_spelled 47 = .ok (.lload 6, 2) := by decide +kernel
theorem dX12_spelled_49 : decode cX12_spelled 49 = .ok (.ldc2_w 132, 3) := by decide +kernel
theorem dX12_spelled_52 : decode cX12_spelled 52 = .ok (.lmul, 1) := by decide +kernel
theorem dX12_spelled_53 : decode cX12_spelled 53 = .ok (.iload_n 3, 1) := by decide +kernel
theorem dX12_spelled_54 : decode cX12_spelled 54 = .ok (.i2l, 1) := by decide +kernel
theorem dX12_spelled_55 : decode cX12_spelled 55 = .ok (.ladd, 1) := by decide +kernel
theorem dX12_spelled_56 : decode cX12_spelled 56 = .ok (.ldc2_w 134, 3) := by decide +kernel
theorem dX12_spelled_59 : decode cX12_spelled 59 = .ok (.lsub, 1) := by decide +kernel
theorem dX12_spelled_60 : decode cX12_spelled 60 = .ok (.goto 5, 3) := by decide +kernel
theorem dX12_spelled_63 : decode cX12_spelled 63 = .ok (.lload 6, 2) := by decide +kernel
theorem dX12_spelled_65 : decode cX12_spelled 65 = .ok (.lstore 6, 2) := by decide +kernel
theorem dX12_spelled_67 : decode cX12_spelled 67 = .ok (.iload 4, 2) := by decide +kernel
theorem dX12_spelled_69 : decode cX12_spelled 69 = .ok (.ifCond .le 20, 3) := by decide +kernel
theorem dX12_spelled_72 : decode cX12_spelled 72 = .ok (.lload 6, 2) := by decide +kernel
theorem dX12_spelled_74 : decode cX12_spelled 74 = .ok (.ldc2_w 132, 3) := by decide +kernel
theorem dX12_spelled_77 : decode cX12_spelled 77 = .ok (.lmul, 1) := by decide +kernel
theorem dX12_spelled_78 : decode cX12_spelled 78 = .ok (.iload 4, 2) := by decide +kernel
theorem dX12_spelled_80 : decode cX12_spelled 80 = .ok (.i2l, 1) := by decide +kernel
theorem dX12_spelled_81 : decode cX12_spelled 81 = .ok (.ladd, 1) := by decide +kernel
theorem dX12_spelled_82 : decode cX12_spelled 82 = .ok (.ldc2_w 134, 3) := by decide +kernel
theorem dX12_spelled_85 : decode cX12_spelled 85 = .ok (.lsub, 1) := by decide +kernel
theorem dX12_spelled_86 : decode cX12_spelled 86 = .ok (.goto 5, 3) := by decide +kernel
theorem dX12_spelled_89 : decode cX12_spelled 89 = .ok (.lload 6, 2) := by decide +kernel
theorem dX12_spelled_91 : decode cX12_spelled 91 = .ok (.lstore 6, 2) := by decide +kernel
theorem dX12_spelled_93 : decode cX12_spelled 93 = .ok (.iload 5, 2) := by decide +kernel
theorem dX12_spelled_95 : decode cX12_spelled 95 = .ok (.ifCond .le 20, 3) := by decide +kernel
theorem dX12_spelled_98 : decode cX12_spelled 98 = .ok (.lload 6, 2) := by decide +kernel
theorem dX12_spelled_100 : decode cX12_spelled 100 = .ok (.ldc2_w 132, 3) := by decide +kernel
theorem dX12_spelled_103 : decode cX12_spelled 103 = .ok (.lmul, 1) := by decide +kernel
theorem dX12_spelled_104 : decode cX12_spelled 104 = .ok (.iload 5, 2) := by decide +kernel
theorem dX12_spelled_106 : decode cX12_spelled 106 = .ok (.i2l, 1) := by decide +kernel
theorem dX12_spelled_107 : decode cX12_spelled 107 = .ok (.ladd, 1) := by decide +kernel
theorem dX12_spelled_108 : decode cX12_spelled 108 = .ok (.ldc2_w 134, 3) := by decide +kernel
theorem dX12_spelled_111 : decode cX12_spelled 111 = .ok (.lsub, 1) := by decide +kernel
theorem dX12_spelled_112 : decode cX12_spelled 112 = .ok (.goto 5, 3) := by decide +kernel
theorem dX12_spelled_115 : decode cX12_spelled 115 = .ok (.lload 6, 2) := by decide +kernel
theorem dX12_spelled_117 : decode cX12_spelled 117 = .ok (.lreturn, 1) := by decide +kernel
def j_X12_spelled : JD := (yX12_spelled, cX12_spelled, 8, (some .long))
def b_X12_spelled : BD := (0, 0, 0)
theorem dX12_isWord_0 : decode cX12_isWord 0 = .ok (.aload_n 0, 1) := by decide +kernel
theorem dX12_isWord_1 : decode cX12_isWord 1 = .ok (.getfield 123, 3) := by decide +kernel
theorem dX12_isWord_4 : decode cX12_isWord 4 = .ok (.iconst 1, 1) := by decide +kernel
theorem dX12_isWord_5 : decode cX12_isWord 5 = .ok (.if_icmp .ne 16, 3) := by decide +kernel
theorem dX12_isWord_8 : decode cX12_isWord 8 = .ok (.aload_n 0, 1) := by decide +kernel
theorem dX12_isWord_9 : decode cX12_isWord 9 = .ok (.getfield 129, 3) := by decide +kernel
theorem dX12_isWord_12 : decode cX12_isWord 12 = .ok (.lload_n 1, 1) := by decide +kernel
theorem dX12_isWord_13 : decode cX12_isWord 13 = .ok (.lcmp, 1) := by decide +kernel
theorem dX12_isWord_14 : decode cX12_isWord 14 = .ok (.ifCond .ne 7, 3) := by decide +kernel
theorem dX12_isWord_17 : decode cX12_isWord 17 = .ok (.iconst 1, 1) := by decide +kernel
theorem dX12_isWord_18 : decode cX12_isWord 18 = .ok (.goto 4, 3) := by decide +kernel
theorem dX12_isWord_21 : decode cX12_isWord 21 = .ok (.iconst 0, 1) := by decide +kernel
theorem dX12_isWord_22 : decode cX12_isWord 22 = .ok (.ireturn, 1) := by decide +kernel
def j_X12_isWord : JD := (yX12_isWord, cX12_isWord, 3, (some .boolean))
def b_X12_isWord : BD := (0, 0, 0)
theorem dX12_isHouse_0 : decode cX12_isHouse 0 = .ok (.aload_n 0, 1) := by decide +kernel
theorem dX12_isHouse_1 : decode cX12_isHouse 1 = .ok (.bipush 104, 2) := by decide +kernel
theorem dX12_isHouse_3 : decode cX12_isHouse 3 = .ok (.bipush 111, 2) := by decide +kernel
theorem dX12_isHouse_5 : decode cX12_isHouse 5 = .ok (.bipush 117, 2) := by decide +kernel
theorem dX12_isHouse_7 : decode cX12_isHouse 7 = .ok (.bipush 115, 2) := by decide +kernel
theorem dX12_isHouse_9 : decode cX12_isHouse 9 = .ok (.bipush 101, 2) := by decide +kernel
theorem dX12_isHouse_11 : decode cX12_isHouse 11 = .ok (.iconst 0, 1) := by decide +kernel
theorem dX12_isHouse_12 : decode cX12_isHouse 12 = .ok (.invokestatic 148, 3) := by decide +kernel
theorem dX12_isHouse_15 : decode cX12_isHouse 15 = .ok (.invokevirtual 152, 3) := by decide +kernel
theorem dX12_isHouse_18 : decode cX12_isHouse 18 = .ok (.ireturn, 1) := by decide +kernel
def j_X12_isHouse : JD := (yX12_isHouse, cX12_isHouse, 1, (some .boolean))
def b_X12_isHouse : BD := (1, 0, 0)
theorem dX12_isAt_0 : decode cX12_isAt 0 = .ok (.aload_n 0, 1) := by decide +kernel
theorem dX12_isAt_1 : decode cX12_isAt 1 = .ok (.bipush 97, 2) := by decide +kernel
theorem dX12_isAt_3 : decode cX12_isAt 3 = .ok (.bipush 116, 2) := by decide +kernel
theorem dX12_isAt_5 : decode cX12_isAt 5 = .ok (.iconst 0, 1) := by decide +kernel
theorem dX12_isAt_6 : decode cX12_isAt 6 = .ok (.iconst 0, 1) := by decide +kernel
theorem dX12_isAt_7 : decode cX12_isAt 7 = .ok (.iconst 0, 1) := by decide +kernel
theorem dX12_isAt_8 : decode cX12_isAt 8 = .ok (.iconst 0, 1) := by decide +kernel
theorem dX12_isAt_9 : decode cX12_isAt 9 = .ok (.invokestatic 148, 3) := by decide +kernel
theorem dX12_isAt_12 : decode cX12_isAt 12 = .ok (.invokevirtual 152, 3) := by decide +kernel
theorem dX12_isAt_15 : decode cX12_isAt 15 = .ok (.ireturn, 1) := by decide +kernel
def j_X12_isAt : JD := (yX12_isAt, cX12_isAt, 1, (some .boolean))
def b_X12_isAt : BD := (1, 0, 0)
theorem dX12_isWorth_0 : decode cX12_isWorth 0 = .ok (.aload_n 0, 1) := by decide +kernel
theorem dX12_isWorth_1 : decode cX12_isWorth 1 = .ok (.bipush 119, 2) := by decide +kernel
theorem dX12_isWorth_3 : decode cX12_isWorth 3 = .ok (.bipush 111, 2) := by decide +kernel
theorem dX12_isWorth_5 : decode cX12_isWorth 5 = .ok (.bipush 114, 2) := by decide +kernel
theorem dX12_isWorth_7 : decode cX12_isWorth 7 = .ok (.bipush 116, 2) := by decide +kernel
theorem dX12_isWorth_9 : decode cX12_isWorth 9 = .ok (.bipush 104, 2) := by decide +kernel
theorem dX12_isWorth_11 : decode cX12_isWorth 11 = .ok (.iconst 0, 1) := by decide +kernel
theorem dX12_isWorth_12 : decode cX12_isWorth 12 = .ok (.invokestatic 148, 3) := by decide +kernel
theorem dX12_isWorth_15 : decode cX12_isWorth 15 = .ok (.invokevirtual 152, 3) := by decide +kernel
theorem dX12_isWorth_18 : decode cX12_isWorth 18 = .ok (.ireturn, 1) := by decide +kernel
def j_X12_isWorth : JD := (yX12_isWorth, cX12_isWorth, 1, (some .boolean))
def b_X12_isWorth : BD := (1, 0, 0)
theorem dX12_isPieces_0 : decode cX12_isPieces 0 = .ok (.aload_n 0, 1) := by decide +kernel
theorem dX12_isPieces_1 : decode cX12_isPieces 1 = .ok (.bipush 112, 2) := by decide +kernel
theorem dX12_isPieces_3 : decode cX12_isPieces 3 = .ok (.bipush 105, 2) := by decide +kernel
theorem dX12_isPieces_5 : decode cX12_isPieces 5 = .ok (.bipush 101, 2) := by decide +kernel
theorem dX12_isPieces_7 : decode cX12_isPieces 7 = .ok (.bipush 99, 2) := by decide +kernel
theorem dX12_isPieces_9 : decode cX12_isPieces 9 = .ok (.bipush 101, 2) := by decide +kernel
theorem dX12_isPieces_11 : decode cX12_isPieces 11 = .ok (.bipush 115, 2) := by decide +kernel
theorem dX12_isPieces_13 : decode cX12_isPieces 13 = .ok (.invokestatic 148, 3) := by decide +kernel
theorem dX12_isPieces_16 : decode cX12_isPieces 16 = .ok (.invokevirtual 152, 3) := by decide +kernel
theorem dX12_isPieces_19 : decode cX12_isPieces 19 = .ok (.ireturn, 1) := by decide +kernel
def j_X12_isPieces : JD := (yX12_isPieces, cX12_isPieces, 1, (some .boolean))
def b_X12_isPieces : BD := (1, 0, 0)
theorem dX12_isWeight_0 : decode cX12_isWeight 0 = .ok (.aload_n 0, 1) := by decide +kernel
theorem dX12_isWeight_1 : decode cX12_isWeight 1 = .ok (.bipush 119, 2) := by decide +kernel
theorem dX12_isWeight_3 : decode cX12_isWeight 3 = .ok (.bipush 101, 2) := by decide +kernel
theorem dX12_isWeight_5 : decode cX12_isWeight 5 = .ok (.bipush 105, 2) := by decide +kernel
theorem dX12_isWeight_7 : decode cX12_isWeight 7 = .ok (.bipush 103, 2) := by decide +kernel
theorem dX12_isWeight_9 : decode cX12_isWeight 9 = .ok (.bipush 104, 2) := by decide +kernel
theorem dX12_isWeight_11 : decode cX12_isWeight 11 = .ok (.bipush 116, 2) := by decide +kernel
theorem dX12_isWeight_13 : decode cX12_isWeight 13 = .ok (.invokestatic 148, 3) := by decide +kernel
theorem dX12_isWeight_16 : decode cX12_isWeight 16 = .ok (.invokevirtual 152, 3) := by decide +kernel
theorem dX12_isWeight_19 : decode cX12_isWeight 19 = .ok (.ireturn, 1) := by decide +kernel
def j_X12_isWeight : JD := (yX12_isWeight, cX12_isWeight, 1, (some .boolean))
def b_X12_isWeight : BD := (1, 0, 0)
theorem dX12_isLong_0 : decode cX12_isLong 0 = .ok (.aload_n 0, 1) := by decide +kernel
theorem dX12_isLong_1 : decode cX12_isLong 1 = .ok (.bipush 108, 2) := by decide +kernel
theorem dX12_isLong_3 : decode cX12_isLong 3 = .ok (.bipush 111, 2) := by decide +kernel
theorem dX12_isLong_5 : decode cX12_isLong 5 = .ok (.bipush 110, 2) := by decide +kernel
theorem dX12_isLong_7 : decode cX12_isLong 7 = .ok (.bipush 103, 2) := by decide +kernel
theorem dX12_isLong_9 : decode cX12_isLong 9 = .ok (.iconst 0, 1) := by decide +kernel
theorem dX12_isLong_10 : decode cX12_isLong 10 = .ok (.iconst 0, 1) := by decide +kernel
theorem dX12_isLong_11 : decode cX12_isLong 11 = .ok (.invokestatic 148, 3) := by decide +kernel
theorem dX12_isLong_14 : decode cX12_isLong 14 = .ok (.invokevirtual 152, 3) := by decide +kernel
theorem dX12_isLong_17 : decode cX12_isLong 17 = .ok (.ireturn, 1) := by decide +kernel
def j_X12_isLong : JD := (yX12_isLong, cX12_isLong, 1, (some .boolean))
def b_X12_isLong : BD := (1, 0, 0)
theorem dX12_isPegs_0 : decode cX12_isPegs 0 = .ok (.aload_n 0, 1) := by decide +kernel
theorem dX12_isPegs_1 : decode cX12_isPegs 1 = .ok (.bipush 112, 2) := by decide +kernel
theorem dX12_isPegs_3 : decode cX12_isPegs 3 = .ok (.bipush 101, 2) := by decide +kernel
theorem dX12_isPegs_5 : decode cX12_isPegs 5 = .ok (.bipush 103, 2) := by decide +kernel
theorem dX12_isPegs_7 : decode cX12_isPegs 7 = .ok (.bipush 115, 2) := by decide +kernel
theorem dX12_isPegs_9 : decode cX12_isPegs 9 = .ok (.iconst 0, 1) := by decide +kernel
theorem dX12_isPegs_10 : decode cX12_isPegs 10 = .ok (.iconst 0, 1) := by decide +kernel
theorem dX12_isPegs_11 : decode cX12_isPegs 11 = .ok (.invokestatic 148, 3) := by decide +kernel
theorem dX12_isPegs_14 : decode cX12_isPegs 14 = .ok (.invokevirtual 152, 3) := by decide +kernel
theorem dX12_isPegs_17 : decode cX12_isPegs 17 = .ok (.ireturn, 1) := by decide +kernel
def j_X12_isPegs : JD := (yX12_isPegs, cX12_isPegs, 1, (some .boolean))
def b_X12_isPegs : BD := (1, 0, 0)
theorem dX12_isGang_0 : decode cX12_isGang 0 = .ok (.aload_n 0, 1) := by decide +kernel
theorem dX12_isGang_1 : decode cX12_isGang 1 = .ok (.bipush 103, 2) := by decide +kernel
theorem dX12_isGang_3 : decode cX12_isGang 3 = .ok (.bipush 97, 2) := by decide +kernel
theorem dX12_isGang_5 : decode cX12_isGang 5 = .ok (.bipush 110, 2) := by decide +kernel
theorem dX12_isGang_7 : decode cX12_isGang 7 = .ok (.bipush 103, 2) := by decide +kernel
theorem dX12_isGang_9 : decode cX12_isGang 9 = .ok (.iconst 0, 1) := by decide +kernel
theorem dX12_isGang_10 : decode cX12_isGang 10 = .ok (.iconst 0, 1) := by decide +kernel
theorem dX12_isGang_11 : decode cX12_isGang 11 = .ok (.invokestatic 148, 3) := by decide +kernel
theorem dX12_isGang_14 : decode cX12_isGang 14 = .ok (.invokevirtual 152, 3) := by decide +kernel
theorem dX12_isGang_17 : decode cX12_isGang 17 = .ok (.ireturn, 1) := by decide +kernel
def j_X12_isGang : JD := (yX12_isGang, cX12_isGang, 1, (some .boolean))
def b_X12_isGang : BD := (1, 0, 0)
theorem dX12_isHands_0 : decode cX12_isHands 0 = .ok (.aload_n 0, 1) := by decide +kernel
theorem dX12_isHands_1 : decode cX12_isHands 1 = .ok (.bipush 104, 2) := by decide +kernel
theorem dX12_isHands_3 : decode cX12_isHands 3 = .ok (.bipush 97, 2) := by decide +kernel
theorem dX12_isHands_5 : decode cX12_isHands 5 = .ok (.bipush 110, 2) := by decide +kernel
theorem dX12_isHands_7 : decode cX12_isHands 7 = .ok (.bipush 100, 2) := by decide +kernel
theorem dX12_isHands_9 : decode cX12_isHands 9 = .ok (.bipush 115, 2) := by decide +kernel
theorem dX12_isHands_11 : decode cX12_isHands 11 = .ok (.iconst 0, 1) := by decide +kernel
theorem dX12_isHands_12 : decode cX12_isHands 12 = .ok (.invokestatic 148, 3) := by decide +kernel
theorem dX12_isHands_15 : decode cX12_isHands 15 = .ok (.invokevirtual 152, 3) := by decide +kernel
theorem dX12_isHands_18 : decode cX12_isHands 18 = .ok (.ireturn, 1) := by decide +kernel
def j_X12_isHands : JD := (yX12_isHands, cX12_isHands, 1, (some .boolean))
def b_X12_isHands : BD := (1, 0, 0)
theorem dX12_isPace_0 : decode cX12_isPace 0 = .ok (.aload_n 0, 1) := by decide +kernel
theorem dX12_isPace_1 : decode cX12_isPace 1 = .ok (.bipush 112, 2) := by decide +kernel
theorem dX12_isPace_3 : decode cX12_isPace 3 = .ok (.bipush 97, 2) := by decide +kernel
theorem dX12_isPace_5 : decode cX12_isPace 5 = .ok (.bipush 99, 2) := by decide +kernel
theorem dX12_isPace_7 : decode cX12_isPace 7 = .ok (.bipush 101, 2) := by decide +kernel
theorem dX12_isPace_9 : decode cX12_isPace 9 = .ok (.iconst 0, 1) := by decide +kernel
theorem dX12_isPace_10 : decode cX12_isPace 10 = .ok (.iconst 0, 1) := by decide +kernel
theorem dX12_isPace_11 : decode cX12_isPace 11 = .ok (.invokestatic 148, 3) := by decide +kernel
theorem dX12_isPace_14 : decode cX12_isPace 14 = .ok (.invokevirtual 152, 3) := by decide +kernel
theorem dX12_isPace_17 : decode cX12_isPace 17 = .ok (.ireturn, 1) := by decide +kernel
def j_X12_isPace : JD := (yX12_isPace, cX12_isPace, 1, (some .boolean))
def b_X12_isPace : BD := (1, 0, 0)
theorem dX12_isHelped_0 : decode cX12_isHelped 0 = .ok (.aload_n 0, 1) := by decide +kernel
theorem dX12_isHelped_1 : decode cX12_isHelped 1 = .ok (.bipush 104, 2) := by decide +kernel
theorem dX12_isHelped_3 : decode cX12_isHelped 3 = .ok (.bipush 101, 2) := by decide +kernel
theorem dX12_isHelped_5 : decode cX12_isHelped 5 = .ok (.bipush 108, 2) := by decide +kernel
theorem dX12_isHelped_7 : decode cX12_isHelped 7 = .ok (.bipush 112, 2) := by decide +kernel
theorem dX12_isHelped_9 : decode cX12_isHelped 9 = .ok (.bipush 101, 2) := by decide +kernel
theorem dX12_isHelped_11 : decode cX12_isHelped 11 = .ok (.bipush 100, 2) := by decide +kernel
theorem dX12_isHelped_13 : decode cX12_isHelped 13 = .ok (.invokestatic 148, 3) := by decide +kernel
theorem dX12_isHelped_16 : decode cX12_isHelped 16 = .ok (.invokevirtual 152, 3) := by decide +kernel
theorem dX12_isHelped_19 : decode cX12_isHelped 19 = .ok (.ireturn, 1) := by decide +kernel
def j_X12_isHelped : JD := (yX12_isHelped, cX12_isHelped, 1, (some .boolean))
def b_X12_isHelped : BD := (1, 0, 0)
theorem dX12_isBy_0 : decode cX12_isBy 0 = .ok (.aload_n 0, 1) := by decide +kernel
theorem dX12_isBy_1 : decode cX12_isBy 1 = .ok (.bipush 98, 2) := by decide +kernel
theorem dX12_isBy_3 : decode cX12_isBy 3 = .ok (.bipush 121, 2) := by decide +kernel
theorem dX12_isBy_5 : decode cX12_isBy 5 = .ok (.iconst 0, 1) := by decide +kernel
theorem dX12_isBy_6 : decode cX12_isBy 6 = .ok (.iconst 0, 1) := by decide +kernel
theorem dX12_isBy_7 : decode cX12_isBy 7 = .ok (.iconst 0, 1) := by decide +kernel
theorem dX12_isBy_8 : decode cX12_isBy 8 = .ok (.iconst 0, 1) := by decide +kernel
theorem dX12_isBy_9 : decode cX12_isBy 9 = .ok (.invokestatic 148, 3) := by decide +kernel
theorem dX12_isBy_12 : decode cX12_isBy 12 = .ok (.invokevirtual 152, 3) := by decide +kernel
theorem dX12_isBy_15 : decode cX12_isBy 15 = .ok (.ireturn, 1) := by decide +kernel
def j_X12_isBy : JD := (yX12_isBy, cX12_isBy, 1, (some .boolean))
def b_X12_isBy : BD := (1, 0, 0)
theorem dX12_isWind_0 : decode cX12_isWind 0 = .ok (.aload_n 0, 1) := by decide +kernel
theorem dX12_isWind_1 : decode cX12_isWind 1 = .ok (.bipush 119, 2) := by decide +kernel
theorem dX12_isWind_3 : decode cX12_isWind 3 = .ok (.bipush 105, 2) := by decide +kernel
theorem dX12_isWind_5 : decode cX12_isWind 5 = .ok (.bipush 110, 2) := by decide +kernel
theorem dX12_isWind_7 : decode cX12_isWind 7 = .ok (.bipush 100, 2) := by decide +kernel
theorem dX12_isWind_9 : decode cX12_isWind 9 = .ok (.iconst 0, 1) := by decide +kernel
theorem dX12_isWind_10 : decode cX12_isWind 10 = .ok (.iconst 0, 1) := by decide +kernel
theorem dX12_isWind_11 : decode cX12_isWind 11 = .ok (.invokestatic 148, 3) := by decide +kernel
theorem dX12_isWind_14 : decode cX12_isWind 14 = .ok (.invokevirtual 152, 3) := by decide +kernel
theorem dX12_isWind_17 : decode cX12_isWind 17 = .ok (.ireturn, 1) := by decide +kernel
def j_X12_isWind : JD := (yX12_isWind, cX12_isWind, 1, (some .boolean))
def b_X12_isWind : BD := (1, 0, 0)
theorem dX12_isOf_0 : decode cX12_isOf 0 = .ok (.aload_n 0, 1) := by decide +kernel
theorem dX12_isOf_1 : decode cX12_isOf 1 = .ok (.bipush 111, 2) := by decide +kernel
theorem dX12_isOf_3 : decode cX12_isOf 3 = .ok (.bipush 102, 2) := by decide +kernel
theorem dX12_isOf_5 : decode cX12_isOf 5 = .ok (.iconst 0, 1) := by decide +kernel
theorem dX12_isOf_6 : decode cX12_isOf 6 = .ok (.iconst 0, 1) := by decide +kernel
theorem dX12_isOf_7 : decode cX12_isOf 7 = .ok (.iconst 0, 1) := by decide +kernel
theorem dX12_isOf_8 : decode cX12_isOf 8 = .ok (.iconst 0, 1) := by decide +kernel
theorem dX12_isOf_9 : decode cX12_isOf 9 = .ok (.invokestatic 148, 3) := by decide +kernel
theorem dX12_isOf_12 : decode cX12_isOf 12 = .ok (.invokevirtual 152, 3) := by decide +kernel
theorem dX12_isOf_15 : decode cX12_isOf 15 = .ok (.ireturn, 1) := by decide +kernel
def j_X12_isOf : JD := (yX12_isOf, cX12_isOf, 1, (some .boolean))
def b_X12_isOf : BD := (1, 0, 0)
theorem dX12_isLaw_0 : decode cX12_isLaw 0 = .ok (.aload_n 0, 1) := by decide +kernel
theorem dX12_isLaw_1 : decode cX12_isLaw 1 = .ok (.bipush 108, 2) := by decide +kernel
theorem dX12_isLaw_3 : decode cX12_isLaw 3 = .ok (.bipush 97, 2) := by decide +kernel
theorem dX12_isLaw_5 : decode cX12_isLaw 5 = .ok (.bipush 119, 2) := by decide +kernel
theorem dX12_isLaw_7 : decode cX12_isLaw 7 = .ok (.iconst 0, 1) := by decide +kernel
theorem dX12_isLaw_8 : decode cX12_isLaw 8 = .ok (.iconst 0, 1) := by decide +kernel
theorem dX12_isLaw_9 : decode cX12_isLaw 9 = .ok (.iconst 0, 1) := by decide +kernel
theorem dX12_isLaw_10 : decode cX12_isLaw 10 = .ok (.invokestatic 148, 3) := by decide +kernel
theorem dX12_isLaw_13 : decode cX12_isLaw 13 = .ok (.invokevirtual 152, 3) := by decide +kernel
theorem dX12_isLaw_16 : decode cX12_isLaw 16 = .ok (.ireturn, 1) := by decide +kernel
def j_X12_isLaw : JD := (yX12_isLaw, cX12_isLaw, 1, (some .boolean))
def b_X12_isLaw : BD := (1, 0, 0)
theorem dX12_isWith_0 : decode cX12_isWith 0 = .ok (.aload_n 0, 1) := by decide +kernel
theorem dX12_isWith_1 : decode cX12_isWith 1 = .ok (.bipush 119, 2) := by decide +kernel
theorem dX12_isWith_3 : decode cX12_isWith 3 = .ok (.bipush 105, 2) := by decide +kernel
theorem dX12_isWith_5 : decode cX12_isWith 5 = .ok (.bipush 116, 2) := by decide +kernel
theorem dX12_isWith_7 : decode cX12_isWith 7 = .ok (.bipush 104, 2) := by decide +kernel
theorem dX12_isWith_9 : decode cX12_isWith 9 = .ok (.iconst 0, 1) := by decide +kernel
theorem dX12_isWith_10 : decode cX12_isWith 10 = .ok (.iconst 0, 1) := by decide +kernel
theorem dX12_isWith_11 : decode cX12_isWith 11 = .ok (.invokestatic 148, 3) := by decide +kernel
theorem dX12_isWith_14 : decode cX12_isWith 14 = .ok (.invokevirtual 152, 3) := by decide +kernel
theorem dX12_isWith_17 : decode cX12_isWith 17 = .ok (.ireturn, 1) := by decide +kernel
def j_X12_isWith : JD := (yX12_isWith, cX12_isWith, 1, (some .boolean))
def b_X12_isWith : BD := (1, 0, 0)
theorem dX12_lawWord_0 : decode cX12_lawWord 0 = .ok (.aload_n 0, 1) := by decide +kernel
theorem dX12_lawWord_1 : decode cX12_lawWord 1 = .ok (.invokevirtual 156, 3) := by decide +kernel
theorem dX12_lawWord_4 : decode cX12_lawWord 4 = .ok (.ifCond .eq 5, 3) := by decide +kernel
theorem dX12_lawWord_7 : decode cX12_lawWord 7 = .ok (.iconst 0, 1) := by decide +kernel
theorem dX12_lawWord_8 : decode cX12_lawWord 8 = .ok (.ireturn, 1) := by decide +kernel
theorem dX12_lawWord_9 : decode cX12_lawWord 9 = .ok (.aload_n 0, 1) := by decide +kernel
theorem dX12_lawWord_10 : decode cX12_lawWord 10 = .ok (.bipush 111, 2) := by decide +kernel
theorem dX12_lawWord_12 : decode cX12_lawWord 12 = .ok (.bipush 119, 2) := by decide +kernel
theorem dX12_lawWord_14 : decode cX12_lawWord 14 = .ok (.bipush 101, 2) := by decide +kernel
theorem dX12_lawWord_16 : decode cX12_lawWord 16 = .ok (.bipush 100, 2) := by decide +kernel
theorem dX12_lawWord_18 : decode cX12_lawWord 18 = .ok (.iconst 0, 1) := by decide +kernel
theorem dX12_lawWord_19 : decode cX12_lawWord 19 = .ok (.iconst 0, 1) := by decide +kernel
theorem dX12_lawWord_20 : decode cX12_lawWord 20 = .ok (.invokestatic 148, 3) := by decide +kernel
theorem dX12_lawWord_23 : decode cX12_lawWord 23 = .ok (.invokevirtual 152, 3) := by decide +kernel
theorem dX12_lawWord_26 : decode cX12_lawWord 26 = .ok (.ifCond .eq 5, 3) := by decide +kernel
theorem dX12_lawWord_29 : decode cX12_lawWord 29 = .ok (.iconst 1, 1) := by decide +kernel
theorem dX12_lawWord_30 : decode cX12_lawWord 30 = .ok (.ireturn, 1) := by decide +kernel
theorem dX12_lawWord_31 : decode cX12_lawWord 31 = .ok (.aload_n 0, 1) := by decide +kernel
theorem dX12_lawWord_32 : decode cX12_lawWord 32 = .ok (.bipush 110, 2) := by decide +kernel
theorem dX12_lawWord_34 : decode cX12_lawWord 34 = .ok (.bipush 101, 2) := by decide +kernel
theorem dX12_lawWord_36 : decode cX12_lawWord 36 = .ok (.bipush 97, 2) := by decide +kernel
theorem dX12_lawWord_38 : decode cX12_lawWord 38 = .ok (.bipush 114, 2) := by decide +kernel
theorem dX12_lawWord_40 : decode cX12_lawWord 40 = .ok (.iconst 0, 1) := by decide +kernel
theorem dX12_lawWord_41 : decode cX12_lawWord 41 = .ok (.iconst 0, 1) := by decide +kernel
theorem dX12_lawWord_42 : decode cX12_lawWord 42 = .ok (.invokestatic 148, 3) := by decide +kernel
theorem dX12_lawWord_45 : decode cX12_lawWord 45 = .ok (.invokevirtual 152, 3) := by decide +kernel
theorem dX12_lawWord_48 : decode cX12_lawWord 48 = .ok (.ifCond .eq 5, 3) := by decide +kernel
theorem dX12_lawWord_51 : decode cX12_lawWord 51 = .ok (.iconst 2, 1) := by decide +kernel
theorem dX12_lawWord_52 : decode cX12_lawWord 52 = .ok (.ireturn, 1) := by decide +kernel
theorem dX12_lawWord_53 : decode cX12_lawWord 53 = .ok (.aload_n 0, 1) := by decide +kernel
theorem dX12_lawWord_54 : decode cX12_lawWord 54 = .ok (.bipush 116, 2) := by decide +kernel
theorem dX12_lawWord_56 : decode cX12_lawWord 56 = .ok (.bipush 111, 2) := by decide +kernel
theorem dX12_lawWord_58 : decode cX12_lawWord 58 = .ok (.bipush 108, 2) := by decide +kernel
theorem dX12_lawWord_60 : decode cX12_lawWord 60 = .ok (.bipush 100, 2) := by decide +kernel
theorem dX12_lawWord_62 : decode cX12_lawWord 62 = .ok (.iconst 0, 1) := by decide +kernel
theorem dX12_lawWord_63 : decode cX12_lawWord 63 = .ok (.iconst 0, 1) := by decide +kernel
theorem dX12_lawWord_64 : decode cX12_lawWord 64 = .ok (.invokestatic 148, 3) := by decide +kernel
theorem dX12_lawWord_67 : decode cX12_lawWord 67 = .ok (.invokevirtual 152, 3) := by decide +kernel
theorem dX12_lawWord_70 : decode cX12_lawWord 70 = .ok (.ifCond .eq 7, 3) := by decide +kernel
theorem dX12_lawWord_73 : decode cX12_lawWord 73 = .ok (.iconst 3, 1) := by decide +kernel
theorem dX12_lawWord_74 : decode cX12_lawWord 74 = .ok (.goto 4, 3) := by decide +kernel
theorem dX12_lawWord_77 : decode cX12_lawWord 77 = .ok (.iconst (-1), 1) := by decide +kernel
theorem dX12_lawWord_78 : decode cX12_lawWord 78 = .ok (.ireturn, 1) := by decide +kernel
def j_X12_lawWord : JD := (yX12_lawWord, cX12_lawWord, 1, (some .int))
def b_X12_lawWord : BD := (2, 0, 0)
theorem dX12_stepWord_0 : decode cX12_stepWord 0 = .ok (.aload_n 0, 1) := by decide +kernel
theorem dX12_stepWord_1 : decode cX12_stepWord 1 = .ok (.bipush 104, 2) := by decide +kernel
theorem dX12_stepWord_3 : decode cX12_stepWord 3 = .ok (.bipush 111, 2) := by decide +kernel
theorem dX12_stepWord_5 : decode cX12_stepWord 5 = .ok (.bipush 117, 2) := by decide +kernel
theorem dX12_stepWord_7 : decode cX12_stepWord 7 = .ok (.bipush 114, 2) := by decide +kernel
theorem dX12_stepWord_9 : decode cX12_stepWord 9 = .ok (.iconst 0, 1) := by decide +kernel
theorem dX12_stepWord_10 : decode cX12_stepWord 10 = .ok (.iconst 0, 1) := by decide +kernel
theorem dX12_stepWord_11 : decode cX12_stepWord 11 = .ok (.invokestatic 148, 3) := by decide +kernel
theorem dX12_stepWord_14 : decode cX12_stepWord 14 = .ok (.invokevirtual 152, 3) := by decide +kernel
theorem dX12_stepWord_17 : decode cX12_stepWord 17 = .ok (.ifCond .eq 5, 3) := by decide +kernel
theorem dX12_stepWord_20 : decode cX12_stepWord 20 = .ok (.iconst 0, 1) := by decide +kernel
theorem dX12_stepWord_21 : decode cX12_stepWord 21 = .ok (.ireturn, 1) := by decide +kernel
theorem dX12_stepWord_22 : decode cX12_stepWord 22 = .ok (.aload_n 0, 1) := by decide +kernel
theorem dX12_stepWord_23 : decode cX12_stepWord 23 = .ok (.bipush 103, 2) := by decide +kernel
theorem dX12_stepWord_25 : decode cX12_stepWord 25 = .ok (.bipush 97, 2) := by decide +kernel
theorem dX12_stepWord_27 : decode cX12_stepWord 27 = .ok (.bipush 108, 2) := by decide +kernel
theorem dX12_stepWord_29 : decode cX12_stepWord 29 = .ok (.bipush 101, 2) := by decide +kernel
theorem dX12_stepWord_31 : decode cX12_stepWord 31 = .ok (.iconst 0, 1) := by decide +kernel
theorem dX12_stepWord_32 : decode cX12_stepWord 32 = .ok (.iconst 0, 1) := by decide +kernel
theorem dX12_stepWord_33 : decode cX12_stepWord 33 = .ok (.invokestatic 148, 3) := by decide +kernel
theorem dX12_stepWord_36 : decode cX12_stepWord 36 = .ok (.invokevirtual 152, 3) := by decide +kernel
theorem dX12_stepWord_39 : decode cX12_stepWord 39 = .ok (.ifCond .eq 5, 3) := by decide +kernel
theorem dX12_stepWord_42 : decode cX12_stepWord 42 = .ok (.iconst 1, 1) := by decide +kernel
theorem dX12_stepWord_43 : decode cX12_stepWord 43 = .ok (.ireturn, 1) := by decide +kernel
theorem dX12_stepWord_44 : decode cX12_stepWord 44 = .ok (.aload_n 0, 1) := by decide +kernel
theorem dX12_stepWord_45 : decode cX12_stepWord 45 = .ok (.bipush 100, 2) := by decide +kernel
theorem dX12_stepWord_47 : decode cX12_stepWord 47 = .ok (.bipush 97, 2) := by decide +kernel
theorem dX12_stepWord_49 : decode cX12_stepWord 49 = .ok (.bipush 119, 2) := by decide +kernel
theorem dX12_stepWord_51 : decode cX12_stepWord 51 = .ok (.bipush 110, 2) := by decide +kernel
theorem dX12_stepWord_53 : decode cX12_stepWord 53 = .ok (.iconst 0, 1) := by decide +kernel
theorem dX12_stepWord_54 : decode cX12_stepWord 54 = .ok (.iconst 0, 1) := by decide +kernel
theorem dX12_stepWord_55 : decode cX12_stepWord 55 = .ok (.invokestatic 148, 3) := by decide +kernel
theorem dX12_stepWord_58 : decode cX12_stepWord 58 = .ok (.invokevirtual 152, 3) := by decide +kernel
theorem dX12_stepWord_61 : decode cX12_stepWord 61 = .ok (.ifCond .eq 5, 3) := by decide +kernel
theorem dX12_stepWord_64 : decode cX12_stepWord 64 = .ok (.iconst 2, 1) := by decide +kernel
theorem dX12_stepWord_65 : decode cX12_stepWord 65 = .ok (.ireturn, 1) := by decide +kernel
theorem dX12_stepWord_66 : decode cX12_stepWord 66 = .ok (.aload_n 0, 1) := by decide +kernel
theorem dX12_stepWord_67 : decode cX12_stepWord 67 = .ok (.bipush 108, 2) := by decide +kernel
theorem dX12_stepWord_69 : decode cX12_stepWord 69 = .ok (.bipush 105, 2) := by decide +kernel
theorem dX12_stepWord_71 : decode cX12_stepWord 71 = .ok (.bipush 102, 2) := by decide +kernel
theorem dX12_stepWord_73 : decode cX12_stepWord 73 = .ok (.bipush 116, 2) := by decide +kernel
theorem dX12_stepWord_75 : decode cX12_stepWord 75 = .ok (.iconst 0, 1) := by decide +kernel
theorem dX12_stepWord_76 : decode cX12_stepWord 76 = .ok (.iconst 0, 1) := by decide +kernel
theorem dX12_stepWord_77 : decode cX12_stepWord 77 = .ok (.invokestatic 148, 3) := by decide +kernel
theorem dX12_stepWord_80 : decode cX12_stepWord 80 = .ok (.invokevirtual 152, 3) := by decide +kernel
theorem dX12_stepWord_83 : decode cX12_stepWord 83 = .ok (.ifCond .eq 5, 3) := by decide +kernel
theorem dX12_stepWord_86 : decode cX12_stepWord 86 = .ok (.iconst 3, 1) := by decide +kernel
theorem dX12_stepWord_87 : decode cX12_stepWord 87 = .ok (.ireturn, 1) := by decide +kernel
theorem dX12_stepWord_88 : decode cX12_stepWord 88 = .ok (.aload_n 0, 1) := by decide +kernel
theorem dX12_stepWord_89 : decode cX12_stepWord 89 = .ok (.bipush 114, 2) := by decide +kernel
theorem dX12_stepWord_91 : decode cX12_stepWord 91 = .ok (.bipush 101, 2) := by decide +kernel
theorem dX12_stepWord_93 : decode cX12_stepWord 93 = .ok (.bipush 115, 2) := by decide +kernel
theorem dX12_stepWord_95 : decode cX12_stepWord 95 = .ok (.bipush 116, 2) := by decide +kernel
theorem dX12_stepWord_97 : decode cX12_stepWord 97 = .ok (.iconst 0, 1) := by decide +kernel
theorem dX12_stepWord_98 : decode cX12_stepWord 98 = .ok (.iconst 0, 1) := by decide +kernel
theorem dX12_stepWord_99 : decode cX12_stepWord 99 = .ok (.invokestatic 148, 3) := by decide +kernel
theorem dX12_stepWord_102 : decode cX12_stepWord 102 = .ok (.invokevirtual 152, 3) := by decide +kernel
theorem dX12_stepWord_105 : decode cX12_stepWord 105 = .ok (.ifCond .eq 5, 3) := by decide +kernel
theorem dX12_stepWord_108 : decode cX12_stepWord 108 = .ok (.iconst 4, 1) := by decide +kernel
theorem dX12_stepWord_109 : decode cX12_stepWord 109 = .ok (.ireturn, 1) := by decide +kernel
theorem dX12_stepWord_110 : decode cX12_stepWord 110 = .ok (.aload_n 0, 1) := by decide +kernel
theorem dX12_stepWord_111 : decode cX12_stepWord 111 = .ok (.bipush 119, 2) := by decide +kernel
theorem dX12_stepWord_113 : decode cX12_stepWord 113 = .ok (.bipush 104, 2) := by decide +kernel
theorem dX12_stepWord_115 : decode cX12_stepWord 115 = .ok (.bipush 101, 2) := by decide +kernel
theorem dX12_stepWord_117 : decode cX12_stepWord 117 = .ok (.bipush 110, 2) := by decide +kernel
theorem dX12_stepWord_119 : decode cX12_stepWord 119 = .ok (.iconst 0, 1) := by decide +kernel
theorem dX12_stepWord_120 : decode cX12_stepWord 120 = .ok (.iconst 0, 1) := by decide +kernel
theorem dX12_stepWord_121 : decode cX12_stepWord 121 = .ok (.invokestatic 148, 3) := by decide +kernel
theorem dX12_stepWord_124 : decode cX12_stepWord 124 = .ok (.invokevirtual 152, 3) := by decide +kernel
theorem dX12_stepWord_127 : decode cX12_stepWord 127 = .ok (.ifCond .eq 5, 3) := by decide +kernel
theorem dX12_stepWord_130 : decode cX12_stepWord 130 = .ok (.iconst 5, 1) := by decide +kernel
theorem dX12_stepWord_131 : decode cX12_stepWord 131 = .ok (.ireturn, 1) := by decide +kernel
theorem dX12_stepWord_132 : decode cX12_stepWord 132 = .ok (.aload_n 0, 1) := by decide +kernel
theorem dX12_stepWord_133 : decode cX12_stepWord 133 = .ok (.bipush 108, 2) := by decide +kernel
theorem dX12_stepWord_135 : decode cX12_stepWord 135 = .ok (.bipush 111, 2) := by decide +kernel
theorem dX12_stepWord_137 : decode cX12_stepWord 137 = .ok (.bipush 111, 2) := by decide +kernel
theorem dX12_stepWord_139 : decode cX12_stepWord 139 = .ok (.bipush 112, 2) := by decide +kernel
theorem dX12_stepWord_141 : decode cX12_stepWord 141 = .ok (.iconst 0, 1) := by decide +kernel
theorem dX12_stepWord_142 : decode cX12_stepWord 142 = .ok (.iconst 0, 1) := by decide +kernel
theorem dX12_stepWord_143 : decode cX12_stepWord 143 = .ok (.invokestatic 148, 3) := by decide +kernel
theorem dX12_stepWord_146 : decode cX12_stepWord 146 = .ok (.invokevirtual 152, 3) := by decide +kernel
theorem dX12_stepWord_149 : decode cX12_stepWord 149 = .ok (.ifCond .eq 6, 3) := by decide +kernel
theorem dX12_stepWord_152 : decode cX12_stepWord 152 = .ok (.bipush 6, 2) := by decide +kernel
theorem dX12_stepWord_154 : decode cX12_stepWord 154 = .ok (.ireturn, 1) := by decide +kernel
theorem dX12_stepWord_155 : decode cX12_stepWord 155 = .ok (.aload_n 0, 1) := by decide +kernel
theorem dX12_stepWord_156 : decode cX12_stepWord 156 = .ok (.bipush 115, 2) := by decide +kernel
theorem dX12_stepWord_158 : decode cX12_stepWord 158 = .ok (.bipush 116, 2) := by decide +kernel
theorem dX12_stepWord_160 : decode cX12_stepWord 160 = .ok (.bipush 111, 2) := by decide +kernel
theorem dX12_stepWord_162 : decode cX12_stepWord 162 = .ok (.bipush 112, 2) := by decide +kernel
theorem dX12_stepWord_164 : decode cX12_stepWord 164 = .ok (.iconst 0, 1) := by decide +kernel
theorem dX12_stepWord_165 : decode cX12_stepWord 165 = .ok (.iconst 0, 1) := by decide +kernel
theorem dX12_stepWord_166 : decode cX12_stepWord 166 = .ok (.invokestatic 148, 3) := by decide +kernel
theorem dX12_stepWord_169 : decode cX12_stepWord 169 = .ok (.invokevirtual 152, 3) := by decide +kernel
theorem dX12_stepWord_172 : decode cX12_stepWord 172 = .ok (.ifCond .eq 8, 3) := by decide +kernel
theorem dX12_stepWord_175 : decode cX12_stepWord 175 = .ok (.bipush 7, 2) := by decide +kernel
theorem dX12_stepWord_177 : decode cX12_stepWord 177 = .ok (.goto 4, 3) := by decide +kernel
theorem dX12_stepWord_180 : decode cX12_stepWord 180 = .ok (.iconst (-1), 1) := by decide +kernel
theorem dX12_stepWord_181 : decode cX12_stepWord 181 = .ok (.ireturn, 1) := by decide +kernel
def j_X12_stepWord : JD := (yX12_stepWord, cX12_stepWord, 1, (some .int))
def b_X12_stepWord : BD := (1, 0, 0)
theorem dX12_testWord_0 : decode cX12_testWord 0 = .ok (.aload_n 0, 1) := by decide +kernel
theorem dX12_testWord_1 : decode cX12_testWord 1 = .ok (.bipush 111, 2) := by decide +kernel
theorem dX12_testWord_3 : decode cX12_testWord 3 = .ok (.bipush 102, 2) := by decide +kernel
theorem dX12_testWord_5 : decode cX12_testWord 5 = .ok (.bipush 102, 2) := by decide +kernel
theorem dX12_testWord_7 : decode cX12_testWord 7 = .ok (.iconst 0, 1) := by decide +kernel
theorem dX12_testWord_8 : decode cX12_testWord 8 = .ok (.iconst 0, 1) := by decide +kernel
theorem dX12_testWord_9 : decode cX12_testWord 9 = .ok (.iconst 0, 1) := by decide +kernel
theorem dX12_testWord_10 : decode cX12_testWord 10 = .ok (.invokestatic 148, 3) := by decide +kernel
theorem dX12_testWord_13 : decode cX12_testWord 13 = .ok (.invokevirtual 152, 3) := by decide +kernel
theorem dX12_testWord_16 : decode cX12_testWord 16 = .ok (.ifCond .eq 5, 3) := by decide +kernel
theorem dX12_testWord_19 : decode cX12_testWord 19 = .ok (.iconst 0, 1) := by decide +kernel
theorem dX12_testWord_20 : decode cX12_testWord 20 = .ok (.ireturn, 1) := by decide +kernel
theorem dX12_testWord_21 : decode cX12_testWord 21 = .ok (.aload_n 0, 1) := by decide +kernel
theorem dX12_testWord_22 : decode cX12_testWord 22 = .ok (.bipush 115, 2) := by decide +kernel
theorem dX12_testWord_24 : decode cX12_testWord 24 = .ok (.bipush 116, 2) := by decide +kernel
theorem dX12_testWord_26 : decode cX12_testWord 26 = .ok (.bipush 97, 2) := by decide +kernel
theorem dX12_testWord_28 : decode cX12_testWord 28 = .ok (.bipush 110, 2) := by decide +kernel
theorem dX12_testWord_30 : decode cX12_testWord 30 = .ok (.bipush 100, 2) := by decide +kernel
theorem dX12_testWord_32 : decode cX12_testWord 32 = .ok (.bipush 115, 2) := by decide +kernel
theorem dX12_testWord_34 : decode cX12_testWord 34 = .ok (.invokestatic 148, 3) := by decide +kernel
theorem dX12_testWord_37 : decode cX12_testWord 37 = .ok (.invokevirtual 152, 3) := by decide +kernel
theorem dX12_testWord_40 : decode cX12_testWord 40 = .ok (.ifCond .eq 5, 3) := by decide +kernel
theorem dX12_testWord_43 : decode cX12_testWord 43 = .ok (.iconst 1, 1) := by decide +kernel
theorem dX12_testWord_44 : decode cX12_testWord 44 = .ok (.ireturn, 1) := by decide +kernel
theorem dX12_testWord_45 : decode cX12_testWord 45 = .ok (.aload_n 0, 1) := by decide +kernel
theorem dX12_testWord_46 : decode cX12_testWord 46 = .ok (.invokevirtual 156, 3) := by decide +kernel
theorem dX12_testWord_49 : decode cX12_testWord 49 = .ok (.ifCond .eq 7, 3) := by decide +kernel
theorem dX12_testWord_52 : decode cX12_testWord 52 = .ok (.iconst 2, 1) := by decide +kernel
theorem dX12_testWord_53 : decode cX12_testWord 53 = .ok (.goto 4, 3) := by decide +kernel
theorem dX12_testWord_56 : decode cX12_testWord 56 = .ok (.iconst (-1), 1) := by decide +kernel
theorem dX12_testWord_57 : decode cX12_testWord 57 = .ok (.ireturn, 1) := by decide +kernel
def j_X12_testWord : JD := (yX12_testWord, cX12_testWord, 1, (some .int))
def b_X12_testWord : BD := (2, 0, 0)
theorem dX12_isEnd_0 : decode cX12_isEnd 0 = .ok (.aload_n 0, 1) := by decide +kernel
theorem dX12_isEnd_1 : decode cX12_isEnd 1 = .ok (.bipush 101, 2) := by decide +kernel
theorem dX12_isEnd_3 : decode cX12_isEnd 3 = .ok (.bipush 110, 2) := by decide +kernel
theorem dX12_isEnd_5 : decode cX12_isEnd 5 = .ok (.bipush 100, 2) := by decide +kernel
theorem dX12_isEnd_7 : decode cX12_isEnd 7 = .ok (.iconst 0, 1) := by decide +kernel
theorem dX12_isEnd_8 : decode cX12_isEnd 8 = .ok (.iconst 0, 1) := by decide +kernel
theorem dX12_isEnd_9 : decode cX12_isEnd 9 = .ok (.iconst 0, 1) := by decide +kernel
theorem dX12_isEnd_10 : decode cX12_isEnd 10 = .ok (.invokestatic 148, 3) := by decide +kernel
theorem dX12_isEnd_13 : decode cX12_isEnd 13 = .ok (.invokevirtual 152, 3) := by decide +kernel
theorem dX12_isEnd_16 : decode cX12_isEnd 16 = .ok (.ireturn, 1) := by decide +kernel
def j_X12_isEnd : JD := (yX12_isEnd, cX12_isEnd, 1, (some .boolean))
def b_X12_isEnd : BD := (1, 0, 0)
theorem dX12_isKept_0 : decode cX12_isKept 0 = .ok (.aload_n 0, 1) := by decide +kernel
theorem dX12_isKept_1 : decode cX12_isKept 1 = .ok (.invokevirtual 160, 3) := by decide +kernel
theorem dX12_isKept_4 : decode cX12_isKept 4 = .ok (.ifCond .ne 73, 3) := by decide +kernel
theorem dX12_isKept_7 : decode cX12_isKept 7 = .ok (.aload_n 0, 1) := by decide +kernel
theorem dX12_isKept_8 : decode cX12_isKept 8 = .ok (.invokevirtual 163, 3) := by decide +kernel
theorem dX12_isKept_11 : decode cX12_isKept 11 = .ok (.ifCond .ne 66, 3) := by decide +kernel
theorem dX12_isKept_14 : decode cX12_isKept 14 = .ok (.aload_n 0, 1) := by decide +kernel
theorem dX12_isKept_15 : decode cX12_isKept 15 = .ok (.invokevirtual 166, 3) := by decide +kernel
theorem dX12_isKept_18 : decode cX12_isKept 18 = .ok (.ifCond .ne 59, 3) := by decide +kernel
theorem dX12_isKept_21 : decode cX12_isKept 21 = .ok (.aload_n 0, 1) := by decide +kernel
theorem dX12_isKept_22 : decode cX12_isKept 22 = .ok (.invokevirtual 169, 3) := by decide +kernel
theorem dX12_isKept_25 : decode cX12_isKept 25 = .ok (.ifCond .ne 52, 3) := by decide +kernel
theorem dX12_isKept_28 : decode cX12_isKept 28 = .ok (.aload_n 0, 1) := by decide +kernel
theorem dX12_isKept_29 : decode cX12_isKept 29 = .ok (.invokevirtual 172, 3) := by decide +kernel
theorem dX12_isKept_32 : decode cX12_isKept 32 = .ok (.ifCond .ne 45, 3) := by decide +kernel
theorem dX12_isKept_35 : decode cX12_isKept 35 = .ok (.aload_n 0, 1) := by decide +kernel
theorem dX12_isKept_36 : decode cX12_isKept 36 = .ok (.invokevirtual 175, 3) := by decide +kernel
theorem dX12_isKept_39 : decode cX12_isKept 39 = .ok (.ifCond .ne 38, 3) := by decide +kernel
theorem dX12_isKept_42 : decode cX12_isKept 42 = .ok (.aload_n 0, 1) := by decide +kernel
theorem dX12_isKept_43 : decode cX12_isKept 43 = .ok (.invokevirtual 178, 3) := by decide +kernel
theorem dX12_isKept_46 : decode cX12_isKept 46 = .ok (.ifCond .ne 31, 3) := by decide +kernel
theorem dX12_isKept_49 : decode cX12_isKept 49 = .ok (.aload_n 0, 1) := by decide +kernel
theorem dX12_isKept_50 : decode cX12_isKept 50 = .ok (.invokevirtual 181, 3) := by decide +kernel
theorem dX12_isKept_53 : decode cX12_isKept 53 = .ok (.ifCond .ne 24, 3) := by decide +kernel
theorem dX12_isKept_56 : decode cX12_isKept 56 = .ok (.aload_n 0, 1) := by decide +kernel
theorem dX12_isKept_57 : decode cX12_isKept 57 = .ok (.invokevirtual 184, 3) := by decide +kernel
theorem dX12_isKept_60 : decode cX12_isKept 60 = .ok (.ifCond .ne 17, 3) := by decide +kernel
theorem dX12_isKept_63 : decode cX12_isKept 63 = .ok (.aload_n 0, 1) := by decide +kernel
theorem dX12_isKept_64 : decode cX12_isKept 64 = .ok (.invokevirtual 187, 3) := by decide +kernel
theorem dX12_isKept_67 : decode cX12_isKept 67 = .ok (.ifCond .ne 10, 3) := by decide +kernel
theorem dX12_isKept_70 : decode cX12_isKept 70 = .ok (.aload_n 0, 1) := by decide +kernel
theorem dX12_isKept_71 : decode cX12_isKept 71 = .ok (.invokevirtual 190, 3) := by decide +kernel
theorem dX12_isKept_74 : decode cX12_isKept 74 = .ok (.ifCond .eq 5, 3) := by decide +kernel
theorem dX12_isKept_77 : decode cX12_isKept 77 = .ok (.iconst 1, 1) := by decide +kernel
theorem dX12_isKept_78 : decode cX12_isKept 78 = .ok (.ireturn, 1) := by decide +kernel
theorem dX12_isKept_79 : decode cX12_isKept 79 = .ok (.aload_n 0, 1) := by decide +kernel
theorem dX12_isKept_80 : decode cX12_isKept 80 = .ok (.invokevirtual 193, 3) := by decide +kernel
theorem dX12_isKept_83 : decode cX12_isKept 83 = .ok (.ifCond .ne 52, 3) := by decide +kernel
theorem dX12_isKept_86 : decode cX12_isKept 86 = .ok (.aload_n 0, 1) := by decide +kernel
theorem dX12_isKept_87 : decode cX12_isKept 87 = .ok (.invokevirtual 196, 3) := by decide +kernel
theorem dX12_isKept_90 : decode cX12_isKept 90 = .ok (.ifCond .ne 45, 3) := by decide +kernel
theorem dX12_isKept_93 : decode cX12_isKept 93 = .ok (.aload_n 0, 1) := by decide +kernel
theorem dX12_isKept_94 : decode cX12_isKept 94 = .ok (.invokevirtual 199, 3) := by decide +kernel
theorem dX12_isKept_97 : decode cX12_isKept 97 = .ok (.ifCond .ne 38, 3) := by decide +kernel
theorem dX12_isKept_100 : decode cX12_isKept 100 = .ok (.aload_n 0, 1) := by decide +kernel
theorem dX12_isKept_101 : decode cX12_isKept 101 = .ok (.invokevirtual 202, 3) := by decide +kernel
theorem dX12_isKept_104 : decode cX12_isKept 104 = .ok (.ifCond .ne 31, 3) := by decide +kernel
theorem dX12_isKept_107 : decode cX12_isKept 107 = .ok (.aload_n 0, 1) := by decide +kernel
theorem dX12_isKept_108 : decode cX12_isKept 108 = .ok (.invokevirtual 205, 3) := by decide +kernel
theorem dX12_isKept_111 : decode cX12_isKept 111 = .ok (.ifCond .ge 24, 3) := by decide +kernel
theorem dX12_isKept_114 : decode cX12_isKept 114 = .ok (.aload_n 0, 1) := by decide +kernel
theorem dX12_isKept_115 : decode cX12_isKept 115 = .ok (.invokevirtual 209, 3) := by decide +kernel
theorem dX12_isKept_118 : decode cX12_isKept 118 = .ok (.ifCond .ge 17, 3) := by decide +kernel
theorem dX12_isKept_121 : decode cX12_isKept 121 = .ok (.aload_n 0, 1) := by decide +kernel
theorem dX12_isKept_122 : decode cX12_isKept 122 = .ok (.invokevirtual 212, 3) := by decide +kernel
theorem dX12_isKept_125 : decode cX12_isKept 125 = .ok (.ifCond .ge 10, 3) := by decide +kernel
theorem dX12_isKept_128 : decode cX12_isKept 128 = .ok (.aload_n 0, 1) := by decide +kernel
theorem dX12_isKept_129 : decode cX12_isKept 129 = .ok (.invokevirtual 215, 3) := by decide +kernel
theorem dX12_isKept_132 : decode cX12_isKept 132 = .ok (.ifCond .eq 7, 3) := by decide +kernel
theorem dX12_isKept_135 : decode cX12_isKept 135 = .ok (.iconst 1, 1) := by decide +kernel
theorem dX12_isKept_136 : decode cX12_isKept 136 = .ok (.goto 4, 3) := by decide +kernel
theorem dX12_isKept_139 : decode cX12_isKept 139 = .ok (.iconst 0, 1) := by decide +kernel
theorem dX12_isKept_140 : decode cX12_isKept 140 = .ok (.ireturn, 1) := by decide +kernel
def j_X12_isKept : JD := (yX12_isKept, cX12_isKept, 1, (some .boolean))
def b_X12_isKept : BD := (3, 0, 0)
theorem mv_X12_isSign : MV j_X12_isSign 12 1 := ⟨⟨gw_at 1900 (by decide +kernel) rfl, gw_at 221 (by decide +kernel) rfl, ⟨by decide +kernel, by decide +kernel⟩, by decide +kernel, by decide, by decide +kernel⟩, ⟨_, rfl, rfl⟩, gw_at 1899 (by decide +kernel) rfl, gw_at 152 (by decide +kernel) rfl⟩
theorem ms_X12_spelled : MS j_X12_spelled 6 := ⟨⟨gw_at 1740 (by decide +kernel) rfl, gw_at 221 (by decide +kernel) rfl, ⟨by decide +kernel, by decide +kernel⟩, by decide +kernel, by decide, by decide +kernel⟩, gw_at 1739 (by decide +kernel) rfl⟩
theorem mv_X12_isWord : MV j_X12_isWord 12 1 := ⟨⟨gw_at 1744 (by decide +kernel) rfl, gw_at 221 (by decide +kernel) rfl, ⟨by decide +kernel, by decide +kernel⟩, by decide +kernel, by decide, by decide +kernel⟩, ⟨_, rfl, rfl⟩, gw_at 1743 (by decide +kernel) rfl, gw_at 114 (by decide +kernel) rfl⟩
theorem mv_X12_isHouse : MV j_X12_isHouse 12 0 := ⟨⟨gw_at 1737 (by decide +kernel) rfl, gw_at 221 (by decide +kernel) rfl, ⟨by decide +kernel, by decide +kernel⟩, by decide +kernel, by decide, by decide +kernel⟩, ⟨_, rfl, rfl⟩, gw_at 1736 (by decide +kernel) rfl, gw_at 113 (by decide +kernel) rfl⟩
theorem mv_X12_isAt : MV j_X12_isAt 12 0 := ⟨⟨gw_at 1768 (by decide +kernel) rfl, gw_at 221 (by decide +kernel) rfl, ⟨by decide +kernel, by decide +kernel⟩, by decide +kernel, by decide, by decide +kernel⟩, ⟨_, rfl, rfl⟩, gw_at 1767 (by decide +kernel) rfl, gw_at 120 (by decide +kernel) rfl⟩
theorem mv_X12_isWorth : MV j_X12_isWorth 12 0 := ⟨⟨gw_at 1828 (by decide +kernel) rfl, gw_at 221 (by decide +kernel) rfl, ⟨by decide +kernel, by decide +kernel⟩, by decide +kernel, by decide, by decide +kernel⟩, ⟨_, rfl, rfl⟩, gw_at 1827 (by decide +kernel) rfl, gw_at 135 (by decide +kernel) rfl⟩
theorem mv_X12_isPieces : MV j_X12_isPieces 12 0 := ⟨⟨gw_at 1772 (by decide +kernel) rfl, gw_at 221 (by decide +kernel) rfl, ⟨by decide +kernel, by decide +kernel⟩, by decide +kernel, by decide, by decide +kernel⟩, ⟨_, rfl, rfl⟩, gw_at 1771 (by decide +kernel) rfl, gw_at 121 (by decide +kernel) rfl⟩
theorem mv_X12_isWeight : MV j_X12_isWeight 12 0 := ⟨⟨gw_at 1776 (by decide +kernel) rfl, gw_at 221 (by decide +kernel) rfl, ⟨by decide +kernel, by decide +kernel⟩, by decide +kernel, by decide, by decide +kernel⟩, ⟨_, rfl, rfl⟩, gw_at 1775 (by decide +kernel) rfl, gw_at 122 (by decide +kernel) rfl⟩
theorem mv_X12_isLong : MV j_X12_isLong 12 0 := ⟨⟨gw_at 1780 (by decide +kernel) rfl, gw_at 221 (by decide +kernel) rfl, ⟨by decide +kernel, by decide +kernel⟩, by decide +kernel, by decide, by decide +kernel⟩, ⟨_, rfl, rfl⟩, gw_at 1779 (by decide +kernel) rfl, gw_at 123 (by decide +kernel) rfl⟩
theorem mv_X12_isPegs : MV j_X12_isPegs 12 0 := ⟨⟨gw_at 1784 (by decide +kernel) rfl, gw_at 221 (by decide +kernel) rfl, ⟨by decide +kernel, by decide +kernel⟩, by decide +kernel, by decide, by decide +kernel⟩, ⟨_, rfl, rfl⟩, gw_at 1783 (by decide +kernel) rfl, gw_at 124 (by decide +kernel) rfl⟩
theorem mv_X12_isGang : MV j_X12_isGang 12 0 := ⟨⟨gw_at 1788 (by decide +kernel) rfl, gw_at 221 (by decide +kernel) rfl, ⟨by decide +kernel, by decide +kernel⟩, by decide +kernel, by decide, by decide +kernel⟩, ⟨_, rfl, rfl⟩, gw_at 1787 (by decide +kernel) rfl, gw_at 125 (by decide +kernel) rfl⟩
theorem mv_X12_isHands : MV j_X12_isHands 12 0 := ⟨⟨gw_at 1792 (by decide +kernel) rfl, gw_at 221 (by decide +kernel) rfl, ⟨by decide +kernel, by decide +kernel⟩, by decide +kernel, by decide, by decide +kernel⟩, ⟨_, rfl, rfl⟩, gw_at 1791 (by decide +kernel) rfl, gw_at 126 (by decide +kernel) rfl⟩
theorem mv_X12_isPace : MV j_X12_isPace 12 0 := ⟨⟨gw_at 1796 (by decide +kernel) rfl, gw_at 221 (by decide +kernel) rfl, ⟨by decide +kernel, by decide +kernel⟩, by decide +kernel, by decide, by decide +kernel⟩, ⟨_, rfl, rfl⟩, gw_at 1795 (by decide +kernel) rfl, gw_at 127 (by decide +kernel) rfl⟩
theorem mv_X12_isHelped : MV j_X12_isHelped 12 0 := ⟨⟨gw_at 1800 (by decide +kernel) rfl, gw_at 221 (by decide +kernel) rfl, ⟨by decide +kernel, by decide +kernel⟩, by decide +kernel, by decide, by decide +kernel⟩, ⟨_, rfl, rfl⟩, gw_at 1799 (by decide +kernel) rfl, gw_at 128 (by decide +kernel) rfl⟩
theorem mv_X12_isBy : MV j_X12_isBy 12 0 := ⟨⟨gw_at 1804 (by decide +kernel) rfl, gw_at 221 (by decide +kernel) rfl, ⟨by decide +kernel, by decide +kernel⟩, by decide +kernel, by decide, by decide +kernel⟩, ⟨_, rfl, rfl⟩, gw_at 1803 (by decide +kernel) rfl, gw_at 129 (by decide +kernel) rfl⟩
theorem mv_X12_isWind : MV j_X12_isWind 12 0 := ⟨⟨gw_at 1808 (by decide +kernel) rfl, gw_at 221 (by decide +kernel) rfl, ⟨by decide +kernel, by decide +kernel⟩, by decide +kernel, by decide, by decide +kernel⟩, ⟨_, rfl, rfl⟩, gw_at 1807 (by decide +kernel) rfl, gw_at 130 (by decide +kernel) rfl⟩
theorem mv_X12_isOf : MV j_X12_isOf 12 0 := ⟨⟨gw_at 1812 (by decide +kernel) rfl, gw_at 221 (by decide +kernel) rfl, ⟨by decide +kernel, by decide +kernel⟩, by decide +kernel, by decide, by decide +kernel⟩, ⟨_, rfl, rfl⟩, gw_at 1811 (by decide +kernel) rfl, gw_at 131 (by decide +kernel) rfl⟩
theorem mv_X12_isLaw : MV j_X12_isLaw 12 0 := ⟨⟨gw_at 1816 (by decide +kernel) rfl, gw_at 221 (by decide +kernel) rfl, ⟨by decide +kernel, by decide +kernel⟩, by decide +kernel, by decide, by decide +kernel⟩, ⟨_, rfl, rfl⟩, gw_at 1815 (by decide +kernel) rfl, gw_at 132 (by decide +kernel) rfl⟩
theorem mv_X12_isWith : MV j_X12_isWith 12 0 := ⟨⟨gw_at 1820 (by decide +kernel) rfl, gw_at 221 (by decide +kernel) rfl, ⟨by decide +kernel, by decide +kernel⟩, by decide +kernel, by decide, by decide +kernel⟩, ⟨_, rfl, rfl⟩, gw_at 1819 (by decide +kernel) rfl, gw_at 133 (by decide +kernel) rfl⟩
theorem mv_X12_lawWord : MV j_X12_lawWord 12 0 := ⟨⟨gw_at 1824 (by decide +kernel) rfl, gw_at 221 (by decide +kernel) rfl, ⟨by decide +kernel, by decide +kernel⟩, by decide +kernel, by decide, by decide +kernel⟩, ⟨_, rfl, rfl⟩, gw_at 1823 (by decide +kernel) rfl, gw_at 134 (by decide +kernel) rfl⟩
theorem mv_X12_stepWord : MV j_X12_stepWord 12 0 := ⟨⟨gw_at 1832 (by decide +kernel) rfl, gw_at 221 (by decide +kernel) rfl, ⟨by decide +kernel, by decide +kernel⟩, by decide +kernel, by decide, by decide +kernel⟩, ⟨_, rfl, rfl⟩, gw_at 1831 (by decide +kernel) rfl, gw_at 136 (by decide +kernel) rfl⟩
theorem mv_X12_testWord : MV j_X12_testWord 12 0 := ⟨⟨gw_at 1836 (by decide +kernel) rfl, gw_at 221 (by decide +kernel) rfl, ⟨by decide +kernel, by decide +kernel⟩, by decide +kernel, by decide, by decide +kernel⟩, ⟨_, rfl, rfl⟩, gw_at 1835 (by decide +kernel) rfl, gw_at 137 (by decide +kernel) rfl⟩
theorem mv_X12_isEnd : MV j_X12_isEnd 12 0 := ⟨⟨gw_at 1840 (by decide +kernel) rfl, gw_at 221 (by decide +kernel) rfl, ⟨by decide +kernel, by decide +kernel⟩, by decide +kernel, by decide, by decide +kernel⟩, ⟨_, rfl, rfl⟩, gw_at 1839 (by decide +kernel) rfl, gw_at 138 (by decide +kernel) rfl⟩
theorem mv_X12_isKept : MV j_X12_isKept 12 0 := ⟨⟨gw_at 1764 (by decide +kernel) rfl, gw_at 221 (by decide +kernel) rfl, ⟨by decide +kernel, by decide +kernel⟩, by decide +kernel, by decide, by decide +kernel⟩, ⟨_, rfl, rfl⟩, gw_at 1763 (by decide +kernel) rfl, gw_at 119 (by decide +kernel) rfl⟩
theorem ml_X12_148 : MLk RX12 148 j_X12_spelled.1 := Or.inl (gw_at 1738 (by decide +kernel) rfl)
theorem ml_X12_152 : MLk RX12 152 j_X12_isWord.1 := Or.inl (gw_at 1741 (by decide +kernel) rfl)
theorem ml_X12_156 : MLk RX12 156 j_X12_isWorth.1 := Or.inl (gw_at 1825 (by decide +kernel) rfl)
theorem ml_X12_160 : MLk RX12 160 j_X12_isHouse.1 := Or.inl (gw_at 1734 (by decide +kernel) rfl)
theorem ml_X12_163 : MLk RX12 163 j_X12_isAt.1 := Or.inl (gw_at 1765 (by decide +kernel) rfl)
theorem ml_X12_166 : MLk RX12 166 j_X12_isPieces.1 := Or.inl (gw_at 1769 (by decide +kernel) rfl)
theorem ml_X12_169 : MLk RX12 169 j_X12_isWeight.1 := Or.inl (gw_at 1773 (by decide +kernel) rfl)
theorem ml_X12_172 : MLk RX12 172 j_X12_isLong.1 := Or.inl (gw_at 1777 (by decide +kernel) rfl)
theorem ml_X12_175 : MLk RX12 175 j_X12_isPegs.1 := Or.inl (gw_at 1781 (by decide +kernel) rfl)
theorem ml_X12_178 : MLk RX12 178 j_X12_isGang.1 := Or.inl (gw_at 1785 (by decide +kernel) rfl)
theorem ml_X12_181 : MLk RX12 181 j_X12_isHands.1 := Or.inl (gw_at 1789 (by decide +kernel) rfl)
theorem ml_X12_184 : MLk RX12 184 j_X12_isPace.1 := Or.inl (gw_at 1793 (by decide +kernel) rfl)
theorem ml_X12_187 : MLk RX12 187 j_X12_isHelped.1 := Or.inl (gw_at 1797 (by decide +kernel) rfl)
theorem ml_X12_190 : MLk RX12 190 j_X12_isBy.1 := Or.inl (gw_at 1801 (by decide +kernel) rfl)
theorem ml_X12_193 : MLk RX12 193 j_X12_isWind.1 := Or.inl (gw_at 1805 (by decide +kernel) rfl)
theorem ml_X12_196 : MLk RX12 196 j_X12_isOf.1 := Or.inl (gw_at 1809 (by decide +kernel) rfl)
theorem ml_X12_199 : MLk RX12 199 j_X12_isLaw.1 := Or.inl (gw_at 1813 (by decide +kernel) rfl)
theorem ml_X12_202 : MLk RX12 202 j_X12_isWith.1 := Or.inl (gw_at 1817 (by decide +kernel) rfl)
theorem ml_X12_205 : MLk RX12 205 j_X12_lawWord.1 := Or.inl (gw_at 1821 (by decide +kernel) rfl)
theorem ml_X12_209 : MLk RX12 209 j_X12_stepWord.1 := Or.inl (gw_at 1829 (by decide +kernel) rfl)
theorem ml_X12_212 : MLk RX12 212 j_X12_testWord.1 := Or.inl (gw_at 1833 (by decide +kernel) rfl)
theorem ml_X12_215 : MLk RX12 215 j_X12_isEnd.1 := Or.inl (gw_at 1837 (by decide +kernel) rfl)
def g_X12_isSign (M : Mm) (l0 : Option Nat) (l1 : Int32) : Option (Int32 × Mm) := gfI M l0 12 14 fun v1 => if v1 = 3 then (gfI M l0 12 17 fun v9 => if v9 = l1 then (some (1, M)) else (some (0, M))) else (some (0, M))
def f_X12_isSign (M : Mm) (l0 : Option Nat) (l1 : Int32) : Option (Int32 × Mm) := zc (g_X12_isSign M l0 l1)
set_option maxHeartbeats 4000000 in
set_option maxRecDepth 100000 in
theorem t_X12_isSign_e {G : GG} {X : CX} {ans : Int32 × Mm} (he : EndI G X j_X12_isSign b_X12_isSign ans) {M : Mm} {l0 : Option Nat} {l1 : Int32} (h : g_X12_isSign M l0 l1 = some ans) : Wt G X j_X12_isSign b_X12_isSign 0 [(0, rf G.1 l0), (1, .int l1)] [] M 0 0 := by
  unfold g_X12_isSign at h
  refine wt_aload_n (pc := 0) 0 dX12_isSign_0 rfl ?_
  refine wt_getI (pc := 1) dX12_isSign_1 fl_X12_123 (fun _ _ _ => rfl) h (fun v1 h => ?_)
  refine wt_iconst (pc := 4) (v := 3) dX12_isSign_4 (by decide) ?_
  refine wt_icmp_ne (pc := 5) (tgt := 20) dX12_isSign_5 (by decide) (fun q => ?_) (fun q => ?_)
  · have h := ite_f q h
    refine wt_iconst (pc := 20) (v := 0) dX12_isSign_20 (by decide) ?_
    cases h
    exact he 21 _ _ _ dX12_isSign_21 (by decide) (by decide)
  · have h := ite_t q h
    refine wt_aload_n (pc := 8) 0 dX12_isSign_8 rfl ?_
    refine wt_getI (pc := 9) dX12_isSign_9 fl_X12_142 (fun _ _ _ => rfl) h (fun v9 h => ?_)
    refine wt_iload_n (pc := 12) 1 dX12_isSign_12 rfl ?_
    refine wt_icmp_ne (pc := 13) (tgt := 20) dX12_isSign_13 (by decide) (fun q => ?_) (fun q => ?_)
    · have h := ite_f q h
      refine wt_iconst (pc := 20) (v := 0) dX12_isSign_20 (by decide) ?_
      cases h
      exact he 21 _ _ _ dX12_isSign_21 (by decide) (by decide)
    · have h := ite_t q h
      refine wt_iconst (pc := 16) (v := 1) dX12_isSign_16 (by decide) ?_
      refine wt_goto (pc := 17) (tgt := 21) dX12_isSign_17 (by decide) ?_
      cases h
      exact he 21 _ _ _ dX12_isSign_21 (by decide) (by decide)
set_option maxHeartbeats 4000000 in
set_option maxRecDepth 100000 in
theorem c_X12_isSign {G : GG} {M : Mm} {l0 : Option Nat} {l1 : Int32} {r : Int32 × Mm} (h : f_X12_isSign M l0 l1 = some r) (l : Launch) : Ct l G j_X12_isSign b_X12_isSign [rf G.1 l0, .int l1] M (some (.int r.1)) r.2 := cf_Z h (by decide +kernel) (by simp [lg_sl, rf_cat, cat_i, cat_l, j_X12_isSign]) rfl (by simp [lv_args, rf_cat, cat_i, cat_l]) (fun h X he => t_X12_isSign_e he h)
def f_X12_spelled_91 (M : Mm) (l5 : Int32) (s0 : Int64) : Option (Int64 × Mm) := if l5 ≤ 0 then (some (s0, M)) else (some ((((s0 * 32) + (Int32.toInt64 l5)) - 96), M))
def f_X12_spelled_65 (M : Mm) (l4 : Int32) (l5 : Int32) (s0 : Int64) : Option (Int64 × Mm) := if l4 ≤ 0 then (f_X12_spelled_91  M l5 s0) else (f_X12_spelled_91  M l5 (((s0 * 32) + (Int32.toInt64 l4)) - 96))
def f_X12_spelled_41 (M : Mm) (l3 : Int32) (l4 : Int32) (l5 : Int32) (s0 : Int64) : Option (Int64 × Mm) := if l3 ≤ 0 then (f_X12_spelled_65  M l4 l5 s0) else (f_X12_spelled_65  M l4 l5 (((s0 * 32) + (Int32.toInt64 l3)) - 96))
def f_X12_spelled (M : Mm) (l0 : Int32) (l1 : Int32) (l2 : Int32) (l3 : Int32) (l4 : Int32) (l5 : Int32) : Option (Int64 × Mm) := nmL (((((Int32.toInt64 l0) - 96) * 32) + (Int32.toInt64 l1)) - 96) fun x17 => if l2 ≤ 0 then (f_X12_spelled_41  M l3 l4 l5 x17) else (f_X12_spelled_41  M l3 l4 l5 (((x17 * 32) + (Int32.toInt64 l2)) - 96))
set_option maxHeartbeats 4000000 in
set_option maxRecDepth 100000 in
theorem t_X12_spelled_91 {G : GG} {X : CX} {ans : Int64 × Mm} (he : EndL G X j_X12_spelled b_X12_spelled ans) {M : Mm} {l5 : Int32} {s0 : Int64} (h : f_X12_spelled_91 M l5 s0 = some ans) : Wt G X j_X12_spelled b_X12_spelled 91 [(5, .int l5)] [.long s0] M 0 0 := by
  unfold f_X12_spelled_91 at h
  refine wt_lstore (pc := 91) (i := 6) (ls' := [(6, .long s0), (5, .int l5)]) dX12_spelled_91 (by decide) rfl ?_
  refine wt_iload (pc := 93) 1 dX12_spelled_93 rfl ?_
  refine wt_if_le (pc := 95) (tgt := 115) dX12_spelled_95 (by decide) (fun q => ?_) (fun q => ?_)
  · have h := ite_t q h
    refine wt_lload (pc := 115) 0 dX12_spelled_115 rfl ?_
    cases h
    exact he 117 _ _ _ dX12_spelled_117 (by decide) (by decide)
  · have h := ite_f q h
    refine wt_lload (pc := 98) 0 dX12_spelled_98 rfl ?_
    refine wt_ldc2 (pc := 100) dX12_spelled_100 kc_X12_132 ?_
    refine wt_lmul (pc := 103) dX12_spelled_103 ?_
    refine wt_iload (pc := 104) 1 dX12_spelled_104 rfl ?_
    refine wt_i2l (pc := 106) dX12_spelled_106 ?_
    refine wt_ladd (pc := 107) dX12_spelled_107 ?_
    refine wt_ldc2 (pc := 108) dX12_spelled_108 kc_X12_134 ?_
    refine wt_lsub (pc := 111) dX12_spelled_111 ?_
    refine wt_goto (pc := 112) (tgt := 117) dX12_spelled_112 (by decide) ?_
    cases h
    exact he 117 _ _ _ dX12_spelled_117 (by decide) (by decide)
set_option maxHeartbeats 4000000 in
set_option maxRecDepth 100000 in
theorem t_X12_spelled_65 {G : GG} {X : CX} {ans : Int64 × Mm} (he : EndL G X j_X12_spelled b_X12_spelled ans) {M : Mm} {l4 : Int32} {l5 : Int32} {s0 : Int64} (h : f_X12_spelled_65 M l4 l5 s0 = some ans) : Wt G X j_X12_spelled b_X12_spelled 65 [(4, .int l4), (5, .int l5)] [.long s0] M 0 0 := by
  unfold f_X12_spelled_65 at h
  refine wt_lstore (pc := 65) (i := 6) (ls' := [(6, .long s0), (4, .int l4), (5, .int l5)]) dX12_spelled_65 (by decide) rfl ?_
  refine wt_iload (pc := 67) 1 dX12_spelled_67 rfl ?_
  refine wt_if_le (pc := 69) (tgt := 89) dX12_spelled_69 (by decide) (fun q => ?_) (fun q => ?_)
  · have h := ite_t q h
    refine wt_lload (pc := 89) 0 dX12_spelled_89 rfl ?_
    refine wt_sub (ls' := [(5, .int l5)]) [2] rfl ?_
    exact t_X12_spelled_91 he  h
  · have h := ite_f q h
    refine wt_lload (pc := 72) 0 dX12_spelled_72 rfl ?_
    refine wt_ldc2 (pc := 74) dX12_spelled_74 kc_X12_132 ?_
    refine wt_lmul (pc := 77) dX12_spelled_77 ?_
    refine wt_iload (pc := 78) 1 dX12_spelled_78 rfl ?_
    refine wt_i2l (pc := 80) dX12_spelled_80 ?_
    refine wt_ladd (pc := 81) dX12_spelled_81 ?_
    refine wt_ldc2 (pc := 82) dX12_spelled_82 kc_X12_134 ?_
    refine wt_lsub (pc := 85) dX12_spelled_85 ?_
    refine wt_goto (pc := 86) (tgt := 91) dX12_spelled_86 (by decide) ?_
    refine wt_sub (ls' := [(5, .int l5)]) [2] rfl ?_
    exact t_X12_spelled_91 he  h
set_option maxHeartbeats 4000000 in
set_option maxRecDepth 100000 in
theorem t_X12_spelled_41 {G : GG} {X : CX} {ans : Int64 × Mm} (he : EndL G X j_X12_spelled b_X12_spelled ans) {M : Mm} {l3 : Int32} {l4 : Int32} {l5 : Int32} {s0 : Int64} (h : f_X12_spelled_41 M l3 l4 l5 s0 = some ans) : Wt G X j_X12_spelled b_X12_spelled 41 [(3, .int l3), (4, .int l4), (5, .int l5)] [.long s0] M 0 0 := by
  unfold f_X12_spelled_41 at h
  refine wt_lstore (pc := 41) (i := 6) (ls' := [(6, .long s0), (3, .int l3), (4, .int l4), (5, .int l5)]) dX12_spelled_41 (by decide) rfl ?_
  refine wt_iload_n (pc := 43) 1 dX12_spelled_43 rfl ?_
  refine wt_if_le (pc := 44) (tgt := 63) dX12_spelled_44 (by decide) (fun q => ?_) (fun q => ?_)
  · have h := ite_t q h
    refine wt_lload (pc := 63) 0 dX12_spelled_63 rfl ?_
    refine wt_sub (ls' := [(4, .int l4), (5, .int l5)]) [2, 3] rfl ?_
    exact t_X12_spelled_65 he  h
  · have h := ite_f q h
    refine wt_lload (pc := 47) 0 dX12_spelled_47 rfl ?_
    refine wt_ldc2 (pc := 49) dX12_spelled_49 kc_X12_132 ?_
    refine wt_lmul (pc := 52) dX12_spelled_52 ?_
    refine wt_iload_n (pc := 53) 1 dX12_spelled_53 rfl ?_
    refine wt_i2l (pc := 54) dX12_spelled_54 ?_
    refine wt_ladd (pc := 55) dX12_spelled_55 ?_
    refine wt_ldc2 (pc := 56) dX12_spelled_56 kc_X12_134 ?_
    refine wt_lsub (pc := 59) dX12_spelled_59 ?_
    refine wt_goto (pc := 60) (tgt := 65) dX12_spelled_60 (by decide) ?_
    refine wt_sub (ls' := [(4, .int l4), (5, .int l5)]) [2, 3] rfl ?_
    exact t_X12_spelled_65 he  h
set_option maxHeartbeats 4000000 in
set_option maxRecDepth 100000 in
theorem t_X12_spelled_e {G : GG} {X : CX} {ans : Int64 × Mm} (he : EndL G X j_X12_spelled b_X12_spelled ans) {M : Mm} {l0 : Int32} {l1 : Int32} {l2 : Int32} {l3 : Int32} {l4 : Int32} {l5 : Int32} (h : f_X12_spelled M l0 l1 l2 l3 l4 l5 = some ans) : Wt G X j_X12_spelled b_X12_spelled 0 [(0, .int l0), (1, .int l1), (2, .int l2), (3, .int l3), (4, .int l4), (5, .int l5)] [] M 0 0 := by
  unfold f_X12_spelled at h
  refine wt_iload_n (pc := 0) 0 dX12_spelled_0 rfl ?_
  refine wt_i2l (pc := 1) dX12_spelled_1 ?_
  refine wt_ldc2 (pc := 2) dX12_spelled_2 kc_X12_134 ?_
  refine wt_lsub (pc := 5) dX12_spelled_5 ?_
  refine wt_ldc2 (pc := 6) dX12_spelled_6 kc_X12_132 ?_
  refine wt_lmul (pc := 9) dX12_spelled_9 ?_
  refine wt_iload_n (pc := 10) 1 dX12_spelled_10 rfl ?_
  refine wt_i2l (pc := 11) dX12_spelled_11 ?_
  refine wt_ladd (pc := 12) dX12_spelled_12 ?_
  refine wt_ldc2 (pc := 13) dX12_spelled_13 kc_X12_134 ?_
  refine wt_lsub (pc := 16) dX12_spelled_16 ?_
  refine wt_nmL h (fun x17 h => ?_)
  refine wt_lstore (pc := 17) (i := 6) (ls' := [(6, .long x17), (0, .int l0), (1, .int l1), (2, .int l2), (3, .int l3), (4, .int l4), (5, .int l5)]) dX12_spelled_17 (by decide) rfl ?_
  refine wt_iload_n (pc := 19) 3 dX12_spelled_19 rfl ?_
  refine wt_if_le (pc := 20) (tgt := 39) dX12_spelled_20 (by decide) (fun q => ?_) (fun q => ?_)
  · have h := ite_t q h
    refine wt_lload (pc := 39) 0 dX12_spelled_39 rfl ?_
    refine wt_sub (ls' := [(3, .int l3), (4, .int l4), (5, .int l5)]) [4, 5, 6] rfl ?_
    exact t_X12_spelled_41 he  h
  · have h := ite_f q h
    refine wt_lload (pc := 23) 0 dX12_spelled_23 rfl ?_
    refine wt_ldc2 (pc := 25) dX12_spelled_25 kc_X12_132 ?_
    refine wt_lmul (pc := 28) dX12_spelled_28 ?_
    refine wt_iload_n (pc := 29) 3 dX12_spelled_29 rfl ?_
    refine wt_i2l (pc := 30) dX12_spelled_30 ?_
    refine wt_ladd (pc := 31) dX12_spelled_31 ?_
    refine wt_ldc2 (pc := 32) dX12_spelled_32 kc_X12_134 ?_
    refine wt_lsub (pc := 35) dX12_spelled_35 ?_
    refine wt_goto (pc := 36) (tgt := 41) dX12_spelled_36 (by decide) ?_
    refine wt_sub (ls' := [(3, .int l3), (4, .int l4), (5, .int l5)]) [4, 5, 6] rfl ?_
    exact t_X12_spelled_41 he  h
set_option maxHeartbeats 4000000 in
set_option maxRecDepth 100000 in
theorem c_X12_spelled {G : GG} {M : Mm} {l0 : Int32} {l1 : Int32} {l2 : Int32} {l3 : Int32} {l4 : Int32} {l5 : Int32} {r : Int64 × Mm} (h : f_X12_spelled M l0 l1 l2 l3 l4 l5 = some r) (l : Launch) : Ct l G j_X12_spelled b_X12_spelled [.int l0, .int l1, .int l2, .int l3, .int l4, .int l5] M (some (.long r.1)) r.2 := cf_L (by decide +kernel) (by simp [lg_sl, rf_cat, cat_i, cat_l, j_X12_spelled]) rfl (by simp [lv_args, rf_cat, cat_i, cat_l]) (fun X he => t_X12_spelled_e he h)
def g_X12_isWord (M : Mm) (l0 : Option Nat) (l1 : Int64) : Option (Int32 × Mm) := gfI M l0 12 14 fun v1 => if v1 = 1 then (gfL M l0 12 19 fun v9 => if (lg_cmp v9 l1) = 0 then (some (1, M)) else (some (0, M))) else (some (0, M))
def f_X12_isWord (M : Mm) (l0 : Option Nat) (l1 : Int64) : Option (Int32 × Mm) := zc (g_X12_isWord M l0 l1)
set_option maxHeartbeats 4000000 in
set_option maxRecDepth 100000 in
theorem t_X12_isWord_e {G : GG} {X : CX} {ans : Int32 × Mm} (he : EndI G X j_X12_isWord b_X12_isWord ans) {M : Mm} {l0 : Option Nat} {l1 : Int64} (h : g_X12_isWord M l0 l1 = some ans) : Wt G X j_X12_isWord b_X12_isWord 0 [(0, rf G.1 l0), (1, .long l1)] [] M 0 0 := by
  unfold g_X12_isWord at h
  refine wt_aload_n (pc := 0) 0 dX12_isWord_0 rfl ?_
  refine wt_getI (pc := 1) dX12_isWord_1 fl_X12_123 (fun _ _ _ => rfl) h (fun v1 h => ?_)
  refine wt_iconst (pc := 4) (v := 1) dX12_isWord_4 (by decide) ?_
  refine wt_icmp_ne (pc := 5) (tgt := 21) dX12_isWord_5 (by decide) (fun q => ?_) (fun q => ?_)
  · have h := ite_f q h
    refine wt_iconst (pc := 21) (v := 0) dX12_isWord_21 (by decide) ?_
    cases h
    exact he 22 _ _ _ dX12_isWord_22 (by decide) (by decide)
  · have h := ite_t q h
    refine wt_aload_n (pc := 8) 0 dX12_isWord_8 rfl ?_
    refine wt_getL (pc := 9) dX12_isWord_9 fl_X12_129 (fun _ _ _ => rfl) h (fun v9 h => ?_)
    refine wt_lload_n (pc := 12) 1 dX12_isWord_12 rfl ?_
    refine wt_lcmp (pc := 13) dX12_isWord_13 ?_
    refine wt_if_ne (pc := 14) (tgt := 21) dX12_isWord_14 (by decide) (fun q => ?_) (fun q => ?_)
    · have h := ite_f q h
      refine wt_iconst (pc := 21) (v := 0) dX12_isWord_21 (by decide) ?_
      cases h
      exact he 22 _ _ _ dX12_isWord_22 (by decide) (by decide)
    · have h := ite_t q h
      refine wt_iconst (pc := 17) (v := 1) dX12_isWord_17 (by decide) ?_
      refine wt_goto (pc := 18) (tgt := 22) dX12_isWord_18 (by decide) ?_
      cases h
      exact he 22 _ _ _ dX12_isWord_22 (by decide) (by decide)
set_option maxHeartbeats 4000000 in
set_option maxRecDepth 100000 in
theorem c_X12_isWord {G : GG} {M : Mm} {l0 : Option Nat} {l1 : Int64} {r : Int32 × Mm} (h : f_X12_isWord M l0 l1 = some r) (l : Launch) : Ct l G j_X12_isWord b_X12_isWord [rf G.1 l0, .long l1] M (some (.int r.1)) r.2 := cf_Z h (by decide +kernel) (by simp [lg_sl, rf_cat, cat_i, cat_l, j_X12_isWord]) rfl (by simp [lv_args, rf_cat, cat_i, cat_l]) (fun h X he => t_X12_isWord_e he h)
def g_X12_isHouse (M : Mm) (l0 : Option Nat) : Option (Int32 × Mm) := bd (f_X12_spelled M 104 111 117 115 101 0) fun v12 M12 => ck M12 l0 12 <| bd (f_X12_isWord M12 l0 v12) fun v15 M15 => some (v15, M15)
def f_X12_isHouse (M : Mm) (l0 : Option Nat) : Option (Int32 × Mm) := zc (g_X12_isHouse M l0)
set_option maxHeartbeats 4000000 in
set_option maxRecDepth 100000 in
theorem t_X12_isHouse_e {G : GG} {X : CX} {ans : Int32 × Mm} (he : EndI G X j_X12_isHouse b_X12_isHouse ans) {M : Mm} {l0 : Option Nat} (h : g_X12_isHouse M l0 = some ans) : Wt G X j_X12_isHouse b_X12_isHouse 0 [(0, rf G.1 l0)] [] M 0 0 := by
  unfold g_X12_isHouse at h
  refine wt_aload_n (pc := 0) 0 dX12_isHouse_0 rfl ?_
  refine wt_bipush (pc := 1) (v := 104) dX12_isHouse_1 (by decide) ?_
  refine wt_bipush (pc := 3) (v := 111) dX12_isHouse_3 (by decide) ?_
  refine wt_bipush (pc := 5) (v := 117) dX12_isHouse_5 (by decide) ?_
  refine wt_bipush (pc := 7) (v := 115) dX12_isHouse_7 (by decide) ?_
  refine wt_bipush (pc := 9) (v := 101) dX12_isHouse_9 (by decide) ?_
  refine wt_iconst (pc := 11) (v := 0) dX12_isHouse_11 (by decide) ?_
  refine wt_cSL (pc := 12) (J' := j_X12_spelled) (As := [.int 104, .int 111, .int 117, .int 115, .int 101, .int 0]) (st := [rf G.1 l0]) (B' := b_X12_spelled) (u' := 0) (w' := 0) dX12_isHouse_12 ml_X12_148 ms_X12_spelled (fun v9 M9 e9 => c_X12_spelled e9) rfl (by decide) rfl rfl (by decide) (by decide) (by simp [rf_cat, cat_i, cat_l, cat_r]) rfl h (fun v12 M12 h => ?_)
  refine wt_cVI (pc := 15) (J' := j_X12_isWord) (As := [.long v12]) (st := []) (B' := b_X12_isWord) (u' := 0) (w' := 0) dX12_isHouse_15 ml_X12_152 mv_X12_isWord (fun v9 M9 e9 => c_X12_isWord e9) rfl (by decide) rfl rfl (by decide) (by decide) (by decide) rfl h (fun v15 M15 h => ?_)
  cases h
  exact he 18 _ _ _ dX12_isHouse_18 (by decide) (by decide)
set_option maxHeartbeats 4000000 in
set_option maxRecDepth 100000 in
theorem c_X12_isHouse {G : GG} {M : Mm} {l0 : Option Nat} {r : Int32 × Mm} (h : f_X12_isHouse M l0 = some r) (l : Launch) : Ct l G j_X12_isHouse b_X12_isHouse [rf G.1 l0] M (some (.int r.1)) r.2 := cf_Z h (by decide +kernel) (by simp [lg_sl, rf_cat, cat_i, cat_l, j_X12_isHouse]) rfl (by simp [lv_args, rf_cat, cat_i, cat_l]) (fun h X he => t_X12_isHouse_e he h)
def g_X12_isAt (M : Mm) (l0 : Option Nat) : Option (Int32 × Mm) := bd (f_X12_spelled M 97 116 0 0 0 0) fun v9 M9 => ck M9 l0 12 <| bd (f_X12_isWord M9 l0 v9) fun v12 M12 => some (v12, M12)
def f_X12_isAt (M : Mm) (l0 : Option Nat) : Option (Int32 × Mm) := zc (g_X12_isAt M l0)
set_option maxHeartbeats 4000000 in
set_option maxRecDepth 100000 in
theorem t_X12_isAt_e {G : GG} {X : CX} {ans : Int32 × Mm} (he : EndI G X j_X12_isAt b_X12_isAt ans) {M : Mm} {l0 : Option Nat} (h : g_X12_isAt M l0 = some ans) : Wt G X j_X12_isAt b_X12_isAt 0 [(0, rf G.1 l0)] [] M 0 0 := by
  unfold g_X12_isAt at h
  refine wt_aload_n (pc := 0) 0 dX12_isAt_0 rfl ?_
  refine wt_bipush (pc := 1) (v := 97) dX12_isAt_1 (by decide) ?_
  refine wt_bipush (pc := 3) (v := 116) dX12_isAt_3 (by decide) ?_
  refine wt_iconst (pc := 5) (v := 0) dX12_isAt_5 (by decide) ?_
  refine wt_iconst (pc := 6) (v := 0) dX12_isAt_6 (by decide) ?_
  refine wt_iconst (pc := 7) (v := 0) dX12_isAt_7 (by decide) ?_
  refine wt_iconst (pc := 8) (v := 0) dX12_isAt_8 (by decide) ?_
  refine wt_cSL (pc := 9) (J' := j_X12_spelled) (As := [.int 97, .int 116, .int 0, .int 0, .int 0, .int 0]) (st := [rf G.1 l0]) (B' := b_X12_spelled) (u' := 0) (w' := 0) dX12_isAt_9 ml_X12_148 ms_X12_spelled (fun v9 M9 e9 => c_X12_spelled e9) rfl (by decide) rfl rfl (by decide) (by decide) (by simp [rf_cat, cat_i, cat_l, cat_r]) rfl h (fun v9 M9 h => ?_)
  refine wt_cVI (pc := 12) (J' := j_X12_isWord) (As := [.long v9]) (st := []) (B' := b_X12_isWord) (u' := 0) (w' := 0) dX12_isAt_12 ml_X12_152 mv_X12_isWord (fun v9 M9 e9 => c_X12_isWord e9) rfl (by decide) rfl rfl (by decide) (by decide) (by decide) rfl h (fun v12 M12 h => ?_)
  cases h
  exact he 15 _ _ _ dX12_isAt_15 (by decide) (by decide)
set_option maxHeartbeats 4000000 in
set_option maxRecDepth 100000 in
theorem c_X12_isAt {G : GG} {M : Mm} {l0 : Option Nat} {r : Int32 × Mm} (h : f_X12_isAt M l0 = some r) (l : Launch) : Ct l G j_X12_isAt b_X12_isAt [rf G.1 l0] M (some (.int r.1)) r.2 := cf_Z h (by decide +kernel) (by simp [lg_sl, rf_cat, cat_i, cat_l, j_X12_isAt]) rfl (by simp [lv_args, rf_cat, cat_i, cat_l]) (fun h X he => t_X12_isAt_e he h)
def g_X12_isWorth (M : Mm) (l0 : Option Nat) : Option (Int32 × Mm) := bd (f_X12_spelled M 119 111 114 116 104 0) fun v12 M12 => ck M12 l0 12 <| bd (f_X12_isWord M12 l0 v12) fun v15 M15 => some (v15, M15)
def f_X12_isWorth (M : Mm) (l0 : Option Nat) : Option (Int32 × Mm) := zc (g_X12_isWorth M l0)
set_option maxHeartbeats 4000000 in
set_option maxRecDepth 100000 in
theorem t_X12_isWorth_e {G : GG} {X : CX} {ans : Int32 × Mm} (he : EndI G X j_X12_isWorth b_X12_isWorth ans) {M : Mm} {l0 : Option Nat} (h : g_X12_isWorth M l0 = some ans) : Wt G X j_X12_isWorth b_X12_isWorth 0 [(0, rf G.1 l0)] [] M 0 0 := by
  unfold g_X12_isWorth at h
  refine wt_aload_n (pc := 0) 0 dX12_isWorth_0 rfl ?_
  refine wt_bipush (pc := 1) (v := 119) dX12_isWorth_1 (by decide) ?_
  refine wt_bipush (pc := 3) (v := 111) dX12_isWorth_3 (by decide) ?_
  refine wt_bipush (pc := 5) (v := 114) dX12_isWorth_5 (by decide) ?_
  refine wt_bipush (pc := 7) (v := 116) dX12_isWorth_7 (by decide) ?_
  refine wt_bipush (pc := 9) (v := 104) dX12_isWorth_9 (by decide) ?_
  refine wt_iconst (pc := 11) (v := 0) dX12_isWorth_11 (by decide) ?_
  refine wt_cSL (pc := 12) (J' := j_X12_spelled) (As := [.int 119, .int 111, .int 114, .int 116, .int 104, .int 0]) (st := [rf G.1 l0]) (B' := b_X12_spelled) (u' := 0) (w' := 0) dX12_isWorth_12 ml_X12_148 ms_X12_spelled (fun v9 M9 e9 => c_X12_spelled e9) rfl (by decide) rfl rfl (by decide) (by decide) (by simp [rf_cat, cat_i, cat_l, cat_r]) rfl h (fun v12 M12 h => ?_)
  refine wt_cVI (pc := 15) (J' := j_X12_isWord) (As := [.long v12]) (st := []) (B' := b_X12_isWord) (u' := 0) (w' := 0) dX12_isWorth_15 ml_X12_152 mv_X12_isWord (fun v9 M9 e9 => c_X12_isWord e9) rfl (by decide) rfl rfl (by decide) (by decide) (by decide) rfl h (fun v15 M15 h => ?_)
  cases h
  exact he 18 _ _ _ dX12_isWorth_18 (by decide) (by decide)
set_option maxHeartbeats 4000000 in
set_option maxRecDepth 100000 in
theorem c_X12_isWorth {G : GG} {M : Mm} {l0 : Option Nat} {r : Int32 × Mm} (h : f_X12_isWorth M l0 = some r) (l : Launch) : Ct l G j_X12_isWorth b_X12_isWorth [rf G.1 l0] M (some (.int r.1)) r.2 := cf_Z h (by decide +kernel) (by simp [lg_sl, rf_cat, cat_i, cat_l, j_X12_isWorth]) rfl (by simp [lv_args, rf_cat, cat_i, cat_l]) (fun h X he => t_X12_isWorth_e he h)
def g_X12_isPieces (M : Mm) (l0 : Option Nat) : Option (Int32 × Mm) := bd (f_X12_spelled M 112 105 101 99 101 115) fun v13 M13 => ck M13 l0 12 <| bd (f_X12_isWord M13 l0 v13) fun v16 M16 => some (v16, M16)
def f_X12_isPieces (M : Mm) (l0 : Option Nat) : Option (Int32 × Mm) := zc (g_X12_isPieces M l0)
set_option maxHeartbeats 4000000 in
set_option maxRecDepth 100000 in
theorem t_X12_isPieces_e {G : GG} {X : CX} {ans : Int32 × Mm} (he : EndI G X j_X12_isPieces b_X12_isPieces ans) {M : Mm} {l0 : Option Nat} (h : g_X12_isPieces M l0 = some ans) : Wt G X j_X12_isPieces b_X12_isPieces 0 [(0, rf G.1 l0)] [] M 0 0 := by
  unfold g_X12_isPieces at h
  refine wt_aload_n (pc := 0) 0 dX12_isPieces_0 rfl ?_
  refine wt_bipush (pc := 1) (v := 112) dX12_isPieces_1 (by decide) ?_
  refine wt_bipush (pc := 3) (v := 105) dX12_isPieces_3 (by decide) ?_
  refine wt_bipush (pc := 5) (v := 101) dX12_isPieces_5 (by decide) ?_
  refine wt_bipush (pc := 7) (v := 99) dX12_isPieces_7 (by decide) ?_
  refine wt_bipush (pc := 9) (v := 101) dX12_isPieces_9 (by decide) ?_
  refine wt_bipush (pc := 11) (v := 115) dX12_isPieces_11 (by decide) ?_
  refine wt_cSL (pc := 13) (J' := j_X12_spelled) (As := [.int 112, .int 105, .int 101, .int 99, .int 101, .int 115]) (st := [rf G.1 l0]) (B' := b_X12_spelled) (u' := 0) (w' := 0) dX12_isPieces_13 ml_X12_148 ms_X12_spelled (fun v9 M9 e9 => c_X12_spelled e9) rfl (by decide) rfl rfl (by decide) (by decide) (by simp [rf_cat, cat_i, cat_l, cat_r]) rfl h (fun v13 M13 h => ?_)
  refine wt_cVI (pc := 16) (J' := j_X12_isWord) (As := [.long v13]) (st := []) (B' := b_X12_isWord) (u' := 0) (w' := 0) dX12_isPieces_16 ml_X12_152 mv_X12_isWord (fun v9 M9 e9 => c_X12_isWord e9) rfl (by decide) rfl rfl (by decide) (by decide) (by decide) rfl h (fun v16 M16 h => ?_)
  cases h
  exact he 19 _ _ _ dX12_isPieces_19 (by decide) (by decide)
set_option maxHeartbeats 4000000 in
set_option maxRecDepth 100000 in
theorem c_X12_isPieces {G : GG} {M : Mm} {l0 : Option Nat} {r : Int32 × Mm} (h : f_X12_isPieces M l0 = some r) (l : Launch) : Ct l G j_X12_isPieces b_X12_isPieces [rf G.1 l0] M (some (.int r.1)) r.2 := cf_Z h (by decide +kernel) (by simp [lg_sl, rf_cat, cat_i, cat_l, j_X12_isPieces]) rfl (by simp [lv_args, rf_cat, cat_i, cat_l]) (fun h X he => t_X12_isPieces_e he h)
def g_X12_isWeight (M : Mm) (l0 : Option Nat) : Option (Int32 × Mm) := bd (f_X12_spelled M 119 101 105 103 104 116) fun v13 M13 => ck M13 l0 12 <| bd (f_X12_isWord M13 l0 v13) fun v16 M16 => some (v16, M16)
def f_X12_isWeight (M : Mm) (l0 : Option Nat) : Option (Int32 × Mm) := zc (g_X12_isWeight M l0)
set_option maxHeartbeats 4000000 in
set_option maxRecDepth 100000 in
theorem t_X12_isWeight_e {G : GG} {X : CX} {ans : Int32 × Mm} (he : EndI G X j_X12_isWeight b_X12_isWeight ans) {M : Mm} {l0 : Option Nat} (h : g_X12_isWeight M l0 = some ans) : Wt G X j_X12_isWeight b_X12_isWeight 0 [(0, rf G.1 l0)] [] M 0 0 := by
  unfold g_X12_isWeight at h
  refine wt_aload_n (pc := 0) 0 dX12_isWeight_0 rfl ?_
  refine wt_bipush (pc := 1) (v := 119) dX12_isWeight_1 (by decide) ?_
  refine wt_bipush (pc := 3) (v := 101) dX12_isWeight_3 (by decide) ?_
  refine wt_bipush (pc := 5) (v := 105) dX12_isWeight_5 (by decide) ?_
  refine wt_bipush (pc := 7) (v := 103) dX12_isWeight_7 (by decide) ?_
  refine wt_bipush (pc := 9) (v := 104) dX12_isWeight_9 (by decide) ?_
  refine wt_bipush (pc := 11) (v := 116) dX12_isWeight_11 (by decide) ?_
  refine wt_cSL (pc := 13) (J' := j_X12_spelled) (As := [.int 119, .int 101, .int 105, .int 103, .int 104, .int 116]) (st := [rf G.1 l0]) (B' := b_X12_spelled) (u' := 0) (w' := 0) dX12_isWeight_13 ml_X12_148 ms_X12_spelled (fun v9 M9 e9 => c_X12_spelled e9) rfl (by decide) rfl rfl (by decide) (by decide) (by simp [rf_cat, cat_i, cat_l, cat_r]) rfl h (fun v13 M13 h => ?_)
  refine wt_cVI (pc := 16) (J' := j_X12_isWord) (As := [.long v13]) (st := []) (B' := b_X12_isWord) (u' := 0) (w' := 0) dX12_isWeight_16 ml_X12_152 mv_X12_isWord (fun v9 M9 e9 => c_X12_isWord e9) rfl (by decide) rfl rfl (by decide) (by decide) (by decide) rfl h (fun v16 M16 h => ?_)
  cases h
  exact he 19 _ _ _ dX12_isWeight_19 (by decide) (by decide)
set_option maxHeartbeats 4000000 in
set_option maxRecDepth 100000 in
theorem c_X12_isWeight {G : GG} {M : Mm} {l0 : Option Nat} {r : Int32 × Mm} (h : f_X12_isWeight M l0 = some r) (l : Launch) : Ct l G j_X12_isWeight b_X12_isWeight [rf G.1 l0] M (some (.int r.1)) r.2 := cf_Z h (by decide +kernel) (by simp [lg_sl, rf_cat, cat_i, cat_l, j_X12_isWeight]) rfl (by simp [lv_args, rf_cat, cat_i, cat_l]) (fun h X he => t_X12_isWeight_e he h)
def g_X12_isLong (M : Mm) (l0 : Option Nat) : Option (Int32 × Mm) := bd (f_X12_spelled M 108 111 110 103 0 0) fun v11 M11 => ck M11 l0 12 <| bd (f_X12_isWord M11 l0 v11) fun v14 M14 => some (v14, M14)
def f_X12_isLong (M : Mm) (l0 : Option Nat) : Option (Int32 × Mm) := zc (g_X12_isLong M l0)
set_option maxHeartbeats 4000000 in
set_option maxRecDepth 100000 in
theorem t_X12_isLong_e {G : GG} {X : CX} {ans : Int32 × Mm} (he : EndI G X j_X12_isLong b_X12_isLong ans) {M : Mm} {l0 : Option Nat} (h : g_X12_isLong M l0 = some ans) : Wt G X j_X12_isLong b_X12_isLong 0 [(0, rf G.1 l0)] [] M 0 0 := by
  unfold g_X12_isLong at h
  refine wt_aload_n (pc := 0) 0 dX12_isLong_0 rfl ?_
  refine wt_bipush (pc := 1) (v := 108) dX12_isLong_1 (by decide) ?_
  refine wt_bipush (pc := 3) (v := 111) dX12_isLong_3 (by decide) ?_
  refine wt_bipush (pc := 5) (v := 110) dX12_isLong_5 (by decide) ?_
  refine wt_bipush (pc := 7) (v := 103) dX12_isLong_7 (by decide) ?_
  refine wt_iconst (pc := 9) (v := 0) dX12_isLong_9 (by decide) ?_
  refine wt_iconst (pc := 10) (v := 0) dX12_isLong_10 (by decide) ?_
  refine wt_cSL (pc := 11) (J' := j_X12_spelled) (As := [.int 108, .int 111, .int 110, .int 103, .int 0, .int 0]) (st := [rf G.1 l0]) (B' := b_X12_spelled) (u' := 0) (w' := 0) dX12_isLong_11 ml_X12_148 ms_X12_spelled (fun v9 M9 e9 => c_X12_spelled e9) rfl (by decide) rfl rfl (by decide) (by decide) (by simp [rf_cat, cat_i, cat_l, cat_r]) rfl h (fun v11 M11 h => ?_)
  refine wt_cVI (pc := 14) (J' := j_X12_isWord) (As := [.long v11]) (st := []) (B' := b_X12_isWord) (u' := 0) (w' := 0) dX12_isLong_14 ml_X12_152 mv_X12_isWord (fun v9 M9 e9 => c_X12_isWord e9) rfl (by decide) rfl rfl (by decide) (by decide) (by decide) rfl h (fun v14 M14 h => ?_)
  cases h
  exact he 17 _ _ _ dX12_isLong_17 (by decide) (by decide)
set_option maxHeartbeats 4000000 in
set_option maxRecDepth 100000 in
theorem c_X12_isLong {G : GG} {M : Mm} {l0 : Option Nat} {r : Int32 × Mm} (h : f_X12_isLong M l0 = some r) (l : Launch) : Ct l G j_X12_isLong b_X12_isLong [rf G.1 l0] M (some (.int r.1)) r.2 := cf_Z h (by decide +kernel) (by simp [lg_sl, rf_cat, cat_i, cat_l, j_X12_isLong]) rfl (by simp [lv_args, rf_cat, cat_i, cat_l]) (fun h X he => t_X12_isLong_e he h)
def g_X12_isPegs (M : Mm) (l0 : Option Nat) : Option (Int32 × Mm) := bd (f_X12_spelled M 112 101 103 115 0 0) fun v11 M11 => ck M11 l0 12 <| bd (f_X12_isWord M11 l0 v11) fun v14 M14 => some (v14, M14)
def f_X12_isPegs (M : Mm) (l0 : Option Nat) : Option (Int32 × Mm) := zc (g_X12_isPegs M l0)
set_option maxHeartbeats 4000000 in
set_option maxRecDepth 100000 in
theorem t_X12_isPegs_e {G : GG} {X : CX} {ans : Int32 × Mm} (he : EndI G X j_X12_isPegs b_X12_isPegs ans) {M : Mm} {l0 : Option Nat} (h : g_X12_isPegs M l0 = some ans) : Wt G X j_X12_isPegs b_X12_isPegs 0 [(0, rf G.1 l0)] [] M 0 0 := by
  unfold g_X12_isPegs at h
  refine wt_aload_n (pc := 0) 0 dX12_isPegs_0 rfl ?_
  refine wt_bipush (pc := 1) (v := 112) dX12_isPegs_1 (by decide) ?_
  refine wt_bipush (pc := 3) (v := 101) dX12_isPegs_3 (by decide) ?_
  refine wt_bipush (pc := 5) (v := 103) dX12_isPegs_5 (by decide) ?_
  refine wt_bipush (pc := 7) (v := 115) dX12_isPegs_7 (by decide) ?_
  refine wt_iconst (pc := 9) (v := 0) dX12_isPegs_9 (by decide) ?_
  refine wt_iconst (pc := 10) (v := 0) dX12_isPegs_10 (by decide) ?_
  refine wt_cSL (pc := 11) (J' := j_X12_spelled) (As := [.int 112, .int 101, .int 103, .int 115, .int 0, .int 0]) (st := [rf G.1 l0]) (B' := b_X12_spelled) (u' := 0) (w' := 0) dX12_isPegs_11 ml_X12_148 ms_X12_spelled (fun v9 M9 e9 => c_X12_spelled e9) rfl (by decide) rfl rfl (by decide) (by decide) (by simp [rf_cat, cat_i, cat_l, cat_r]) rfl h (fun v11 M11 h => ?_)
  refine wt_cVI (pc := 14) (J' := j_X12_isWord) (As := [.long v11]) (st := []) (B' := b_X12_isWord) (u' := 0) (w' := 0) dX12_isPegs_14 ml_X12_152 mv_X12_isWord (fun v9 M9 e9 => c_X12_isWord e9) rfl (by decide) rfl rfl (by decide) (by decide) (by decide) rfl h (fun v14 M14 h => ?_)
  cases h
  exact he 17 _ _ _ dX12_isPegs_17 (by decide) (by decide)
set_option maxHeartbeats 4000000 in
set_option maxRecDepth 100000 in
theorem c_X12_isPegs {G : GG} {M : Mm} {l0 : Option Nat} {r : Int32 × Mm} (h : f_X12_isPegs M l0 = some r) (l : Launch) : Ct l G j_X12_isPegs b_X12_isPegs [rf G.1 l0] M (some (.int r.1)) r.2 := cf_Z h (by decide +kernel) (by simp [lg_sl, rf_cat, cat_i, cat_l, j_X12_isPegs]) rfl (by simp [lv_args, rf_cat, cat_i, cat_l]) (fun h X he => t_X12_isPegs_e he h)
def g_X12_isGang (M : Mm) (l0 : Option Nat) : Option (Int32 × Mm) := bd (f_X12_spelled M 103 97 110 103 0 0) fun v11 M11 => ck M11 l0 12 <| bd (f_X12_isWord M11 l0 v11) fun v14 M14 => some (v14, M14)
def f_X12_isGang (M : Mm) (l0 : Option Nat) : Option (Int32 × Mm) := zc (g_X12_isGang M l0)
set_option maxHeartbeats 4000000 in
set_option maxRecDepth 100000 in
theorem t_X12_isGang_e {G : GG} {X : CX} {ans : Int32 × Mm} (he : EndI G X j_X12_isGang b_X12_isGang ans) {M : Mm} {l0 : Option Nat} (h : g_X12_isGang M l0 = some ans) : Wt G X j_X12_isGang b_X12_isGang 0 [(0, rf G.1 l0)] [] M 0 0 := by
  unfold g_X12_isGang at h
  refine wt_aload_n (pc := 0) 0 dX12_isGang_0 rfl ?_
  refine wt_bipush (pc := 1) (v := 103) dX12_isGang_1 (by decide) ?_
  refine wt_bipush (pc := 3) (v := 97) dX12_isGang_3 (by decide) ?_
  refine wt_bipush (pc := 5) (v := 110) dX12_isGang_5 (by decide) ?_
  refine wt_bipush (pc := 7) (v := 103) dX12_isGang_7 (by decide) ?_
  refine wt_iconst (pc := 9) (v := 0) dX12_isGang_9 (by decide) ?_
  refine wt_iconst (pc := 10) (v := 0) dX12_isGang_10 (by decide) ?_
  refine wt_cSL (pc := 11) (J' := j_X12_spelled) (As := [.int 103, .int 97, .int 110, .int 103, .int 0, .int 0]) (st := [rf G.1 l0]) (B' := b_X12_spelled) (u' := 0) (w' := 0) dX12_isGang_11 ml_X12_148 ms_X12_spelled (fun v9 M9 e9 => c_X12_spelled e9) rfl (by decide) rfl rfl (by decide) (by decide) (by simp [rf_cat, cat_i, cat_l, cat_r]) rfl h (fun v11 M11 h => ?_)
  refine wt_cVI (pc := 14) (J' := j_X12_isWord) (As := [.long v11]) (st := []) (B' := b_X12_isWord) (u' := 0) (w' := 0) dX12_isGang_14 ml_X12_152 mv_X12_isWord (fun v9 M9 e9 => c_X12_isWord e9) rfl (by decide) rfl rfl (by decide) (by decide) (by decide) rfl h (fun v14 M14 h => ?_)
  cases h
  exact he 17 _ _ _ dX12_isGang_17 (by decide) (by decide)
set_option maxHeartbeats 4000000 in
set_option maxRecDepth 100000 in
theorem c_X12_isGang {G : GG} {M : Mm} {l0 : Option Nat} {r : Int32 × Mm} (h : f_X12_isGang M l0 = some r) (l : Launch) : Ct l G j_X12_isGang b_X12_isGang [rf G.1 l0] M (some (.int r.1)) r.2 := cf_Z h (by decide +kernel) (by simp [lg_sl, rf_cat, cat_i, cat_l, j_X12_isGang]) rfl (by simp [lv_args, rf_cat, cat_i, cat_l]) (fun h X he => t_X12_isGang_e he h)
def g_X12_isHands (M : Mm) (l0 : Option Nat) : Option (Int32 × Mm) := bd (f_X12_spelled M 104 97 110 100 115 0) fun v12 M12 => ck M12 l0 12 <| bd (f_X12_isWord M12 l0 v12) fun v15 M15 => some (v15, M15)
def f_X12_isHands (M : Mm) (l0 : Option Nat) : Option (Int32 × Mm) := zc (g_X12_isHands M l0)
set_option maxHeartbeats 4000000 in
set_option maxRecDepth 100000 in
theorem t_X12_isHands_e {G : GG} {X : CX} {ans : Int32 × Mm} (he : EndI G X j_X12_isHands b_X12_isHands ans) {M : Mm} {l0 : Option Nat} (h : g_X12_isHands M l0 = some ans) : Wt G X j_X12_isHands b_X12_isHands 0 [(0, rf G.1 l0)] [] M 0 0 := by
  unfold g_X12_isHands at h
  refine wt_aload_n (pc := 0) 0 dX12_isHands_0 rfl ?_
  refine wt_bipush (pc := 1) (v := 104) dX12_isHands_1 (by decide) ?_
  refine wt_bipush (pc := 3) (v := 97) dX12_isHands_3 (by decide) ?_
  refine wt_bipush (pc := 5) (v := 110) dX12_isHands_5 (by decide) ?_
  refine wt_bipush (pc := 7) (v := 100) dX12_isHands_7 (by decide) ?_
  refine wt_bipush (pc := 9) (v := 115) dX12_isHands_9 (by decide) ?_
  refine wt_iconst (pc := 11) (v := 0) dX12_isHands_11 (by decide) ?_
  refine wt_cSL (pc := 12) (J' := j_X12_spelled) (As := [.int 104, .int 97, .int 110, .int 100, .int 115, .int 0]) (st := [rf G.1 l0]) (B' := b_X12_spelled) (u' := 0) (w' := 0) dX12_isHands_12 ml_X12_148 ms_X12_spelled (fun v9 M9 e9 => c_X12_spelled e9) rfl (by decide) rfl rfl (by decide) (by decide) (by simp [rf_cat, cat_i, cat_l, cat_r]) rfl h (fun v12 M12 h => ?_)
  refine wt_cVI (pc := 15) (J' := j_X12_isWord) (As := [.long v12]) (st := []) (B' := b_X12_isWord) (u' := 0) (w' := 0) dX12_isHands_15 ml_X12_152 mv_X12_isWord (fun v9 M9 e9 => c_X12_isWord e9) rfl (by decide) rfl rfl (by decide) (by decide) (by decide) rfl h (fun v15 M15 h => ?_)
  cases h
  exact he 18 _ _ _ dX12_isHands_18 (by decide) (by decide)
set_option maxHeartbeats 4000000 in
set_option maxRecDepth 100000 in
theorem c_X12_isHands {G : GG} {M : Mm} {l0 : Option Nat} {r : Int32 × Mm} (h : f_X12_isHands M l0 = some r) (l : Launch) : Ct l G j_X12_isHands b_X12_isHands [rf G.1 l0] M (some (.int r.1)) r.2 := cf_Z h (by decide +kernel) (by simp [lg_sl, rf_cat, cat_i, cat_l, j_X12_isHands]) rfl (by simp [lv_args, rf_cat, cat_i, cat_l]) (fun h X he => t_X12_isHands_e he h)
def g_X12_isPace (M : Mm) (l0 : Option Nat) : Option (Int32 × Mm) := bd (f_X12_spelled M 112 97 99 101 0 0) fun v11 M11 => ck M11 l0 12 <| bd (f_X12_isWord M11 l0 v11) fun v14 M14 => some (v14, M14)
def f_X12_isPace (M : Mm) (l0 : Option Nat) : Option (Int32 × Mm) := zc (g_X12_isPace M l0)
set_option maxHeartbeats 4000000 in
set_option maxRecDepth 100000 in
theorem t_X12_isPace_e {G : GG} {X : CX} {ans : Int32 × Mm} (he : EndI G X j_X12_isPace b_X12_isPace ans) {M : Mm} {l0 : Option Nat} (h : g_X12_isPace M l0 = some ans) : Wt G X j_X12_isPace b_X12_isPace 0 [(0, rf G.1 l0)] [] M 0 0 := by
  unfold g_X12_isPace at h
  refine wt_aload_n (pc := 0) 0 dX12_isPace_0 rfl ?_
  refine wt_bipush (pc := 1) (v := 112) dX12_isPace_1 (by decide) ?_
  refine wt_bipush (pc := 3) (v := 97) dX12_isPace_3 (by decide) ?_
  refine wt_bipush (pc := 5) (v := 99) dX12_isPace_5 (by decide) ?_
  refine wt_bipush (pc := 7) (v := 101) dX12_isPace_7 (by decide) ?_
  refine wt_iconst (pc := 9) (v := 0) dX12_isPace_9 (by decide) ?_
  refine wt_iconst (pc := 10) (v := 0) dX12_isPace_10 (by decide) ?_
  refine wt_cSL (pc := 11) (J' := j_X12_spelled) (As := [.int 112, .int 97, .int 99, .int 101, .int 0, .int 0]) (st := [rf G.1 l0]) (B' := b_X12_spelled) (u' := 0) (w' := 0) dX12_isPace_11 ml_X12_148 ms_X12_spelled (fun v9 M9 e9 => c_X12_spelled e9) rfl (by decide) rfl rfl (by decide) (by decide) (by simp [rf_cat, cat_i, cat_l, cat_r]) rfl h (fun v11 M11 h => ?_)
  refine wt_cVI (pc := 14) (J' := j_X12_isWord) (As := [.long v11]) (st := []) (B' := b_X12_isWord) (u' := 0) (w' := 0) dX12_isPace_14 ml_X12_152 mv_X12_isWord (fun v9 M9 e9 => c_X12_isWord e9) rfl (by decide) rfl rfl (by decide) (by decide) (by decide) rfl h (fun v14 M14 h => ?_)
  cases h
  exact he 17 _ _ _ dX12_isPace_17 (by decide) (by decide)
set_option maxHeartbeats 4000000 in
set_option maxRecDepth 100000 in
theorem c_X12_isPace {G : GG} {M : Mm} {l0 : Option Nat} {r : Int32 × Mm} (h : f_X12_isPace M l0 = some r) (l : Launch) : Ct l G j_X12_isPace b_X12_isPace [rf G.1 l0] M (some (.int r.1)) r.2 := cf_Z h (by decide +kernel) (by simp [lg_sl, rf_cat, cat_i, cat_l, j_X12_isPace]) rfl (by simp [lv_args, rf_cat, cat_i, cat_l]) (fun h X he => t_X12_isPace_e he h)
def g_X12_isHelped (M : Mm) (l0 : Option Nat) : Option (Int32 × Mm) := bd (f_X12_spelled M 104 101 108 112 101 100) fun v13 M13 => ck M13 l0 12 <| bd (f_X12_isWord M13 l0 v13) fun v16 M16 => some (v16, M16)
def f_X12_isHelped (M : Mm) (l0 : Option Nat) : Option (Int32 × Mm) := zc (g_X12_isHelped M l0)
set_option maxHeartbeats 4000000 in
set_option maxRecDepth 100000 in
theorem t_X12_isHelped_e {G : GG} {X : CX} {ans : Int32 × Mm} (he : EndI G X j_X12_isHelped b_X12_isHelped ans) {M : Mm} {l0 : Option Nat} (h : g_X12_isHelped M l0 = some ans) : Wt G X j_X12_isHelped b_X12_isHelped 0 [(0, rf G.1 l0)] [] M 0 0 := by
  unfold g_X12_isHelped at h
  refine wt_aload_n (pc := 0) 0 dX12_isHelped_0 rfl ?_
  refine wt_bipush (pc := 1) (v := 104) dX12_isHelped_1 (by decide) ?_
  refine wt_bipush (pc := 3) (v := 101) dX12_isHelped_3 (by decide) ?_
  refine wt_bipush (pc := 5) (v := 108) dX12_isHelped_5 (by decide) ?_
  refine wt_bipush (pc := 7) (v := 112) dX12_isHelped_7 (by decide) ?_
  refine wt_bipush (pc := 9) (v := 101) dX12_isHelped_9 (by decide) ?_
  refine wt_bipush (pc := 11) (v := 100) dX12_isHelped_11 (by decide) ?_
  refine wt_cSL (pc := 13) (J' := j_X12_spelled) (As := [.int 104, .int 101, .int 108, .int 112, .int 101, .int 100]) (st := [rf G.1 l0]) (B' := b_X12_spelled) (u' := 0) (w' := 0) dX12_isHelped_13 ml_X12_148 ms_X12_spelled (fun v9 M9 e9 => c_X12_spelled e9) rfl (by decide) rfl rfl (by decide) (by decide) (by simp [rf_cat, cat_i, cat_l, cat_r]) rfl h (fun v13 M13 h => ?_)
  refine wt_cVI (pc := 16) (J' := j_X12_isWord) (As := [.long v13]) (st := []) (B' := b_X12_isWord) (u' := 0) (w' := 0) dX12_isHelped_16 ml_X12_152 mv_X12_isWord (fun v9 M9 e9 => c_X12_isWord e9) rfl (by decide) rfl rfl (by decide) (by decide) (by decide) rfl h (fun v16 M16 h => ?_)
  cases h
  exact he 19 _ _ _ dX12_isHelped_19 (by decide) (by decide)
set_option maxHeartbeats 4000000 in
set_option maxRecDepth 100000 in
theorem c_X12_isHelped {G : GG} {M : Mm} {l0 : Option Nat} {r : Int32 × Mm} (h : f_X12_isHelped M l0 = some r) (l : Launch) : Ct l G j_X12_isHelped b_X12_isHelped [rf G.1 l0] M (some (.int r.1)) r.2 := cf_Z h (by decide +kernel) (by simp [lg_sl, rf_cat, cat_i, cat_l, j_X12_isHelped]) rfl (by simp [lv_args, rf_cat, cat_i, cat_l]) (fun h X he => t_X12_isHelped_e he h)
def g_X12_isBy (M : Mm) (l0 : Option Nat) : Option (Int32 × Mm) := bd (f_X12_spelled M 98 121 0 0 0 0) fun v9 M9 => ck M9 l0 12 <| bd (f_X12_isWord M9 l0 v9) fun v12 M12 => some (v12, M12)
def f_X12_isBy (M : Mm) (l0 : Option Nat) : Option (Int32 × Mm) := zc (g_X12_isBy M l0)
set_option maxHeartbeats 4000000 in
set_option maxRecDepth 100000 in
theorem t_X12_isBy_e {G : GG} {X : CX} {ans : Int32 × Mm} (he : EndI G X j_X12_isBy b_X12_isBy ans) {M : Mm} {l0 : Option Nat} (h : g_X12_isBy M l0 = some ans) : Wt G X j_X12_isBy b_X12_isBy 0 [(0, rf G.1 l0)] [] M 0 0 := by
  unfold g_X12_isBy at h
  refine wt_aload_n (pc := 0) 0 dX12_isBy_0 rfl ?_
  refine wt_bipush (pc := 1) (v := 98) dX12_isBy_1 (by decide) ?_
  refine wt_bipush (pc := 3) (v := 121) dX12_isBy_3 (by decide) ?_
  refine wt_iconst (pc := 5) (v := 0) dX12_isBy_5 (by decide) ?_
  refine wt_iconst (pc := 6) (v := 0) dX12_isBy_6 (by decide) ?_
  refine wt_iconst (pc := 7) (v := 0) dX12_isBy_7 (by decide) ?_
  refine wt_iconst (pc := 8) (v := 0) dX12_isBy_8 (by decide) ?_
  refine wt_cSL (pc := 9) (J' := j_X12_spelled) (As := [.int 98, .int 121, .int 0, .int 0, .int 0, .int 0]) (st := [rf G.1 l0]) (B' := b_X12_spelled) (u' := 0) (w' := 0) dX12_isBy_9 ml_X12_148 ms_X12_spelled (fun v9 M9 e9 => c_X12_spelled e9) rfl (by decide) rfl rfl (by decide) (by decide) (by simp [rf_cat, cat_i, cat_l, cat_r]) rfl h (fun v9 M9 h => ?_)
  refine wt_cVI (pc := 12) (J' := j_X12_isWord) (As := [.long v9]) (st := []) (B' := b_X12_isWord) (u' := 0) (w' := 0) dX12_isBy_12 ml_X12_152 mv_X12_isWord (fun v9 M9 e9 => c_X12_isWord e9) rfl (by decide) rfl rfl (by decide) (by decide) (by decide) rfl h (fun v12 M12 h => ?_)
  cases h
  exact he 15 _ _ _ dX12_isBy_15 (by decide) (by decide)
set_option maxHeartbeats 4000000 in
set_option maxRecDepth 100000 in
theorem c_X12_isBy {G : GG} {M : Mm} {l0 : Option Nat} {r : Int32 × Mm} (h : f_X12_isBy M l0 = some r) (l : Launch) : Ct l G j_X12_isBy b_X12_isBy [rf G.1 l0] M (some (.int r.1)) r.2 := cf_Z h (by decide +kernel) (by simp [lg_sl, rf_cat, cat_i, cat_l, j_X12_isBy]) rfl (by simp [lv_args, rf_cat, cat_i, cat_l]) (fun h X he => t_X12_isBy_e he h)
def g_X12_isWind (M : Mm) (l0 : Option Nat) : Option (Int32 × Mm) := bd (f_X12_spelled M 119 105 110 100 0 0) fun v11 M11 => ck M11 l0 12 <| bd (f_X12_isWord M11 l0 v11) fun v14 M14 => some (v14, M14)
def f_X12_isWind (M : Mm) (l0 : Option Nat) : Option (Int32 × Mm) := zc (g_X12_isWind M l0)
set_option maxHeartbeats 4000000 in
set_option maxRecDepth 100000 in
theorem t_X12_isWind_e {G : GG} {X : CX} {ans : Int32 × Mm} (he : EndI G X j_X12_isWind b_X12_isWind ans) {M : Mm} {l0 : Option Nat} (h : g_X12_isWind M l0 = some ans) : Wt G X j_X12_isWind b_X12_isWind 0 [(0, rf G.1 l0)] [] M 0 0 := by
  unfold g_X12_isWind at h
  refine wt_aload_n (pc := 0) 0 dX12_isWind_0 rfl ?_
  refine wt_bipush (pc := 1) (v := 119) dX12_isWind_1 (by decide) ?_
  refine wt_bipush (pc := 3) (v := 105) dX12_isWind_3 (by decide) ?_
  refine wt_bipush (pc := 5) (v := 110) dX12_isWind_5 (by decide) ?_
  refine wt_bipush (pc := 7) (v := 100) dX12_isWind_7 (by decide) ?_
  refine wt_iconst (pc := 9) (v := 0) dX12_isWind_9 (by decide) ?_
  refine wt_iconst (pc := 10) (v := 0) dX12_isWind_10 (by decide) ?_
  refine wt_cSL (pc := 11) (J' := j_X12_spelled) (As := [.int 119, .int 105, .int 110, .int 100, .int 0, .int 0]) (st := [rf G.1 l0]) (B' := b_X12_spelled) (u' := 0) (w' := 0) dX12_isWind_11 ml_X12_148 ms_X12_spelled (fun v9 M9 e9 => c_X12_spelled e9) rfl (by decide) rfl rfl (by decide) (by decide) (by simp [rf_cat, cat_i, cat_l, cat_r]) rfl h (fun v11 M11 h => ?_)
  refine wt_cVI (pc := 14) (J' := j_X12_isWord) (As := [.long v11]) (st := []) (B' := b_X12_isWord) (u' := 0) (w' := 0) dX12_isWind_14 ml_X12_152 mv_X12_isWord (fun v9 M9 e9 => c_X12_isWord e9) rfl (by decide) rfl rfl (by decide) (by decide) (by decide) rfl h (fun v14 M14 h => ?_)
  cases h
  exact he 17 _ _ _ dX12_isWind_17 (by decide) (by decide)
set_option maxHeartbeats 4000000 in
set_option maxRecDepth 100000 in
theorem c_X12_isWind {G : GG} {M : Mm} {l0 : Option Nat} {r : Int32 × Mm} (h : f_X12_isWind M l0 = some r) (l : Launch) : Ct l G j_X12_isWind b_X12_isWind [rf G.1 l0] M (some (.int r.1)) r.2 := cf_Z h (by decide +kernel) (by simp [lg_sl, rf_cat, cat_i, cat_l, j_X12_isWind]) rfl (by simp [lv_args, rf_cat, cat_i, cat_l]) (fun h X he => t_X12_isWind_e he h)
def g_X12_isOf (M : Mm) (l0 : Option Nat) : Option (Int32 × Mm) := bd (f_X12_spelled M 111 102 0 0 0 0) fun v9 M9 => ck M9 l0 12 <| bd (f_X12_isWord M9 l0 v9) fun v12 M12 => some (v12, M12)
def f_X12_isOf (M : Mm) (l0 : Option Nat) : Option (Int32 × Mm) := zc (g_X12_isOf M l0)
set_option maxHeartbeats 4000000 in
set_option maxRecDepth 100000 in
theorem t_X12_isOf_e {G : GG} {X : CX} {ans : Int32 × Mm} (he : EndI G X j_X12_isOf b_X12_isOf ans) {M : Mm} {l0 : Option Nat} (h : g_X12_isOf M l0 = some ans) : Wt G X j_X12_isOf b_X12_isOf 0 [(0, rf G.1 l0)] [] M 0 0 := by
  unfold g_X12_isOf at h
  refine wt_aload_n (pc := 0) 0 dX12_isOf_0 rfl ?_
  refine wt_bipush (pc := 1) (v := 111) dX12_isOf_1 (by decide) ?_
  refine wt_bipush (pc := 3) (v := 102) dX12_isOf_3 (by decide) ?_
  refine wt_iconst (pc := 5) (v := 0) dX12_isOf_5 (by decide) ?_
  refine wt_iconst (pc := 6) (v := 0) dX12_isOf_6 (by decide) ?_
  refine wt_iconst (pc := 7) (v := 0) dX12_isOf_7 (by decide) ?_
  refine wt_iconst (pc := 8) (v := 0) dX12_isOf_8 (by decide) ?_
  refine wt_cSL (pc := 9) (J' := j_X12_spelled) (As := [.int 111, .int 102, .int 0, .int 0, .int 0, .int 0]) (st := [rf G.1 l0]) (B' := b_X12_spelled) (u' := 0) (w' := 0) dX12_isOf_9 ml_X12_148 ms_X12_spelled (fun v9 M9 e9 => c_X12_spelled e9) rfl (by decide) rfl rfl (by decide) (by decide) (by simp [rf_cat, cat_i, cat_l, cat_r]) rfl h (fun v9 M9 h => ?_)
  refine wt_cVI (pc := 12) (J' := j_X12_isWord) (As := [.long v9]) (st := []) (B' := b_X12_isWord) (u' := 0) (w' := 0) dX12_isOf_12 ml_X12_152 mv_X12_isWord (fun v9 M9 e9 => c_X12_isWord e9) rfl (by decide) rfl rfl (by decide) (by decide) (by decide) rfl h (fun v12 M12 h => ?_)
  cases h
  exact he 15 _ _ _ dX12_isOf_15 (by decide) (by decide)
set_option maxHeartbeats 4000000 in
set_option maxRecDepth 100000 in
theorem c_X12_isOf {G : GG} {M : Mm} {l0 : Option Nat} {r : Int32 × Mm} (h : f_X12_isOf M l0 = some r) (l : Launch) : Ct l G j_X12_isOf b_X12_isOf [rf G.1 l0] M (some (.int r.1)) r.2 := cf_Z h (by decide +kernel) (by simp [lg_sl, rf_cat, cat_i, cat_l, j_X12_isOf]) rfl (by simp [lv_args, rf_cat, cat_i, cat_l]) (fun h X he => t_X12_isOf_e he h)
def g_X12_isLaw (M : Mm) (l0 : Option Nat) : Option (Int32 × Mm) := bd (f_X12_spelled M 108 97 119 0 0 0) fun v10 M10 => ck M10 l0 12 <| bd (f_X12_isWord M10 l0 v10) fun v13 M13 => some (v13, M13)
def f_X12_isLaw (M : Mm) (l0 : Option Nat) : Option (Int32 × Mm) := zc (g_X12_isLaw M l0)
set_option maxHeartbeats 4000000 in
set_option maxRecDepth 100000 in
theorem t_X12_isLaw_e {G : GG} {X : CX} {ans : Int32 × Mm} (he : EndI G X j_X12_isLaw b_X12_isLaw ans) {M : Mm} {l0 : Option Nat} (h : g_X12_isLaw M l0 = some ans) : Wt G X j_X12_isLaw b_X12_isLaw 0 [(0, rf G.1 l0)] [] M 0 0 := by
  unfold g_X12_isLaw at h
  refine wt_aload_n (pc := 0) 0 dX12_isLaw_0 rfl ?_
  refine wt_bipush (pc := 1) (v := 108) dX12_isLaw_1 (by decide) ?_
  refine wt_bipush (pc := 3) (v := 97) dX12_isLaw_3 (by decide) ?_
  refine wt_bipush (pc := 5) (v := 119) dX12_isLaw_5 (by decide) ?_
  refine wt_iconst (pc := 7) (v := 0) dX12_isLaw_7 (by decide) ?_
  refine wt_iconst (pc := 8) (v := 0) dX12_isLaw_8 (by decide) ?_
  refine wt_iconst (pc := 9) (v := 0) dX12_isLaw_9 (by decide) ?_
  refine wt_cSL (pc := 10) (J' := j_X12_spelled) (As := [.int 108, .int 97, .int 119, .int 0, .int 0, .int 0]) (st := [rf G.1 l0]) (B' := b_X12_spelled) (u' := 0) (w' := 0) dX12_isLaw_10 ml_X12_148 ms_X12_spelled (fun v9 M9 e9 => c_X12_spelled e9) rfl (by decide) rfl rfl (by decide) (by decide) (by simp [rf_cat, cat_i, cat_l, cat_r]) rfl h (fun v10 M10 h => ?_)
  refine wt_cVI (pc := 13) (J' := j_X12_isWord) (As := [.long v10]) (st := []) (B' := b_X12_isWord) (u' := 0) (w' := 0) dX12_isLaw_13 ml_X12_152 mv_X12_isWord (fun v9 M9 e9 => c_X12_isWord e9) rfl (by decide) rfl rfl (by decide) (by decide) (by decide) rfl h (fun v13 M13 h => ?_)
  cases h
  exact he 16 _ _ _ dX12_isLaw_16 (by decide) (by decide)
set_option maxHeartbeats 4000000 in
set_option maxRecDepth 100000 in
theorem c_X12_isLaw {G : GG} {M : Mm} {l0 : Option Nat} {r : Int32 × Mm} (h : f_X12_isLaw M l0 = some r) (l : Launch) : Ct l G j_X12_isLaw b_X12_isLaw [rf G.1 l0] M (some (.int r.1)) r.2 := cf_Z h (by decide +kernel) (by simp [lg_sl, rf_cat, cat_i, cat_l, j_X12_isLaw]) rfl (by simp [lv_args, rf_cat, cat_i, cat_l]) (fun h X he => t_X12_isLaw_e he h)
def g_X12_isWith (M : Mm) (l0 : Option Nat) : Option (Int32 × Mm) := bd (f_X12_spelled M 119 105 116 104 0 0) fun v11 M11 => ck M11 l0 12 <| bd (f_X12_isWord M11 l0 v11) fun v14 M14 => some (v14, M14)
def f_X12_isWith (M : Mm) (l0 : Option Nat) : Option (Int32 × Mm) := zc (g_X12_isWith M l0)
set_option maxHeartbeats 4000000 in
set_option maxRecDepth 100000 in
theorem t_X12_isWith_e {G : GG} {X : CX} {ans : Int32 × Mm} (he : EndI G X j_X12_isWith b_X12_isWith ans) {M : Mm} {l0 : Option Nat} (h : g_X12_isWith M l0 = some ans) : Wt G X j_X12_isWith b_X12_isWith 0 [(0, rf G.1 l0)] [] M 0 0 := by
  unfold g_X12_isWith at h
  refine wt_aload_n (pc := 0) 0 dX12_isWith_0 rfl ?_
  refine wt_bipush (pc := 1) (v := 119) dX12_isWith_1 (by decide) ?_
  refine wt_bipush (pc := 3) (v := 105) dX12_isWith_3 (by decide) ?_
  refine wt_bipush (pc := 5) (v := 116) dX12_isWith_5 (by decide) ?_
  refine wt_bipush (pc := 7) (v := 104) dX12_isWith_7 (by decide) ?_
  refine wt_iconst (pc := 9) (v := 0) dX12_isWith_9 (by decide) ?_
  refine wt_iconst (pc := 10) (v := 0) dX12_isWith_10 (by decide) ?_
  refine wt_cSL (pc := 11) (J' := j_X12_spelled) (As := [.int 119, .int 105, .int 116, .int 104, .int 0, .int 0]) (st := [rf G.1 l0]) (B' := b_X12_spelled) (u' := 0) (w' := 0) dX12_isWith_11 ml_X12_148 ms_X12_spelled (fun v9 M9 e9 => c_X12_spelled e9) rfl (by decide) rfl rfl (by decide) (by decide) (by simp [rf_cat, cat_i, cat_l, cat_r]) rfl h (fun v11 M11 h => ?_)
  refine wt_cVI (pc := 14) (J' := j_X12_isWord) (As := [.long v11]) (st := []) (B' := b_X12_isWord) (u' := 0) (w' := 0) dX12_isWith_14 ml_X12_152 mv_X12_isWord (fun v9 M9 e9 => c_X12_isWord e9) rfl (by decide) rfl rfl (by decide) (by decide) (by decide) rfl h (fun v14 M14 h => ?_)
  cases h
  exact he 17 _ _ _ dX12_isWith_17 (by decide) (by decide)
set_option maxHeartbeats 4000000 in
set_option maxRecDepth 100000 in
theorem c_X12_isWith {G : GG} {M : Mm} {l0 : Option Nat} {r : Int32 × Mm} (h : f_X12_isWith M l0 = some r) (l : Launch) : Ct l G j_X12_isWith b_X12_isWith [rf G.1 l0] M (some (.int r.1)) r.2 := cf_Z h (by decide +kernel) (by simp [lg_sl, rf_cat, cat_i, cat_l, j_X12_isWith]) rfl (by simp [lv_args, rf_cat, cat_i, cat_l]) (fun h X he => t_X12_isWith_e he h)
def f_X12_lawWord (M : Mm) (l0 : Option Nat) : Option (Int32 × Mm) := ck M l0 12 <| bd (f_X12_isWorth M l0) fun v1 M1 => if v1 = 0 then (bd (f_X12_spelled M1 111 119 101 100 0 0) fun v20 M20 => ck M20 l0 12 <| bd (f_X12_isWord M20 l0 v20) fun v23 M23 => if v23 = 0 then (bd (f_X12_spelled M23 110 101 97 114 0 0) fun v42 M42 => ck M42 l0 12 <| bd (f_X12_isWord M42 l0 v42) fun v45 M45 => if v45 = 0 then (bd (f_X12_spelled M45 116 111 108 100 0 0) fun v64 M64 => ck M64 l0 12 <| bd (f_X12_isWord M64 l0 v64) fun v67 M67 => if v67 = 0 then (some ((-1), M67)) else (some (3, M67))) else (some (2, M45))) else (some (1, M23))) else (some (0, M1))
set_option maxHeartbeats 4000000 in
set_option maxRecDepth 100000 in
theorem t_X12_lawWord_e {G : GG} {X : CX} {ans : Int32 × Mm} (he : EndI G X j_X12_lawWord b_X12_lawWord ans) {M : Mm} {l0 : Option Nat} (h : f_X12_lawWord M l0 = some ans) : Wt G X j_X12_lawWord b_X12_lawWord 0 [(0, rf G.1 l0)] [] M 0 0 := by
  unfold f_X12_lawWord at h
  refine wt_aload_n (pc := 0) 0 dX12_lawWord_0 rfl ?_
  refine wt_cVI (pc := 1) (J' := j_X12_isWorth) (As := []) (st := []) (B' := b_X12_isWorth) (u' := 0) (w' := 0) dX12_lawWord_1 ml_X12_156 mv_X12_isWorth (fun v9 M9 e9 => c_X12_isWorth e9) rfl (by decide) rfl rfl (by decide) (by decide) (by decide) rfl h (fun v1 M1 h => ?_)
  refine wt_if_eq (pc := 4) (tgt := 9) dX12_lawWord_4 (by decide) (fun q => ?_) (fun q => ?_)
  · have h := ite_t q h
    refine wt_aload_n (pc := 9) 0 dX12_lawWord_9 rfl ?_
    refine wt_bipush (pc := 10) (v := 111) dX12_lawWord_10 (by decide) ?_
    refine wt_bipush (pc := 12) (v := 119) dX12_lawWord_12 (by decide) ?_
    refine wt_bipush (pc := 14) (v := 101) dX12_lawWord_14 (by decide) ?_
    refine wt_bipush (pc := 16) (v := 100) dX12_lawWord_16 (by decide) ?_
    refine wt_iconst (pc := 18) (v := 0) dX12_lawWord_18 (by decide) ?_
    refine wt_iconst (pc := 19) (v := 0) dX12_lawWord_19 (by decide) ?_
    refine wt_cSL (pc := 20) (J' := j_X12_spelled) (As := [.int 111, .int 119, .int 101, .int 100, .int 0, .int 0]) (st := [rf G.1 l0]) (B' := b_X12_spelled) (u' := 0) (w' := 0) dX12_lawWord_20 ml_X12_148 ms_X12_spelled (fun v9 M9 e9 => c_X12_spelled e9) rfl (by decide) rfl rfl (by decide) (by decide) (by simp [rf_cat, cat_i, cat_l, cat_r]) rfl h (fun v20 M20 h => ?_)
    refine wt_cVI (pc := 23) (J' := j_X12_isWord) (As := [.long v20]) (st := []) (B' := b_X12_isWord) (u' := 0) (w' := 0) dX12_lawWord_23 ml_X12_152 mv_X12_isWord (fun v9 M9 e9 => c_X12_isWord e9) rfl (by decide) rfl rfl (by decide) (by decide) (by decide) rfl h (fun v23 M23 h => ?_)
    refine wt_if_eq (pc := 26) (tgt := 31) dX12_lawWord_26 (by decide) (fun q => ?_) (fun q => ?_)
    · have h := ite_t q h
      refine wt_aload_n (pc := 31) 0 dX12_lawWord_31 rfl ?_
      refine wt_bipush (pc := 32) (v := 110) dX12_lawWord_32 (by decide) ?_
      refine wt_bipush (pc := 34) (v := 101) dX12_lawWord_34 (by decide) ?_
      refine wt_bipush (pc := 36) (v := 97) dX12_lawWord_36 (by decide) ?_
      refine wt_bipush (pc := 38) (v := 114) dX12_lawWord_38 (by decide) ?_
      refine wt_iconst (pc := 40) (v := 0) dX12_lawWord_40 (by decide) ?_
      refine wt_iconst (pc := 41) (v := 0) dX12_lawWord_41 (by decide) ?_
      refine wt_cSL (pc := 42) (J' := j_X12_spelled) (As := [.int 110, .int 101, .int 97, .int 114, .int 0, .int 0]) (st := [rf G.1 l0]) (B' := b_X12_spelled) (u' := 0) (w' := 0) dX12_lawWord_42 ml_X12_148 ms_X12_spelled (fun v9 M9 e9 => c_X12_spelled e9) rfl (by decide) rfl rfl (by decide) (by decide) (by simp [rf_cat, cat_i, cat_l, cat_r]) rfl h (fun v42 M42 h => ?_)
      refine wt_cVI (pc := 45) (J' := j_X12_isWord) (As := [.long v42]) (st := []) (B' := b_X12_isWord) (u' := 0) (w' := 0) dX12_lawWord_45 ml_X12_152 mv_X12_isWord (fun v9 M9 e9 => c_X12_isWord e9) rfl (by decide) rfl rfl (by decide) (by decide) (by decide) rfl h (fun v45 M45 h => ?_)
      refine wt_if_eq (pc := 48) (tgt := 53) dX12_lawWord_48 (by decide) (fun q => ?_) (fun q => ?_)
      · have h := ite_t q h
        refine wt_aload_n (pc := 53) 0 dX12_lawWord_53 rfl ?_
        refine wt_bipush (pc := 54) (v := 116) dX12_lawWord_54 (by decide) ?_
        refine wt_bipush (pc := 56) (v := 111) dX12_lawWord_56 (by decide) ?_
        refine wt_bipush (pc := 58) (v := 108) dX12_lawWord_58 (by decide) ?_
        refine wt_bipush (pc := 60) (v := 100) dX12_lawWord_60 (by decide) ?_
        refine wt_iconst (pc := 62) (v := 0) dX12_lawWord_62 (by decide) ?_
        refine wt_iconst (pc := 63) (v := 0) dX12_lawWord_63 (by decide) ?_
        refine wt_cSL (pc := 64) (J' := j_X12_spelled) (As := [.int 116, .int 111, .int 108, .int 100, .int 0, .int 0]) (st := [rf G.1 l0]) (B' := b_X12_spelled) (u' := 0) (w' := 0) dX12_lawWord_64 ml_X12_148 ms_X12_spelled (fun v9 M9 e9 => c_X12_spelled e9) rfl (by decide) rfl rfl (by decide) (by decide) (by simp [rf_cat, cat_i, cat_l, cat_r]) rfl h (fun v64 M64 h => ?_)
        refine wt_cVI (pc := 67) (J' := j_X12_isWord) (As := [.long v64]) (st := []) (B' := b_X12_isWord) (u' := 0) (w' := 0) dX12_lawWord_67 ml_X12_152 mv_X12_isWord (fun v9 M9 e9 => c_X12_isWord e9) rfl (by decide) rfl rfl (by decide) (by decide) (by decide) rfl h (fun v67 M67 h => ?_)
        refine wt_if_eq (pc := 70) (tgt := 77) dX12_lawWord_70 (by decide) (fun q => ?_) (fun q => ?_)
        · have h := ite_t q h
          refine wt_iconst (pc := 77) (v := (-1)) dX12_lawWord_77 (by decide) ?_
          cases h
          exact he 78 _ _ _ dX12_lawWord_78 (by decide) (by decide)
        · have h := ite_f q h
          refine wt_iconst (pc := 73) (v := 3) dX12_lawWord_73 (by decide) ?_
          refine wt_goto (pc := 74) (tgt := 78) dX12_lawWord_74 (by decide) ?_
          cases h
          exact he 78 _ _ _ dX12_lawWord_78 (by decide) (by decide)
      · have h := ite_f q h
        refine wt_iconst (pc := 51) (v := 2) dX12_lawWord_51 (by decide) ?_
        cases h
        exact he 52 _ _ _ dX12_lawWord_52 (by decide) (by decide)
    · have h := ite_f q h
      refine wt_iconst (pc := 29) (v := 1) dX12_lawWord_29 (by decide) ?_
      cases h
      exact he 30 _ _ _ dX12_lawWord_30 (by decide) (by decide)
  · have h := ite_f q h
    refine wt_iconst (pc := 7) (v := 0) dX12_lawWord_7 (by decide) ?_
    cases h
    exact he 8 _ _ _ dX12_lawWord_8 (by decide) (by decide)
set_option maxHeartbeats 4000000 in
set_option maxRecDepth 100000 in
theorem c_X12_lawWord {G : GG} {M : Mm} {l0 : Option Nat} {r : Int32 × Mm} (h : f_X12_lawWord M l0 = some r) (l : Launch) : Ct l G j_X12_lawWord b_X12_lawWord [rf G.1 l0] M (some (.int r.1)) r.2 := cf_I (by decide +kernel) (by simp [lg_sl, rf_cat, cat_i, cat_l, j_X12_lawWord]) rfl (by simp [lv_args, rf_cat, cat_i, cat_l]) (fun X he => t_X12_lawWord_e he h)
def f_X12_stepWord (M : Mm) (l0 : Option Nat) : Option (Int32 × Mm) := bd (f_X12_spelled M 104 111 117 114 0 0) fun v11 M11 => ck M11 l0 12 <| bd (f_X12_isWord M11 l0 v11) fun v14 M14 => if v14 = 0 then (bd (f_X12_spelled M14 103 97 108 101 0 0) fun v33 M33 => ck M33 l0 12 <| bd (f_X12_isWord M33 l0 v33) fun v36 M36 => if v36 = 0 then (bd (f_X12_spelled M36 100 97 119 110 0 0) fun v55 M55 => ck M55 l0 12 <| bd (f_X12_isWord M55 l0 v55) fun v58 M58 => if v58 = 0 then (bd (f_X12_spelled M58 108 105 102 116 0 0) fun v77 M77 => ck M77 l0 12 <| bd (f_X12_isWord M77 l0 v77) fun v80 M80 => if v80 = 0 then (bd (f_X12_spelled M80 114 101 115 116 0 0) fun v99 M99 => ck M99 l0 12 <| bd (f_X12_isWord M99 l0 v99) fun v102 M102 => if v102 = 0 then (bd (f_X12_spelled M102 119 104 101 110 0 0) fun v121 M121 => ck M121 l0 12 <| bd (f_X12_isWord M121 l0 v121) fun v124 M124 => if v124 = 0 then (bd (f_X12_spelled M124 108 111 111 112 0 0) fun v143 M143 => ck M143 l0 12 <| bd (f_X12_isWord M143 l0 v143) fun v146 M146 => if v146 = 0 then (bd (f_X12_spelled M146 115 116 111 112 0 0) fun v166 M166 => ck M166 l0 12 <| bd (f_X12_isWord M166 l0 v166) fun v169 M169 => if v169 = 0 then (some ((-1), M169)) else (some (7, M169))) else (some (6, M146))) else (some (5, M124))) else (some (4, M102))) else (some (3, M80))) else (some (2, M58))) else (some (1, M36))) else (some (0, M14))
set_option maxHeartbeats 4000000 in
set_option maxRecDepth 100000 in
theorem t_X12_stepWord_e {G : GG} {X : CX} {ans : Int32 × Mm} (he : EndI G X j_X12_stepWord b_X12_stepWord ans) {M : Mm} {l0 : Option Nat} (h : f_X12_stepWord M l0 = some ans) : Wt G X j_X12_stepWord b_X12_stepWord 0 [(0, rf G.1 l0)] [] M 0 0 := by
  unfold f_X12_stepWord at h
  refine wt_aload_n (pc := 0) 0 dX12_stepWord_0 rfl ?_
  refine wt_bipush (pc := 1) (v := 104) dX12_stepWord_1 (by decide) ?_
  refine wt_bipush (pc := 3) (v := 111) dX12_stepWord_3 (by decide) ?_
  refine wt_bipush (pc := 5) (v := 117) dX12_stepWord_5 (by decide) ?_
  refine wt_bipush (pc := 7) (v := 114) dX12_stepWord_7 (by decide) ?_
  refine wt_iconst (pc := 9) (v := 0) dX12_stepWord_9 (by decide) ?_
  refine wt_iconst (pc := 10) (v := 0) dX12_stepWord_10 (by decide) ?_
  refine wt_cSL (pc := 11) (J' := j_X12_spelled) (As := [.int 104, .int 111, .int 117, .int 114, .int 0, .int 0]) (st := [rf G.1 l0]) (B' := b_X12_spelled) (u' := 0) (w' := 0) dX12_stepWord_11 ml_X12_148 ms_X12_spelled (fun v9 M9 e9 => c_X12_spelled e9) rfl (by decide) rfl rfl (by decide) (by decide) (by simp [rf_cat, cat_i, cat_l, cat_r]) rfl h (fun v11 M11 h => ?_)
  refine wt_cVI (pc := 14) (J' := j_X12_isWord) (As := [.long v11]) (st := []) (B' := b_X12_isWord) (u' := 0) (w' := 0) dX12_stepWord_14 ml_X12_152 mv_X12_isWord (fun v9 M9 e9 => c_X12_isWord e9) rfl (by decide) rfl rfl (by decide) (by decide) (by decide) rfl h (fun v14 M14 h => ?_)
  refine wt_if_eq (pc := 17) (tgt := 22) dX12_stepWord_17 (by decide) (fun q => ?_) (fun q => ?_)
  · have h := ite_t q h
    refine wt_aload_n (pc := 22) 0 dX12_stepWord_22 rfl ?_
    refine wt_bipush (pc := 23) (v := 103) dX12_stepWord_23 (by decide) ?_
    refine wt_bipush (pc := 25) (v := 97) dX12_stepWord_25 (by decide) ?_
    refine wt_bipush (pc := 27) (v := 108) dX12_stepWord_27 (by decide) ?_
    refine wt_bipush (pc := 29) (v := 101) dX12_stepWord_29 (by decide) ?_
    refine wt_iconst (pc := 31) (v := 0) dX12_stepWord_31 (by decide) ?_
    refine wt_iconst (pc := 32) (v := 0) dX12_stepWord_32 (by decide) ?_
    refine wt_cSL (pc := 33) (J' := j_X12_spelled) (As := [.int 103, .int 97, .int 108, .int 101, .int 0, .int 0]) (st := [rf G.1 l0]) (B' := b_X12_spelled) (u' := 0) (w' := 0) dX12_stepWord_33 ml_X12_148 ms_X12_spelled (fun v9 M9 e9 => c_X12_spelled e9) rfl (by decide) rfl rfl (by decide) (by decide) (by simp [rf_cat, cat_i, cat_l, cat_r]) rfl h (fun v33 M33 h => ?_)
    refine wt_cVI (pc := 36) (J' := j_X12_isWord) (As := [.long v33]) (st := []) (B' := b_X12_isWord) (u' := 0) (w' := 0) dX12_stepWord_36 ml_X12_152 mv_X12_isWord (fun v9 M9 e9 => c_X12_isWord e9) rfl (by decide) rfl rfl (by decide) (by decide) (by decide) rfl h (fun v36 M36 h => ?_)
    refine wt_if_eq (pc := 39) (tgt := 44) dX12_stepWord_39 (by decide) (fun q => ?_) (fun q => ?_)
    · have h := ite_t q h
      refine wt_aload_n (pc := 44) 0 dX12_stepWord_44 rfl ?_
      refine wt_bipush (pc := 45) (v := 100) dX12_stepWord_45 (by decide) ?_
      refine wt_bipush (pc := 47) (v := 97) dX12_stepWord_47 (by decide) ?_
      refine wt_bipush (pc := 49) (v := 119) dX12_stepWord_49 (by decide) ?_
      refine wt_bipush (pc := 51) (v := 110) dX12_stepWord_51 (by decide) ?_
      refine wt_iconst (pc := 53) (v := 0) dX12_stepWord_53 (by decide) ?_
      refine wt_iconst (pc := 54) (v := 0) dX12_stepWord_54 (by decide) ?_
      refine wt_cSL (pc := 55) (J' := j_X12_spelled) (As := [.int 100, .int 97, .int 119, .int 110, .int 0, .int 0]) (st := [rf G.1 l0]) (B' := b_X12_spelled) (u' := 0) (w' := 0) dX12_stepWord_55 ml_X12_148 ms_X12_spelled (fun v9 M9 e9 => c_X12_spelled e9) rfl (by decide) rfl rfl (by decide) (by decide) (by simp [rf_cat, cat_i, cat_l, cat_r]) rfl h (fun v55 M55 h => ?_)
      refine wt_cVI (pc := 58) (J' := j_X12_isWord) (As := [.long v55]) (st := []) (B' := b_X12_isWord) (u' := 0) (w' := 0) dX12_stepWord_58 ml_X12_152 mv_X12_isWord (fun v9 M9 e9 => c_X12_isWord e9) rfl (by decide) rfl rfl (by decide) (by decide) (by decide) rfl h (fun v58 M58 h => ?_)
      refine wt_if_eq (pc := 61) (tgt := 66) dX12_stepWord_61 (by decide) (fun q => ?_) (fun q => ?_)
      · have h := ite_t q h
        refine wt_aload_n (pc := 66) 0 dX12_stepWord_66 rfl ?_
        refine wt_bipush (pc := 67) (v := 108) dX12_stepWord_67 (by decide) ?_
        refine wt_bipush (pc := 69) (v := 105) dX12_stepWord_69 (by decide) ?_
        refine wt_bipush (pc := 71) (v := 102) dX12_stepWord_71 (by decide) ?_
        refine wt_bipush (pc := 73) (v := 116) dX12_stepWord_73 (by decide) ?_
        refine wt_iconst (pc := 75) (v := 0) dX12_stepWord_75 (by decide) ?_
        refine wt_iconst (pc := 76) (v := 0) dX12_stepWord_76 (by decide) ?_
        refine wt_cSL (pc := 77) (J' := j_X12_spelled) (As := [.int 108, .int 105, .int 102, .int 116, .int 0, .int 0]) (st := [rf G.1 l0]) (B' := b_X12_spelled) (u' := 0) (w' := 0) dX12_stepWord_77 ml_X12_148 ms_X12_spelled (fun v9 M9 e9 => c_X12_spelled e9) rfl (by decide) rfl rfl (by decide) (by decide) (by simp [rf_cat, cat_i, cat_l, cat_r]) rfl h (fun v77 M77 h => ?_)
        refine wt_cVI (pc := 80) (J' := j_X12_isWord) (As := [.long v77]) (st := []) (B' := b_X12_isWord) (u' := 0) (w' := 0) dX12_stepWord_80 ml_X12_152 mv_X12_isWord (fun v9 M9 e9 => c_X12_isWord e9) rfl (by decide) rfl rfl (by decide) (by decide) (by decide) rfl h (fun v80 M80 h => ?_)
        refine wt_if_eq (pc := 83) (tgt := 88) dX12_stepWord_83 (by decide) (fun q => ?_) (fun q => ?_)
        · have h := ite_t q h
          refine wt_aload_n (pc := 88) 0 dX12_stepWord_88 rfl ?_
          refine wt_bipush (pc := 89) (v := 114) dX12_stepWord_89 (by decide) ?_
          refine wt_bipush (pc := 91) (v := 101) dX12_stepWord_91 (by decide) ?_
          refine wt_bipush (pc := 93) (v := 115) dX12_stepWord_93 (by decide) ?_
          refine wt_bipush (pc := 95) (v := 116) dX12_stepWord_95 (by decide) ?_
          refine wt_iconst (pc := 97) (v := 0) dX12_stepWord_97 (by decide) ?_
          refine wt_iconst (pc := 98) (v := 0) dX12_stepWord_98 (by decide) ?_
          refine wt_cSL (pc := 99) (J' := j_X12_spelled) (As := [.int 114, .int 101, .int 115, .int 116, .int 0, .int 0]) (st := [rf G.1 l0]) (B' := b_X12_spelled) (u' := 0) (w' := 0) dX12_stepWord_99 ml_X12_148 ms_X12_spelled (fun v9 M9 e9 => c_X12_spelled e9) rfl (by decide) rfl rfl (by decide) (by decide) (by simp [rf_cat, cat_i, cat_l, cat_r]) rfl h (fun v99 M99 h => ?_)
          refine wt_cVI (pc := 102) (J' := j_X12_isWord) (As := [.long v99]) (st := []) (B' := b_X12_isWord) (u' := 0) (w' := 0) dX12_stepWord_102 ml_X12_152 mv_X12_isWord (fun v9 M9 e9 => c_X12_isWord e9) rfl (by decide) rfl rfl (by decide) (by decide) (by decide) rfl h (fun v102 M102 h => ?_)
          refine wt_if_eq (pc := 105) (tgt := 110) dX12_stepWord_105 (by decide) (fun q => ?_) (fun q => ?_)
          · have h := ite_t q h
            refine wt_aload_n (pc := 110) 0 dX12_stepWord_110 rfl ?_
            refine wt_bipush (pc := 111) (v := 119) dX12_stepWord_111 (by decide) ?_
            refine wt_bipush (pc := 113) (v := 104) dX12_stepWord_113 (by decide) ?_
            refine wt_bipush (pc := 115) (v := 101) dX12_stepWord_115 (by decide) ?_
            refine wt_bipush (pc := 117) (v := 110) dX12_stepWord_117 (by decide) ?_
            refine wt_iconst (pc := 119) (v := 0) dX12_stepWord_119 (by decide) ?_
            refine wt_iconst (pc := 120) (v := 0) dX12_stepWord_120 (by decide) ?_
            refine wt_cSL (pc := 121) (J' := j_X12_spelled) (As := [.int 119, .int 104, .int 101, .int 110, .int 0, .int 0]) (st := [rf G.1 l0]) (B' := b_X12_spelled) (u' := 0) (w' := 0) dX12_stepWord_121 ml_X12_148 ms_X12_spelled (fun v9 M9 e9 => c_X12_spelled e9) rfl (by decide) rfl rfl (by decide) (by decide) (by simp [rf_cat, cat_i, cat_l, cat_r]) rfl h (fun v121 M121 h => ?_)
            refine wt_cVI (pc := 124) (J' := j_X12_isWord) (As := [.long v121]) (st := []) (B' := b_X12_isWord) (u' := 0) (w' := 0) dX12_stepWord_124 ml_X12_152 mv_X12_isWord (fun v9 M9 e9 => c_X12_isWord e9) rfl (by decide) rfl rfl (by decide) (by decide) (by decide) rfl h (fun v124 M124 h => ?_)
            refine wt_if_eq (pc := 127) (tgt := 132) dX12_stepWord_127 (by decide) (fun q => ?_) (fun q => ?_)
            · have h := ite_t q h
              refine wt_aload_n (pc := 132) 0 dX12_stepWord_132 rfl ?_
              refine wt_bipush (pc := 133) (v := 108) dX12_stepWord_133 (by decide) ?_
              refine wt_bipush (pc := 135) (v := 111) dX12_stepWord_135 (by decide) ?_
              refine wt_bipush (pc := 137) (v := 111) dX12_stepWord_137 (by decide) ?_
              refine wt_bipush (pc := 139) (v := 112) dX12_stepWord_139 (by decide) ?_
              refine wt_iconst (pc := 141) (v := 0) dX12_stepWord_141 (by decide) ?_
              refine wt_iconst (pc := 142) (v := 0) dX12_stepWord_142 (by decide) ?_
              refine wt_cSL (pc := 143) (J' := j_X12_spelled) (As := [.int 108, .int 111, .int 111, .int 112, .int 0, .int 0]) (st := [rf G.1 l0]) (B' := b_X12_spelled) (u' := 0) (w' := 0) dX12_stepWord_143 ml_X12_148 ms_X12_spelled (fun v9 M9 e9 => c_X12_spelled e9) rfl (by decide) rfl rfl (by decide) (by decide) (by simp [rf_cat, cat_i, cat_l, cat_r]) rfl h (fun v143 M143 h => ?_)
              refine wt_cVI (pc := 146) (J' := j_X12_isWord) (As := [.long v143]) (st := []) (B' := b_X12_isWord) (u' := 0) (w' := 0) dX12_stepWord_146 ml_X12_152 mv_X12_isWord (fun v9 M9 e9 => c_X12_isWord e9) rfl (by decide) rfl rfl (by decide) (by decide) (by decide) rfl h (fun v146 M146 h => ?_)
              refine wt_if_eq (pc := 149) (tgt := 155) dX12_stepWord_149 (by decide) (fun q => ?_) (fun q => ?_)
              · have h := ite_t q h
                refine wt_aload_n (pc := 155) 0 dX12_stepWord_155 rfl ?_
                refine wt_bipush (pc := 156) (v := 115) dX12_stepWord_156 (by decide) ?_
                refine wt_bipush (pc := 158) (v := 116) dX12_stepWord_158 (by decide) ?_
                refine wt_bipush (pc := 160) (v := 111) dX12_stepWord_160 (by decide) ?_
                refine wt_bipush (pc := 162) (v := 112) dX12_stepWord_162 (by decide) ?_
                refine wt_iconst (pc := 164) (v := 0) dX12_stepWord_164 (by decide) ?_
                refine wt_iconst (pc := 165) (v := 0) dX12_stepWord_165 (by decide) ?_
                refine wt_cSL (pc := 166) (J' := j_X12_spelled) (As := [.int 115, .int 116, .int 111, .int 112, .int 0, .int 0]) (st := [rf G.1 l0]) (B' := b_X12_spelled) (u' := 0) (w' := 0) dX12_stepWord_166 ml_X12_148 ms_X12_spelled (fun v9 M9 e9 => c_X12_spelled e9) rfl (by decide) rfl rfl (by decide) (by decide) (by simp [rf_cat, cat_i, cat_l, cat_r]) rfl h (fun v166 M166 h => ?_)
                refine wt_cVI (pc := 169) (J' := j_X12_isWord) (As := [.long v166]) (st := []) (B' := b_X12_isWord) (u' := 0) (w' := 0) dX12_stepWord_169 ml_X12_152 mv_X12_isWord (fun v9 M9 e9 => c_X12_isWord e9) rfl (by decide) rfl rfl (by decide) (by decide) (by decide) rfl h (fun v169 M169 h => ?_)
                refine wt_if_eq (pc := 172) (tgt := 180) dX12_stepWord_172 (by decide) (fun q => ?_) (fun q => ?_)
                · have h := ite_t q h
                  refine wt_iconst (pc := 180) (v := (-1)) dX12_stepWord_180 (by decide) ?_
                  cases h
                  exact he 181 _ _ _ dX12_stepWord_181 (by decide) (by decide)
                · have h := ite_f q h
                  refine wt_bipush (pc := 175) (v := 7) dX12_stepWord_175 (by decide) ?_
                  refine wt_goto (pc := 177) (tgt := 181) dX12_stepWord_177 (by decide) ?_
                  cases h
                  exact he 181 _ _ _ dX12_stepWord_181 (by decide) (by decide)
              · have h := ite_f q h
                refine wt_bipush (pc := 152) (v := 6) dX12_stepWord_152 (by decide) ?_
                cases h
                exact he 154 _ _ _ dX12_stepWord_154 (by decide) (by decide)
            · have h := ite_f q h
              refine wt_iconst (pc := 130) (v := 5) dX12_stepWord_130 (by decide) ?_
              cases h
              exact he 131 _ _ _ dX12_stepWord_131 (by decide) (by decide)
          · have h := ite_f q h
            refine wt_iconst (pc := 108) (v := 4) dX12_stepWord_108 (by decide) ?_
            cases h
            exact he 109 _ _ _ dX12_stepWord_109 (by decide) (by decide)
        · have h := ite_f q h
          refine wt_iconst (pc := 86) (v := 3) dX12_stepWord_86 (by decide) ?_
          cases h
          exact he 87 _ _ _ dX12_stepWord_87 (by decide) (by decide)
      · have h := ite_f q h
        refine wt_iconst (pc := 64) (v := 2) dX12_stepWord_64 (by decide) ?_
        cases h
        exact he 65 _ _ _ dX12_stepWord_65 (by decide) (by decide)
    · have h := ite_f q h
      refine wt_iconst (pc := 42) (v := 1) dX12_stepWord_42 (by decide) ?_
      cases h
      exact he 43 _ _ _ dX12_stepWord_43 (by decide) (by decide)
  · have h := ite_f q h
    refine wt_iconst (pc := 20) (v := 0) dX12_stepWord_20 (by decide) ?_
    cases h
    exact he 21 _ _ _ dX12_stepWord_21 (by decide) (by decide)
set_option maxHeartbeats 4000000 in
set_option maxRecDepth 100000 in
theorem c_X12_stepWord {G : GG} {M : Mm} {l0 : Option Nat} {r : Int32 × Mm} (h : f_X12_stepWord M l0 = some r) (l : Launch) : Ct l G j_X12_stepWord b_X12_stepWord [rf G.1 l0] M (some (.int r.1)) r.2 := cf_I (by decide +kernel) (by simp [lg_sl, rf_cat, cat_i, cat_l, j_X12_stepWord]) rfl (by simp [lv_args, rf_cat, cat_i, cat_l]) (fun X he => t_X12_stepWord_e he h)
def f_X12_testWord (M : Mm) (l0 : Option Nat) : Option (Int32 × Mm) := bd (f_X12_spelled M 111 102 102 0 0 0) fun v10 M10 => ck M10 l0 12 <| bd (f_X12_isWord M10 l0 v10) fun v13 M13 => if v13 = 0 then (bd (f_X12_spelled M13 115 116 97 110 100 115) fun v34 M34 => ck M34 l0 12 <| bd (f_X12_isWord M34 l0 v34) fun v37 M37 => if v37 = 0 then (ck M37 l0 12 <| bd (f_X12_isWorth M37 l0) fun v46 M46 => if v46 = 0 then (some ((-1), M46)) else (some (2, M46))) else (some (1, M37))) else (some (0, M13))
set_option maxHeartbeats 4000000 in
set_option maxRecDepth 100000 in
theorem t_X12_testWord_e {G : GG} {X : CX} {ans : Int32 × Mm} (he : EndI G X j_X12_testWord b_X12_testWord ans) {M : Mm} {l0 : Option Nat} (h : f_X12_testWord M l0 = some ans) : Wt G X j_X12_testWord b_X12_testWord 0 [(0, rf G.1 l0)] [] M 0 0 := by
  unfold f_X12_testWord at h
  refine wt_aload_n (pc := 0) 0 dX12_testWord_0 rfl ?_
  refine wt_bipush (pc := 1) (v := 111) dX12_testWord_1 (by decide) ?_
  refine wt_bipush (pc := 3) (v := 102) dX12_testWord_3 (by decide) ?_
  refine wt_bipush (pc := 5) (v := 102) dX12_testWord_5 (by decide) ?_
  refine wt_iconst (pc := 7) (v := 0) dX12_testWord_7 (by decide) ?_
  refine wt_iconst (pc := 8) (v := 0) dX12_testWord_8 (by decide) ?_
  refine wt_iconst (pc := 9) (v := 0) dX12_testWord_9 (by decide) ?_
  refine wt_cSL (pc := 10) (J' := j_X12_spelled) (As := [.int 111, .int 102, .int 102, .int 0, .int 0, .int 0]) (st := [rf G.1 l0]) (B' := b_X12_spelled) (u' := 0) (w' := 0) dX12_testWord_10 ml_X12_148 ms_X12_spelled (fun v9 M9 e9 => c_X12_spelled e9) rfl (by decide) rfl rfl (by decide) (by decide) (by simp [rf_cat, cat_i, cat_l, cat_r]) rfl h (fun v10 M10 h => ?_)
  refine wt_cVI (pc := 13) (J' := j_X12_isWord) (As := [.long v10]) (st := []) (B' := b_X12_isWord) (u' := 0) (w' := 0) dX12_testWord_13 ml_X12_152 mv_X12_isWord (fun v9 M9 e9 => c_X12_isWord e9) rfl (by decide) rfl rfl (by decide) (by decide) (by decide) rfl h (fun v13 M13 h => ?_)
  refine wt_if_eq (pc := 16) (tgt := 21) dX12_testWord_16 (by decide) (fun q => ?_) (fun q => ?_)
  · have h := ite_t q h
    refine wt_aload_n (pc := 21) 0 dX12_testWord_21 rfl ?_
    refine wt_bipush (pc := 22) (v := 115) dX12_testWord_22 (by decide) ?_
    refine wt_bipush (pc := 24) (v := 116) dX12_testWord_24 (by decide) ?_
    refine wt_bipush (pc := 26) (v := 97) dX12_testWord_26 (by decide) ?_
    refine wt_bipush (pc := 28) (v := 110) dX12_testWord_28 (by decide) ?_
    refine wt_bipush (pc := 30) (v := 100) dX12_testWord_30 (by decide) ?_
    refine wt_bipush (pc := 32) (v := 115) dX12_testWord_32 (by decide) ?_
    refine wt_cSL (pc := 34) (J' := j_X12_spelled) (As := [.int 115, .int 116, .int 97, .int 110, .int 100, .int 115]) (st := [rf G.1 l0]) (B' := b_X12_spelled) (u' := 0) (w' := 0) dX12_testWord_34 ml_X12_148 ms_X12_spelled (fun v9 M9 e9 => c_X12_spelled e9) rfl (by decide) rfl rfl (by decide) (by decide) (by simp [rf_cat, cat_i, cat_l, cat_r]) rfl h (fun v34 M34 h => ?_)
    refine wt_cVI (pc := 37) (J' := j_X12_isWord) (As := [.long v34]) (st := []) (B' := b_X12_isWord) (u' := 0) (w' := 0) dX12_testWord_37 ml_X12_152 mv_X12_isWord (fun v9 M9 e9 => c_X12_isWord e9) rfl (by decide) rfl rfl (by decide) (by decide) (by decide) rfl h (fun v37 M37 h => ?_)
    refine wt_if_eq (pc := 40) (tgt := 45) dX12_testWord_40 (by decide) (fun q => ?_) (fun q => ?_)
    · have h := ite_t q h
      refine wt_aload_n (pc := 45) 0 dX12_testWord_45 rfl ?_
      refine wt_cVI (pc := 46) (J' := j_X12_isWorth) (As := []) (st := []) (B' := b_X12_isWorth) (u' := 0) (w' := 0) dX12_testWord_46 ml_X12_156 mv_X12_isWorth (fun v9 M9 e9 => c_X12_isWorth e9) rfl (by decide) rfl rfl (by decide) (by decide) (by decide) rfl h (fun v46 M46 h => ?_)
      refine wt_if_eq (pc := 49) (tgt := 56) dX12_testWord_49 (by decide) (fun q => ?_) (fun q => ?_)
      · have h := ite_t q h
        refine wt_iconst (pc := 56) (v := (-1)) dX12_testWord_56 (by decide) ?_
        cases h
        exact he 57 _ _ _ dX12_testWord_57 (by decide) (by decide)
      · have h := ite_f q h
        refine wt_iconst (pc := 52) (v := 2) dX12_testWord_52 (by decide) ?_
        refine wt_goto (pc := 53) (tgt := 57) dX12_testWord_53 (by decide) ?_
        cases h
        exact he 57 _ _ _ dX12_testWord_57 (by decide) (by decide)
    · have h := ite_f q h
      refine wt_iconst (pc := 43) (v := 1) dX12_testWord_43 (by decide) ?_
      cases h
      exact he 44 _ _ _ dX12_testWord_44 (by decide) (by decide)
  · have h := ite_f q h
    refine wt_iconst (pc := 19) (v := 0) dX12_testWord_19 (by decide) ?_
    cases h
    exact he 20 _ _ _ dX12_testWord_20 (by decide) (by decide)
set_option maxHeartbeats 4000000 in
set_option maxRecDepth 100000 in
theorem c_X12_testWord {G : GG} {M : Mm} {l0 : Option Nat} {r : Int32 × Mm} (h : f_X12_testWord M l0 = some r) (l : Launch) : Ct l G j_X12_testWord b_X12_testWord [rf G.1 l0] M (some (.int r.1)) r.2 := cf_I (by decide +kernel) (by simp [lg_sl, rf_cat, cat_i, cat_l, j_X12_testWord]) rfl (by simp [lv_args, rf_cat, cat_i, cat_l]) (fun X he => t_X12_testWord_e he h)
def g_X12_isEnd (M : Mm) (l0 : Option Nat) : Option (Int32 × Mm) := bd (f_X12_spelled M 101 110 100 0 0 0) fun v10 M10 => ck M10 l0 12 <| bd (f_X12_isWord M10 l0 v10) fun v13 M13 => some (v13, M13)
def f_X12_isEnd (M : Mm) (l0 : Option Nat) : Option (Int32 × Mm) := zc (g_X12_isEnd M l0)
set_option maxHeartbeats 4000000 in
set_option maxRecDepth 100000 in
theorem t_X12_isEnd_e {G : GG} {X : CX} {ans : Int32 × Mm} (he : EndI G X j_X12_isEnd b_X12_isEnd ans) {M : Mm} {l0 : Option Nat} (h : g_X12_isEnd M l0 = some ans) : Wt G X j_X12_isEnd b_X12_isEnd 0 [(0, rf G.1 l0)] [] M 0 0 := by
  unfold g_X12_isEnd at h
  refine wt_aload_n (pc := 0) 0 dX12_isEnd_0 rfl ?_
  refine wt_bipush (pc := 1) (v := 101) dX12_isEnd_1 (by decide) ?_
  refine wt_bipush (pc := 3) (v := 110) dX12_isEnd_3 (by decide) ?_
  refine wt_bipush (pc := 5) (v := 100) dX12_isEnd_5 (by decide) ?_
  refine wt_iconst (pc := 7) (v := 0) dX12_isEnd_7 (by decide) ?_
  refine wt_iconst (pc := 8) (v := 0) dX12_isEnd_8 (by decide) ?_
  refine wt_iconst (pc := 9) (v := 0) dX12_isEnd_9 (by decide) ?_
  refine wt_cSL (pc := 10) (J' := j_X12_spelled) (As := [.int 101, .int 110, .int 100, .int 0, .int 0, .int 0]) (st := [rf G.1 l0]) (B' := b_X12_spelled) (u' := 0) (w' := 0) dX12_isEnd_10 ml_X12_148 ms_X12_spelled (fun v9 M9 e9 => c_X12_spelled e9) rfl (by decide) rfl rfl (by decide) (by decide) (by simp [rf_cat, cat_i, cat_l, cat_r]) rfl h (fun v10 M10 h => ?_)
  refine wt_cVI (pc := 13) (J' := j_X12_isWord) (As := [.long v10]) (st := []) (B' := b_X12_isWord) (u' := 0) (w' := 0) dX12_isEnd_13 ml_X12_152 mv_X12_isWord (fun v9 M9 e9 => c_X12_isWord e9) rfl (by decide) rfl rfl (by decide) (by decide) (by decide) rfl h (fun v13 M13 h => ?_)
  cases h
  exact he 16 _ _ _ dX12_isEnd_16 (by decide) (by decide)
set_option maxHeartbeats 4000000 in
set_option maxRecDepth 100000 in
theorem c_X12_isEnd {G : GG} {M : Mm} {l0 : Option Nat} {r : Int32 × Mm} (h : f_X12_isEnd M l0 = some r) (l : Launch) : Ct l G j_X12_isEnd b_X12_isEnd [rf G.1 l0] M (some (.int r.1)) r.2 := cf_Z h (by decide +kernel) (by simp [lg_sl, rf_cat, cat_i, cat_l, j_X12_isEnd]) rfl (by simp [lv_args, rf_cat, cat_i, cat_l]) (fun h X he => t_X12_isEnd_e he h)
def f_X12_isKept_135 (M : Mm)  : Option (Int32 × Mm) := some (1, M)
def g_X12_isKept (M : Mm) (l0 : Option Nat) : Option (Int32 × Mm) := ck M l0 12 <| bd (f_X12_isHouse M l0) fun v1 M1 => if v1 = 0 then (ck M1 l0 12 <| bd (f_X12_isAt M1 l0) fun v8 M8 => if v8 = 0 then (ck M8 l0 12 <| bd (f_X12_isPieces M8 l0) fun v15 M15 => if v15 = 0 then (ck M15 l0 12 <| bd (f_X12_isWeight M15 l0) fun v22 M22 => if v22 = 0 then (ck M22 l0 12 <| bd (f_X12_isLong M22 l0) fun v29 M29 => if v29 = 0 then (ck M29 l0 12 <| bd (f_X12_isPegs M29 l0) fun v36 M36 => if v36 = 0 then (ck M36 l0 12 <| bd (f_X12_isGang M36 l0) fun v43 M43 => if v43 = 0 then (ck M43 l0 12 <| bd (f_X12_isHands M43 l0) fun v50 M50 => if v50 = 0 then (ck M50 l0 12 <| bd (f_X12_isPace M50 l0) fun v57 M57 => if v57 = 0 then (ck M57 l0 12 <| bd (f_X12_isHelped M57 l0) fun v64 M64 => if v64 = 0 then (ck M64 l0 12 <| bd (f_X12_isBy M64 l0) fun v71 M71 => if v71 = 0 then (ck M71 l0 12 <| bd (f_X12_isWind M71 l0) fun v80 M80 => if v80 = 0 then (ck M80 l0 12 <| bd (f_X12_isOf M80 l0) fun v87 M87 => if v87 = 0 then (ck M87 l0 12 <| bd (f_X12_isLaw M87 l0) fun v94 M94 => if v94 = 0 then (ck M94 l0 12 <| bd (f_X12_isWith M94 l0) fun v101 M101 => if v101 = 0 then (ck M101 l0 12 <| bd (f_X12_lawWord M101 l0) fun v108 M108 => if 0 ≤ v108 then (f_X12_isKept_135  M108) else (ck M108 l0 12 <| bd (f_X12_stepWord M108 l0) fun v115 M115 => if 0 ≤ v115 then (f_X12_isKept_135  M115) else (ck M115 l0 12 <| bd (f_X12_testWord M115 l0) fun v122 M122 => if 0 ≤ v122 then (f_X12_isKept_135  M122) else (ck M122 l0 12 <| bd (f_X12_isEnd M122 l0) fun v129 M129 => if v129 = 0 then (some (0, M129)) else (f_X12_isKept_135  M129))))) else (f_X12_isKept_135  M101)) else (f_X12_isKept_135  M94)) else (f_X12_isKept_135  M87)) else (f_X12_isKept_135  M80)) else (some (1, M71))) else (some (1, M64))) else (some (1, M57))) else (some (1, M50))) else (some (1, M43))) else (some (1, M36))) else (some (1, M29))) else (some (1, M22))) else (some (1, M15))) else (some (1, M8))) else (some (1, M1))
def f_X12_isKept (M : Mm) (l0 : Option Nat) : Option (Int32 × Mm) := zc (g_X12_isKept M l0)
set_option maxHeartbeats 4000000 in
set_option maxRecDepth 100000 in
theorem t_X12_isKept_135 {G : GG} {X : CX} {ans : Int32 × Mm} (he : EndI G X j_X12_isKept b_X12_isKept ans) {M : Mm}  (h : f_X12_isKept_135 M = some ans) : Wt G X j_X12_isKept b_X12_isKept 135 [] [] M 0 0 := by
  unfold f_X12_isKept_135 at h
  refine wt_iconst (pc := 135) (v := 1) dX12_isKept_135 (by decide) ?_
  refine wt_goto (pc := 136) (tgt := 140) dX12_isKept_136 (by decide) ?_
  cases h
  exact he 140 _ _ _ dX12_isKept_140 (by decide) (by decide)
set_option maxHeartbeats 4000000 in
set_option maxRecDepth 100000 in
theorem t_X12_isKept_e {G : GG} {X : CX} {ans : Int32 × Mm} (he : EndI G X j_X12_isKept b_X12_isKept ans) {M : Mm} {l0 : Option Nat} (h : g_X12_isKept M l0 = some ans) : Wt G X j_X12_isKept b_X12_isKept 0 [(0, rf G.1 l0)] [] M 0 0 := by
  unfold g_X12_isKept at h
  refine wt_aload_n (pc := 0) 0 dX12_isKept_0 rfl ?_
  refine wt_cVI (pc := 1) (J' := j_X12_isHouse) (As := []) (st := []) (B' := b_X12_isHouse) (u' := 0) (w' := 0) dX12_isKept_1 ml_X12_160 mv_X12_isHouse (fun v9 M9 e9 => c_X12_isHouse e9) rfl (by decide) rfl rfl (by decide) (by decide) (by decide) rfl h (fun v1 M1 h => ?_)
  refine wt_if_ne (pc := 4) (tgt := 77) dX12_isKept_4 (by decide) (fun q => ?_) (fun q => ?_)
  · have h := ite_f q h
    refine wt_iconst (pc := 77) (v := 1) dX12_isKept_77 (by decide) ?_
    cases h
    exact he 78 _ _ _ dX12_isKept_78 (by decide) (by decide)
  · have h := ite_t q h
    refine wt_aload_n (pc := 7) 0 dX12_isKept_7 rfl ?_
    refine wt_cVI (pc := 8) (J' := j_X12_isAt) (As := []) (st := []) (B' := b_X12_isAt) (u' := 0) (w' := 0) dX12_isKept_8 ml_X12_163 mv_X12_isAt (fun v9 M9 e9 => c_X12_isAt e9) rfl (by decide) rfl rfl (by decide) (by decide) (by decide) rfl h (fun v8 M8 h => ?_)
    refine wt_if_ne (pc := 11) (tgt := 77) dX12_isKept_11 (by decide) (fun q => ?_) (fun q => ?_)
    · have h := ite_f q h
      refine wt_iconst (pc := 77) (v := 1) dX12_isKept_77 (by decide) ?_
      cases h
      exact he 78 _ _ _ dX12_isKept_78 (by decide) (by decide)
    · have h := ite_t q h
      refine wt_aload_n (pc := 14) 0 dX12_isKept_14 rfl ?_
      refine wt_cVI (pc := 15) (J' := j_X12_isPieces) (As := []) (st := []) (B' := b_X12_isPieces) (u' := 0) (w' := 0) dX12_isKept_15 ml_X12_166 mv_X12_isPieces (fun v9 M9 e9 => c_X12_isPieces e9) rfl (by decide) rfl rfl (by decide) (by decide) (by decide) rfl h (fun v15 M15 h => ?_)
      refine wt_if_ne (pc := 18) (tgt := 77) dX12_isKept_18 (by decide) (fun q => ?_) (fun q => ?_)
      · have h := ite_f q h
        refine wt_iconst (pc := 77) (v := 1) dX12_isKept_77 (by decide) ?_
        cases h
        exact he 78 _ _ _ dX12_isKept_78 (by decide) (by decide)
      · have h := ite_t q h
        refine wt_aload_n (pc := 21) 0 dX12_isKept_21 rfl ?_
        refine wt_cVI (pc := 22) (J' := j_X12_isWeight) (As := []) (st := []) (B' := b_X12_isWeight) (u' := 0) (w' := 0) dX12_isKept_22 ml_X12_169 mv_X12_isWeight (fun v9 M9 e9 => c_X12_isWeight e9) rfl (by decide) rfl rfl (by decide) (by decide) (by decide) rfl h (fun v22 M22 h => ?_)
        refine wt_if_ne (pc := 25) (tgt := 77) dX12_isKept_25 (by decide) (fun q => ?_) (fun q => ?_)
        · have h := ite_f q h
          refine wt_iconst (pc := 77) (v := 1) dX12_isKept_77 (by decide) ?_
          cases h
          exact he 78 _ _ _ dX12_isKept_78 (by decide) (by decide)
        · have h := ite_t q h
          refine wt_aload_n (pc := 28) 0 dX12_isKept_28 rfl ?_
          refine wt_cVI (pc := 29) (J' := j_X12_isLong) (As := []) (st := []) (B' := b_X12_isLong) (u' := 0) (w' := 0) dX12_isKept_29 ml_X12_172 mv_X12_isLong (fun v9 M9 e9 => c_X12_isLong e9) rfl (by decide) rfl rfl (by decide) (by decide) (by decide) rfl h (fun v29 M29 h => ?_)
          refine wt_if_ne (pc := 32) (tgt := 77) dX12_isKept_32 (by decide) (fun q => ?_) (fun q => ?_)
          · have h := ite_f q h
            refine wt_iconst (pc := 77) (v := 1) dX12_isKept_77 (by decide) ?_
            cases h
            exact he 78 _ _ _ dX12_isKept_78 (by decide) (by decide)
          · have h := ite_t q h
            refine wt_aload_n (pc := 35) 0 dX12_isKept_35 rfl ?_
            refine wt_cVI (pc := 36) (J' := j_X12_isPegs) (As := []) (st := []) (B' := b_X12_isPegs) (u' := 0) (w' := 0) dX12_isKept_36 ml_X12_175 mv_X12_isPegs (fun v9 M9 e9 => c_X12_isPegs e9) rfl (by decide) rfl rfl (by decide) (by decide) (by decide) rfl h (fun v36 M36 h => ?_)
            refine wt_if_ne (pc := 39) (tgt := 77) dX12_isKept_39 (by decide) (fun q => ?_) (fun q => ?_)
            · have h := ite_f q h
              refine wt_iconst (pc := 77) (v := 1) dX12_isKept_77 (by decide) ?_
              cases h
              exact he 78 _ _ _ dX12_isKept_78 (by decide) (by decide)
            · have h := ite_t q h
              refine wt_aload_n (pc := 42) 0 dX12_isKept_42 rfl ?_
              refine wt_cVI (pc := 43) (J' := j_X12_isGang) (As := []) (st := []) (B' := b_X12_isGang) (u' := 0) (w' := 0) dX12_isKept_43 ml_X12_178 mv_X12_isGang (fun v9 M9 e9 => c_X12_isGang e9) rfl (by decide) rfl rfl (by decide) (by decide) (by decide) rfl h (fun v43 M43 h => ?_)
              refine wt_if_ne (pc := 46) (tgt := 77) dX12_isKept_46 (by decide) (fun q => ?_) (fun q => ?_)
              · have h := ite_f q h
                refine wt_iconst (pc := 77) (v := 1) dX12_isKept_77 (by decide) ?_
                cases h
                exact he 78 _ _ _ dX12_isKept_78 (by decide) (by decide)
              · have h := ite_t q h
                refine wt_aload_n (pc := 49) 0 dX12_isKept_49 rfl ?_
                refine wt_cVI (pc := 50) (J' := j_X12_isHands) (As := []) (st := []) (B' := b_X12_isHands) (u' := 0) (w' := 0) dX12_isKept_50 ml_X12_181 mv_X12_isHands (fun v9 M9 e9 => c_X12_isHands e9) rfl (by decide) rfl rfl (by decide) (by decide) (by decide) rfl h (fun v50 M50 h => ?_)
                refine wt_if_ne (pc := 53) (tgt := 77) dX12_isKept_53 (by decide) (fun q => ?_) (fun q => ?_)
                · have h := ite_f q h
                  refine wt_iconst (pc := 77) (v := 1) dX12_isKept_77 (by decide) ?_
                  cases h
                  exact he 78 _ _ _ dX12_isKept_78 (by decide) (by decide)
                · have h := ite_t q h
                  refine wt_aload_n (pc := 56) 0 dX12_isKept_56 rfl ?_
                  refine wt_cVI (pc := 57) (J' := j_X12_isPace) (As := []) (st := []) (B' := b_X12_isPace) (u' := 0) (w' := 0) dX12_isKept_57 ml_X12_184 mv_X12_isPace (fun v9 M9 e9 => c_X12_isPace e9) rfl (by decide) rfl rfl (by decide) (by decide) (by decide) rfl h (fun v57 M57 h => ?_)
                  refine wt_if_ne (pc := 60) (tgt := 77) dX12_isKept_60 (by decide) (fun q => ?_) (fun q => ?_)
                  · have h := ite_f q h
                    refine wt_iconst (pc := 77) (v := 1) dX12_isKept_77 (by decide) ?_
                    cases h
                    exact he 78 _ _ _ dX12_isKept_78 (by decide) (by decide)
                  · have h := ite_t q h
                    refine wt_aload_n (pc := 63) 0 dX12_isKept_63 rfl ?_
                    refine wt_cVI (pc := 64) (J' := j_X12_isHelped) (As := []) (st := []) (B' := b_X12_isHelped) (u' := 0) (w' := 0) dX12_isKept_64 ml_X12_187 mv_X12_isHelped (fun v9 M9 e9 => c_X12_isHelped e9) rfl (by decide) rfl rfl (by decide) (by decide) (by decide) rfl h (fun v64 M64 h => ?_)
                    refine wt_if_ne (pc := 67) (tgt := 77) dX12_isKept_67 (by decide) (fun q => ?_) (fun q => ?_)
                    · have h := ite_f q h
                      refine wt_iconst (pc := 77) (v := 1) dX12_isKept_77 (by decide) ?_
                      cases h
                      exact he 78 _ _ _ dX12_isKept_78 (by decide) (by decide)
                    · have h := ite_t q h
                      refine wt_aload_n (pc := 70) 0 dX12_isKept_70 rfl ?_
                      refine wt_cVI (pc := 71) (J' := j_X12_isBy) (As := []) (st := []) (B' := b_X12_isBy) (u' := 0) (w' := 0) dX12_isKept_71 ml_X12_190 mv_X12_isBy (fun v9 M9 e9 => c_X12_isBy e9) rfl (by decide) rfl rfl (by decide) (by decide) (by decide) rfl h (fun v71 M71 h => ?_)
                      refine wt_if_eq (pc := 74) (tgt := 79) dX12_isKept_74 (by decide) (fun q => ?_) (fun q => ?_)
                      · have h := ite_t q h
                        refine wt_aload_n (pc := 79) 0 dX12_isKept_79 rfl ?_
                        refine wt_cVI (pc := 80) (J' := j_X12_isWind) (As := []) (st := []) (B' := b_X12_isWind) (u' := 0) (w' := 0) dX12_isKept_80 ml_X12_193 mv_X12_isWind (fun v9 M9 e9 => c_X12_isWind e9) rfl (by decide) rfl rfl (by decide) (by decide) (by decide) rfl h (fun v80 M80 h => ?_)
                        refine wt_if_ne (pc := 83) (tgt := 135) dX12_isKept_83 (by decide) (fun q => ?_) (fun q => ?_)
                        · have h := ite_f q h
                          refine wt_sub (ls' := []) [] rfl ?_
                          exact t_X12_isKept_135 he  h
                        · have h := ite_t q h
                          refine wt_aload_n (pc := 86) 0 dX12_isKept_86 rfl ?_
                          refine wt_cVI (pc := 87) (J' := j_X12_isOf) (As := []) (st := []) (B' := b_X12_isOf) (u' := 0) (w' := 0) dX12_isKept_87 ml_X12_196 mv_X12_isOf (fun v9 M9 e9 => c_X12_isOf e9) rfl (by decide) rfl rfl (by decide) (by decide) (by decide) rfl h (fun v87 M87 h => ?_)
                          refine wt_if_ne (pc := 90) (tgt := 135) dX12_isKept_90 (by decide) (fun q => ?_) (fun q => ?_)
                          · have h := ite_f q h
                            refine wt_sub (ls' := []) [] rfl ?_
                            exact t_X12_isKept_135 he  h
                          · have h := ite_t q h
                            refine wt_aload_n (pc := 93) 0 dX12_isKept_93 rfl ?_
                            refine wt_cVI (pc := 94) (J' := j_X12_isLaw) (As := []) (st := []) (B' := b_X12_isLaw) (u' := 0) (w' := 0) dX12_isKept_94 ml_X12_199 mv_X12_isLaw (fun v9 M9 e9 => c_X12_isLaw e9) rfl (by decide) rfl rfl (by decide) (by decide) (by decide) rfl h (fun v94 M94 h => ?_)
                            refine wt_if_ne (pc := 97) (tgt := 135) dX12_isKept_97 (by decide) (fun q => ?_) (fun q => ?_)
                            · have h := ite_f q h
                              refine wt_sub (ls' := []) [] rfl ?_
                              exact t_X12_isKept_135 he  h
                            · have h := ite_t q h
                              refine wt_aload_n (pc := 100) 0 dX12_isKept_100 rfl ?_
                              refine wt_cVI (pc := 101) (J' := j_X12_isWith) (As := []) (st := []) (B' := b_X12_isWith) (u' := 0) (w' := 0) dX12_isKept_101 ml_X12_202 mv_X12_isWith (fun v9 M9 e9 => c_X12_isWith e9) rfl (by decide) rfl rfl (by decide) (by decide) (by decide) rfl h (fun v101 M101 h => ?_)
                              refine wt_if_ne (pc := 104) (tgt := 135) dX12_isKept_104 (by decide) (fun q => ?_) (fun q => ?_)
                              · have h := ite_f q h
                                refine wt_sub (ls' := []) [] rfl ?_
                                exact t_X12_isKept_135 he  h
                              · have h := ite_t q h
                                refine wt_aload_n (pc := 107) 0 dX12_isKept_107 rfl ?_
                                refine wt_cVI (pc := 108) (J' := j_X12_lawWord) (As := []) (st := []) (B' := b_X12_lawWord) (u' := 0) (w' := 0) dX12_isKept_108 ml_X12_205 mv_X12_lawWord (fun v9 M9 e9 => c_X12_lawWord e9) rfl (by decide) rfl rfl (by decide) (by decide) (by decide) rfl h (fun v108 M108 h => ?_)
                                refine wt_if_ge (pc := 111) (tgt := 135) dX12_isKept_111 (by decide) (fun q => ?_) (fun q => ?_)
                                · have h := ite_t q h
                                  refine wt_sub (ls' := []) [] rfl ?_
                                  exact t_X12_isKept_135 he  h
                                · have h := ite_f q h
                                  refine wt_aload_n (pc := 114) 0 dX12_isKept_114 rfl ?_
                                  refine wt_cVI (pc := 115) (J' := j_X12_stepWord) (As := []) (st := []) (B' := b_X12_stepWord) (u' := 0) (w' := 0) dX12_isKept_115 ml_X12_209 mv_X12_stepWord (fun v9 M9 e9 => c_X12_stepWord e9) rfl (by decide) rfl rfl (by decide) (by decide) (by decide) rfl h (fun v115 M115 h => ?_)
                                  refine wt_if_ge (pc := 118) (tgt := 135) dX12_isKept_118 (by decide) (fun q => ?_) (fun q => ?_)
                                  · have h := ite_t q h
                                    refine wt_sub (ls' := []) [] rfl ?_
                                    exact t_X12_isKept_135 he  h
                                  · have h := ite_f q h
                                    refine wt_aload_n (pc := 121) 0 dX12_isKept_121 rfl ?_
                                    refine wt_cVI (pc := 122) (J' := j_X12_testWord) (As := []) (st := []) (B' := b_X12_testWord) (u' := 0) (w' := 0) dX12_isKept_122 ml_X12_212 mv_X12_testWord (fun v9 M9 e9 => c_X12_testWord e9) rfl (by decide) rfl rfl (by decide) (by decide) (by decide) rfl h (fun v122 M122 h => ?_)
                                    refine wt_if_ge (pc := 125) (tgt := 135) dX12_isKept_125 (by decide) (fun q => ?_) (fun q => ?_)
                                    · have h := ite_t q h
                                      refine wt_sub (ls' := []) [] rfl ?_
                                      exact t_X12_isKept_135 he  h
                                    · have h := ite_f q h
                                      refine wt_aload_n (pc := 128) 0 dX12_isKept_128 rfl ?_
                                      refine wt_cVI (pc := 129) (J' := j_X12_isEnd) (As := []) (st := []) (B' := b_X12_isEnd) (u' := 0) (w' := 0) dX12_isKept_129 ml_X12_215 mv_X12_isEnd (fun v9 M9 e9 => c_X12_isEnd e9) rfl (by decide) rfl rfl (by decide) (by decide) (by decide) rfl h (fun v129 M129 h => ?_)
                                      refine wt_if_eq (pc := 132) (tgt := 139) dX12_isKept_132 (by decide) (fun q => ?_) (fun q => ?_)
                                      · have h := ite_t q h
                                        refine wt_iconst (pc := 139) (v := 0) dX12_isKept_139 (by decide) ?_
                                        cases h
                                        exact he 140 _ _ _ dX12_isKept_140 (by decide) (by decide)
                                      · have h := ite_f q h
                                        refine wt_sub (ls' := []) [] rfl ?_
                                        exact t_X12_isKept_135 he  h
                      · have h := ite_f q h
                        refine wt_iconst (pc := 77) (v := 1) dX12_isKept_77 (by decide) ?_
                        cases h
                        exact he 78 _ _ _ dX12_isKept_78 (by decide) (by decide)
set_option maxHeartbeats 4000000 in
set_option maxRecDepth 100000 in
theorem c_X12_isKept {G : GG} {M : Mm} {l0 : Option Nat} {r : Int32 × Mm} (h : f_X12_isKept M l0 = some r) (l : Launch) : Ct l G j_X12_isKept b_X12_isKept [rf G.1 l0] M (some (.int r.1)) r.2 := cf_Z h (by decide +kernel) (by simp [lg_sl, rf_cat, cat_i, cat_l, j_X12_isKept]) rfl (by simp [lv_args, rf_cat, cat_i, cat_l]) (fun h X he => t_X12_isKept_e he h)

theorem fl_X7_13 : FLk RX7 13 7 0 := ⟨_, rfl, by decide, Or.inl (gw_at 357 (by decide +kernel) rfl)⟩
theorem fl_X7_16 : FLk RX7 16 7 1 := ⟨_, rfl, by decide, Or.inl (gw_at 359 (by decide +kernel) rfl)⟩
theorem fl_X7_20 : FLk RX7 20 7 2 := ⟨_, rfl, by decide, Or.inl (gw_at 361 (by decide +kernel) rfl)⟩
theorem ff_X7_13 : FFk RX7 13 7 0 := ⟨_, rfl, by decide, rfl, rfl, gw_at 357 (by decide +kernel) rfl⟩
theorem ff_X7_16 : FFk RX7 16 7 1 := ⟨_, rfl, by decide, rfl, rfl, gw_at 359 (by decide +kernel) rfl⟩
theorem ff_X7_20 : FFk RX7 20 7 2 := ⟨_, rfl, by decide, rfl, rfl, gw_at 361 (by decide +kernel) rfl⟩
theorem oi_X7_3 : Cond.methodLink RX7 3 Lib.objectInit ∈ GW := gw_at 354 (by decide +kernel) rfl
theorem acl_X7_11 : Cond.classLink RX7 11 ("[" ++ (FieldType.array .long).toString) ∈ GW := gw_at 355 (by decide +kernel) rfl
theorem dX7_init_0 : decode cX7_init 0 = .ok (.aload_n 0, 1) := by decide +kernel
theorem dX7_init_1 : decode cX7_init 1 = .ok (.invokespecial 3, 3) := by decide +kernel
theorem dX7_init_4 : decode cX7_init 4 = .ok (.aload_n 0, 1) := by decide +kernel
theorem dX7_init_5 : decode cX7_init 5 = .ok (.iconst 4, 1) := by decide +kernel
theorem dX7_init_6 : decode cX7_init 6 = .ok (.bipush 60, 2) := by decide +kernel
theorem dX7_init_8 : decode cX7_init 8 = .ok (.multianewarray 11 2, 4) := by decide +kernel
theorem dX7_init_12 : decode cX7_init 12 = .ok (.putfield 13, 3) := by decide +kernel
theorem dX7_init_15 : decode cX7_init 15 = .ok (.aload_n 0, 1) := by decide +kernel
theorem dX7_init_16 : decode cX7_init 16 = .ok (.iconst 4, 1) := by decide +kernel
theorem dX7_init_17 : decode cX7_init 17 = .ok (.newarray .int, 2) := by decide +kernel
theorem dX7_init_19 : decode cX7_init 19 = .ok (.putfield 16, 3) := by decide +kernel
theorem dX7_init_22 : decode cX7_init 22 = .ok (.aload_n 0, 1) := by decide +kernel
theorem dX7_init_23 : decode cX7_init 23 = .ok (.iconst 4, 1) := by decide +kernel
theorem dX7_init_24 : decode cX7_init 24 = .ok (.newarray .int, 2) := by decide +kernel
theorem dX7_init_26 : decode cX7_init 26 = .ok (.putfield 20, 3) := by decide +kernel
theorem dX7_init_29 : decode cX7_init 29 = .ok (.iconst 0, 1) := by decide +kernel
theorem dX7_init_30 : decode cX7_init 30 = .ok (.istore_n 1, 1) := by decide +kernel
theorem dX7_init_31 : decode cX7_init 31 = .ok (.iload_n 1, 1) := by decide +kernel
theorem dX7_init_32 : decode cX7_init 32 = .ok (.iconst 4, 1) := by decide +kernel
theorem dX7_init_33 : decode cX7_init 33 = .ok (.if_icmp .ge 16, 3) := by decide +kernel
theorem dX7_init_36 : decode cX7_init 36 = .ok (.aload_n 0, 1) := by decide +kernel
theorem dX7_init_37 : decode cX7_init 37 = .ok (.getfield 20, 3) := by decide +kernel
theorem dX7_init_40 : decode cX7_init 40 = .ok (.iload_n 1, 1) := by decide +kernel
theorem dX7_init_41 : decode cX7_init 41 = .ok (.iconst (-1), 1) := by decide +kernel
theorem dX7_init_42 : decode cX7_init 42 = .ok (.iastore, 1) := by decide +kernel
theorem dX7_init_43 : decode cX7_init 43 = .ok (.iinc 1 1, 3) := by decide +kernel
theorem dX7_init_46 : decode cX7_init 46 = .ok (.goto (-15), 3) := by decide +kernel
theorem dX7_init_49 : decode cX7_init 49 = .ok (.return_, 1) := by decide +kernel
def j_X7_init : JD := (yX7_init, cX7_init, 2, none)
def b_X7_init : BD := (1, 7, 252)
theorem dX7_has_0 : decode cX7_has 0 = .ok (.iload_n 1, 1) := by decide +kernel
theorem dX7_has_1 : decode cX7_has 1 = .ok (.ifCond .lt 12, 3) := by decide +kernel
theorem dX7_has_4 : decode cX7_has 4 = .ok (.iload_n 1, 1) := by decide +kernel
theorem dX7_has_5 : decode cX7_has 5 = .ok (.iconst 4, 1) := by decide +kernel
theorem dX7_has_6 : decode cX7_has 6 = .ok (.if_icmp .ge 7, 3) := by decide +kernel
theorem dX7_has_9 : decode cX7_has 9 = .ok (.iconst 1, 1) := by decide +kernel
theorem dX7_has_10 : decode cX7_has 10 = .ok (.goto 4, 3) := by decide +kernel
theorem dX7_has_13 : decode cX7_has 13 = .ok (.iconst 0, 1) := by decide +kernel
theorem dX7_has_14 : decode cX7_has 14 = .ok (.ireturn, 1) := by decide +kernel
def j_X7_has : JD := (yX7_has, cX7_has, 2, (some .boolean))
def b_X7_has : BD := (0, 0, 0)
theorem dX7_isMissing_0 : decode cX7_isMissing 0 = .ok (.aload_n 0, 1) := by decide +kernel
theorem dX7_isMissing_1 : decode cX7_isMissing 1 = .ok (.getfield 20, 3) := by decide +kernel
theorem dX7_isMissing_4 : decode cX7_isMissing 4 = .ok (.iload_n 1, 1) := by decide +kernel
theorem dX7_isMissing_5 : decode cX7_isMissing 5 = .ok (.iaload, 1) := by decide +kernel
theorem dX7_isMissing_6 : decode cX7_isMissing 6 = .ok (.iconst (-1), 1) := by decide +kernel
theorem dX7_isMissing_7 : decode cX7_isMissing 7 = .ok (.if_icmp .ne 7, 3) := by decide +kernel
theorem dX7_isMissing_10 : decode cX7_isMissing 10 = .ok (.iconst 1, 1) := by decide +kernel
theorem dX7_isMissing_11 : decode cX7_isMissing 11 = .ok (.goto 4, 3) := by decide +kernel
theorem dX7_isMissing_14 : decode cX7_isMissing 14 = .ok (.iconst 0, 1) := by decide +kernel
theorem dX7_isMissing_15 : decode cX7_isMissing 15 = .ok (.ireturn, 1) := by decide +kernel
def j_X7_isMissing : JD := (yX7_isMissing, cX7_isMissing, 2, (some .boolean))
def b_X7_isMissing : BD := (0, 0, 0)
theorem dX7_reaches_0 : decode cX7_reaches 0 = .ok (.iload_n 2, 1) := by decide +kernel
theorem dX7_reaches_1 : decode cX7_reaches 1 = .ok (.ifCond .lt 29, 3) := by decide +kernel
theorem dX7_reaches_4 : decode cX7_reaches 4 = .ok (.iload_n 3, 1) := by decide +kernel
theorem dX7_reaches_5 : decode cX7_reaches 5 = .ok (.aload_n 0, 1) := by decide +kernel
theorem dX7_reaches_6 : decode cX7_reaches 6 = .ok (.getfield 20, 3) := by decide +kernel
theorem dX7_reaches_9 : decode cX7_reaches 9 = .ok (.iload_n 1, 1) := by decide +kernel
theorem dX7_reaches_10 : decode cX7_reaches 10 = .ok (.iaload, 1) := by decide +kernel
theorem dX7_reaches_11 : decode cX7_reaches 11 = .ok (.if_icmp .gt 19, 3) := by decide +kernel
theorem dX7_reaches_14 : decode cX7_reaches 14 = .ok (.iload_n 2, 1) := by decide +kernel
theorem dX7_reaches_15 : decode cX7_reaches 15 = .ok (.aload_n 0, 1) := by decide +kernel
theorem dX7_reaches_16 : decode cX7_reaches 16 = .ok (.getfield 20, 3) := by decide +kernel
theorem dX7_reaches_19 : decode cX7_reaches 19 = .ok (.iload_n 1, 1) := by decide +kernel
theorem dX7_reaches_20 : decode cX7_reaches 20 = .ok (.iaload, 1) := by decide +kernel
theorem dX7_reaches_21 : decode cX7_reaches 21 = .ok (.iload_n 3, 1) := by decide +kernel
theorem dX7_reaches_22 : decode cX7_reaches 22 = .ok (.isub, 1) := by decide +kernel
theorem dX7_reaches_23 : decode cX7_reaches 23 = .ok (.if_icmp .gt 7, 3) := by decide +kernel
theorem dX7_reaches_26 : decode cX7_reaches 26 = .ok (.iconst 1, 1) := by decide +kernel
theorem dX7_reaches_27 : decode cX7_reaches 27 = .ok (.goto 4, 3) := by decide +kernel
theorem dX7_reaches_30 : decode cX7_reaches 30 = .ok (.iconst 0, 1) := by decide +kernel
theorem dX7_reaches_31 : decode cX7_reaches 31 = .ok (.ireturn, 1) := by decide +kernel
def j_X7_reaches : JD := (yX7_reaches, cX7_reaches, 4, (some .boolean))
def b_X7_reaches : BD := (0, 0, 0)
theorem dX7_whyNot_0 : decode cX7_whyNot 0 = .ok (.aload_n 0, 1) := by decide +kernel
theorem dX7_whyNot_1 : decode cX7_whyNot 1 = .ok (.iload_n 1, 1) := by decide +kernel
theorem dX7_whyNot_2 : decode cX7_whyNot 2 = .ok (.invokevirtual 23, 3) := by decide +kernel
theorem dX7_whyNot_5 : decode cX7_whyNot 5 = .ok (.ifCond .ne 5, 3) := by decide +kernel
theorem dX7_whyNot_8 : decode cX7_whyNot 8 = .ok (.iconst 1, 1) := by decide +kernel
theorem dX7_whyNot_9 : decode cX7_whyNot 9 = .ok (.ireturn, 1) := by decide +kernel
theorem dX7_whyNot_10 : decode cX7_whyNot 10 = .ok (.aload_n 0, 1) := by decide +kernel
theorem dX7_whyNot_11 : decode cX7_whyNot 11 = .ok (.iload_n 1, 1) := by decide +kernel
theorem dX7_whyNot_12 : decode cX7_whyNot 12 = .ok (.invokevirtual 27, 3) := by decide +kernel
theorem dX7_whyNot_15 : decode cX7_whyNot 15 = .ok (.ifCond .eq 5, 3) := by decide +kernel
theorem dX7_whyNot_18 : decode cX7_whyNot 18 = .ok (.iconst 3, 1) := by decide +kernel
theorem dX7_whyNot_19 : decode cX7_whyNot 19 = .ok (.ireturn, 1) := by decide +kernel
theorem dX7_whyNot_20 : decode cX7_whyNot 20 = .ok (.aload_n 0, 1) := by decide +kernel
theorem dX7_whyNot_21 : decode cX7_whyNot 21 = .ok (.iload_n 1, 1) := by decide +kernel
theorem dX7_whyNot_22 : decode cX7_whyNot 22 = .ok (.iload_n 2, 1) := by decide +kernel
theorem dX7_whyNot_23 : decode cX7_whyNot 23 = .ok (.iload_n 3, 1) := by decide +kernel
theorem dX7_whyNot_24 : decode cX7_whyNot 24 = .ok (.invokevirtual 30, 3) := by decide +kernel
theorem dX7_whyNot_27 : decode cX7_whyNot 27 = .ok (.ifCond .eq 7, 3) := by decide +kernel
theorem dX7_whyNot_30 : decode cX7_whyNot 30 = .ok (.iconst 0, 1) := by decide +kernel
theorem dX7_whyNot_31 : decode cX7_whyNot 31 = .ok (.goto 4, 3) := by decide +kernel
theorem dX7_whyNot_34 : decode cX7_whyNot 34 = .ok (.iconst 4, 1) := by decide +kernel
theorem dX7_whyNot_35 : decode cX7_whyNot 35 = .ok (.ireturn, 1) := by decide +kernel
def j_X7_whyNot : JD := (yX7_whyNot, cX7_whyNot, 4, (some .int))
def b_X7_whyNot : BD := (1, 0, 0)
theorem dX7_lay_0 : decode cX7_lay 0 = .ok (.aload_n 0, 1) := by decide +kernel
theorem dX7_lay_1 : decode cX7_lay 1 = .ok (.getfield 16, 3) := by decide +kernel
theorem dX7_lay_4 : decode cX7_lay 4 = .ok (.iload_n 1, 1) := by decide +kernel
theorem dX7_lay_5 : decode cX7_lay 5 = .ok (.iload_n 2, 1) := by decide +kernel
theorem dX7_lay_6 : decode cX7_lay 6 = .ok (.iastore, 1) := by decide +kernel
theorem dX7_lay_7 : decode cX7_lay 7 = .ok (.aload_n 0, 1) := by decide +kernel
theorem dX7_lay_8 : decode cX7_lay 8 = .ok (.getfield 20, 3) := by decide +kernel
theorem dX7_lay_11 : decode cX7_lay 11 = .ok (.iload_n 1, 1) := by decide +kernel
theorem dX7_lay_12 : decode cX7_lay 12 = .ok (.iload_n 3, 1) := by decide +kernel
theorem dX7_lay_13 : decode cX7_lay 13 = .ok (.iastore, 1) := by decide +kernel
theorem dX7_lay_14 : decode cX7_lay 14 = .ok (.iconst 0, 1) := by decide +kernel
theorem dX7_lay_15 : decode cX7_lay 15 = .ok (.istore 4, 2) := by decide +kernel
theorem dX7_lay_17 : decode cX7_lay 17 = .ok (.iload 4, 2) := by decide +kernel
theorem dX7_lay_19 : decode cX7_lay 19 = .ok (.bipush 60, 2) := by decide +kernel
theorem dX7_lay_21 : decode cX7_lay 21 = .ok (.if_icmp .ge 19, 3) := by decide +kernel
theorem dX7_lay_24 : decode cX7_lay 24 = .ok (.aload_n 0, 1) := by decide +kernel
theorem dX7_lay_25 : decode cX7_lay 25 = .ok (.getfield 13, 3) := by decide +kernel
theorem dX7_lay_28 : decode cX7_lay 28 = .ok (.iload_n 1, 1) := by decide +kernel
theorem dX7_lay_29 : decode cX7_lay 29 = .ok (.aaload, 1) := by decide +kernel
theorem dX7_lay_30 : decode cX7_lay 30 = .ok (.iload 4, 2) := by decide +kernel
theorem dX7_lay_32 : decode cX7_lay 32 = .ok (.lconst 0, 1) := by decide +kernel
theorem dX7_lay_33 : decode cX7_lay 33 = .ok (.lastore, 1) := by decide +kernel
theorem dX7_lay_34 : decode cX7_lay 34 = .ok (.iinc 4 1, 3) := by decide +kernel
theorem dX7_lay_37 : decode cX7_lay 37 = .ok (.goto (-20), 3) := by decide +kernel
theorem dX7_lay_40 : decode cX7_lay 40 = .ok (.return_, 1) := by decide +kernel
def j_X7_lay : JD := (yX7_lay, cX7_lay, 5, none)
def b_X7_lay : BD := (0, 0, 0)
theorem dX7_put_0 : decode cX7_put 0 = .ok (.aload_n 0, 1) := by decide +kernel
theorem dX7_put_1 : decode cX7_put 1 = .ok (.getfield 16, 3) := by decide +kernel
theorem dX7_put_4 : decode cX7_put 4 = .ok (.iload_n 1, 1) := by decide +kernel
theorem dX7_put_5 : decode cX7_put 5 = .ok (.iaload, 1) := by decide +kernel
theorem dX7_put_6 : decode cX7_put 6 = .ok (.tableswitch 70 0 2 #[26, 41, 56], 26) := by decide +kernel
theorem dX7_put_32 : decode cX7_put 32 = .ok (.aload_n 0, 1) := by decide +kernel
theorem dX7_put_33 : decode cX7_put 33 = .ok (.getfield 13, 3) := by decide +kernel
theorem dX7_put_36 : decode cX7_put 36 = .ok (.iload_n 1, 1) := by decide +kernel
theorem dX7_put_37 : decode cX7_put 37 = .ok (.aaload, 1) := by decide +kernel
theorem dX7_put_38 : decode cX7_put 38 = .ok (.iload_n 2, 1) := by decide +kernel
theorem dX7_put_39 : decode cX7_put 39 = .ok (.lload_n 3, 1) := by decide +kernel
theorem dX7_put_40 : decode cX7_put 40 = .ok (.l2i, 1) := by decide +kernel
theorem dX7_put_41 : decode cX7_put 41 = .ok (.i2b, 1) := by decide +kernel
theorem dX7_put_42 : decode cX7_put 42 = .ok (.i2l, 1) := by decide +kernel
theorem dX7_put_43 : decode cX7_put 43 = .ok (.lastore, 1) := by decide +kernel
theorem dX7_put_44 : decode cX7_put 44 = .ok (.goto 41, 3) := by decide +kernel
theorem dX7_put_47 : decode cX7_put 47 = .ok (.aload_n 0, 1) := by decide +kernel
theorem dX7_put_48 : decode cX7_put 48 = .ok (.getfield 13, 3) := by decide +kernel
theorem dX7_put_51 : decode cX7_put 51 = .ok (.iload_n 1, 1) := by decide +kernel
theorem dX7_put_52 : decode cX7_put 52 = .ok (.aaload, 1) := by decide +kernel
theorem dX7_put_53 : decode cX7_put 53 = .ok (.iload_n 2, 1) := by decide +kernel
theorem dX7_put_54 : decode cX7_put 54 = .ok (.lload_n 3, 1) := by decide +kernel
theorem dX7_put_55 : decode cX7_put 55 = .ok (.l2i, 1) := by decide +kernel
theorem dX7_put_56 : decode cX7_put 56 = .ok (.i2s, 1) := by decide +kernel
theorem dX7_put_57 : decode cX7_put 57 = .ok (.i2l, 1) := by decide +kernel
theorem dX7_put_58 : decode cX7_put 58 = .ok (.lastore, 1) := by decide +kernel
theorem dX7_put_59 : decode cX7_put 59 = .ok (.goto 26, 3) := by decide +kernel
theorem dX7_put_62 : decode cX7_put 62 = .ok (.aload_n 0, 1) := by decide +kernel
theorem dX7_put_63 : decode cX7_put 63 = .ok (.getfield 13, 3) := by decide +kernel
theorem dX7_put_66 : decode cX7_put 66 = .ok (.iload_n 1, 1) := by decide +kernel
theorem dX7_put_67 : decode cX7_put 67 = .ok (.aaload, 1) := by decide +kernel
theorem dX7_put_68 : decode cX7_put 68 = .ok (.iload_n 2, 1) := by decide +kernel
theorem dX7_put_69 : decode cX7_put 69 = .ok (.lload_n 3, 1) := by decide +kernel
theorem dX7_put_70 : decode cX7_put 70 = .ok (.l2i, 1) := by decide +kernel
theorem dX7_put_71 : decode cX7_put 71 = .ok (.i2l, 1) := by decide +kernel
theorem dX7_put_72 : decode cX7_put 72 = .ok (.lastore, 1) := by decide +kernel
theorem dX7_put_73 : decode cX7_put 73 = .ok (.goto 12, 3) := by decide +kernel
theorem dX7_put_76 : decode cX7_put 76 = .ok (.aload_n 0, 1) := by decide +kernel
theorem dX7_put_77 : decode cX7_put 77 = .ok (.getfield 13, 3) := by decide +kernel
theorem dX7_put_80 : decode cX7_put 80 = .ok (.iload_n 1, 1) := by decide +kernel
theorem dX7_put_81 : decode cX7_put 81 = .ok (.aaload, 1) := by decide +kernel
theorem dX7_put_82 : decode cX7_put 82 = .ok (.iload_n 2, 1) := by decide +kernel
theorem dX7_put_83 : decode cX7_put 83 = .ok (.lload_n 3, 1) := by decide +kernel
theorem dX7_put_84 : decode cX7_put 84 = .ok (.lastore, 1) := by decide +kernel
theorem dX7_put_85 : decode cX7_put 85 = .ok (.return_, 1) := by decide +kernel
def j_X7_put : JD := (yX7_put, cX7_put, 5, none)
def b_X7_put : BD := (0, 0, 0)
theorem dX7_areWithin_0 : decode cX7_areWithin 0 = .ok (.iconst 0, 1) := by decide +kernel
theorem dX7_areWithin_1 : decode cX7_areWithin 1 = .ok (.istore 4, 2) := by decide +kernel
theorem dX7_areWithin_3 : decode cX7_areWithin 3 = .ok (.iload 4, 2) := by decide +kernel
theorem dX7_areWithin_5 : decode cX7_areWithin 5 = .ok (.iload_n 2, 1) := by decide +kernel
theorem dX7_areWithin_6 : decode cX7_areWithin 6 = .ok (.if_icmp .ge 40, 3) := by decide +kernel
theorem dX7_areWithin_9 : decode cX7_areWithin 9 = .ok (.aload_n 0, 1) := by decide +kernel
theorem dX7_areWithin_10 : decode cX7_areWithin 10 = .ok (.getfield 13, 3) := by decide +kernel
theorem dX7_areWithin_13 : decode cX7_areWithin 13 = .ok (.iload_n 1, 1) := by decide +kernel
theorem dX7_areWithin_14 : decode cX7_areWithin 14 = .ok (.aaload, 1) := by decide +kernel
theorem dX7_areWithin_15 : decode cX7_areWithin 15 = .ok (.iload 4, 2) := by decide +kernel
theorem dX7_areWithin_17 : decode cX7_areWithin 17 = .ok (.laload, 1) := by decide +kernel
theorem dX7_areWithin_18 : decode cX7_areWithin 18 = .ok (.lconst 0, 1) := by decide +kernel
theorem dX7_areWithin_19 : decode cX7_areWithin 19 = .ok (.lcmp, 1) := by decide +kernel
theorem dX7_areWithin_20 : decode cX7_areWithin 20 = .ok (.ifCond .lt 18, 3) := by decide +kernel
theorem dX7_areWithin_23 : decode cX7_areWithin 23 = .ok (.aload_n 0, 1) := by decide +kernel
theorem dX7_areWithin_24 : decode cX7_areWithin 24 = .ok (.getfield 13, 3) := by decide +kernel
theorem dX7_areWithin_27 : decode cX7_areWithin 27 = .ok (.iload_n 1, 1) := by decide +kernel
theorem dX7_areWithin_28 : decode cX7_areWithin 28 = .ok (.aaload, 1) := by decide +kernel
theorem dX7_areWithin_29 : decode cX7_areWithin 29 = .ok (.iload 4, 2) := by decide +kernel
theorem dX7_areWithin_31 : decode cX7_areWithin 31 = .ok (.laload, 1) := by decide +kernel
theorem dX7_areWithin_32 : decode cX7_areWithin 32 = .ok (.iload_n 3, 1) := by decide +kernel
theorem dX7_areWithin_33 : decode cX7_areWithin 33 = .ok (.i2l, 1) := by decide +kernel
theorem dX7_areWithin_34 : decode cX7_areWithin 34 = .ok (.lcmp, 1) := by decide +kernel
theorem dX7_areWithin_35 : decode cX7_areWithin 35 = .ok (.ifCond .le 5, 3) := by decide +kernel
theorem dX7_areWithin_38 : decode cX7_areWithin 38 = .ok (.iconst 0, 1) := by decide +kernel
theorem dX7_areWithin_39 : decode cX7_areWithin 39 = .ok (.ireturn, 1) := by decide +kernel
theorem dX7_areWithin_40 : decode cX7_areWithin 40 = .ok (.iinc 4 1, 3) := by decide +kernel
theorem dX7_areWithin_43 : decode cX7_areWithin 43 = .ok (.goto (-40), 3) := by decide +kernel
theorem dX7_areWithin_46 : decode cX7_areWithin 46 = .ok (.iconst 1, 1) := by decide +kernel
theorem dX7_areWithin_47 : decode cX7_areWithin 47 = .ok (.ireturn, 1) := by decide +kernel
def j_X7_areWithin : JD := (yX7_areWithin, cX7_areWithin, 5, (some .boolean))
def b_X7_areWithin : BD := (0, 0, 0)
theorem dX7_timesOf_0 : decode cX7_timesOf 0 = .ok (.iconst 0, 1) := by decide +kernel
theorem dX7_timesOf_1 : decode cX7_timesOf 1 = .ok (.istore 4, 2) := by decide +kernel
theorem dX7_timesOf_3 : decode cX7_timesOf 3 = .ok (.iconst 0, 1) := by decide +kernel
theorem dX7_timesOf_4 : decode cX7_timesOf 4 = .ok (.istore 5, 2) := by decide +kernel
theorem dX7_timesOf_6 : decode cX7_timesOf 6 = .ok (.iload 5, 2) := by decide +kernel
theorem dX7_timesOf_8 : decode cX7_timesOf 8 = .ok (.iload_n 2, 1) := by decide +kernel
theorem dX7_timesOf_9 : decode cX7_timesOf 9 = .ok (.if_icmp .ge 27, 3) := by decide +kernel
theorem dX7_timesOf_12 : decode cX7_timesOf 12 = .ok (.aload_n 0, 1) := by decide +kernel
theorem dX7_timesOf_13 : decode cX7_timesOf 13 = .ok (.getfield 13, 3) := by decide +kernel
theorem dX7_timesOf_16 : decode cX7_timesOf 16 = .ok (.iload_n 1, 1) := by decide +kernel
theorem dX7_timesOf_17 : decode cX7_timesOf 17 = .ok (.aaload, 1) := by decide +kernel
theorem dX7_timesOf_18 : decode cX7_timesOf 18 = .ok (.iload 5, 2) := by decide +kernel
theorem dX7_timesOf_20 : decode cX7_timesOf 20 = .ok (.laload, 1) := by decide +kernel
theorem dX7_timesOf_21 : decode cX7_timesOf 21 = .ok (.iload_n 3, 1) := by decide +kernel
theorem dX7_timesOf_22 : decode cX7_timesOf 22 = .ok (.i2l, 1) := by decide +kernel
theorem dX7_timesOf_23 : decode cX7_timesOf 23 = .ok (.lcmp, 1) := by decide +kernel
theorem dX7_timesOf_24 : decode cX7_timesOf 24 = .ok (.ifCond .ne 6, 3) := by decide +kernel
theorem dX7_timesOf_27 : decode cX7_timesOf 27 = .ok (.iinc 4 1, 3) := by decide +kernel
theorem dX7_timesOf_30 : decode cX7_timesOf 30 = .ok (.iinc 5 1, 3) := by decide +kernel
theorem dX7_timesOf_33 : decode cX7_timesOf 33 = .ok (.goto (-27), 3) := by decide +kernel
theorem dX7_timesOf_36 : decode cX7_timesOf 36 = .ok (.iload 4, 2) := by decide +kernel
theorem dX7_timesOf_38 : decode cX7_timesOf 38 = .ok (.ireturn, 1) := by decide +kernel
def j_X7_timesOf : JD := (yX7_timesOf, cX7_timesOf, 6, (some .int))
def b_X7_timesOf : BD := (0, 0, 0)
theorem mi_X7_init : MI j_X7_init 0 := ⟨⟨gw_at 353 (by decide +kernel) rfl, gw_at 213 (by decide +kernel) rfl, ⟨by decide +kernel, by decide +kernel⟩, by decide +kernel, by decide, by decide +kernel⟩, rfl, rfl, gw_at 352 (by decide +kernel) rfl⟩
theorem mv_X7_has : MV j_X7_has 7 1 := ⟨⟨gw_at 761 (by decide +kernel) rfl, gw_at 213 (by decide +kernel) rfl, ⟨by decide +kernel, by decide +kernel⟩, by decide +kernel, by decide, by decide +kernel⟩, ⟨_, rfl, rfl⟩, gw_at 760 (by decide +kernel) rfl, gw_at 0 (by decide +kernel) rfl⟩
theorem mv_X7_isMissing : MV j_X7_isMissing 7 1 := ⟨⟨gw_at 789 (by decide +kernel) rfl, gw_at 213 (by decide +kernel) rfl, ⟨by decide +kernel, by decide +kernel⟩, by decide +kernel, by decide, by decide +kernel⟩, ⟨_, rfl, rfl⟩, gw_at 788 (by decide +kernel) rfl, gw_at 5 (by decide +kernel) rfl⟩
theorem mv_X7_reaches : MV j_X7_reaches 7 3 := ⟨⟨gw_at 793 (by decide +kernel) rfl, gw_at 213 (by decide +kernel) rfl, ⟨by decide +kernel, by decide +kernel⟩, by decide +kernel, by decide, by decide +kernel⟩, ⟨_, rfl, rfl⟩, gw_at 792 (by decide +kernel) rfl, gw_at 6 (by decide +kernel) rfl⟩
theorem mv_X7_whyNot : MV j_X7_whyNot 7 3 := ⟨⟨gw_at 784 (by decide +kernel) rfl, gw_at 213 (by decide +kernel) rfl, ⟨by decide +kernel, by decide +kernel⟩, by decide +kernel, by decide, by decide +kernel⟩, ⟨_, rfl, rfl⟩, gw_at 783 (by decide +kernel) rfl, gw_at 4 (by decide +kernel) rfl⟩
theorem mv_X7_lay : MV j_X7_lay 7 3 := ⟨⟨gw_at 772 (by decide +kernel) rfl, gw_at 213 (by decide +kernel) rfl, ⟨by decide +kernel, by decide +kernel⟩, by decide +kernel, by decide, by decide +kernel⟩, ⟨_, rfl, rfl⟩, gw_at 771 (by decide +kernel) rfl, gw_at 2 (by decide +kernel) rfl⟩
theorem mv_X7_put : MV j_X7_put 7 3 := ⟨⟨gw_at 797 (by decide +kernel) rfl, gw_at 213 (by decide +kernel) rfl, ⟨by decide +kernel, by decide +kernel⟩, by decide +kernel, by decide, by decide +kernel⟩, ⟨_, rfl, rfl⟩, gw_at 796 (by decide +kernel) rfl, gw_at 7 (by decide +kernel) rfl⟩
theorem mv_X7_areWithin : MV j_X7_areWithin 7 3 := ⟨⟨gw_at 1360 (by decide +kernel) rfl, gw_at 213 (by decide +kernel) rfl, ⟨by decide +kernel, by decide +kernel⟩, by decide +kernel, by decide, by decide +kernel⟩, ⟨_, rfl, rfl⟩, gw_at 1359 (by decide +kernel) rfl, gw_at 87 (by decide +kernel) rfl⟩
theorem mv_X7_timesOf : MV j_X7_timesOf 7 3 := ⟨⟨gw_at 1421 (by decide +kernel) rfl, gw_at 213 (by decide +kernel) rfl, ⟨by decide +kernel, by decide +kernel⟩, by decide +kernel, by decide, by decide +kernel⟩, ⟨_, rfl, rfl⟩, gw_at 1420 (by decide +kernel) rfl, gw_at 94 (by decide +kernel) rfl⟩
theorem ml_X7_23 : MLk RX7 23 j_X7_has.1 := Or.inl (gw_at 785 (by decide +kernel) rfl)
theorem ml_X7_27 : MLk RX7 27 j_X7_isMissing.1 := Or.inl (gw_at 786 (by decide +kernel) rfl)
theorem ml_X7_30 : MLk RX7 30 j_X7_reaches.1 := Or.inl (gw_at 790 (by decide +kernel) rfl)
def f_X7_init_31 : Nat → Mm → Option Nat → Int32 → Option (Mm)
  | 0, _, _, _ => none
  | n + 1, M, l0, l1 => if 4 ≤ l1 then (some M) else (gfR M l0 7 2 fun v37 => asI M v37 21 l1 (-1) fun M42 => f_X7_init_31 n M42 l0 (l1 + 1))
def f_X7_init (M : Mm) (l0 : Option Nat) : Option (Mm) := nz l0 <| nwm M 51 22 4 60 fun q8 M8 => pfR M8 l0 7 0 q8 fun M12 => nwa M12 21 4 fun q17 M17 => pfR M17 l0 7 1 q17 fun M19 => nwa M19 21 4 fun q24 M24 => pfR M24 l0 7 2 q24 fun M26 => f_X7_init_31  fu M26 l0 0
set_option maxHeartbeats 4000000 in
set_option maxRecDepth 100000 in
theorem t_X7_init_31 {G : GG} {X : CX} {ans : Mm} (he : EndV G X j_X7_init b_X7_init ans) : ∀ (n : Nat) {M : Mm} {l0 : Option Nat} {l1 : Int32}, f_X7_init_31 n M l0 l1 = some ans → Wt G X j_X7_init b_X7_init 31 [(0, rf G.1 l0), (1, .int l1)] [] M 7 252 := by
  intro n
  induction n with
  | zero =>
    intro M l0 l1 h
    rw [f_X7_init_31] at h
    cases h
  | succ n ih =>
    intro M l0 l1 h
    rw [f_X7_init_31] at h
    refine wt_iload_n (pc := 31) 1 dX7_init_31 rfl ?_
    refine wt_iconst (pc := 32) (v := 4) dX7_init_32 (by decide) ?_
    refine wt_icmp_ge (pc := 33) (tgt := 49) dX7_init_33 (by decide) (fun q => ?_) (fun q => ?_)
    · have h := ite_t q h
      cases h
      exact he 49 _ _ _ dX7_init_49 (by decide) (by decide)
    · have h := ite_f q h
      refine wt_aload_n (pc := 36) 0 dX7_init_36 rfl ?_
      refine wt_getR (pc := 37) dX7_init_37 fl_X7_20 (fun _ _ _ => rfl) h (fun v37 h => ?_)
      refine wt_iload_n (pc := 40) 1 dX7_init_40 rfl ?_
      refine wt_iconst (pc := 41) (v := (-1)) dX7_init_41 (by decide) ?_
      refine wt_iastore (pc := 42) (kd := 21) dX7_init_42 rfl rfl h (fun M42 h => ?_)
      refine wt_iinc (pc := 43) (d := 1) (ls' := [(1, .int (l1 + 1)), (0, rf G.1 l0)]) 1 dX7_init_43 rfl (by decide) (by decide) (by simp [rf_cat, cat_i, cat_l, cat_r]) ?_
      refine wt_goto (pc := 46) (tgt := 31) dX7_init_46 (by decide) ?_
      refine wt_sub (ls' := [(0, rf G.1 l0), (1, .int (l1 + 1))]) [1, 0] rfl ?_
      exact ih h
set_option maxHeartbeats 4000000 in
set_option maxRecDepth 100000 in
theorem t_X7_init_e {G : GG} {X : CX} {ans : Mm} (he : EndV G X j_X7_init b_X7_init ans) {M : Mm} {l0 : Option Nat} (h : f_X7_init M l0 = some ans) : Wt G X j_X7_init b_X7_init 0 [(0, rf G.1 l0)] [] M 0 0 := by
  unfold f_X7_init at h
  refine wt_aload_n (pc := 0) 0 dX7_init_0 rfl ?_
  refine wt_oI (pc := 1) dX7_init_1 oi_X7_3 oiM oiC (by decide) (by decide) h (fun h => ?_)
  refine wt_aload_n (pc := 4) 0 dX7_init_4 rfl ?_
  refine wt_iconst (pc := 5) (v := 4) dX7_init_5 (by decide) ?_
  refine wt_bipush (pc := 6) (v := 60) dX7_init_6 (by decide) ?_
  refine wt_multi (pc := 8) (kd := 51) (kr := 22) (ty := .long) (N' := 4) (K' := 60) dX7_init_8 acl_X7_11 ac_long (fun U hU => hU.2.2.2.1.2.2) rfl rfl (by decide) (by decide) (fun _ _ h => h) (fun _ _ h => h) (by decide) (by decide) (by decide) (by decide) (by decide) (by decide) (by decide) (by decide) (by decide) h (fun q8 M8 h => ?_)
  refine wt_putFA (pc := 12) dX7_init_12 ff_X7_13 rfl rfl h (fun M12 h => ?_)
  refine wt_aload_n (pc := 15) 0 dX7_init_15 rfl ?_
  refine wt_iconst (pc := 16) (v := 4) dX7_init_16 (by decide) ?_
  refine wt_newarray (pc := 17) (kd := 21) (ty := .int) (n' := 4) dX7_init_17 rfl rfl ac_int (fun _ _ h => h) (by decide) (by decide) (by decide) (by decide) h (fun q17 M17 h => ?_)
  refine wt_putFA (pc := 19) dX7_init_19 ff_X7_16 rfl rfl h (fun M19 h => ?_)
  refine wt_aload_n (pc := 22) 0 dX7_init_22 rfl ?_
  refine wt_iconst (pc := 23) (v := 4) dX7_init_23 (by decide) ?_
  refine wt_newarray (pc := 24) (kd := 21) (ty := .int) (n' := 4) dX7_init_24 rfl rfl ac_int (fun _ _ h => h) (by decide) (by decide) (by decide) (by decide) h (fun q24 M24 h => ?_)
  refine wt_putFA (pc := 26) dX7_init_26 ff_X7_20 rfl rfl h (fun M26 h => ?_)
  refine wt_iconst (pc := 29) (v := 0) dX7_init_29 (by decide) ?_
  refine wt_istore_n (pc := 30) (i := 1) (ls' := [(1, .int 0), (0, rf G.1 l0)]) rfl dX7_init_30 (by decide) (by simp [rf_cat, cat_i, cat_l, cat_r]) ?_
  refine wt_sub (ls' := [(0, rf G.1 l0), (1, .int 0)]) [1, 0] rfl ?_
  exact t_X7_init_31 he  fu h
set_option maxHeartbeats 4000000 in
set_option maxRecDepth 100000 in
theorem c_X7_init {G : GG} {M : Mm} {l0 : Option Nat} {r : Mm} (h : f_X7_init M l0 = some r) (l : Launch) : Ct l G j_X7_init b_X7_init [rf G.1 l0] M none r := cf_V (by decide +kernel) (by simp [lg_sl, rf_cat, cat_i, cat_l, j_X7_init]) rfl (by simp [lv_args, rf_cat, cat_i, cat_l]) (fun X he => t_X7_init_e he h)
def g_X7_has (M : Mm) (l0 : Option Nat) (l1 : Int32) : Option (Int32 × Mm) := if l1 < 0 then (some (0, M)) else (if 4 ≤ l1 then (some (0, M)) else (some (1, M)))
def f_X7_has (M : Mm) (l0 : Option Nat) (l1 : Int32) : Option (Int32 × Mm) := zc (g_X7_has M l0 l1)
set_option maxHeartbeats 4000000 in
set_option maxRecDepth 100000 in
theorem t_X7_has_e {G : GG} {X : CX} {ans : Int32 × Mm} (he : EndI G X j_X7_has b_X7_has ans) {M : Mm} {l0 : Option Nat} {l1 : Int32} (h : g_X7_has M l0 l1 = some ans) : Wt G X j_X7_has b_X7_has 0 [(0, rf G.1 l0), (1, .int l1)] [] M 0 0 := by
  unfold g_X7_has at h
  refine wt_iload_n (pc := 0) 1 dX7_has_0 rfl ?_
  refine wt_if_lt (pc := 1) (tgt := 13) dX7_has_1 (by decide) (fun q => ?_) (fun q => ?_)
  · have h := ite_t q h
    refine wt_iconst (pc := 13) (v := 0) dX7_has_13 (by decide) ?_
    cases h
    exact he 14 _ _ _ dX7_has_14 (by decide) (by decide)
  · have h := ite_f q h
    refine wt_iload_n (pc := 4) 1 dX7_has_4 rfl ?_
    refine wt_iconst (pc := 5) (v := 4) dX7_has_5 (by decide) ?_
    refine wt_icmp_ge (pc := 6) (tgt := 13) dX7_has_6 (by decide) (fun q => ?_) (fun q => ?_)
    · have h := ite_t q h
      refine wt_iconst (pc := 13) (v := 0) dX7_has_13 (by decide) ?_
      cases h
      exact he 14 _ _ _ dX7_has_14 (by decide) (by decide)
    · have h := ite_f q h
      refine wt_iconst (pc := 9) (v := 1) dX7_has_9 (by decide) ?_
      refine wt_goto (pc := 10) (tgt := 14) dX7_has_10 (by decide) ?_
      cases h
      exact he 14 _ _ _ dX7_has_14 (by decide) (by decide)
set_option maxHeartbeats 4000000 in
set_option maxRecDepth 100000 in
theorem c_X7_has {G : GG} {M : Mm} {l0 : Option Nat} {l1 : Int32} {r : Int32 × Mm} (h : f_X7_has M l0 l1 = some r) (l : Launch) : Ct l G j_X7_has b_X7_has [rf G.1 l0, .int l1] M (some (.int r.1)) r.2 := cf_Z h (by decide +kernel) (by simp [lg_sl, rf_cat, cat_i, cat_l, j_X7_has]) rfl (by simp [lv_args, rf_cat, cat_i, cat_l]) (fun h X he => t_X7_has_e he h)
def g_X7_isMissing (M : Mm) (l0 : Option Nat) (l1 : Int32) : Option (Int32 × Mm) := gfR M l0 7 2 fun v1 => alI M v1 21 l1 fun v5 => if v5 = (-1) then (some (1, M)) else (some (0, M))
def f_X7_isMissing (M : Mm) (l0 : Option Nat) (l1 : Int32) : Option (Int32 × Mm) := zc (g_X7_isMissing M l0 l1)
set_option maxHeartbeats 4000000 in
set_option maxRecDepth 100000 in
theorem t_X7_isMissing_e {G : GG} {X : CX} {ans : Int32 × Mm} (he : EndI G X j_X7_isMissing b_X7_isMissing ans) {M : Mm} {l0 : Option Nat} {l1 : Int32} (h : g_X7_isMissing M l0 l1 = some ans) : Wt G X j_X7_isMissing b_X7_isMissing 0 [(0, rf G.1 l0), (1, .int l1)] [] M 0 0 := by
  unfold g_X7_isMissing at h
  refine wt_aload_n (pc := 0) 0 dX7_isMissing_0 rfl ?_
  refine wt_getR (pc := 1) dX7_isMissing_1 fl_X7_20 (fun _ _ _ => rfl) h (fun v1 h => ?_)
  refine wt_iload_n (pc := 4) 1 dX7_isMissing_4 rfl ?_
  refine wt_iaload (pc := 5) (kd := 21) dX7_isMissing_5 rfl rfl h (fun v5 h => ?_)
  refine wt_iconst (pc := 6) (v := (-1)) dX7_isMissing_6 (by decide) ?_
  refine wt_icmp_ne (pc := 7) (tgt := 14) dX7_isMissing_7 (by decide) (fun q => ?_) (fun q => ?_)
  · have h := ite_f q h
    refine wt_iconst (pc := 14) (v := 0) dX7_isMissing_14 (by decide) ?_
    cases h
    exact he 15 _ _ _ dX7_isMissing_15 (by decide) (by decide)
  · have h := ite_t q h
    refine wt_iconst (pc := 10) (v := 1) dX7_isMissing_10 (by decide) ?_
    refine wt_goto (pc := 11) (tgt := 15) dX7_isMissing_11 (by decide) ?_
    cases h
    exact he 15 _ _ _ dX7_isMissing_15 (by decide) (by decide)
set_option maxHeartbeats 4000000 in
set_option maxRecDepth 100000 in
theorem c_X7_isMissing {G : GG} {M : Mm} {l0 : Option Nat} {l1 : Int32} {r : Int32 × Mm} (h : f_X7_isMissing M l0 l1 = some r) (l : Launch) : Ct l G j_X7_isMissing b_X7_isMissing [rf G.1 l0, .int l1] M (some (.int r.1)) r.2 := cf_Z h (by decide +kernel) (by simp [lg_sl, rf_cat, cat_i, cat_l, j_X7_isMissing]) rfl (by simp [lv_args, rf_cat, cat_i, cat_l]) (fun h X he => t_X7_isMissing_e he h)
def g_X7_reaches (M : Mm) (l0 : Option Nat) (l1 : Int32) (l2 : Int32) (l3 : Int32) : Option (Int32 × Mm) := if l2 < 0 then (some (0, M)) else (gfR M l0 7 2 fun v6 => alI M v6 21 l1 fun v10 => if v10 < l3 then (some (0, M)) else (gfR M l0 7 2 fun v16 => alI M v16 21 l1 fun v20 => if (v20 - l3) < l2 then (some (0, M)) else (some (1, M))))
def f_X7_reaches (M : Mm) (l0 : Option Nat) (l1 : Int32) (l2 : Int32) (l3 : Int32) : Option (Int32 × Mm) := zc (g_X7_reaches M l0 l1 l2 l3)
set_option maxHeartbeats 4000000 in
set_option maxRecDepth 100000 in
theorem t_X7_reaches_e {G : GG} {X : CX} {ans : Int32 × Mm} (he : EndI G X j_X7_reaches b_X7_reaches ans) {M : Mm} {l0 : Option Nat} {l1 : Int32} {l2 : Int32} {l3 : Int32} (h : g_X7_reaches M l0 l1 l2 l3 = some ans) : Wt G X j_X7_reaches b_X7_reaches 0 [(0, rf G.1 l0), (1, .int l1), (2, .int l2), (3, .int l3)] [] M 0 0 := by
  unfold g_X7_reaches at h
  refine wt_iload_n (pc := 0) 2 dX7_reaches_0 rfl ?_
  refine wt_if_lt (pc := 1) (tgt := 30) dX7_reaches_1 (by decide) (fun q => ?_) (fun q => ?_)
  · have h := ite_t q h
    refine wt_iconst (pc := 30) (v := 0) dX7_reaches_30 (by decide) ?_
    cases h
    exact he 31 _ _ _ dX7_reaches_31 (by decide) (by decide)
  · have h := ite_f q h
    refine wt_iload_n (pc := 4) 3 dX7_reaches_4 rfl ?_
    refine wt_aload_n (pc := 5) 0 dX7_reaches_5 rfl ?_
    refine wt_getR (pc := 6) dX7_reaches_6 fl_X7_20 (fun _ _ _ => rfl) h (fun v6 h => ?_)
    refine wt_iload_n (pc := 9) 1 dX7_reaches_9 rfl ?_
    refine wt_iaload (pc := 10) (kd := 21) dX7_reaches_10 rfl rfl h (fun v10 h => ?_)
    refine wt_icmp_gt (pc := 11) (tgt := 30) dX7_reaches_11 (by decide) (fun q => ?_) (fun q => ?_)
    · have h := ite_t q h
      refine wt_iconst (pc := 30) (v := 0) dX7_reaches_30 (by decide) ?_
      cases h
      exact he 31 _ _ _ dX7_reaches_31 (by decide) (by decide)
    · have h := ite_f q h
      refine wt_iload_n (pc := 14) 2 dX7_reaches_14 rfl ?_
      refine wt_aload_n (pc := 15) 0 dX7_reaches_15 rfl ?_
      refine wt_getR (pc := 16) dX7_reaches_16 fl_X7_20 (fun _ _ _ => rfl) h (fun v16 h => ?_)
      refine wt_iload_n (pc := 19) 1 dX7_reaches_19 rfl ?_
      refine wt_iaload (pc := 20) (kd := 21) dX7_reaches_20 rfl rfl h (fun v20 h => ?_)
      refine wt_iload_n (pc := 21) 3 dX7_reaches_21 rfl ?_
      refine wt_isub (pc := 22) dX7_reaches_22 ?_
      refine wt_icmp_gt (pc := 23) (tgt := 30) dX7_reaches_23 (by decide) (fun q => ?_) (fun q => ?_)
      · have h := ite_t q h
        refine wt_iconst (pc := 30) (v := 0) dX7_reaches_30 (by decide) ?_
        cases h
        exact he 31 _ _ _ dX7_reaches_31 (by decide) (by decide)
      · have h := ite_f q h
        refine wt_iconst (pc := 26) (v := 1) dX7_reaches_26 (by decide) ?_
        refine wt_goto (pc := 27) (tgt := 31) dX7_reaches_27 (by decide) ?_
        cases h
        exact he 31 _ _ _ dX7_reaches_31 (by decide) (by decide)
set_option maxHeartbeats 4000000 in
set_option maxRecDepth 100000 in
theorem c_X7_reaches {G : GG} {M : Mm} {l0 : Option Nat} {l1 : Int32} {l2 : Int32} {l3 : Int32} {r : Int32 × Mm} (h : f_X7_reaches M l0 l1 l2 l3 = some r) (l : Launch) : Ct l G j_X7_reaches b_X7_reaches [rf G.1 l0, .int l1, .int l2, .int l3] M (some (.int r.1)) r.2 := cf_Z h (by decide +kernel) (by simp [lg_sl, rf_cat, cat_i, cat_l, j_X7_reaches]) rfl (by simp [lv_args, rf_cat, cat_i, cat_l]) (fun h X he => t_X7_reaches_e he h)
def f_X7_whyNot (M : Mm) (l0 : Option Nat) (l1 : Int32) (l2 : Int32) (l3 : Int32) : Option (Int32 × Mm) := ck M l0 7 <| bd (f_X7_has M l0 l1) fun v2 M2 => if v2 = 0 then (some (1, M2)) else (ck M2 l0 7 <| bd (f_X7_isMissing M2 l0 l1) fun v12 M12 => if v12 = 0 then (ck M12 l0 7 <| bd (f_X7_reaches M12 l0 l1 l2 l3) fun v24 M24 => if v24 = 0 then (some (4, M24)) else (some (0, M24))) else (some (3, M12)))
set_option maxHeartbeats 4000000 in
set_option maxRecDepth 100000 in
theorem t_X7_whyNot_e {G : GG} {X : CX} {ans : Int32 × Mm} (he : EndI G X j_X7_whyNot b_X7_whyNot ans) {M : Mm} {l0 : Option Nat} {l1 : Int32} {l2 : Int32} {l3 : Int32} (h : f_X7_whyNot M l0 l1 l2 l3 = some ans) : Wt G X j_X7_whyNot b_X7_whyNot 0 [(0, rf G.1 l0), (1, .int l1), (2, .int l2), (3, .int l3)] [] M 0 0 := by
  unfold f_X7_whyNot at h
  refine wt_aload_n (pc := 0) 0 dX7_whyNot_0 rfl ?_
  refine wt_iload_n (pc := 1) 1 dX7_whyNot_1 rfl ?_
  refine wt_cVI (pc := 2) (J' := j_X7_has) (As := [.int l1]) (st := []) (B' := b_X7_has) (u' := 0) (w' := 0) dX7_whyNot_2 ml_X7_23 mv_X7_has (fun v9 M9 e9 => c_X7_has e9) rfl (by decide) rfl rfl (by decide) (by decide) (by decide) rfl h (fun v2 M2 h => ?_)
  refine wt_if_ne (pc := 5) (tgt := 10) dX7_whyNot_5 (by decide) (fun q => ?_) (fun q => ?_)
  · have h := ite_f q h
    refine wt_aload_n (pc := 10) 0 dX7_whyNot_10 rfl ?_
    refine wt_iload_n (pc := 11) 1 dX7_whyNot_11 rfl ?_
    refine wt_cVI (pc := 12) (J' := j_X7_isMissing) (As := [.int l1]) (st := []) (B' := b_X7_isMissing) (u' := 0) (w' := 0) dX7_whyNot_12 ml_X7_27 mv_X7_isMissing (fun v9 M9 e9 => c_X7_isMissing e9) rfl (by decide) rfl rfl (by decide) (by decide) (by decide) rfl h (fun v12 M12 h => ?_)
    refine wt_if_eq (pc := 15) (tgt := 20) dX7_whyNot_15 (by decide) (fun q => ?_) (fun q => ?_)
    · have h := ite_t q h
      refine wt_aload_n (pc := 20) 0 dX7_whyNot_20 rfl ?_
      refine wt_iload_n (pc := 21) 1 dX7_whyNot_21 rfl ?_
      refine wt_iload_n (pc := 22) 2 dX7_whyNot_22 rfl ?_
      refine wt_iload_n (pc := 23) 3 dX7_whyNot_23 rfl ?_
      refine wt_cVI (pc := 24) (J' := j_X7_reaches) (As := [.int l1, .int l2, .int l3]) (st := []) (B' := b_X7_reaches) (u' := 0) (w' := 0) dX7_whyNot_24 ml_X7_30 mv_X7_reaches (fun v9 M9 e9 => c_X7_reaches e9) rfl (by decide) rfl rfl (by decide) (by decide) (by decide) rfl h (fun v24 M24 h => ?_)
      refine wt_if_eq (pc := 27) (tgt := 34) dX7_whyNot_27 (by decide) (fun q => ?_) (fun q => ?_)
      · have h := ite_t q h
        refine wt_iconst (pc := 34) (v := 4) dX7_whyNot_34 (by decide) ?_
        cases h
        exact he 35 _ _ _ dX7_whyNot_35 (by decide) (by decide)
      · have h := ite_f q h
        refine wt_iconst (pc := 30) (v := 0) dX7_whyNot_30 (by decide) ?_
        refine wt_goto (pc := 31) (tgt := 35) dX7_whyNot_31 (by decide) ?_
        cases h
        exact he 35 _ _ _ dX7_whyNot_35 (by decide) (by decide)
    · have h := ite_f q h
      refine wt_iconst (pc := 18) (v := 3) dX7_whyNot_18 (by decide) ?_
      cases h
      exact he 19 _ _ _ dX7_whyNot_19 (by decide) (by decide)
  · have h := ite_t q h
    refine wt_iconst (pc := 8) (v := 1) dX7_whyNot_8 (by decide) ?_
    cases h
    exact he 9 _ _ _ dX7_whyNot_9 (by decide) (by decide)
set_option maxHeartbeats 4000000 in
set_option maxRecDepth 100000 in
theorem c_X7_whyNot {G : GG} {M : Mm} {l0 : Option Nat} {l1 : Int32} {l2 : Int32} {l3 : Int32} {r : Int32 × Mm} (h : f_X7_whyNot M l0 l1 l2 l3 = some r) (l : Launch) : Ct l G j_X7_whyNot b_X7_whyNot [rf G.1 l0, .int l1, .int l2, .int l3] M (some (.int r.1)) r.2 := cf_I (by decide +kernel) (by simp [lg_sl, rf_cat, cat_i, cat_l, j_X7_whyNot]) rfl (by simp [lv_args, rf_cat, cat_i, cat_l]) (fun X he => t_X7_whyNot_e he h)
def f_X7_lay_17 : Nat → Mm → Option Nat → Int32 → Int32 → Option (Mm)
  | 0, _, _, _, _ => none
  | n + 1, M, l0, l1, l4 => if 60 ≤ l4 then (some M) else (gfR M l0 7 0 fun v25 => alR M v25 51 l1 fun v29 => asL M v29 22 l4 0 fun M33 => f_X7_lay_17 n M33 l0 l1 (l4 + 1))
def f_X7_lay (M : Mm) (l0 : Option Nat) (l1 : Int32) (l2 : Int32) (l3 : Int32) : Option (Mm) := gfR M l0 7 1 fun v1 => asI M v1 21 l1 l2 fun M6 => gfR M6 l0 7 2 fun v8 => asI M6 v8 21 l1 l3 fun M13 => f_X7_lay_17  fu M13 l0 l1 0
set_option maxHeartbeats 4000000 in
set_option maxRecDepth 100000 in
theorem t_X7_lay_17 {G : GG} {X : CX} {ans : Mm} (he : EndV G X j_X7_lay b_X7_lay ans) : ∀ (n : Nat) {M : Mm} {l0 : Option Nat} {l1 : Int32} {l4 : Int32}, f_X7_lay_17 n M l0 l1 l4 = some ans → Wt G X j_X7_lay b_X7_lay 17 [(0, rf G.1 l0), (1, .int l1), (4, .int l4)] [] M 0 0 := by
  intro n
  induction n with
  | zero =>
    intro M l0 l1 l4 h
    rw [f_X7_lay_17] at h
    cases h
  | succ n ih =>
    intro M l0 l1 l4 h
    rw [f_X7_lay_17] at h
    refine wt_iload (pc := 17) 2 dX7_lay_17 rfl ?_
    refine wt_bipush (pc := 19) (v := 60) dX7_lay_19 (by decide) ?_
    refine wt_icmp_ge (pc := 21) (tgt := 40) dX7_lay_21 (by decide) (fun q => ?_) (fun q => ?_)
    · have h := ite_t q h
      cases h
      exact he 40 _ _ _ dX7_lay_40 (by decide) (by decide)
    · have h := ite_f q h
      refine wt_aload_n (pc := 24) 0 dX7_lay_24 rfl ?_
      refine wt_getR (pc := 25) dX7_lay_25 fl_X7_13 (fun _ _ _ => rfl) h (fun v25 h => ?_)
      refine wt_iload_n (pc := 28) 1 dX7_lay_28 rfl ?_
      refine wt_aaload (pc := 29) (kd := 51) dX7_lay_29 rfl rfl (by decide) h (fun v29 h => ?_)
      refine wt_iload (pc := 30) 2 dX7_lay_30 rfl ?_
      refine wt_lconst (pc := 32) (v := 0) dX7_lay_32 (by decide) ?_
      refine wt_lastore (pc := 33) (kd := 22) dX7_lay_33 rfl rfl h (fun M33 h => ?_)
      refine wt_iinc (pc := 34) (d := 1) (ls' := [(4, .int (l4 + 1)), (0, rf G.1 l0), (1, .int l1)]) 2 dX7_lay_34 rfl (by decide) (by decide) rfl ?_
      refine wt_goto (pc := 37) (tgt := 17) dX7_lay_37 (by decide) ?_
      refine wt_sub (ls' := [(0, rf G.1 l0), (1, .int l1), (4, .int (l4 + 1))]) [1, 2, 0] rfl ?_
      exact ih h
set_option maxHeartbeats 4000000 in
set_option maxRecDepth 100000 in
theorem t_X7_lay_e {G : GG} {X : CX} {ans : Mm} (he : EndV G X j_X7_lay b_X7_lay ans) {M : Mm} {l0 : Option Nat} {l1 : Int32} {l2 : Int32} {l3 : Int32} (h : f_X7_lay M l0 l1 l2 l3 = some ans) : Wt G X j_X7_lay b_X7_lay 0 [(0, rf G.1 l0), (1, .int l1), (2, .int l2), (3, .int l3)] [] M 0 0 := by
  unfold f_X7_lay at h
  refine wt_aload_n (pc := 0) 0 dX7_lay_0 rfl ?_
  refine wt_getR (pc := 1) dX7_lay_1 fl_X7_16 (fun _ _ _ => rfl) h (fun v1 h => ?_)
  refine wt_iload_n (pc := 4) 1 dX7_lay_4 rfl ?_
  refine wt_iload_n (pc := 5) 2 dX7_lay_5 rfl ?_
  refine wt_iastore (pc := 6) (kd := 21) dX7_lay_6 rfl rfl h (fun M6 h => ?_)
  refine wt_aload_n (pc := 7) 0 dX7_lay_7 rfl ?_
  refine wt_getR (pc := 8) dX7_lay_8 fl_X7_20 (fun _ _ _ => rfl) h (fun v8 h => ?_)
  refine wt_iload_n (pc := 11) 1 dX7_lay_11 rfl ?_
  refine wt_iload_n (pc := 12) 3 dX7_lay_12 rfl ?_
  refine wt_iastore (pc := 13) (kd := 21) dX7_lay_13 rfl rfl h (fun M13 h => ?_)
  refine wt_iconst (pc := 14) (v := 0) dX7_lay_14 (by decide) ?_
  refine wt_istore (pc := 15) (i := 4) (ls' := [(4, .int 0), (0, rf G.1 l0), (1, .int l1), (2, .int l2), (3, .int l3)]) dX7_lay_15 (by decide) rfl ?_
  refine wt_sub (ls' := [(0, rf G.1 l0), (1, .int l1), (4, .int 0)]) [1, 2, 0] rfl ?_
  exact t_X7_lay_17 he  fu h
set_option maxHeartbeats 4000000 in
set_option maxRecDepth 100000 in
theorem c_X7_lay {G : GG} {M : Mm} {l0 : Option Nat} {l1 : Int32} {l2 : Int32} {l3 : Int32} {r : Mm} (h : f_X7_lay M l0 l1 l2 l3 = some r) (l : Launch) : Ct l G j_X7_lay b_X7_lay [rf G.1 l0, .int l1, .int l2, .int l3] M none r := cf_V (by decide +kernel) (by simp [lg_sl, rf_cat, cat_i, cat_l, j_X7_lay]) rfl (by simp [lv_args, rf_cat, cat_i, cat_l]) (fun X he => t_X7_lay_e he h)
def f_X7_put (M : Mm) (l0 : Option Nat) (l1 : Int32) (l2 : Int32) (l3 : Int64) : Option (Mm) := gfR M l0 7 1 fun v1 => alI M v1 21 l1 fun v5 => if v5 = 0 then (gfR M l0 7 0 fun v33 => alR M v33 51 l1 fun v37 => asL M v37 22 l2 (Int32.toInt64 (Int8.toInt32 (Int32.toInt8 (Int64.toInt32 l3)))) fun M43 => some M43) else if v5 = 1 then (gfR M l0 7 0 fun v48 => alR M v48 51 l1 fun v52 => asL M v52 22 l2 (Int32.toInt64 (Int16.toInt32 (Int32.toInt16 (Int64.toInt32 l3)))) fun M58 => some M58) else if v5 = 2 then (gfR M l0 7 0 fun v63 => alR M v63 51 l1 fun v67 => asL M v67 22 l2 (Int32.toInt64 (Int64.toInt32 l3)) fun M72 => some M72) else (gfR M l0 7 0 fun v77 => alR M v77 51 l1 fun v81 => asL M v81 22 l2 l3 fun M84 => some M84)
set_option maxHeartbeats 4000000 in
set_option maxRecDepth 100000 in
theorem t_X7_put_e {G : GG} {X : CX} {ans : Mm} (he : EndV G X j_X7_put b_X7_put ans) {M : Mm} {l0 : Option Nat} {l1 : Int32} {l2 : Int32} {l3 : Int64} (h : f_X7_put M l0 l1 l2 l3 = some ans) : Wt G X j_X7_put b_X7_put 0 [(0, rf G.1 l0), (1, .int l1), (2, .int l2), (3, .long l3)] [] M 0 0 := by
  unfold f_X7_put at h
  refine wt_aload_n (pc := 0) 0 dX7_put_0 rfl ?_
  refine wt_getR (pc := 1) dX7_put_1 fl_X7_16 (fun _ _ _ => rfl) h (fun v1 h => ?_)
  refine wt_iload_n (pc := 4) 1 dX7_put_4 rfl ?_
  refine wt_iaload (pc := 5) (kd := 21) dX7_put_5 rfl rfl h (fun v5 h => ?_)
  rcases Decidable.em (v5 = 0) with q6_0 | q6_0
  · have h := ite_t q6_0 h
    refine wt_tableIn (pc := 6) (off := 26) (tgt := 32) q6_0 dX7_put_6 (by decide) (by decide) (by decide) (by decide) ?_
    refine wt_aload_n (pc := 32) 0 dX7_put_32 rfl ?_
    refine wt_getR (pc := 33) dX7_put_33 fl_X7_13 (fun _ _ _ => rfl) h (fun v33 h => ?_)
    refine wt_iload_n (pc := 36) 1 dX7_put_36 rfl ?_
    refine wt_aaload (pc := 37) (kd := 51) dX7_put_37 rfl rfl (by decide) h (fun v37 h => ?_)
    refine wt_iload_n (pc := 38) 2 dX7_put_38 rfl ?_
    refine wt_lload_n (pc := 39) 3 dX7_put_39 rfl ?_
    refine wt_l2i (pc := 40) dX7_put_40 ?_
    refine wt_i2b (pc := 41) dX7_put_41 ?_
    refine wt_i2l (pc := 42) dX7_put_42 ?_
    refine wt_lastore (pc := 43) (kd := 22) dX7_put_43 rfl rfl h (fun M43 h => ?_)
    refine wt_goto (pc := 44) (tgt := 85) dX7_put_44 (by decide) ?_
    cases h
    exact he 85 _ _ _ dX7_put_85 (by decide) (by decide)
  have h := ite_f q6_0 h
  rcases Decidable.em (v5 = 1) with q6_1 | q6_1
  · have h := ite_t q6_1 h
    refine wt_tableIn (pc := 6) (off := 41) (tgt := 47) q6_1 dX7_put_6 (by decide) (by decide) (by decide) (by decide) ?_
    refine wt_aload_n (pc := 47) 0 dX7_put_47 rfl ?_
    refine wt_getR (pc := 48) dX7_put_48 fl_X7_13 (fun _ _ _ => rfl) h (fun v48 h => ?_)
    refine wt_iload_n (pc := 51) 1 dX7_put_51 rfl ?_
    refine wt_aaload (pc := 52) (kd := 51) dX7_put_52 rfl rfl (by decide) h (fun v52 h => ?_)
    refine wt_iload_n (pc := 53) 2 dX7_put_53 rfl ?_
    refine wt_lload_n (pc := 54) 3 dX7_put_54 rfl ?_
    refine wt_l2i (pc := 55) dX7_put_55 ?_
    refine wt_i2s (pc := 56) dX7_put_56 ?_
    refine wt_i2l (pc := 57) dX7_put_57 ?_
    refine wt_lastore (pc := 58) (kd := 22) dX7_put_58 rfl rfl h (fun M58 h => ?_)
    refine wt_goto (pc := 59) (tgt := 85) dX7_put_59 (by decide) ?_
    cases h
    exact he 85 _ _ _ dX7_put_85 (by decide) (by decide)
  have h := ite_f q6_1 h
  rcases Decidable.em (v5 = 2) with q6_2 | q6_2
  · have h := ite_t q6_2 h
    refine wt_tableIn (pc := 6) (off := 56) (tgt := 62) q6_2 dX7_put_6 (by decide) (by decide) (by decide) (by decide) ?_
    refine wt_aload_n (pc := 62) 0 dX7_put_62 rfl ?_
    refine wt_getR (pc := 63) dX7_put_63 fl_X7_13 (fun _ _ _ => rfl) h (fun v63 h => ?_)
    refine wt_iload_n (pc := 66) 1 dX7_put_66 rfl ?_
    refine wt_aaload (pc := 67) (kd := 51) dX7_put_67 rfl rfl (by decide) h (fun v67 h => ?_)
    refine wt_iload_n (pc := 68) 2 dX7_put_68 rfl ?_
    refine wt_lload_n (pc := 69) 3 dX7_put_69 rfl ?_
    refine wt_l2i (pc := 70) dX7_put_70 ?_
    refine wt_i2l (pc := 71) dX7_put_71 ?_
    refine wt_lastore (pc := 72) (kd := 22) dX7_put_72 rfl rfl h (fun M72 h => ?_)
    refine wt_goto (pc := 73) (tgt := 85) dX7_put_73 (by decide) ?_
    cases h
    exact he 85 _ _ _ dX7_put_85 (by decide) (by decide)
  have h := ite_f q6_2 h
  refine wt_tableOut (pc := 6) (tgt := 76) dX7_put_6 (by have h9 := ts_out (x := v5) 0 3 (fun i hi => by match i, hi with | 0, _ => exact ts_ne (by decide) q6_0 | 1, _ => exact ts_ne (by decide) q6_1 | 2, _ => exact ts_ne (by decide) q6_2 | i + 3, hi => omega); omega) (by decide) ?_
  refine wt_aload_n (pc := 76) 0 dX7_put_76 rfl ?_
  refine wt_getR (pc := 77) dX7_put_77 fl_X7_13 (fun _ _ _ => rfl) h (fun v77 h => ?_)
  refine wt_iload_n (pc := 80) 1 dX7_put_80 rfl ?_
  refine wt_aaload (pc := 81) (kd := 51) dX7_put_81 rfl rfl (by decide) h (fun v81 h => ?_)
  refine wt_iload_n (pc := 82) 2 dX7_put_82 rfl ?_
  refine wt_lload_n (pc := 83) 3 dX7_put_83 rfl ?_
  refine wt_lastore (pc := 84) (kd := 22) dX7_put_84 rfl rfl h (fun M84 h => ?_)
  cases h
  exact he 85 _ _ _ dX7_put_85 (by decide) (by decide)
set_option maxHeartbeats 4000000 in
set_option maxRecDepth 100000 in
theorem c_X7_put {G : GG} {M : Mm} {l0 : Option Nat} {l1 : Int32} {l2 : Int32} {l3 : Int64} {r : Mm} (h : f_X7_put M l0 l1 l2 l3 = some r) (l : Launch) : Ct l G j_X7_put b_X7_put [rf G.1 l0, .int l1, .int l2, .long l3] M none r := cf_V (by decide +kernel) (by simp [lg_sl, rf_cat, cat_i, cat_l, j_X7_put]) rfl (by simp [lv_args, rf_cat, cat_i, cat_l]) (fun X he => t_X7_put_e he h)
def f_X7_areWithin_3 : Nat → Mm → Option Nat → Int32 → Int32 → Int32 → Int32 → Option (Int32 × Mm)
  | 0, _, _, _, _, _, _ => none
  | n + 1, M, l0, l1, l2, l3, l4 => if l2 ≤ l4 then (some (1, M)) else (gfR M l0 7 0 fun v10 => alR M v10 51 l1 fun v14 => alL M v14 22 l4 fun v17 => if (lg_cmp v17 0) < 0 then (some (0, M)) else (gfR M l0 7 0 fun v24 => alR M v24 51 l1 fun v28 => alL M v28 22 l4 fun v31 => if (lg_cmp v31 (Int32.toInt64 l3)) ≤ 0 then (f_X7_areWithin_3 n M l0 l1 l2 l3 (l4 + 1)) else (some (0, M))))
def g_X7_areWithin (M : Mm) (l0 : Option Nat) (l1 : Int32) (l2 : Int32) (l3 : Int32) : Option (Int32 × Mm) := f_X7_areWithin_3  fu M l0 l1 l2 l3 0
def f_X7_areWithin (M : Mm) (l0 : Option Nat) (l1 : Int32) (l2 : Int32) (l3 : Int32) : Option (Int32 × Mm) := zc (g_X7_areWithin M l0 l1 l2 l3)
set_option maxHeartbeats 4000000 in
set_option maxRecDepth 100000 in
theorem t_X7_areWithin_3 {G : GG} {X : CX} {ans : Int32 × Mm} (he : EndI G X j_X7_areWithin b_X7_areWithin ans) : ∀ (n : Nat) {M : Mm} {l0 : Option Nat} {l1 : Int32} {l2 : Int32} {l3 : Int32} {l4 : Int32}, f_X7_areWithin_3 n M l0 l1 l2 l3 l4 = some ans → Wt G X j_X7_areWithin b_X7_areWithin 3 [(0, rf G.1 l0), (1, .int l1), (2, .int l2), (3, .int l3), (4, .int l4)] [] M 0 0 := by
  intro n
  induction n with
  | zero =>
    intro M l0 l1 l2 l3 l4 h
    rw [f_X7_areWithin_3] at h
    cases h
  | succ n ih =>
    intro M l0 l1 l2 l3 l4 h
    rw [f_X7_areWithin_3] at h
    refine wt_iload (pc := 3) 4 dX7_areWithin_3 rfl ?_
    refine wt_iload_n (pc := 5) 2 dX7_areWithin_5 rfl ?_
    refine wt_icmp_ge (pc := 6) (tgt := 46) dX7_areWithin_6 (by decide) (fun q => ?_) (fun q => ?_)
    · have h := ite_t q h
      refine wt_iconst (pc := 46) (v := 1) dX7_areWithin_46 (by decide) ?_
      cases h
      exact he 47 _ _ _ dX7_areWithin_47 (by decide) (by decide)
    · have h := ite_f q h
      refine wt_aload_n (pc := 9) 0 dX7_areWithin_9 rfl ?_
      refine wt_getR (pc := 10) dX7_areWithin_10 fl_X7_13 (fun _ _ _ => rfl) h (fun v10 h => ?_)
      refine wt_iload_n (pc := 13) 1 dX7_areWithin_13 rfl ?_
      refine wt_aaload (pc := 14) (kd := 51) dX7_areWithin_14 rfl rfl (by decide) h (fun v14 h => ?_)
      refine wt_iload (pc := 15) 4 dX7_areWithin_15 rfl ?_
      refine wt_laload (pc := 17) (kd := 22) dX7_areWithin_17 rfl rfl h (fun v17 h => ?_)
      refine wt_lconst (pc := 18) (v := 0) dX7_areWithin_18 (by decide) ?_
      refine wt_lcmp (pc := 19) dX7_areWithin_19 ?_
      refine wt_if_lt (pc := 20) (tgt := 38) dX7_areWithin_20 (by decide) (fun q => ?_) (fun q => ?_)
      · have h := ite_t q h
        refine wt_iconst (pc := 38) (v := 0) dX7_areWithin_38 (by decide) ?_
        cases h
        exact he 39 _ _ _ dX7_areWithin_39 (by decide) (by decide)
      · have h := ite_f q h
        refine wt_aload_n (pc := 23) 0 dX7_areWithin_23 rfl ?_
        refine wt_getR (pc := 24) dX7_areWithin_24 fl_X7_13 (fun _ _ _ => rfl) h (fun v24 h => ?_)
        refine wt_iload_n (pc := 27) 1 dX7_areWithin_27 rfl ?_
        refine wt_aaload (pc := 28) (kd := 51) dX7_areWithin_28 rfl rfl (by decide) h (fun v28 h => ?_)
        refine wt_iload (pc := 29) 4 dX7_areWithin_29 rfl ?_
        refine wt_laload (pc := 31) (kd := 22) dX7_areWithin_31 rfl rfl h (fun v31 h => ?_)
        refine wt_iload_n (pc := 32) 3 dX7_areWithin_32 rfl ?_
        refine wt_i2l (pc := 33) dX7_areWithin_33 ?_
        refine wt_lcmp (pc := 34) dX7_areWithin_34 ?_
        refine wt_if_le (pc := 35) (tgt := 40) dX7_areWithin_35 (by decide) (fun q => ?_) (fun q => ?_)
        · have h := ite_t q h
          refine wt_iinc (pc := 40) (d := 1) (ls' := [(4, .int (l4 + 1)), (0, rf G.1 l0), (1, .int l1), (2, .int l2), (3, .int l3)]) 4 dX7_areWithin_40 rfl (by decide) (by decide) rfl ?_
          refine wt_goto (pc := 43) (tgt := 3) dX7_areWithin_43 (by decide) ?_
          refine wt_sub (ls' := [(0, rf G.1 l0), (1, .int l1), (2, .int l2), (3, .int l3), (4, .int (l4 + 1))]) [1, 2, 3, 4, 0] rfl ?_
          exact ih h
        · have h := ite_f q h
          refine wt_iconst (pc := 38) (v := 0) dX7_areWithin_38 (by decide) ?_
          cases h
          exact he 39 _ _ _ dX7_areWithin_39 (by decide) (by decide)
set_option maxHeartbeats 4000000 in
set_option maxRecDepth 100000 in
theorem t_X7_areWithin_e {G : GG} {X : CX} {ans : Int32 × Mm} (he : EndI G X j_X7_areWithin b_X7_areWithin ans) {M : Mm} {l0 : Option Nat} {l1 : Int32} {l2 : Int32} {l3 : Int32} (h : g_X7_areWithin M l0 l1 l2 l3 = some ans) : Wt G X j_X7_areWithin b_X7_areWithin 0 [(0, rf G.1 l0), (1, .int l1), (2, .int l2), (3, .int l3)] [] M 0 0 := by
  unfold g_X7_areWithin at h
  refine wt_iconst (pc := 0) (v := 0) dX7_areWithin_0 (by decide) ?_
  refine wt_istore (pc := 1) (i := 4) (ls' := [(4, .int 0), (0, rf G.1 l0), (1, .int l1), (2, .int l2), (3, .int l3)]) dX7_areWithin_1 (by decide) rfl ?_
  refine wt_sub (ls' := [(0, rf G.1 l0), (1, .int l1), (2, .int l2), (3, .int l3), (4, .int 0)]) [1, 2, 3, 4, 0] rfl ?_
  exact t_X7_areWithin_3 he  fu h
set_option maxHeartbeats 4000000 in
set_option maxRecDepth 100000 in
theorem c_X7_areWithin {G : GG} {M : Mm} {l0 : Option Nat} {l1 : Int32} {l2 : Int32} {l3 : Int32} {r : Int32 × Mm} (h : f_X7_areWithin M l0 l1 l2 l3 = some r) (l : Launch) : Ct l G j_X7_areWithin b_X7_areWithin [rf G.1 l0, .int l1, .int l2, .int l3] M (some (.int r.1)) r.2 := cf_Z h (by decide +kernel) (by simp [lg_sl, rf_cat, cat_i, cat_l, j_X7_areWithin]) rfl (by simp [lv_args, rf_cat, cat_i, cat_l]) (fun h X he => t_X7_areWithin_e he h)
def f_X7_timesOf_30 (k6 : Mm → Option Nat → Int32 → Int32 → Int32 → Int32 → Int32 → Option (Int32 × Mm)) (M : Mm) (l0 : Option Nat) (l1 : Int32) (l2 : Int32) (l3 : Int32) (l4 : Int32) (l5 : Int32) : Option (Int32 × Mm) := k6 M l0 l1 l2 l3 l4 (l5 + 1)
def f_X7_timesOf_6 : Nat → Mm → Option Nat → Int32 → Int32 → Int32 → Int32 → Int32 → Option (Int32 × Mm)
  | 0, _, _, _, _, _, _, _ => none
  | n + 1, M, l0, l1, l2, l3, l4, l5 => if l2 ≤ l5 then (some (l4, M)) else (gfR M l0 7 0 fun v13 => alR M v13 51 l1 fun v17 => alL M v17 22 l5 fun v20 => if (lg_cmp v20 (Int32.toInt64 l3)) = 0 then (f_X7_timesOf_30 (f_X7_timesOf_6 n) M l0 l1 l2 l3 (l4 + 1) l5) else (f_X7_timesOf_30 (f_X7_timesOf_6 n) M l0 l1 l2 l3 l4 l5))
def f_X7_timesOf (M : Mm) (l0 : Option Nat) (l1 : Int32) (l2 : Int32) (l3 : Int32) : Option (Int32 × Mm) := f_X7_timesOf_6  fu M l0 l1 l2 l3 0 0
set_option maxHeartbeats 4000000 in
set_option maxRecDepth 100000 in
theorem t_X7_timesOf_30 {G : GG} {X : CX} {ans : Int32 × Mm} (he : EndI G X j_X7_timesOf b_X7_timesOf ans) {k6 : Mm → Option Nat → Int32 → Int32 → Int32 → Int32 → Int32 → Option (Int32 × Mm)} (hk6 : ∀ (M : Mm) (a0 : Option Nat) (a1 : Int32) (a2 : Int32) (a3 : Int32) (a4 : Int32) (a5 : Int32), k6 M a0 a1 a2 a3 a4 a5 = some ans → Wt G X j_X7_timesOf b_X7_timesOf 6 [(0, rf G.1 a0), (1, .int a1), (2, .int a2), (3, .int a3), (4, .int a4), (5, .int a5)] [] M 0 0) {M : Mm} {l0 : Option Nat} {l1 : Int32} {l2 : Int32} {l3 : Int32} {l4 : Int32} {l5 : Int32} (h : f_X7_timesOf_30 k6 M l0 l1 l2 l3 l4 l5 = some ans) : Wt G X j_X7_timesOf b_X7_timesOf 30 [(0, rf G.1 l0), (1, .int l1), (2, .int l2), (3, .int l3), (4, .int l4), (5, .int l5)] [] M 0 0 := by
  unfold f_X7_timesOf_30 at h
  refine wt_iinc (pc := 30) (d := 1) (ls' := [(5, .int (l5 + 1)), (0, rf G.1 l0), (1, .int l1), (2, .int l2), (3, .int l3), (4, .int l4)]) 5 dX7_timesOf_30 rfl (by decide) (by decide) rfl ?_
  refine wt_goto (pc := 33) (tgt := 6) dX7_timesOf_33 (by decide) ?_
  refine wt_sub (ls' := [(0, rf G.1 l0), (1, .int l1), (2, .int l2), (3, .int l3), (4, .int l4), (5, .int (l5 + 1))]) [1, 2, 3, 4, 5, 0] rfl ?_
  exact hk6 _ _ _ _ _ _ _ h
set_option maxHeartbeats 4000000 in
set_option maxRecDepth 100000 in
theorem t_X7_timesOf_6 {G : GG} {X : CX} {ans : Int32 × Mm} (he : EndI G X j_X7_timesOf b_X7_timesOf ans) : ∀ (n : Nat) {M : Mm} {l0 : Option Nat} {l1 : Int32} {l2 : Int32} {l3 : Int32} {l4 : Int32} {l5 : Int32}, f_X7_timesOf_6 n M l0 l1 l2 l3 l4 l5 = some ans → Wt G X j_X7_timesOf b_X7_timesOf 6 [(0, rf G.1 l0), (1, .int l1), (2, .int l2), (3, .int l3), (4, .int l4), (5, .int l5)] [] M 0 0 := by
  intro n
  induction n with
  | zero =>
    intro M l0 l1 l2 l3 l4 l5 h
    rw [f_X7_timesOf_6] at h
    cases h
  | succ n ih =>
    intro M l0 l1 l2 l3 l4 l5 h
    rw [f_X7_timesOf_6] at h
    refine wt_iload (pc := 6) 5 dX7_timesOf_6 rfl ?_
    refine wt_iload_n (pc := 8) 2 dX7_timesOf_8 rfl ?_
    refine wt_icmp_ge (pc := 9) (tgt := 36) dX7_timesOf_9 (by decide) (fun q => ?_) (fun q => ?_)
    · have h := ite_t q h
      refine wt_iload (pc := 36) 4 dX7_timesOf_36 rfl ?_
      cases h
      exact he 38 _ _ _ dX7_timesOf_38 (by decide) (by decide)
    · have h := ite_f q h
      refine wt_aload_n (pc := 12) 0 dX7_timesOf_12 rfl ?_
      refine wt_getR (pc := 13) dX7_timesOf_13 fl_X7_13 (fun _ _ _ => rfl) h (fun v13 h => ?_)
      refine wt_iload_n (pc := 16) 1 dX7_timesOf_16 rfl ?_
      refine wt_aaload (pc := 17) (kd := 51) dX7_timesOf_17 rfl rfl (by decide) h (fun v17 h => ?_)
      refine wt_iload (pc := 18) 5 dX7_timesOf_18 rfl ?_
      refine wt_laload (pc := 20) (kd := 22) dX7_timesOf_20 rfl rfl h (fun v20 h => ?_)
      refine wt_iload_n (pc := 21) 3 dX7_timesOf_21 rfl ?_
      refine wt_i2l (pc := 22) dX7_timesOf_22 ?_
      refine wt_lcmp (pc := 23) dX7_timesOf_23 ?_
      refine wt_if_ne (pc := 24) (tgt := 30) dX7_timesOf_24 (by decide) (fun q => ?_) (fun q => ?_)
      · have h := ite_f q h
        exact t_X7_timesOf_30 he (fun _ _ _ _ _ _ _ h => ih h) h
      · have h := ite_t q h
        refine wt_iinc (pc := 27) (d := 1) (ls' := [(4, .int (l4 + 1)), (0, rf G.1 l0), (1, .int l1), (2, .int l2), (3, .int l3), (5, .int l5)]) 4 dX7_timesOf_27 rfl (by decide) (by decide) rfl ?_
        refine wt_sub (ls' := [(0, rf G.1 l0), (1, .int l1), (2, .int l2), (3, .int l3), (4, .int (l4 + 1)), (5, .int l5)]) [1, 2, 3, 4, 0, 5] rfl ?_
        exact t_X7_timesOf_30 he (fun _ _ _ _ _ _ _ h => ih h) h
set_option maxHeartbeats 4000000 in
set_option maxRecDepth 100000 in
theorem t_X7_timesOf_e {G : GG} {X : CX} {ans : Int32 × Mm} (he : EndI G X j_X7_timesOf b_X7_timesOf ans) {M : Mm} {l0 : Option Nat} {l1 : Int32} {l2 : Int32} {l3 : Int32} (h : f_X7_timesOf M l0 l1 l2 l3 = some ans) : Wt G X j_X7_timesOf b_X7_timesOf 0 [(0, rf G.1 l0), (1, .int l1), (2, .int l2), (3, .int l3)] [] M 0 0 := by
  unfold f_X7_timesOf at h
  refine wt_iconst (pc := 0) (v := 0) dX7_timesOf_0 (by decide) ?_
  refine wt_istore (pc := 1) (i := 4) (ls' := [(4, .int 0), (0, rf G.1 l0), (1, .int l1), (2, .int l2), (3, .int l3)]) dX7_timesOf_1 (by decide) rfl ?_
  refine wt_iconst (pc := 3) (v := 0) dX7_timesOf_3 (by decide) ?_
  refine wt_istore (pc := 4) (i := 5) (ls' := [(5, .int 0), (4, .int 0), (0, rf G.1 l0), (1, .int l1), (2, .int l2), (3, .int l3)]) dX7_timesOf_4 (by decide) rfl ?_
  refine wt_sub (ls' := [(0, rf G.1 l0), (1, .int l1), (2, .int l2), (3, .int l3), (4, .int 0), (5, .int 0)]) [2, 3, 4, 5, 1, 0] rfl ?_
  exact t_X7_timesOf_6 he  fu h
set_option maxHeartbeats 4000000 in
set_option maxRecDepth 100000 in
theorem c_X7_timesOf {G : GG} {M : Mm} {l0 : Option Nat} {l1 : Int32} {l2 : Int32} {l3 : Int32} {r : Int32 × Mm} (h : f_X7_timesOf M l0 l1 l2 l3 = some r) (l : Launch) : Ct l G j_X7_timesOf b_X7_timesOf [rf G.1 l0, .int l1, .int l2, .int l3] M (some (.int r.1)) r.2 := cf_I (by decide +kernel) (by simp [lg_sl, rf_cat, cat_i, cat_l, j_X7_timesOf]) rfl (by simp [lv_args, rf_cat, cat_i, cat_l]) (fun X he => t_X7_timesOf_e he h)

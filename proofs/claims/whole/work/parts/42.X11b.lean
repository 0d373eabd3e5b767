theorem dX11_wind_0 : decode cX11_wind 0 = .ok (.iload_n 1, 1) := by decide +kernel
theorem dX11_wind_1 : decode cX11_wind 1 = .ok (.iconst 0, 1) := by decide +kernel
theorem dX11_wind_2 : decode cX11_wind 2 = .ok (.aload_n 0, 1) := by decide +kernel
theorem dX11_wind_3 : decode cX11_wind 3 = .ok (.getfield 37, 3) := by decide +kernel
theorem dX11_wind_6 : decode cX11_wind 6 = .ok (.getfield 194, 3) := by decide +kernel
theorem dX11_wind_9 : decode cX11_wind 9 = .ok (.iconst 1, 1) := by decide +kernel
theorem dX11_wind_10 : decode cX11_wind 10 = .ok (.isub, 1) := by decide +kernel
theorem dX11_wind_11 : decode cX11_wind 11 = .ok (.invokestatic 105, 3) := by decide +kernel
theorem dX11_wind_14 : decode cX11_wind 14 = .ok (.ifCond .ne 9, 3) := by decide +kernel
theorem dX11_wind_17 : decode cX11_wind 17 = .ok (.aload_n 0, 1) := by decide +kernel
theorem dX11_wind_18 : decode cX11_wind 18 = .ok (.iconst 2, 1) := by decide +kernel
theorem dX11_wind_19 : decode cX11_wind 19 = .ok (.invokevirtual 131, 3) := by decide +kernel
theorem dX11_wind_22 : decode cX11_wind 22 = .ok (.ireturn, 1) := by decide +kernel
theorem dX11_wind_23 : decode cX11_wind 23 = .ok (.iload_n 2, 1) := by decide +kernel
theorem dX11_wind_24 : decode cX11_wind 24 = .ok (.lookupswitch 62 #[(0, 28), (1, 45)], 28) := by decide +kernel
theorem dX11_wind_52 : decode cX11_wind 52 = .ok (.aload_n 0, 1) := by decide +kernel
theorem dX11_wind_53 : decode cX11_wind 53 = .ok (.aload_n 0, 1) := by decide +kernel
theorem dX11_wind_54 : decode cX11_wind 54 = .ok (.getfield 37, 3) := by decide +kernel
theorem dX11_wind_57 : decode cX11_wind 57 = .ok (.getfield 277, 3) := by decide +kernel
theorem dX11_wind_60 : decode cX11_wind 60 = .ok (.iload_n 1, 1) := by decide +kernel
theorem dX11_wind_61 : decode cX11_wind 61 = .ok (.aaload, 1) := by decide +kernel
theorem dX11_wind_62 : decode cX11_wind 62 = .ok (.getfield 281, 3) := by decide +kernel
theorem dX11_wind_65 : decode cX11_wind 65 = .ok (.invokevirtual 176, 3) := by decide +kernel
theorem dX11_wind_68 : decode cX11_wind 68 = .ok (.ireturn, 1) := by decide +kernel
theorem dX11_wind_69 : decode cX11_wind 69 = .ok (.aload_n 0, 1) := by decide +kernel
theorem dX11_wind_70 : decode cX11_wind 70 = .ok (.aload_n 0, 1) := by decide +kernel
theorem dX11_wind_71 : decode cX11_wind 71 = .ok (.getfield 37, 3) := by decide +kernel
theorem dX11_wind_74 : decode cX11_wind 74 = .ok (.getfield 277, 3) := by decide +kernel
theorem dX11_wind_77 : decode cX11_wind 77 = .ok (.iload_n 1, 1) := by decide +kernel
theorem dX11_wind_78 : decode cX11_wind 78 = .ok (.aaload, 1) := by decide +kernel
theorem dX11_wind_79 : decode cX11_wind 79 = .ok (.getfield 286, 3) := by decide +kernel
theorem dX11_wind_82 : decode cX11_wind 82 = .ok (.invokevirtual 176, 3) := by decide +kernel
theorem dX11_wind_85 : decode cX11_wind 85 = .ok (.ireturn, 1) := by decide +kernel
theorem dX11_wind_86 : decode cX11_wind 86 = .ok (.aload_n 0, 1) := by decide +kernel
theorem dX11_wind_87 : decode cX11_wind 87 = .ok (.iconst 5, 1) := by decide +kernel
theorem dX11_wind_88 : decode cX11_wind 88 = .ok (.invokevirtual 131, 3) := by decide +kernel
theorem dX11_wind_91 : decode cX11_wind 91 = .ok (.ireturn, 1) := by decide +kernel
def j_X11_wind : JD := (yX11_wind, cX11_wind, 3, (some .int))
def b_X11_wind : BD := (1, 0, 0)
theorem dX11_helped_0 : decode cX11_helped 0 = .ok (.aload_n 0, 1) := by decide +kernel
theorem dX11_helped_1 : decode cX11_helped 1 = .ok (.iload_n 1, 1) := by decide +kernel
theorem dX11_helped_2 : decode cX11_helped 2 = .ok (.invokevirtual 216, 3) := by decide +kernel
theorem dX11_helped_5 : decode cX11_helped 5 = .ok (.ifCond .eq 11, 3) := by decide +kernel
theorem dX11_helped_8 : decode cX11_helped 8 = .ok (.aload_n 0, 1) := by decide +kernel
theorem dX11_helped_9 : decode cX11_helped 9 = .ok (.iload_n 2, 1) := by decide +kernel
theorem dX11_helped_10 : decode cX11_helped 10 = .ok (.invokevirtual 216, 3) := by decide +kernel
theorem dX11_helped_13 : decode cX11_helped 13 = .ok (.ifCond .ne 9, 3) := by decide +kernel
theorem dX11_helped_16 : decode cX11_helped 16 = .ok (.aload_n 0, 1) := by decide +kernel
theorem dX11_helped_17 : decode cX11_helped 17 = .ok (.iconst 2, 1) := by decide +kernel
theorem dX11_helped_18 : decode cX11_helped 18 = .ok (.invokevirtual 131, 3) := by decide +kernel
theorem dX11_helped_21 : decode cX11_helped 21 = .ok (.ireturn, 1) := by decide +kernel
theorem dX11_helped_22 : decode cX11_helped 22 = .ok (.iload_n 1, 1) := by decide +kernel
theorem dX11_helped_23 : decode cX11_helped 23 = .ok (.iload_n 2, 1) := by decide +kernel
theorem dX11_helped_24 : decode cX11_helped 24 = .ok (.if_icmp .ne 9, 3) := by decide +kernel
theorem dX11_helped_27 : decode cX11_helped 27 = .ok (.aload_n 0, 1) := by decide +kernel
theorem dX11_helped_28 : decode cX11_helped 28 = .ok (.iconst 5, 1) := by decide +kernel
theorem dX11_helped_29 : decode cX11_helped 29 = .ok (.invokevirtual 131, 3) := by decide +kernel
theorem dX11_helped_32 : decode cX11_helped 32 = .ok (.ireturn, 1) := by decide +kernel
theorem dX11_helped_33 : decode cX11_helped 33 = .ok (.aload_n 0, 1) := by decide +kernel
theorem dX11_helped_34 : decode cX11_helped 34 = .ok (.aload_n 0, 1) := by decide +kernel
theorem dX11_helped_35 : decode cX11_helped 35 = .ok (.getfield 37, 3) := by decide +kernel
theorem dX11_helped_38 : decode cX11_helped 38 = .ok (.getfield 289, 3) := by decide +kernel
theorem dX11_helped_41 : decode cX11_helped 41 = .ok (.iload_n 1, 1) := by decide +kernel
theorem dX11_helped_42 : decode cX11_helped 42 = .ok (.aaload, 1) := by decide +kernel
theorem dX11_helped_43 : decode cX11_helped 43 = .ok (.iload_n 2, 1) := by decide +kernel
theorem dX11_helped_44 : decode cX11_helped 44 = .ok (.iaload, 1) := by decide +kernel
theorem dX11_helped_45 : decode cX11_helped 45 = .ok (.invokevirtual 176, 3) := by decide +kernel
theorem dX11_helped_48 : decode cX11_helped 48 = .ok (.ireturn, 1) := by decide +kernel
def j_X11_helped : JD := (yX11_helped, cX11_helped, 3, (some .int))
def b_X11_helped : BD := (2, 0, 0)
theorem dX11_takes_0 : decode cX11_takes 0 = .ok (.aload_n 0, 1) := by decide +kernel
theorem dX11_takes_1 : decode cX11_takes 1 = .ok (.iload_n 1, 1) := by decide +kernel
theorem dX11_takes_2 : decode cX11_takes 2 = .ok (.invokevirtual 252, 3) := by decide +kernel
theorem dX11_takes_5 : decode cX11_takes 5 = .ok (.ifCond .eq 11, 3) := by decide +kernel
theorem dX11_takes_8 : decode cX11_takes 8 = .ok (.aload_n 0, 1) := by decide +kernel
theorem dX11_takes_9 : decode cX11_takes 9 = .ok (.iload_n 2, 1) := by decide +kernel
theorem dX11_takes_10 : decode cX11_takes 10 = .ok (.invokevirtual 216, 3) := by decide +kernel
theorem dX11_takes_13 : decode cX11_takes 13 = .ok (.ifCond .ne 9, 3) := by decide +kernel
theorem dX11_takes_16 : decode cX11_takes 16 = .ok (.aload_n 0, 1) := by decide +kernel
theorem dX11_takes_17 : decode cX11_takes 17 = .ok (.iconst 2, 1) := by decide +kernel
theorem dX11_takes_18 : decode cX11_takes 18 = .ok (.invokevirtual 131, 3) := by decide +kernel
theorem dX11_takes_21 : decode cX11_takes 21 = .ok (.ireturn, 1) := by decide +kernel
theorem dX11_takes_22 : decode cX11_takes 22 = .ok (.aload_n 0, 1) := by decide +kernel
theorem dX11_takes_23 : decode cX11_takes 23 = .ok (.aload_n 0, 1) := by decide +kernel
theorem dX11_takes_24 : decode cX11_takes 24 = .ok (.getfield 37, 3) := by decide +kernel
theorem dX11_takes_27 : decode cX11_takes 27 = .ok (.getfield 255, 3) := by decide +kernel
theorem dX11_takes_30 : decode cX11_takes 30 = .ok (.iload_n 1, 1) := by decide +kernel
theorem dX11_takes_31 : decode cX11_takes 31 = .ok (.aaload, 1) := by decide +kernel
theorem dX11_takes_32 : decode cX11_takes 32 = .ok (.aload_n 0, 1) := by decide +kernel
theorem dX11_takes_33 : decode cX11_takes 33 = .ok (.getfield 37, 3) := by decide +kernel
theorem dX11_takes_36 : decode cX11_takes 36 = .ok (.getfield 219, 3) := by decide +kernel
theorem dX11_takes_39 : decode cX11_takes 39 = .ok (.iload_n 2, 1) := by decide +kernel
theorem dX11_takes_40 : decode cX11_takes 40 = .ok (.aaload, 1) := by decide +kernel
theorem dX11_takes_41 : decode cX11_takes 41 = .ok (.invokevirtual 293, 3) := by decide +kernel
theorem dX11_takes_44 : decode cX11_takes 44 = .ok (.invokevirtual 176, 3) := by decide +kernel
theorem dX11_takes_47 : decode cX11_takes 47 = .ok (.ireturn, 1) := by decide +kernel
def j_X11_takes : JD := (yX11_takes, cX11_takes, 3, (some .int))
def b_X11_takes : BD := (2, 0, 0)
theorem dX11_walk_0 : decode cX11_walk 0 = .ok (.aload_n 0, 1) := by decide +kernel
theorem dX11_walk_1 : decode cX11_walk 1 = .ok (.iload_n 1, 1) := by decide +kernel
theorem dX11_walk_2 : decode cX11_walk 2 = .ok (.invokevirtual 252, 3) := by decide +kernel
theorem dX11_walk_5 : decode cX11_walk 5 = .ok (.ifCond .eq 11, 3) := by decide +kernel
theorem dX11_walk_8 : decode cX11_walk 8 = .ok (.aload_n 0, 1) := by decide +kernel
theorem dX11_walk_9 : decode cX11_walk 9 = .ok (.iload_n 2, 1) := by decide +kernel
theorem dX11_walk_10 : decode cX11_walk 10 = .ok (.invokevirtual 216, 3) := by decide +kernel
theorem dX11_walk_13 : decode cX11_walk 13 = .ok (.ifCond .ne 9, 3) := by decide +kernel
theorem dX11_walk_16 : decode cX11_walk 16 = .ok (.aload_n 0, 1) := by decide +kernel
theorem dX11_walk_17 : decode cX11_walk 17 = .ok (.iconst 2, 1) := by decide +kernel
theorem dX11_walk_18 : decode cX11_walk 18 = .ok (.invokevirtual 131, 3) := by decide +kernel
theorem dX11_walk_21 : decode cX11_walk 21 = .ok (.ireturn, 1) := by decide +kernel
theorem dX11_walk_22 : decode cX11_walk 22 = .ok (.aload_n 0, 1) := by decide +kernel
theorem dX11_walk_23 : decode cX11_walk 23 = .ok (.aload_n 0, 1) := by decide +kernel
theorem dX11_walk_24 : decode cX11_walk 24 = .ok (.getfield 37, 3) := by decide +kernel
theorem dX11_walk_27 : decode cX11_walk 27 = .ok (.getfield 255, 3) := by decide +kernel
theorem dX11_walk_30 : decode cX11_walk 30 = .ok (.iload_n 1, 1) := by decide +kernel
theorem dX11_walk_31 : decode cX11_walk 31 = .ok (.aaload, 1) := by decide +kernel
theorem dX11_walk_32 : decode cX11_walk 32 = .ok (.aload_n 0, 1) := by decide +kernel
theorem dX11_walk_33 : decode cX11_walk 33 = .ok (.getfield 37, 3) := by decide +kernel
theorem dX11_walk_36 : decode cX11_walk 36 = .ok (.getfield 219, 3) := by decide +kernel
theorem dX11_walk_39 : decode cX11_walk 39 = .ok (.iload_n 2, 1) := by decide +kernel
theorem dX11_walk_40 : decode cX11_walk 40 = .ok (.aaload, 1) := by decide +kernel
theorem dX11_walk_41 : decode cX11_walk 41 = .ok (.invokevirtual 297, 3) := by decide +kernel
theorem dX11_walk_44 : decode cX11_walk 44 = .ok (.invokevirtual 176, 3) := by decide +kernel
theorem dX11_walk_47 : decode cX11_walk 47 = .ok (.ireturn, 1) := by decide +kernel
def j_X11_walk : JD := (yX11_walk, cX11_walk, 3, (some .int))
def b_X11_walk : BD := (2, 0, 0)
theorem dX11_next_0 : decode cX11_next 0 = .ok (.aload_n 0, 1) := by decide +kernel
theorem dX11_next_1 : decode cX11_next 1 = .ok (.iload_n 1, 1) := by decide +kernel
theorem dX11_next_2 : decode cX11_next 2 = .ok (.invokevirtual 252, 3) := by decide +kernel
theorem dX11_next_5 : decode cX11_next 5 = .ok (.ifCond .ne 9, 3) := by decide +kernel
theorem dX11_next_8 : decode cX11_next 8 = .ok (.aload_n 0, 1) := by decide +kernel
theorem dX11_next_9 : decode cX11_next 9 = .ok (.iconst 2, 1) := by decide +kernel
theorem dX11_next_10 : decode cX11_next 10 = .ok (.invokevirtual 131, 3) := by decide +kernel
theorem dX11_next_13 : decode cX11_next 13 = .ok (.ireturn, 1) := by decide +kernel
theorem dX11_next_14 : decode cX11_next 14 = .ok (.aload_n 0, 1) := by decide +kernel
theorem dX11_next_15 : decode cX11_next 15 = .ok (.getfield 37, 3) := by decide +kernel
theorem dX11_next_18 : decode cX11_next 18 = .ok (.getfield 255, 3) := by decide +kernel
theorem dX11_next_21 : decode cX11_next 21 = .ok (.iload_n 1, 1) := by decide +kernel
theorem dX11_next_22 : decode cX11_next 22 = .ok (.aaload, 1) := by decide +kernel
theorem dX11_next_23 : decode cX11_next 23 = .ok (.getfield 271, 3) := by decide +kernel
theorem dX11_next_26 : decode cX11_next 26 = .ok (.iconst (-1), 1) := by decide +kernel
theorem dX11_next_27 : decode cX11_next 27 = .ok (.if_icmp .eq 10, 3) := by decide +kernel
theorem dX11_next_30 : decode cX11_next 30 = .ok (.aload_n 0, 1) := by decide +kernel
theorem dX11_next_31 : decode cX11_next 31 = .ok (.bipush 9, 2) := by decide +kernel
theorem dX11_next_33 : decode cX11_next 33 = .ok (.invokevirtual 131, 3) := by decide +kernel
theorem dX11_next_36 : decode cX11_next 36 = .ok (.ireturn, 1) := by decide +kernel
theorem dX11_next_37 : decode cX11_next 37 = .ok (.aload_n 0, 1) := by decide +kernel
theorem dX11_next_38 : decode cX11_next 38 = .ok (.getfield 37, 3) := by decide +kernel
theorem dX11_next_41 : decode cX11_next 41 = .ok (.iload_n 1, 1) := by decide +kernel
theorem dX11_next_42 : decode cX11_next 42 = .ok (.invokevirtual 300, 3) := by decide +kernel
theorem dX11_next_45 : decode cX11_next 45 = .ok (.istore_n 2, 1) := by decide +kernel
theorem dX11_next_46 : decode cX11_next 46 = .ok (.iload_n 2, 1) := by decide +kernel
theorem dX11_next_47 : decode cX11_next 47 = .ok (.iconst (-1), 1) := by decide +kernel
theorem dX11_next_48 : decode cX11_next 48 = .ok (.if_icmp .ne 12, 3) := by decide +kernel
theorem dX11_next_51 : decode cX11_next 51 = .ok (.aload_n 0, 1) := by decide +kernel
theorem dX11_next_52 : decode cX11_next 52 = .ok (.bipush 8, 2) := by decide +kernel
theorem dX11_next_54 : decode cX11_next 54 = .ok (.invokevirtual 131, 3) := by decide +kernel
theorem dX11_next_57 : decode cX11_next 57 = .ok (.goto 8, 3) := by decide +kernel
theorem dX11_next_60 : decode cX11_next 60 = .ok (.aload_n 0, 1) := by decide +kernel
theorem dX11_next_61 : decode cX11_next 61 = .ok (.iload_n 2, 1) := by decide +kernel
theorem dX11_next_62 : decode cX11_next 62 = .ok (.invokevirtual 176, 3) := by decide +kernel
theorem dX11_next_65 : decode cX11_next 65 = .ok (.ireturn, 1) := by decide +kernel
def j_X11_next : JD := (yX11_next, cX11_next, 3, (some .int))
def b_X11_next : BD := (3, 0, 0)
theorem dX11_lift_0 : decode cX11_lift 0 = .ok (.aload_n 0, 1) := by decide +kernel
theorem dX11_lift_1 : decode cX11_lift 1 = .ok (.iload_n 1, 1) := by decide +kernel
theorem dX11_lift_2 : decode cX11_lift 2 = .ok (.invokevirtual 252, 3) := by decide +kernel
theorem dX11_lift_5 : decode cX11_lift 5 = .ok (.ifCond .eq 11, 3) := by decide +kernel
theorem dX11_lift_8 : decode cX11_lift 8 = .ok (.aload_n 0, 1) := by decide +kernel
theorem dX11_lift_9 : decode cX11_lift 9 = .ok (.iload_n 2, 1) := by decide +kernel
theorem dX11_lift_10 : decode cX11_lift 10 = .ok (.invokevirtual 216, 3) := by decide +kernel
theorem dX11_lift_13 : decode cX11_lift 13 = .ok (.ifCond .ne 9, 3) := by decide +kernel
theorem dX11_lift_16 : decode cX11_lift 16 = .ok (.aload_n 0, 1) := by decide +kernel
theorem dX11_lift_17 : decode cX11_lift 17 = .ok (.iconst 2, 1) := by decide +kernel
theorem dX11_lift_18 : decode cX11_lift 18 = .ok (.invokevirtual 131, 3) := by decide +kernel
theorem dX11_lift_21 : decode cX11_lift 21 = .ok (.ireturn, 1) := by decide +kernel
theorem dX11_lift_22 : decode cX11_lift 22 = .ok (.aload_n 0, 1) := by decide +kernel
theorem dX11_lift_23 : decode cX11_lift 23 = .ok (.getfield 37, 3) := by decide +kernel
theorem dX11_lift_26 : decode cX11_lift 26 = .ok (.iload_n 1, 1) := by decide +kernel
theorem dX11_lift_27 : decode cX11_lift 27 = .ok (.iload_n 2, 1) := by decide +kernel
theorem dX11_lift_28 : decode cX11_lift 28 = .ok (.invokevirtual 303, 3) := by decide +kernel
theorem dX11_lift_31 : decode cX11_lift 31 = .ok (.ifCond .ne 10, 3) := by decide +kernel
theorem dX11_lift_34 : decode cX11_lift 34 = .ok (.aload_n 0, 1) := by decide +kernel
theorem dX11_lift_35 : decode cX11_lift 35 = .ok (.bipush 9, 2) := by decide +kernel
theorem dX11_lift_37 : decode cX11_lift 37 = .ok (.invokevirtual 131, 3) := by decide +kernel
theorem dX11_lift_40 : decode cX11_lift 40 = .ok (.ireturn, 1) := by decide +kernel
theorem dX11_lift_41 : decode cX11_lift 41 = .ok (.aload_n 0, 1) := by decide +kernel
theorem dX11_lift_42 : decode cX11_lift 42 = .ok (.aload_n 0, 1) := by decide +kernel
theorem dX11_lift_43 : decode cX11_lift 43 = .ok (.getfield 37, 3) := by decide +kernel
theorem dX11_lift_46 : decode cX11_lift 46 = .ok (.iload_n 1, 1) := by decide +kernel
theorem dX11_lift_47 : decode cX11_lift 47 = .ok (.iload_n 2, 1) := by decide +kernel
theorem dX11_lift_48 : decode cX11_lift 48 = .ok (.invokevirtual 307, 3) := by decide +kernel
theorem dX11_lift_51 : decode cX11_lift 51 = .ok (.invokevirtual 176, 3) := by decide +kernel
theorem dX11_lift_54 : decode cX11_lift 54 = .ok (.ireturn, 1) := by decide +kernel
def j_X11_lift : JD := (yX11_lift, cX11_lift, 3, (some .int))
def b_X11_lift : BD := (3, 0, 0)
theorem dX11_rest_0 : decode cX11_rest 0 = .ok (.aload_n 0, 1) := by decide +kernel
theorem dX11_rest_1 : decode cX11_rest 1 = .ok (.iload_n 1, 1) := by decide +kernel
theorem dX11_rest_2 : decode cX11_rest 2 = .ok (.invokevirtual 252, 3) := by decide +kernel
theorem dX11_rest_5 : decode cX11_rest 5 = .ok (.ifCond .ne 9, 3) := by decide +kernel
theorem dX11_rest_8 : decode cX11_rest 8 = .ok (.aload_n 0, 1) := by decide +kernel
theorem dX11_rest_9 : decode cX11_rest 9 = .ok (.iconst 2, 1) := by decide +kernel
theorem dX11_rest_10 : decode cX11_rest 10 = .ok (.invokevirtual 116, 3) := by decide +kernel
theorem dX11_rest_13 : decode cX11_rest 13 = .ok (.ireturn, 1) := by decide +kernel
theorem dX11_rest_14 : decode cX11_rest 14 = .ok (.aload_n 0, 1) := by decide +kernel
theorem dX11_rest_15 : decode cX11_rest 15 = .ok (.getfield 37, 3) := by decide +kernel
theorem dX11_rest_18 : decode cX11_rest 18 = .ok (.getfield 255, 3) := by decide +kernel
theorem dX11_rest_21 : decode cX11_rest 21 = .ok (.iload_n 1, 1) := by decide +kernel
theorem dX11_rest_22 : decode cX11_rest 22 = .ok (.aaload, 1) := by decide +kernel
theorem dX11_rest_23 : decode cX11_rest 23 = .ok (.getfield 271, 3) := by decide +kernel
theorem dX11_rest_26 : decode cX11_rest 26 = .ok (.iconst (-1), 1) := by decide +kernel
theorem dX11_rest_27 : decode cX11_rest 27 = .ok (.if_icmp .ne 10, 3) := by decide +kernel
theorem dX11_rest_30 : decode cX11_rest 30 = .ok (.aload_n 0, 1) := by decide +kernel
theorem dX11_rest_31 : decode cX11_rest 31 = .ok (.bipush 8, 2) := by decide +kernel
theorem dX11_rest_33 : decode cX11_rest 33 = .ok (.invokevirtual 116, 3) := by decide +kernel
theorem dX11_rest_36 : decode cX11_rest 36 = .ok (.ireturn, 1) := by decide +kernel
theorem dX11_rest_37 : decode cX11_rest 37 = .ok (.aload_n 0, 1) := by decide +kernel
theorem dX11_rest_38 : decode cX11_rest 38 = .ok (.getfield 37, 3) := by decide +kernel
theorem dX11_rest_41 : decode cX11_rest 41 = .ok (.getfield 255, 3) := by decide +kernel
theorem dX11_rest_44 : decode cX11_rest 44 = .ok (.iload_n 1, 1) := by decide +kernel
theorem dX11_rest_45 : decode cX11_rest 45 = .ok (.aaload, 1) := by decide +kernel
theorem dX11_rest_46 : decode cX11_rest 46 = .ok (.invokevirtual 310, 3) := by decide +kernel
theorem dX11_rest_49 : decode cX11_rest 49 = .ok (.aload_n 0, 1) := by decide +kernel
theorem dX11_rest_50 : decode cX11_rest 50 = .ok (.invokevirtual 98, 3) := by decide +kernel
theorem dX11_rest_53 : decode cX11_rest 53 = .ok (.ireturn, 1) := by decide +kernel
def j_X11_rest : JD := (yX11_rest, cX11_rest, 2, (some .boolean))
def b_X11_rest : BD := (2, 0, 0)
theorem dX11_hour_0 : decode cX11_hour 0 = .ok (.iload_n 1, 1) := by decide +kernel
theorem dX11_hour_1 : decode cX11_hour 1 = .ok (.iconst 1, 1) := by decide +kernel
theorem dX11_hour_2 : decode cX11_hour 2 = .ok (.sipush 240, 3) := by decide +kernel
theorem dX11_hour_5 : decode cX11_hour 5 = .ok (.invokestatic 105, 3) := by decide +kernel
theorem dX11_hour_8 : decode cX11_hour 8 = .ok (.ifCond .ne 9, 3) := by decide +kernel
theorem dX11_hour_11 : decode cX11_hour 11 = .ok (.aload_n 0, 1) := by decide +kernel
theorem dX11_hour_12 : decode cX11_hour 12 = .ok (.iconst 5, 1) := by decide +kernel
theorem dX11_hour_13 : decode cX11_hour 13 = .ok (.invokevirtual 131, 3) := by decide +kernel
theorem dX11_hour_16 : decode cX11_hour 16 = .ok (.ireturn, 1) := by decide +kernel
theorem dX11_hour_17 : decode cX11_hour 17 = .ok (.aload_n 0, 1) := by decide +kernel
theorem dX11_hour_18 : decode cX11_hour 18 = .ok (.getfield 37, 3) := by decide +kernel
theorem dX11_hour_21 : decode cX11_hour 21 = .ok (.getfield 200, 3) := by decide +kernel
theorem dX11_hour_24 : decode cX11_hour 24 = .ok (.iload_n 1, 1) := by decide +kernel
theorem dX11_hour_25 : decode cX11_hour 25 = .ok (.iadd, 1) := by decide +kernel
theorem dX11_hour_26 : decode cX11_hour 26 = .ok (.sipush 9999, 3) := by decide +kernel
theorem dX11_hour_29 : decode cX11_hour 29 = .ok (.if_icmp .le 10, 3) := by decide +kernel
theorem dX11_hour_32 : decode cX11_hour 32 = .ok (.aload_n 0, 1) := by decide +kernel
theorem dX11_hour_33 : decode cX11_hour 33 = .ok (.bipush 7, 2) := by decide +kernel
theorem dX11_hour_35 : decode cX11_hour 35 = .ok (.invokevirtual 131, 3) := by decide +kernel
theorem dX11_hour_38 : decode cX11_hour 38 = .ok (.ireturn, 1) := by decide +kernel
theorem dX11_hour_39 : decode cX11_hour 39 = .ok (.aload_n 0, 1) := by decide +kernel
theorem dX11_hour_40 : decode cX11_hour 40 = .ok (.aload_n 0, 1) := by decide +kernel
theorem dX11_hour_41 : decode cX11_hour 41 = .ok (.getfield 37, 3) := by decide +kernel
theorem dX11_hour_44 : decode cX11_hour 44 = .ok (.iload_n 1, 1) := by decide +kernel
theorem dX11_hour_45 : decode cX11_hour 45 = .ok (.invokevirtual 313, 3) := by decide +kernel
theorem dX11_hour_48 : decode cX11_hour 48 = .ok (.invokevirtual 176, 3) := by decide +kernel
theorem dX11_hour_51 : decode cX11_hour 51 = .ok (.ireturn, 1) := by decide +kernel
def j_X11_hour : JD := (yX11_hour, cX11_hour, 2, (some .int))
def b_X11_hour : BD := (5, 0, 0)
theorem dX11_gale_0 : decode cX11_gale 0 = .ok (.iload_n 1, 1) := by decide +kernel
theorem dX11_gale_1 : decode cX11_gale 1 = .ok (.iconst 0, 1) := by decide +kernel
theorem dX11_gale_2 : decode cX11_gale 2 = .ok (.bipush 99, 2) := by decide +kernel
theorem dX11_gale_4 : decode cX11_gale 4 = .ok (.invokestatic 105, 3) := by decide +kernel
theorem dX11_gale_7 : decode cX11_gale 7 = .ok (.ifCond .ne 9, 3) := by decide +kernel
theorem dX11_gale_10 : decode cX11_gale 10 = .ok (.aload_n 0, 1) := by decide +kernel
theorem dX11_gale_11 : decode cX11_gale 11 = .ok (.iconst 5, 1) := by decide +kernel
theorem dX11_gale_12 : decode cX11_gale 12 = .ok (.invokevirtual 131, 3) := by decide +kernel
theorem dX11_gale_15 : decode cX11_gale 15 = .ok (.ireturn, 1) := by decide +kernel
theorem dX11_gale_16 : decode cX11_gale 16 = .ok (.aload_n 0, 1) := by decide +kernel
theorem dX11_gale_17 : decode cX11_gale 17 = .ok (.aload_n 0, 1) := by decide +kernel
theorem dX11_gale_18 : decode cX11_gale 18 = .ok (.getfield 37, 3) := by decide +kernel
theorem dX11_gale_21 : decode cX11_gale 21 = .ok (.iload_n 1, 1) := by decide +kernel
theorem dX11_gale_22 : decode cX11_gale 22 = .ok (.invokevirtual 316, 3) := by decide +kernel
theorem dX11_gale_25 : decode cX11_gale 25 = .ok (.invokevirtual 176, 3) := by decide +kernel
theorem dX11_gale_28 : decode cX11_gale 28 = .ok (.ireturn, 1) := by decide +kernel
def j_X11_gale : JD := (yX11_gale, cX11_gale, 2, (some .int))
def b_X11_gale : BD := (3, 0, 0)
theorem dX11_dawn_0 : decode cX11_dawn 0 = .ok (.aload_n 0, 1) := by decide +kernel
theorem dX11_dawn_1 : decode cX11_dawn 1 = .ok (.aload_n 0, 1) := by decide +kernel
theorem dX11_dawn_2 : decode cX11_dawn 2 = .ok (.getfield 37, 3) := by decide +kernel
theorem dX11_dawn_5 : decode cX11_dawn 5 = .ok (.invokevirtual 319, 3) := by decide +kernel
theorem dX11_dawn_8 : decode cX11_dawn 8 = .ok (.invokevirtual 176, 3) := by decide +kernel
theorem dX11_dawn_11 : decode cX11_dawn 11 = .ok (.ireturn, 1) := by decide +kernel
def j_X11_dawn : JD := (yX11_dawn, cX11_dawn, 1, (some .int))
def b_X11_dawn : BD := (2, 0, 0)
theorem dX11_help_0 : decode cX11_help 0 = .ok (.aload_n 0, 1) := by decide +kernel
theorem dX11_help_1 : decode cX11_help 1 = .ok (.iload_n 1, 1) := by decide +kernel
theorem dX11_help_2 : decode cX11_help 2 = .ok (.invokevirtual 216, 3) := by decide +kernel
theorem dX11_help_5 : decode cX11_help 5 = .ok (.ifCond .eq 11, 3) := by decide +kernel
theorem dX11_help_8 : decode cX11_help 8 = .ok (.aload_n 0, 1) := by decide +kernel
theorem dX11_help_9 : decode cX11_help 9 = .ok (.iload_n 2, 1) := by decide +kernel
theorem dX11_help_10 : decode cX11_help 10 = .ok (.invokevirtual 216, 3) := by decide +kernel
theorem dX11_help_13 : decode cX11_help 13 = .ok (.ifCond .ne 9, 3) := by decide +kernel
theorem dX11_help_16 : decode cX11_help 16 = .ok (.aload_n 0, 1) := by decide +kernel
theorem dX11_help_17 : decode cX11_help 17 = .ok (.iconst 2, 1) := by decide +kernel
theorem dX11_help_18 : decode cX11_help 18 = .ok (.invokevirtual 131, 3) := by decide +kernel
theorem dX11_help_21 : decode cX11_help 21 = .ok (.ireturn, 1) := by decide +kernel
theorem dX11_help_22 : decode cX11_help 22 = .ok (.iload_n 1, 1) := by decide +kernel
theorem dX11_help_23 : decode cX11_help 23 = .ok (.iload_n 2, 1) := by decide +kernel
theorem dX11_help_24 : decode cX11_help 24 = .ok (.if_icmp .eq 13, 3) := by decide +kernel
theorem dX11_help_27 : decode cX11_help 27 = .ok (.iload_n 3, 1) := by decide +kernel
theorem dX11_help_28 : decode cX11_help 28 = .ok (.iconst 1, 1) := by decide +kernel
theorem dX11_help_29 : decode cX11_help 29 = .ok (.bipush 99, 2) := by decide +kernel
theorem dX11_help_31 : decode cX11_help 31 = .ok (.invokestatic 105, 3) := by decide +kernel
theorem dX11_help_34 : decode cX11_help 34 = .ok (.ifCond .ne 9, 3) := by decide +kernel
theorem dX11_help_37 : decode cX11_help 37 = .ok (.aload_n 0, 1) := by decide +kernel
theorem dX11_help_38 : decode cX11_help 38 = .ok (.iconst 5, 1) := by decide +kernel
theorem dX11_help_39 : decode cX11_help 39 = .ok (.invokevirtual 131, 3) := by decide +kernel
theorem dX11_help_42 : decode cX11_help 42 = .ok (.ireturn, 1) := by decide +kernel
theorem dX11_help_43 : decode cX11_help 43 = .ok (.aload_n 0, 1) := by decide +kernel
theorem dX11_help_44 : decode cX11_help 44 = .ok (.getfield 37, 3) := by decide +kernel
theorem dX11_help_47 : decode cX11_help 47 = .ok (.getfield 289, 3) := by decide +kernel
theorem dX11_help_50 : decode cX11_help 50 = .ok (.iload_n 1, 1) := by decide +kernel
theorem dX11_help_51 : decode cX11_help 51 = .ok (.aaload, 1) := by decide +kernel
theorem dX11_help_52 : decode cX11_help 52 = .ok (.iload_n 2, 1) := by decide +kernel
theorem dX11_help_53 : decode cX11_help 53 = .ok (.iaload, 1) := by decide +kernel
theorem dX11_help_54 : decode cX11_help 54 = .ok (.iload_n 3, 1) := by decide +kernel
theorem dX11_help_55 : decode cX11_help 55 = .ok (.iadd, 1) := by decide +kernel
theorem dX11_help_56 : decode cX11_help 56 = .ok (.sipush 9999, 3) := by decide +kernel
theorem dX11_help_59 : decode cX11_help 59 = .ok (.if_icmp .le 10, 3) := by decide +kernel
theorem dX11_help_62 : decode cX11_help 62 = .ok (.aload_n 0, 1) := by decide +kernel
theorem dX11_help_63 : decode cX11_help 63 = .ok (.bipush 7, 2) := by decide +kernel
theorem dX11_help_65 : decode cX11_help 65 = .ok (.invokevirtual 131, 3) := by decide +kernel
theorem dX11_help_68 : decode cX11_help 68 = .ok (.ireturn, 1) := by decide +kernel
theorem dX11_help_69 : decode cX11_help 69 = .ok (.aload_n 0, 1) := by decide +kernel
theorem dX11_help_70 : decode cX11_help 70 = .ok (.getfield 37, 3) := by decide +kernel
theorem dX11_help_73 : decode cX11_help 73 = .ok (.getfield 289, 3) := by decide +kernel
theorem dX11_help_76 : decode cX11_help 76 = .ok (.iload_n 1, 1) := by decide +kernel
theorem dX11_help_77 : decode cX11_help 77 = .ok (.aaload, 1) := by decide +kernel
theorem dX11_help_78 : decode cX11_help 78 = .ok (.iload_n 2, 1) := by decide +kernel
theorem dX11_help_79 : decode cX11_help 79 = .ok (.dup2, 1) := by decide +kernel
theorem dX11_help_80 : decode cX11_help 80 = .ok (.iaload, 1) := by decide +kernel
theorem dX11_help_81 : decode cX11_help 81 = .ok (.iload_n 3, 1) := by decide +kernel
theorem dX11_help_82 : decode cX11_help 82 = .ok (.iadd, 1) := by decide +kernel
theorem dX11_help_83 : decode cX11_help 83 = .ok (.iastore, 1) := by decide +kernel
theorem dX11_help_84 : decode cX11_help 84 = .ok (.aload_n 0, 1) := by decide +kernel
theorem dX11_help_85 : decode cX11_help 85 = .ok (.aload_n 0, 1) := by decide +kernel
theorem dX11_help_86 : decode cX11_help 86 = .ok (.getfield 37, 3) := by decide +kernel
theorem dX11_help_89 : decode cX11_help 89 = .ok (.getfield 289, 3) := by decide +kernel
theorem dX11_help_92 : decode cX11_help 92 = .ok (.iload_n 1, 1) := by decide +kernel
theorem dX11_help_93 : decode cX11_help 93 = .ok (.aaload, 1) := by decide +kernel
theorem dX11_help_94 : decode cX11_help 94 = .ok (.iload_n 2, 1) := by decide +kernel
theorem dX11_help_95 : decode cX11_help 95 = .ok (.iaload, 1) := by decide +kernel
theorem dX11_help_96 : decode cX11_help 96 = .ok (.invokevirtual 176, 3) := by decide +kernel
theorem dX11_help_99 : decode cX11_help 99 = .ok (.ireturn, 1) := by decide +kernel
def j_X11_help : JD := (yX11_help, cX11_help, 4, (some .int))
def b_X11_help : BD := (2, 0, 0)
theorem dX11_falls_0 : decode cX11_falls 0 = .ok (.iload_n 1, 1) := by decide +kernel
theorem dX11_falls_1 : decode cX11_falls 1 = .ok (.iconst 0, 1) := by decide +kernel
theorem dX11_falls_2 : decode cX11_falls 2 = .ok (.bipush 99, 2) := by decide +kernel
theorem dX11_falls_4 : decode cX11_falls 4 = .ok (.invokestatic 105, 3) := by decide +kernel
theorem dX11_falls_7 : decode cX11_falls 7 = .ok (.ifCond .ne 9, 3) := by decide +kernel
theorem dX11_falls_10 : decode cX11_falls 10 = .ok (.aload_n 0, 1) := by decide +kernel
theorem dX11_falls_11 : decode cX11_falls 11 = .ok (.iconst 5, 1) := by decide +kernel
theorem dX11_falls_12 : decode cX11_falls 12 = .ok (.invokevirtual 131, 3) := by decide +kernel
theorem dX11_falls_15 : decode cX11_falls 15 = .ok (.ireturn, 1) := by decide +kernel
theorem dX11_falls_16 : decode cX11_falls 16 = .ok (.aload_n 0, 1) := by decide +kernel
theorem dX11_falls_17 : decode cX11_falls 17 = .ok (.aload_n 0, 1) := by decide +kernel
theorem dX11_falls_18 : decode cX11_falls 18 = .ok (.getfield 37, 3) := by decide +kernel
theorem dX11_falls_21 : decode cX11_falls 21 = .ok (.iload_n 1, 1) := by decide +kernel
theorem dX11_falls_22 : decode cX11_falls 22 = .ok (.invokevirtual 322, 3) := by decide +kernel
theorem dX11_falls_25 : decode cX11_falls 25 = .ok (.invokevirtual 176, 3) := by decide +kernel
theorem dX11_falls_28 : decode cX11_falls 28 = .ok (.ireturn, 1) := by decide +kernel
def j_X11_falls : JD := (yX11_falls, cX11_falls, 2, (some .int))
def b_X11_falls : BD := (2, 0, 0)
theorem dX11_risk_0 : decode cX11_risk 0 = .ok (.aload_n 0, 1) := by decide +kernel
theorem dX11_risk_1 : decode cX11_risk 1 = .ok (.iload_n 1, 1) := by decide +kernel
theorem dX11_risk_2 : decode cX11_risk 2 = .ok (.invokevirtual 216, 3) := by decide +kernel
theorem dX11_risk_5 : decode cX11_risk 5 = .ok (.ifCond .ne 9, 3) := by decide +kernel
theorem dX11_risk_8 : decode cX11_risk 8 = .ok (.aload_n 0, 1) := by decide +kernel
theorem dX11_risk_9 : decode cX11_risk 9 = .ok (.iconst 2, 1) := by decide +kernel
theorem dX11_risk_10 : decode cX11_risk 10 = .ok (.invokevirtual 116, 3) := by decide +kernel
theorem dX11_risk_13 : decode cX11_risk 13 = .ok (.ireturn, 1) := by decide +kernel
theorem dX11_risk_14 : decode cX11_risk 14 = .ok (.aload_n 0, 1) := by decide +kernel
theorem dX11_risk_15 : decode cX11_risk 15 = .ok (.getfield 37, 3) := by decide +kernel
theorem dX11_risk_18 : decode cX11_risk 18 = .ok (.getfield 194, 3) := by decide +kernel
theorem dX11_risk_21 : decode cX11_risk 21 = .ok (.ifCond .ne 10, 3) := by decide +kernel
theorem dX11_risk_24 : decode cX11_risk 24 = .ok (.aload_n 0, 1) := by decide +kernel
theorem dX11_risk_25 : decode cX11_risk 25 = .ok (.bipush 8, 2) := by decide +kernel
theorem dX11_risk_27 : decode cX11_risk 27 = .ok (.invokevirtual 116, 3) := by decide +kernel
theorem dX11_risk_30 : decode cX11_risk 30 = .ok (.ireturn, 1) := by decide +kernel
theorem dX11_risk_31 : decode cX11_risk 31 = .ok (.aload_n 0, 1) := by decide +kernel
theorem dX11_risk_32 : decode cX11_risk 32 = .ok (.aload_n 0, 1) := by decide +kernel
theorem dX11_risk_33 : decode cX11_risk 33 = .ok (.getfield 37, 3) := by decide +kernel
theorem dX11_risk_36 : decode cX11_risk 36 = .ok (.iload_n 1, 1) := by decide +kernel
theorem dX11_risk_37 : decode cX11_risk 37 = .ok (.invokevirtual 325, 3) := by decide +kernel
theorem dX11_risk_40 : decode cX11_risk 40 = .ok (.i2l, 1) := by decide +kernel
theorem dX11_risk_41 : decode cX11_risk 41 = .ok (.aload_n 0, 1) := by decide +kernel
theorem dX11_risk_42 : decode cX11_risk 42 = .ok (.getfield 37, 3) := by decide +kernel
theorem dX11_risk_45 : decode cX11_risk 45 = .ok (.invokevirtual 213, 3) := by decide +kernel
theorem dX11_risk_48 : decode cX11_risk 48 = .ok (.i2l, 1) := by decide +kernel
theorem dX11_risk_49 : decode cX11_risk 49 = .ok (.invokevirtual 328, 3) := by decide +kernel
theorem dX11_risk_52 : decode cX11_risk 52 = .ok (.ireturn, 1) := by decide +kernel
def j_X11_risk : JD := (yX11_risk, cX11_risk, 2, (some .boolean))
def b_X11_risk : BD := (2, 0, 0)
theorem dX11_loss_0 : decode cX11_loss 0 = .ok (.aload_n 0, 1) := by decide +kernel
theorem dX11_loss_1 : decode cX11_loss 1 = .ok (.getfield 37, 3) := by decide +kernel
theorem dX11_loss_4 : decode cX11_loss 4 = .ok (.getfield 194, 3) := by decide +kernel
theorem dX11_loss_7 : decode cX11_loss 7 = .ok (.ifCond .ne 10, 3) := by decide +kernel
theorem dX11_loss_10 : decode cX11_loss 10 = .ok (.aload_n 0, 1) := by decide +kernel
theorem dX11_loss_11 : decode cX11_loss 11 = .ok (.bipush 8, 2) := by decide +kernel
theorem dX11_loss_13 : decode cX11_loss 13 = .ok (.invokevirtual 116, 3) := by decide +kernel
theorem dX11_loss_16 : decode cX11_loss 16 = .ok (.ireturn, 1) := by decide +kernel
theorem dX11_loss_17 : decode cX11_loss 17 = .ok (.aload_n 0, 1) := by decide +kernel
theorem dX11_loss_18 : decode cX11_loss 18 = .ok (.aload_n 0, 1) := by decide +kernel
theorem dX11_loss_19 : decode cX11_loss 19 = .ok (.getfield 37, 3) := by decide +kernel
theorem dX11_loss_22 : decode cX11_loss 22 = .ok (.invokevirtual 332, 3) := by decide +kernel
theorem dX11_loss_25 : decode cX11_loss 25 = .ok (.i2l, 1) := by decide +kernel
theorem dX11_loss_26 : decode cX11_loss 26 = .ok (.aload_n 0, 1) := by decide +kernel
theorem dX11_loss_27 : decode cX11_loss 27 = .ok (.getfield 37, 3) := by decide +kernel
theorem dX11_loss_30 : decode cX11_loss 30 = .ok (.invokevirtual 213, 3) := by decide +kernel
theorem dX11_loss_33 : decode cX11_loss 33 = .ok (.i2l, 1) := by decide +kernel
theorem dX11_loss_34 : decode cX11_loss 34 = .ok (.invokevirtual 328, 3) := by decide +kernel
theorem dX11_loss_37 : decode cX11_loss 37 = .ok (.ireturn, 1) := by decide +kernel
def j_X11_loss : JD := (yX11_loss, cX11_loss, 1, (some .boolean))
def b_X11_loss : BD := (3, 0, 0)
theorem dX11_saves_0 : decode cX11_saves 0 = .ok (.iload_n 1, 1) := by decide +kernel
theorem dX11_saves_1 : decode cX11_saves 1 = .ok (.iconst 1, 1) := by decide +kernel
theorem dX11_saves_2 : decode cX11_saves 2 = .ok (.sipush 240, 3) := by decide +kernel
theorem dX11_saves_5 : decode cX11_saves 5 = .ok (.invokestatic 105, 3) := by decide +kernel
theorem dX11_saves_8 : decode cX11_saves 8 = .ok (.ifCond .eq 13, 3) := by decide +kernel
theorem dX11_saves_11 : decode cX11_saves 11 = .ok (.iload_n 2, 1) := by decide +kernel
theorem dX11_saves_12 : decode cX11_saves 12 = .ok (.iconst 0, 1) := by decide +kernel
theorem dX11_saves_13 : decode cX11_saves 13 = .ok (.bipush 99, 2) := by decide +kernel
theorem dX11_saves_15 : decode cX11_saves 15 = .ok (.invokestatic 105, 3) := by decide +kernel
theorem dX11_saves_18 : decode cX11_saves 18 = .ok (.ifCond .ne 9, 3) := by decide +kernel
theorem dX11_saves_21 : decode cX11_saves 21 = .ok (.aload_n 0, 1) := by decide +kernel
theorem dX11_saves_22 : decode cX11_saves 22 = .ok (.iconst 5, 1) := by decide +kernel
theorem dX11_saves_23 : decode cX11_saves 23 = .ok (.invokevirtual 116, 3) := by decide +kernel
theorem dX11_saves_26 : decode cX11_saves 26 = .ok (.ireturn, 1) := by decide +kernel
theorem dX11_saves_27 : decode cX11_saves 27 = .ok (.aload_n 0, 1) := by decide +kernel
theorem dX11_saves_28 : decode cX11_saves 28 = .ok (.getfield 37, 3) := by decide +kernel
theorem dX11_saves_31 : decode cX11_saves 31 = .ok (.getfield 194, 3) := by decide +kernel
theorem dX11_saves_34 : decode cX11_saves 34 = .ok (.ifCond .ne 10, 3) := by decide +kernel
theorem dX11_saves_37 : decode cX11_saves 37 = .ok (.aload_n 0, 1) := by decide +kernel
theorem dX11_saves_38 : decode cX11_saves 38 = .ok (.bipush 8, 2) := by decide +kernel
theorem dX11_saves_40 : decode cX11_saves 40 = .ok (.invokevirtual 116, 3) := by decide +kernel
theorem dX11_saves_43 : decode cX11_saves 43 = .ok (.ireturn, 1) := by decide +kernel
theorem dX11_saves_44 : decode cX11_saves 44 = .ok (.aload_n 0, 1) := by decide +kernel
theorem dX11_saves_45 : decode cX11_saves 45 = .ok (.getfield 41, 3) := by decide +kernel
theorem dX11_saves_48 : decode cX11_saves 48 = .ok (.aload_n 0, 1) := by decide +kernel
theorem dX11_saves_49 : decode cX11_saves 49 = .ok (.getfield 37, 3) := by decide +kernel
theorem dX11_saves_52 : decode cX11_saves 52 = .ok (.invokevirtual 335, 3) := by decide +kernel
theorem dX11_saves_55 : decode cX11_saves 55 = .ok (.aload_n 0, 1) := by decide +kernel
theorem dX11_saves_56 : decode cX11_saves 56 = .ok (.getfield 41, 3) := by decide +kernel
theorem dX11_saves_59 : decode cX11_saves 59 = .ok (.iload_n 1, 1) := by decide +kernel
theorem dX11_saves_60 : decode cX11_saves 60 = .ok (.invokevirtual 313, 3) := by decide +kernel
theorem dX11_saves_63 : decode cX11_saves 63 = .ok (.istore_n 3, 1) := by decide +kernel
theorem dX11_saves_64 : decode cX11_saves 64 = .ok (.aload_n 0, 1) := by decide +kernel
theorem dX11_saves_65 : decode cX11_saves 65 = .ok (.getfield 37, 3) := by decide +kernel
theorem dX11_saves_68 : decode cX11_saves 68 = .ok (.invokevirtual 213, 3) := by decide +kernel
theorem dX11_saves_71 : decode cX11_saves 71 = .ok (.istore 4, 2) := by decide +kernel
theorem dX11_saves_73 : decode cX11_saves 73 = .ok (.aload_n 0, 1) := by decide +kernel
theorem dX11_saves_74 : decode cX11_saves 74 = .ok (.getfield 37, 3) := by decide +kernel
theorem dX11_saves_77 : decode cX11_saves 77 = .ok (.invokevirtual 332, 3) := by decide +kernel
theorem dX11_saves_80 : decode cX11_saves 80 = .ok (.aload_n 0, 1) := by decide +kernel
theorem dX11_saves_81 : decode cX11_saves 81 = .ok (.getfield 41, 3) := by decide +kernel
theorem dX11_saves_84 : decode cX11_saves 84 = .ok (.invokevirtual 332, 3) := by decide +kernel
theorem dX11_saves_87 : decode cX11_saves 87 = .ok (.isub, 1) := by decide +kernel
theorem dX11_saves_88 : decode cX11_saves 88 = .ok (.i2l, 1) := by decide +kernel
theorem dX11_saves_89 : decode cX11_saves 89 = .ok (.lstore 5, 2) := by decide +kernel
theorem dX11_saves_91 : decode cX11_saves 91 = .ok (.aload_n 0, 1) := by decide +kernel
theorem dX11_saves_92 : decode cX11_saves 92 = .ok (.lload 5, 2) := by decide +kernel
theorem dX11_saves_94 : decode cX11_saves 94 = .ok (.iload_n 2, 1) := by decide +kernel
theorem dX11_saves_95 : decode cX11_saves 95 = .ok (.i2l, 1) := by decide +kernel
theorem dX11_saves_96 : decode cX11_saves 96 = .ok (.iload_n 3, 1) := by decide +kernel
theorem dX11_saves_97 : decode cX11_saves 97 = .ok (.i2l, 1) := by decide +kernel
theorem dX11_saves_98 : decode cX11_saves 98 = .ok (.lmul, 1) := by decide +kernel
theorem dX11_saves_99 : decode cX11_saves 99 = .ok (.iload 4, 2) := by decide +kernel
theorem dX11_saves_101 : decode cX11_saves 101 = .ok (.i2l, 1) := by decide +kernel
theorem dX11_saves_102 : decode cX11_saves 102 = .ok (.lmul, 1) := by decide +kernel
theorem dX11_saves_103 : decode cX11_saves 103 = .ok (.lsub, 1) := by decide +kernel
theorem dX11_saves_104 : decode cX11_saves 104 = .ok (.iload 4, 2) := by decide +kernel
theorem dX11_saves_106 : decode cX11_saves 106 = .ok (.i2l, 1) := by decide +kernel
theorem dX11_saves_107 : decode cX11_saves 107 = .ok (.invokevirtual 328, 3) := by decide +kernel
theorem dX11_saves_110 : decode cX11_saves 110 = .ok (.ireturn, 1) := by decide +kernel
def j_X11_saves : JD := (yX11_saves, cX11_saves, 7, (some .boolean))
def b_X11_saves : BD := (5, 0, 0)
theorem dX11_dearest_0 : decode cX11_dearest 0 = .ok (.iconst (-1), 1) := by decide +kernel
theorem dX11_dearest_1 : decode cX11_dearest 1 = .ok (.istore_n 1, 1) := by decide +kernel
theorem dX11_dearest_2 : decode cX11_dearest 2 = .ok (.iconst (-1), 1) := by decide +kernel
theorem dX11_dearest_3 : decode cX11_dearest 3 = .ok (.istore_n 2, 1) := by decide +kernel
theorem dX11_dearest_4 : decode cX11_dearest 4 = .ok (.iconst 0, 1) := by decide +kernel
theorem dX11_dearest_5 : decode cX11_dearest 5 = .ok (.istore_n 3, 1) := by decide +kernel
theorem dX11_dearest_6 : decode cX11_dearest 6 = .ok (.iload_n 3, 1) := by decide +kernel
theorem dX11_dearest_7 : decode cX11_dearest 7 = .ok (.aload_n 0, 1) := by decide +kernel
theorem dX11_dearest_8 : decode cX11_dearest 8 = .ok (.getfield 37, 3) := by decide +kernel
theorem dX11_dearest_11 : decode cX11_dearest 11 = .ok (.getfield 102, 3) := by decide +kernel
theorem dX11_dearest_14 : decode cX11_dearest 14 = .ok (.if_icmp .ge 68, 3) := by decide +kernel
theorem dX11_dearest_17 : decode cX11_dearest 17 = .ok (.aload_n 0, 1) := by decide +kernel
theorem dX11_dearest_18 : decode cX11_dearest 18 = .ok (.getfield 37, 3) := by decide +kernel
theorem dX11_dearest_21 : decode cX11_dearest 21 = .ok (.getfield 194, 3) := by decide +kernel
theorem dX11_dearest_24 : decode cX11_dearest 24 = .ok (.ifCond .le 58, 3) := by decide +kernel
theorem dX11_dearest_27 : decode cX11_dearest 27 = .ok (.aload_n 0, 1) := by decide +kernel
theorem dX11_dearest_28 : decode cX11_dearest 28 = .ok (.getfield 37, 3) := by decide +kernel
theorem dX11_dearest_31 : decode cX11_dearest 31 = .ok (.getfield 219, 3) := by decide +kernel
theorem dX11_dearest_34 : decode cX11_dearest 34 = .ok (.iload_n 3, 1) := by decide +kernel
theorem dX11_dearest_35 : decode cX11_dearest 35 = .ok (.aaload, 1) := by decide +kernel
theorem dX11_dearest_36 : decode cX11_dearest 36 = .ok (.getfield 228, 3) := by decide +kernel
theorem dX11_dearest_39 : decode cX11_dearest 39 = .ok (.aload_n 0, 1) := by decide +kernel
theorem dX11_dearest_40 : decode cX11_dearest 40 = .ok (.getfield 37, 3) := by decide +kernel
theorem dX11_dearest_43 : decode cX11_dearest 43 = .ok (.iload_n 3, 1) := by decide +kernel
theorem dX11_dearest_44 : decode cX11_dearest 44 = .ok (.invokevirtual 325, 3) := by decide +kernel
theorem dX11_dearest_47 : decode cX11_dearest 47 = .ok (.imul, 1) := by decide +kernel
theorem dX11_dearest_48 : decode cX11_dearest 48 = .ok (.istore 4, 2) := by decide +kernel
theorem dX11_dearest_50 : decode cX11_dearest 50 = .ok (.aload_n 0, 1) := by decide +kernel
theorem dX11_dearest_51 : decode cX11_dearest 51 = .ok (.getfield 37, 3) := by decide +kernel
theorem dX11_dearest_54 : decode cX11_dearest 54 = .ok (.getfield 219, 3) := by decide +kernel
theorem dX11_dearest_57 : decode cX11_dearest 57 = .ok (.iload_n 3, 1) := by decide +kernel
theorem dX11_dearest_58 : decode cX11_dearest 58 = .ok (.aaload, 1) := by decide +kernel
theorem dX11_dearest_59 : decode cX11_dearest 59 = .ok (.invokevirtual 339, 3) := by decide +kernel
theorem dX11_dearest_62 : decode cX11_dearest 62 = .ok (.ifCond .eq 14, 3) := by decide +kernel
theorem dX11_dearest_65 : decode cX11_dearest 65 = .ok (.iload 4, 2) := by decide +kernel
theorem dX11_dearest_67 : decode cX11_dearest 67 = .ok (.iload_n 2, 1) := by decide +kernel
theorem dX11_dearest_68 : decode cX11_dearest 68 = .ok (.if_icmp .le 8, 3) := by decide +kernel
theorem dX11_dearest_71 : decode cX11_dearest 71 = .ok (.iload 4, 2) := by decide +kernel
theorem dX11_dearest_73 : decode cX11_dearest 73 = .ok (.istore_n 2, 1) := by decide +kernel
theorem dX11_dearest_74 : decode cX11_dearest 74 = .ok (.iload_n 3, 1) := by decide +kernel
theorem dX11_dearest_75 : decode cX11_dearest 75 = .ok (.istore_n 1, 1) := by decide +kernel
theorem dX11_dearest_76 : decode cX11_dearest 76 = .ok (.iinc 3 1, 3) := by decide +kernel
theorem dX11_dearest_79 : decode cX11_dearest 79 = .ok (.goto (-73), 3) := by decide +kernel
theorem dX11_dearest_82 : decode cX11_dearest 82 = .ok (.iload_n 1, 1) := by decide +kernel
theorem dX11_dearest_83 : decode cX11_dearest 83 = .ok (.iconst (-1), 1) := by decide +kernel
theorem dX11_dearest_84 : decode cX11_dearest 84 = .ok (.if_icmp .ne 12, 3) := by decide +kernel
theorem dX11_dearest_87 : decode cX11_dearest 87 = .ok (.aload_n 0, 1) := by decide +kernel
theorem dX11_dearest_88 : decode cX11_dearest 88 = .ok (.bipush 8, 2) := by decide +kernel
theorem dX11_dearest_90 : decode cX11_dearest 90 = .ok (.invokevirtual 131, 3) := by decide +kernel
theorem dX11_dearest_93 : decode cX11_dearest 93 = .ok (.goto 8, 3) := by decide +kernel
theorem dX11_dearest_96 : decode cX11_dearest 96 = .ok (.aload_n 0, 1) := by decide +kernel
theorem dX11_dearest_97 : decode cX11_dearest 97 = .ok (.iload_n 1, 1) := by decide +kernel
theorem dX11_dearest_98 : decode cX11_dearest 98 = .ok (.invokevirtual 176, 3) := by decide +kernel
theorem dX11_dearest_101 : decode cX11_dearest 101 = .ok (.ireturn, 1) := by decide +kernel
def j_X11_dearest : JD := (yX11_dearest, cX11_dearest, 5, (some .int))
def b_X11_dearest : BD := (2, 0, 0)
theorem dX11_worstWind_0 : decode cX11_worstWind 0 = .ok (.iconst (-1), 1) := by decide +kernel
theorem dX11_worstWind_1 : decode cX11_worstWind 1 = .ok (.istore_n 1, 1) := by decide +kernel
theorem dX11_worstWind_2 : decode cX11_worstWind 2 = .ok (.iconst (-1), 1) := by decide +kernel
theorem dX11_worstWind_3 : decode cX11_worstWind 3 = .ok (.istore_n 2, 1) := by decide +kernel
theorem dX11_worstWind_4 : decode cX11_worstWind 4 = .ok (.iconst 0, 1) := by decide +kernel
theorem dX11_worstWind_5 : decode cX11_worstWind 5 = .ok (.istore_n 3, 1) := by decide +kernel
theorem dX11_worstWind_6 : decode cX11_worstWind 6 = .ok (.iload_n 3, 1) := by decide +kernel
theorem dX11_worstWind_7 : decode cX11_worstWind 7 = .ok (.aload_n 0, 1) := by decide +kernel
theorem dX11_worstWind_8 : decode cX11_worstWind 8 = .ok (.getfield 37, 3) := by decide +kernel
theorem dX11_worstWind_11 : decode cX11_worstWind 11 = .ok (.getfield 194, 3) := by decide +kernel
theorem dX11_worstWind_14 : decode cX11_worstWind 14 = .ok (.if_icmp .ge 48, 3) := by decide +kernel
theorem dX11_worstWind_17 : decode cX11_worstWind 17 = .ok (.aload_n 0, 1) := by decide +kernel
theorem dX11_worstWind_18 : decode cX11_worstWind 18 = .ok (.getfield 37, 3) := by decide +kernel
theorem dX11_worstWind_21 : decode cX11_worstWind 21 = .ok (.aload_n 0, 1) := by decide +kernel
theorem dX11_worstWind_22 : decode cX11_worstWind 22 = .ok (.getfield 37, 3) := by decide +kernel
theorem dX11_worstWind_25 : decode cX11_worstWind 25 = .ok (.aload_n 0, 1) := by decide +kernel
theorem dX11_worstWind_26 : decode cX11_worstWind 26 = .ok (.getfield 37, 3) := by decide +kernel
theorem dX11_worstWind_29 : decode cX11_worstWind 29 = .ok (.getfield 277, 3) := by decide +kernel
theorem dX11_worstWind_32 : decode cX11_worstWind 32 = .ok (.iload_n 3, 1) := by decide +kernel
theorem dX11_worstWind_33 : decode cX11_worstWind 33 = .ok (.aaload, 1) := by decide +kernel
theorem dX11_worstWind_34 : decode cX11_worstWind 34 = .ok (.getfield 281, 3) := by decide +kernel
theorem dX11_worstWind_37 : decode cX11_worstWind 37 = .ok (.invokevirtual 322, 3) := by decide +kernel
theorem dX11_worstWind_40 : decode cX11_worstWind 40 = .ok (.invokevirtual 210, 3) := by decide +kernel
theorem dX11_worstWind_43 : decode cX11_worstWind 43 = .ok (.istore 4, 2) := by decide +kernel
theorem dX11_worstWind_45 : decode cX11_worstWind 45 = .ok (.iload 4, 2) := by decide +kernel
theorem dX11_worstWind_47 : decode cX11_worstWind 47 = .ok (.iload_n 2, 1) := by decide +kernel
theorem dX11_worstWind_48 : decode cX11_worstWind 48 = .ok (.if_icmp .le 8, 3) := by decide +kernel
theorem dX11_worstWind_51 : decode cX11_worstWind 51 = .ok (.iload 4, 2) := by decide +kernel
theorem dX11_worstWind_53 : decode cX11_worstWind 53 = .ok (.istore_n 2, 1) := by decide +kernel
theorem dX11_worstWind_54 : decode cX11_worstWind 54 = .ok (.iload_n 3, 1) := by decide +kernel
theorem dX11_worstWind_55 : decode cX11_worstWind 55 = .ok (.istore_n 1, 1) := by decide +kernel
theorem dX11_worstWind_56 : decode cX11_worstWind 56 = .ok (.iinc 3 1, 3) := by decide +kernel
theorem dX11_worstWind_59 : decode cX11_worstWind 59 = .ok (.goto (-53), 3) := by decide +kernel
theorem dX11_worstWind_62 : decode cX11_worstWind 62 = .ok (.iload_n 1, 1) := by decide +kernel
theorem dX11_worstWind_63 : decode cX11_worstWind 63 = .ok (.iconst (-1), 1) := by decide +kernel
theorem dX11_worstWind_64 : decode cX11_worstWind 64 = .ok (.if_icmp .ne 12, 3) := by decide +kernel
theorem dX11_worstWind_67 : decode cX11_worstWind 67 = .ok (.aload_n 0, 1) := by decide +kernel
theorem dX11_worstWind_68 : decode cX11_worstWind 68 = .ok (.bipush 8, 2) := by decide +kernel
theorem dX11_worstWind_70 : decode cX11_worstWind 70 = .ok (.invokevirtual 131, 3) := by decide +kernel
theorem dX11_worstWind_73 : decode cX11_worstWind 73 = .ok (.goto 8, 3) := by decide +kernel
theorem dX11_worstWind_76 : decode cX11_worstWind 76 = .ok (.aload_n 0, 1) := by decide +kernel
theorem dX11_worstWind_77 : decode cX11_worstWind 77 = .ok (.iload_n 1, 1) := by decide +kernel
theorem dX11_worstWind_78 : decode cX11_worstWind 78 = .ok (.invokevirtual 176, 3) := by decide +kernel
theorem dX11_worstWind_81 : decode cX11_worstWind 81 = .ok (.ireturn, 1) := by decide +kernel
def j_X11_worstWind : JD := (yX11_worstWind, cX11_worstWind, 5, (some .int))
def b_X11_worstWind : BD := (2, 0, 0)
theorem dX11_best_0 : decode cX11_best 0 = .ok (.aload_n 0, 1) := by decide +kernel
theorem dX11_best_1 : decode cX11_best 1 = .ok (.iload_n 1, 1) := by decide +kernel
theorem dX11_best_2 : decode cX11_best 2 = .ok (.invokevirtual 252, 3) := by decide +kernel
theorem dX11_best_5 : decode cX11_best 5 = .ok (.ifCond .ne 9, 3) := by decide +kernel
theorem dX11_best_8 : decode cX11_best 8 = .ok (.aload_n 0, 1) := by decide +kernel
theorem dX11_best_9 : decode cX11_best 9 = .ok (.iconst 2, 1) := by decide +kernel
theorem dX11_best_10 : decode cX11_best 10 = .ok (.invokevirtual 131, 3) := by decide +kernel
theorem dX11_best_13 : decode cX11_best 13 = .ok (.ireturn, 1) := by decide +kernel
theorem dX11_best_14 : decode cX11_best 14 = .ok (.iload_n 2, 1) := by decide +kernel
theorem dX11_best_15 : decode cX11_best 15 = .ok (.iconst 0, 1) := by decide +kernel
theorem dX11_best_16 : decode cX11_best 16 = .ok (.sipush 240, 3) := by decide +kernel
theorem dX11_best_19 : decode cX11_best 19 = .ok (.invokestatic 105, 3) := by decide +kernel
theorem dX11_best_22 : decode cX11_best 22 = .ok (.ifCond .ne 9, 3) := by decide +kernel
theorem dX11_best_25 : decode cX11_best 25 = .ok (.aload_n 0, 1) := by decide +kernel
theorem dX11_best_26 : decode cX11_best 26 = .ok (.iconst 5, 1) := by decide +kernel
theorem dX11_best_27 : decode cX11_best 27 = .ok (.invokevirtual 131, 3) := by decide +kernel
theorem dX11_best_30 : decode cX11_best 30 = .ok (.ireturn, 1) := by decide +kernel
theorem dX11_best_31 : decode cX11_best 31 = .ok (.aload_n 0, 1) := by decide +kernel
theorem dX11_best_32 : decode cX11_best 32 = .ok (.aload_n 0, 1) := by decide +kernel
theorem dX11_best_33 : decode cX11_best 33 = .ok (.getfield 65, 3) := by decide +kernel
theorem dX11_best_36 : decode cX11_best 36 = .ok (.aload_n 0, 1) := by decide +kernel
theorem dX11_best_37 : decode cX11_best 37 = .ok (.getfield 37, 3) := by decide +kernel
theorem dX11_best_40 : decode cX11_best 40 = .ok (.iload_n 1, 1) := by decide +kernel
theorem dX11_best_41 : decode cX11_best 41 = .ok (.iload_n 2, 1) := by decide +kernel
theorem dX11_best_42 : decode cX11_best 42 = .ok (.invokevirtual 342, 3) := by decide +kernel
theorem dX11_best_45 : decode cX11_best 45 = .ok (.putfield 69, 3) := by decide +kernel
theorem dX11_best_48 : decode cX11_best 48 = .ok (.aload_n 0, 1) := by decide +kernel
theorem dX11_best_49 : decode cX11_best 49 = .ok (.aload_n 0, 1) := by decide +kernel
theorem dX11_best_50 : decode cX11_best 50 = .ok (.getfield 37, 3) := by decide +kernel
theorem dX11_best_53 : decode cX11_best 53 = .ok (.aload_n 0, 1) := by decide +kernel
theorem dX11_best_54 : decode cX11_best 54 = .ok (.getfield 69, 3) := by decide +kernel
theorem dX11_best_57 : decode cX11_best 57 = .ok (.invokevirtual 210, 3) := by decide +kernel
theorem dX11_best_60 : decode cX11_best 60 = .ok (.invokevirtual 176, 3) := by decide +kernel
theorem dX11_best_63 : decode cX11_best 63 = .ok (.ireturn, 1) := by decide +kernel
def j_X11_best : JD := (yX11_best, cX11_best, 3, (some .int))
def b_X11_best : BD := (4, 0, 0)
theorem dX11_bestSet_0 : decode cX11_bestSet 0 = .ok (.aload_n 0, 1) := by decide +kernel
theorem dX11_bestSet_1 : decode cX11_bestSet 1 = .ok (.getfield 69, 3) := by decide +kernel
theorem dX11_bestSet_4 : decode cX11_bestSet 4 = .ok (.iconst (-1), 1) := by decide +kernel
theorem dX11_bestSet_5 : decode cX11_bestSet 5 = .ok (.if_icmp .ne 12, 3) := by decide +kernel
theorem dX11_bestSet_8 : decode cX11_bestSet 8 = .ok (.aload_n 0, 1) := by decide +kernel
theorem dX11_bestSet_9 : decode cX11_bestSet 9 = .ok (.bipush 8, 2) := by decide +kernel
theorem dX11_bestSet_11 : decode cX11_bestSet 11 = .ok (.invokevirtual 131, 3) := by decide +kernel
theorem dX11_bestSet_14 : decode cX11_bestSet 14 = .ok (.goto 11, 3) := by decide +kernel
theorem dX11_bestSet_17 : decode cX11_bestSet 17 = .ok (.aload_n 0, 1) := by decide +kernel
theorem dX11_bestSet_18 : decode cX11_bestSet 18 = .ok (.aload_n 0, 1) := by decide +kernel
theorem dX11_bestSet_19 : decode cX11_bestSet 19 = .ok (.getfield 69, 3) := by decide +kernel
theorem dX11_bestSet_22 : decode cX11_bestSet 22 = .ok (.invokevirtual 176, 3) := by decide +kernel
theorem dX11_bestSet_25 : decode cX11_bestSet 25 = .ok (.ireturn, 1) := by decide +kernel
def j_X11_bestSet : JD := (yX11_bestSet, cX11_bestSet, 1, (some .int))
def b_X11_bestSet : BD := (1, 0, 0)
theorem dX11_soonest_0 : decode cX11_soonest 0 = .ok (.aload_n 0, 1) := by decide +kernel
theorem dX11_soonest_1 : decode cX11_soonest 1 = .ok (.iload_n 1, 1) := by decide +kernel
theorem dX11_soonest_2 : decode cX11_soonest 2 = .ok (.invokevirtual 252, 3) := by decide +kernel
theorem dX11_soonest_5 : decode cX11_soonest 5 = .ok (.ifCond .ne 9, 3) := by decide +kernel
theorem dX11_soonest_8 : decode cX11_soonest 8 = .ok (.aload_n 0, 1) := by decide +kernel
theorem dX11_soonest_9 : decode cX11_soonest 9 = .ok (.iconst 2, 1) := by decide +kernel
theorem dX11_soonest_10 : decode cX11_soonest 10 = .ok (.invokevirtual 131, 3) := by decide +kernel
theorem dX11_soonest_13 : decode cX11_soonest 13 = .ok (.ireturn, 1) := by decide +kernel
theorem dX11_soonest_14 : decode cX11_soonest 14 = .ok (.iload_n 2, 1) := by decide +kernel
theorem dX11_soonest_15 : decode cX11_soonest 15 = .ok (.ifCond .lt 16, 3) := by decide +kernel
theorem dX11_soonest_18 : decode cX11_soonest 18 = .ok (.iload_n 2, 1) := by decide +kernel
theorem dX11_soonest_19 : decode cX11_soonest 19 = .ok (.iconst 1, 1) := by decide +kernel
theorem dX11_soonest_20 : decode cX11_soonest 20 = .ok (.aload_n 0, 1) := by decide +kernel
theorem dX11_soonest_21 : decode cX11_soonest 21 = .ok (.getfield 37, 3) := by decide +kernel
theorem dX11_soonest_24 : decode cX11_soonest 24 = .ok (.getfield 102, 3) := by decide +kernel
theorem dX11_soonest_27 : decode cX11_soonest 27 = .ok (.ishl, 1) := by decide +kernel
theorem dX11_soonest_28 : decode cX11_soonest 28 = .ok (.if_icmp .lt 9, 3) := by decide +kernel
theorem dX11_soonest_31 : decode cX11_soonest 31 = .ok (.aload_n 0, 1) := by decide +kernel
theorem dX11_soonest_32 : decode cX11_soonest 32 = .ok (.iconst 5, 1) := by decide +kernel
theorem dX11_soonest_33 : decode cX11_soonest 33 = .ok (.invokevirtual 131, 3) := by decide +kernel
theorem dX11_soonest_36 : decode cX11_soonest 36 = .ok (.ireturn, 1) := by decide +kernel
theorem dX11_soonest_37 : decode cX11_soonest 37 = .ok (.iload_n 2, 1) := by decide +kernel
theorem dX11_soonest_38 : decode cX11_soonest 38 = .ok (.aload_n 0, 1) := by decide +kernel
theorem dX11_soonest_39 : decode cX11_soonest 39 = .ok (.getfield 37, 3) := by decide +kernel
theorem dX11_soonest_42 : decode cX11_soonest 42 = .ok (.invokevirtual 346, 3) := by decide +kernel
theorem dX11_soonest_45 : decode cX11_soonest 45 = .ok (.iconst (-1), 1) := by decide +kernel
theorem dX11_soonest_46 : decode cX11_soonest 46 = .ok (.ixor, 1) := by decide +kernel
theorem dX11_soonest_47 : decode cX11_soonest 47 = .ok (.iand, 1) := by decide +kernel
theorem dX11_soonest_48 : decode cX11_soonest 48 = .ok (.ifCond .eq 10, 3) := by decide +kernel
theorem dX11_soonest_51 : decode cX11_soonest 51 = .ok (.aload_n 0, 1) := by decide +kernel
theorem dX11_soonest_52 : decode cX11_soonest 52 = .ok (.bipush 9, 2) := by decide +kernel
theorem dX11_soonest_54 : decode cX11_soonest 54 = .ok (.invokevirtual 131, 3) := by decide +kernel
theorem dX11_soonest_57 : decode cX11_soonest 57 = .ok (.ireturn, 1) := by decide +kernel
theorem dX11_soonest_58 : decode cX11_soonest 58 = .ok (.aload_n 0, 1) := by decide +kernel
theorem dX11_soonest_59 : decode cX11_soonest 59 = .ok (.getfield 65, 3) := by decide +kernel
theorem dX11_soonest_62 : decode cX11_soonest 62 = .ok (.aload_n 0, 1) := by decide +kernel
theorem dX11_soonest_63 : decode cX11_soonest 63 = .ok (.getfield 37, 3) := by decide +kernel
theorem dX11_soonest_66 : decode cX11_soonest 66 = .ok (.iload_n 1, 1) := by decide +kernel
theorem dX11_soonest_67 : decode cX11_soonest 67 = .ok (.iload_n 2, 1) := by decide +kernel
theorem dX11_soonest_68 : decode cX11_soonest 68 = .ok (.invokevirtual 349, 3) := by decide +kernel
theorem dX11_soonest_71 : decode cX11_soonest 71 = .ok (.aload_n 0, 1) := by decide +kernel
theorem dX11_soonest_72 : decode cX11_soonest 72 = .ok (.aload_n 0, 1) := by decide +kernel
theorem dX11_soonest_73 : decode cX11_soonest 73 = .ok (.getfield 65, 3) := by decide +kernel
theorem dX11_soonest_76 : decode cX11_soonest 76 = .ok (.aload_n 0, 1) := by decide +kernel
theorem dX11_soonest_77 : decode cX11_soonest 77 = .ok (.getfield 37, 3) := by decide +kernel
theorem dX11_soonest_80 : decode cX11_soonest 80 = .ok (.iload_n 1, 1) := by decide +kernel
theorem dX11_soonest_81 : decode cX11_soonest 81 = .ok (.iload_n 2, 1) := by decide +kernel
theorem dX11_soonest_82 : decode cX11_soonest 82 = .ok (.invokevirtual 353, 3) := by decide +kernel
theorem dX11_soonest_85 : decode cX11_soonest 85 = .ok (.invokevirtual 176, 3) := by decide +kernel
theorem dX11_soonest_88 : decode cX11_soonest 88 = .ok (.ireturn, 1) := by decide +kernel
def j_X11_soonest : JD := (yX11_soonest, cX11_soonest, 3, (some .int))
def b_X11_soonest : BD := (5, 0, 0)
theorem dX11_order_0 : decode cX11_order 0 = .ok (.iload_n 1, 1) := by decide +kernel
theorem dX11_order_1 : decode cX11_order 1 = .ok (.iconst 0, 1) := by decide +kernel
theorem dX11_order_2 : decode cX11_order 2 = .ok (.aload_n 0, 1) := by decide +kernel
theorem dX11_order_3 : decode cX11_order 3 = .ok (.getfield 65, 3) := by decide +kernel
theorem dX11_order_6 : decode cX11_order 6 = .ok (.getfield 356, 3) := by decide +kernel
theorem dX11_order_9 : decode cX11_order 9 = .ok (.iconst 1, 1) := by decide +kernel
theorem dX11_order_10 : decode cX11_order 10 = .ok (.isub, 1) := by decide +kernel
theorem dX11_order_11 : decode cX11_order 11 = .ok (.invokestatic 105, 3) := by decide +kernel
theorem dX11_order_14 : decode cX11_order 14 = .ok (.ifCond .eq 19, 3) := by decide +kernel
theorem dX11_order_17 : decode cX11_order 17 = .ok (.aload_n 0, 1) := by decide +kernel
theorem dX11_order_18 : decode cX11_order 18 = .ok (.aload_n 0, 1) := by decide +kernel
theorem dX11_order_19 : decode cX11_order 19 = .ok (.getfield 65, 3) := by decide +kernel
theorem dX11_order_22 : decode cX11_order 22 = .ok (.getfield 359, 3) := by decide +kernel
theorem dX11_order_25 : decode cX11_order 25 = .ok (.iload_n 1, 1) := by decide +kernel
theorem dX11_order_26 : decode cX11_order 26 = .ok (.iaload, 1) := by decide +kernel
theorem dX11_order_27 : decode cX11_order 27 = .ok (.invokevirtual 176, 3) := by decide +kernel
theorem dX11_order_30 : decode cX11_order 30 = .ok (.goto 9, 3) := by decide +kernel
theorem dX11_order_33 : decode cX11_order 33 = .ok (.aload_n 0, 1) := by decide +kernel
theorem dX11_order_34 : decode cX11_order 34 = .ok (.bipush 8, 2) := by decide +kernel
theorem dX11_order_36 : decode cX11_order 36 = .ok (.invokevirtual 131, 3) := by decide +kernel
theorem dX11_order_39 : decode cX11_order 39 = .ok (.ireturn, 1) := by decide +kernel
def j_X11_order : JD := (yX11_order, cX11_order, 2, (some .int))
def b_X11_order : BD := (1, 0, 0)
theorem dX11_shared_0 : decode cX11_shared 0 = .ok (.iload_n 1, 1) := by decide +kernel
theorem dX11_shared_1 : decode cX11_shared 1 = .ok (.iconst 0, 1) := by decide +kernel
theorem dX11_shared_2 : decode cX11_shared 2 = .ok (.sipush 240, 3) := by decide +kernel
theorem dX11_shared_5 : decode cX11_shared 5 = .ok (.invokestatic 105, 3) := by decide +kernel
theorem dX11_shared_8 : decode cX11_shared 8 = .ok (.ifCond .ne 9, 3) := by decide +kernel
theorem dX11_shared_11 : decode cX11_shared 11 = .ok (.aload_n 0, 1) := by decide +kernel
theorem dX11_shared_12 : decode cX11_shared 12 = .ok (.iconst 5, 1) := by decide +kernel
theorem dX11_shared_13 : decode cX11_shared 13 = .ok (.invokevirtual 131, 3) := by decide +kernel
theorem dX11_shared_16 : decode cX11_shared 16 = .ok (.ireturn, 1) := by decide +kernel
theorem dX11_shared_17 : decode cX11_shared 17 = .ok (.aload_n 0, 1) := by decide +kernel
theorem dX11_shared_18 : decode cX11_shared 18 = .ok (.getfield 65, 3) := by decide +kernel
theorem dX11_shared_21 : decode cX11_shared 21 = .ok (.aload_n 0, 1) := by decide +kernel
theorem dX11_shared_22 : decode cX11_shared 22 = .ok (.getfield 37, 3) := by decide +kernel
theorem dX11_shared_25 : decode cX11_shared 25 = .ok (.invokevirtual 362, 3) := by decide +kernel
theorem dX11_shared_28 : decode cX11_shared 28 = .ok (.aload_n 0, 1) := by decide +kernel
theorem dX11_shared_29 : decode cX11_shared 29 = .ok (.aload_n 0, 1) := by decide +kernel
theorem dX11_shared_30 : decode cX11_shared 30 = .ok (.getfield 65, 3) := by decide +kernel
theorem dX11_shared_33 : decode cX11_shared 33 = .ok (.aload_n 0, 1) := by decide +kernel
theorem dX11_shared_34 : decode cX11_shared 34 = .ok (.getfield 37, 3) := by decide +kernel
theorem dX11_shared_37 : decode cX11_shared 37 = .ok (.iload_n 1, 1) := by decide +kernel
theorem dX11_shared_38 : decode cX11_shared 38 = .ok (.invokevirtual 365, 3) := by decide +kernel
theorem dX11_shared_41 : decode cX11_shared 41 = .ok (.invokevirtual 176, 3) := by decide +kernel
theorem dX11_shared_44 : decode cX11_shared 44 = .ok (.ireturn, 1) := by decide +kernel
def j_X11_shared : JD := (yX11_shared, cX11_shared, 2, (some .int))
def b_X11_shared : BD := (4, 0, 0)
theorem dX11_allOff_0 : decode cX11_allOff 0 = .ok (.aload_n 0, 1) := by decide +kernel
theorem dX11_allOff_1 : decode cX11_allOff 1 = .ok (.getfield 65, 3) := by decide +kernel
theorem dX11_allOff_4 : decode cX11_allOff 4 = .ok (.aload_n 0, 1) := by decide +kernel
theorem dX11_allOff_5 : decode cX11_allOff 5 = .ok (.getfield 37, 3) := by decide +kernel
theorem dX11_allOff_8 : decode cX11_allOff 8 = .ok (.invokevirtual 362, 3) := by decide +kernel
theorem dX11_allOff_11 : decode cX11_allOff 11 = .ok (.aload_n 0, 1) := by decide +kernel
theorem dX11_allOff_12 : decode cX11_allOff 12 = .ok (.getfield 65, 3) := by decide +kernel
theorem dX11_allOff_15 : decode cX11_allOff 15 = .ok (.getfield 369, 3) := by decide +kernel
theorem dX11_allOff_18 : decode cX11_allOff 18 = .ok (.aload_n 0, 1) := by decide +kernel
theorem dX11_allOff_19 : decode cX11_allOff 19 = .ok (.getfield 37, 3) := by decide +kernel
theorem dX11_allOff_22 : decode cX11_allOff 22 = .ok (.invokevirtual 346, 3) := by decide +kernel
theorem dX11_allOff_25 : decode cX11_allOff 25 = .ok (.iaload, 1) := by decide +kernel
theorem dX11_allOff_26 : decode cX11_allOff 26 = .ok (.istore_n 1, 1) := by decide +kernel
theorem dX11_allOff_27 : decode cX11_allOff 27 = .ok (.iload_n 1, 1) := by decide +kernel
theorem dX11_allOff_28 : decode cX11_allOff 28 = .ok (.sipush 999, 3) := by decide +kernel
theorem dX11_allOff_31 : decode cX11_allOff 31 = .ok (.if_icmp .le 12, 3) := by decide +kernel
theorem dX11_allOff_34 : decode cX11_allOff 34 = .ok (.aload_n 0, 1) := by decide +kernel
theorem dX11_allOff_35 : decode cX11_allOff 35 = .ok (.bipush 8, 2) := by decide +kernel
theorem dX11_allOff_37 : decode cX11_allOff 37 = .ok (.invokevirtual 131, 3) := by decide +kernel
theorem dX11_allOff_40 : decode cX11_allOff 40 = .ok (.goto 8, 3) := by decide +kernel
theorem dX11_allOff_43 : decode cX11_allOff 43 = .ok (.aload_n 0, 1) := by decide +kernel
theorem dX11_allOff_44 : decode cX11_allOff 44 = .ok (.iload_n 1, 1) := by decide +kernel
theorem dX11_allOff_45 : decode cX11_allOff 45 = .ok (.invokevirtual 176, 3) := by decide +kernel
theorem dX11_allOff_48 : decode cX11_allOff 48 = .ok (.ireturn, 1) := by decide +kernel
def j_X11_allOff : JD := (yX11_allOff, cX11_allOff, 2, (some .int))
def b_X11_allOff : BD := (4, 0, 0)
theorem dX11_whyNoScore_0 : decode cX11_whyNoScore 0 = .ok (.aload_n 0, 1) := by decide +kernel
theorem dX11_whyNoScore_1 : decode cX11_whyNoScore 1 = .ok (.getfield 30, 3) := by decide +kernel
theorem dX11_whyNoScore_4 : decode cX11_whyNoScore 4 = .ok (.iload_n 1, 1) := by decide +kernel
theorem dX11_whyNoScore_5 : decode cX11_whyNoScore 5 = .ok (.invokevirtual 112, 3) := by decide +kernel
theorem dX11_whyNoScore_8 : decode cX11_whyNoScore 8 = .ok (.ifCond .eq 14, 3) := by decide +kernel
theorem dX11_whyNoScore_11 : decode cX11_whyNoScore 11 = .ok (.aload_n 0, 1) := by decide +kernel
theorem dX11_whyNoScore_12 : decode cX11_whyNoScore 12 = .ok (.getfield 30, 3) := by decide +kernel
theorem dX11_whyNoScore_15 : decode cX11_whyNoScore 15 = .ok (.iload_n 2, 1) := by decide +kernel
theorem dX11_whyNoScore_16 : decode cX11_whyNoScore 16 = .ok (.invokevirtual 112, 3) := by decide +kernel
theorem dX11_whyNoScore_19 : decode cX11_whyNoScore 19 = .ok (.ifCond .ne 5, 3) := by decide +kernel
theorem dX11_whyNoScore_22 : decode cX11_whyNoScore 22 = .ok (.iconst 1, 1) := by decide +kernel
theorem dX11_whyNoScore_23 : decode cX11_whyNoScore 23 = .ok (.ireturn, 1) := by decide +kernel
theorem dX11_whyNoScore_24 : decode cX11_whyNoScore 24 = .ok (.aload_n 0, 1) := by decide +kernel
theorem dX11_whyNoScore_25 : decode cX11_whyNoScore 25 = .ok (.getfield 30, 3) := by decide +kernel
theorem dX11_whyNoScore_28 : decode cX11_whyNoScore 28 = .ok (.iload_n 1, 1) := by decide +kernel
theorem dX11_whyNoScore_29 : decode cX11_whyNoScore 29 = .ok (.invokevirtual 139, 3) := by decide +kernel
theorem dX11_whyNoScore_32 : decode cX11_whyNoScore 32 = .ok (.ifCond .ne 14, 3) := by decide +kernel
theorem dX11_whyNoScore_35 : decode cX11_whyNoScore 35 = .ok (.aload_n 0, 1) := by decide +kernel
theorem dX11_whyNoScore_36 : decode cX11_whyNoScore 36 = .ok (.getfield 30, 3) := by decide +kernel
theorem dX11_whyNoScore_39 : decode cX11_whyNoScore 39 = .ok (.iload_n 2, 1) := by decide +kernel
theorem dX11_whyNoScore_40 : decode cX11_whyNoScore 40 = .ok (.invokevirtual 139, 3) := by decide +kernel
theorem dX11_whyNoScore_43 : decode cX11_whyNoScore 43 = .ok (.ifCond .eq 5, 3) := by decide +kernel
theorem dX11_whyNoScore_46 : decode cX11_whyNoScore 46 = .ok (.iconst 3, 1) := by decide +kernel
theorem dX11_whyNoScore_47 : decode cX11_whyNoScore 47 = .ok (.ireturn, 1) := by decide +kernel
theorem dX11_whyNoScore_48 : decode cX11_whyNoScore 48 = .ok (.iload_n 3, 1) := by decide +kernel
theorem dX11_whyNoScore_49 : decode cX11_whyNoScore 49 = .ok (.aload_n 0, 1) := by decide +kernel
theorem dX11_whyNoScore_50 : decode cX11_whyNoScore 50 = .ok (.getfield 30, 3) := by decide +kernel
theorem dX11_whyNoScore_53 : decode cX11_whyNoScore 53 = .ok (.getfield 381, 3) := by decide +kernel
theorem dX11_whyNoScore_56 : decode cX11_whyNoScore 56 = .ok (.iload_n 1, 1) := by decide +kernel
theorem dX11_whyNoScore_57 : decode cX11_whyNoScore 57 = .ok (.iaload, 1) := by decide +kernel
theorem dX11_whyNoScore_58 : decode cX11_whyNoScore 58 = .ok (.if_icmp .gt 16, 3) := by decide +kernel
theorem dX11_whyNoScore_61 : decode cX11_whyNoScore 61 = .ok (.iload_n 3, 1) := by decide +kernel
theorem dX11_whyNoScore_62 : decode cX11_whyNoScore 62 = .ok (.aload_n 0, 1) := by decide +kernel
theorem dX11_whyNoScore_63 : decode cX11_whyNoScore 63 = .ok (.getfield 30, 3) := by decide +kernel
theorem dX11_whyNoScore_66 : decode cX11_whyNoScore 66 = .ok (.getfield 381, 3) := by decide +kernel
theorem dX11_whyNoScore_69 : decode cX11_whyNoScore 69 = .ok (.iload_n 2, 1) := by decide +kernel
theorem dX11_whyNoScore_70 : decode cX11_whyNoScore 70 = .ok (.iaload, 1) := by decide +kernel
theorem dX11_whyNoScore_71 : decode cX11_whyNoScore 71 = .ok (.if_icmp .le 5, 3) := by decide +kernel
theorem dX11_whyNoScore_74 : decode cX11_whyNoScore 74 = .ok (.iconst 4, 1) := by decide +kernel
theorem dX11_whyNoScore_75 : decode cX11_whyNoScore 75 = .ok (.ireturn, 1) := by decide +kernel
theorem dX11_whyNoScore_76 : decode cX11_whyNoScore 76 = .ok (.iload_n 3, 1) := by decide +kernel
theorem dX11_whyNoScore_77 : decode cX11_whyNoScore 77 = .ok (.iconst 1, 1) := by decide +kernel
theorem dX11_whyNoScore_78 : decode cX11_whyNoScore 78 = .ok (.if_icmp .lt 30, 3) := by decide +kernel
theorem dX11_whyNoScore_81 : decode cX11_whyNoScore 81 = .ok (.aload_n 0, 1) := by decide +kernel
theorem dX11_whyNoScore_82 : decode cX11_whyNoScore 82 = .ok (.getfield 30, 3) := by decide +kernel
theorem dX11_whyNoScore_85 : decode cX11_whyNoScore 85 = .ok (.iload_n 1, 1) := by decide +kernel
theorem dX11_whyNoScore_86 : decode cX11_whyNoScore 86 = .ok (.iload_n 3, 1) := by decide +kernel
theorem dX11_whyNoScore_87 : decode cX11_whyNoScore 87 = .ok (.bipush 100, 2) := by decide +kernel
theorem dX11_whyNoScore_89 : decode cX11_whyNoScore 89 = .ok (.invokevirtual 384, 3) := by decide +kernel
theorem dX11_whyNoScore_92 : decode cX11_whyNoScore 92 = .ok (.ifCond .eq 16, 3) := by decide +kernel
theorem dX11_whyNoScore_95 : decode cX11_whyNoScore 95 = .ok (.aload_n 0, 1) := by decide +kernel
theorem dX11_whyNoScore_96 : decode cX11_whyNoScore 96 = .ok (.getfield 30, 3) := by decide +kernel
theorem dX11_whyNoScore_99 : decode cX11_whyNoScore 99 = .ok (.iload_n 2, 1) := by decide +kernel
theorem dX11_whyNoScore_100 : decode cX11_whyNoScore 100 = .ok (.iload_n 3, 1) := by decide +kernel
theorem dX11_whyNoScore_101 : decode cX11_whyNoScore 101 = .ok (.iconst 1, 1) := by decide +kernel
theorem dX11_whyNoScore_102 : decode cX11_whyNoScore 102 = .ok (.invokevirtual 384, 3) := by decide +kernel
theorem dX11_whyNoScore_105 : decode cX11_whyNoScore 105 = .ok (.ifCond .ne 5, 3) := by decide +kernel
theorem dX11_whyNoScore_108 : decode cX11_whyNoScore 108 = .ok (.iconst 5, 1) := by decide +kernel
theorem dX11_whyNoScore_109 : decode cX11_whyNoScore 109 = .ok (.ireturn, 1) := by decide +kernel
theorem dX11_whyNoScore_110 : decode cX11_whyNoScore 110 = .ok (.iconst 0, 1) := by decide +kernel
theorem dX11_whyNoScore_111 : decode cX11_whyNoScore 111 = .ok (.ireturn, 1) := by decide +kernel
def j_X11_whyNoScore : JD := (yX11_whyNoScore, cX11_whyNoScore, 4, (some .int))
def b_X11_whyNoScore : BD := (1, 0, 0)
theorem mv_X11_whyNoScore : MV j_X11_whyNoScore 11 3 := ⟨⟨gw_at 1356 (by decide +kernel) rfl, gw_at 207 (by decide +kernel) rfl, ⟨by decide +kernel, by decide +kernel⟩, by decide +kernel, by decide, by decide +kernel⟩, ⟨_, rfl, rfl⟩, gw_at 1355 (by decide +kernel) rfl, gw_at 86 (by decide +kernel) rfl⟩
theorem ml_X11_293 : MLk RX11 293 j_X0_pieceMinutes.1 := Or.inr ⟨_, nw_at (w := Cond.methodLinkNest RX11 293 yX0_pieceMinutes "RoofGale") 1103 (by decide +kernel) rfl⟩
theorem ml_X11_297 : MLk RX11 297 j_X0_wayMinutes.1 := Or.inr ⟨_, nw_at (w := Cond.methodLinkNest RX11 297 yX0_wayMinutes "RoofGale") 1114 (by decide +kernel) rfl⟩
theorem ml_X11_300 : MLk RX11 300 j_X4_firstByLaw.1 := Or.inr ⟨_, nw_at (w := Cond.methodLinkNest RX11 300 yX4_firstByLaw "RoofGale") 1125 (by decide +kernel) rfl⟩
theorem ml_X11_303 : MLk RX11 303 j_X4_canTake.1 := Or.inr ⟨_, nw_at (w := Cond.methodLinkNest RX11 303 yX4_canTake "RoofGale") 1143 (by decide +kernel) rfl⟩
theorem ml_X11_307 : MLk RX11 307 j_X4_take.1 := Or.inr ⟨_, nw_at (w := Cond.methodLinkNest RX11 307 yX4_take "RoofGale") 1144 (by decide +kernel) rfl⟩
theorem ml_X11_310 : MLk RX11 310 j_X0_putDown.1 := Or.inr ⟨_, nw_at (w := Cond.methodLinkNest RX11 310 yX0_putDown "RoofGale") 1154 (by decide +kernel) rfl⟩
theorem ml_X11_313 : MLk RX11 313 j_X4_passHour.1 := Or.inr ⟨_, nw_at (w := Cond.methodLinkNest RX11 313 yX4_passHour "RoofGale") 1159 (by decide +kernel) rfl⟩
theorem ml_X11_316 : MLk RX11 316 j_X4_blow.1 := Or.inr ⟨_, nw_at (w := Cond.methodLinkNest RX11 316 yX4_blow "RoofGale") 1190 (by decide +kernel) rfl⟩
theorem ml_X11_319 : MLk RX11 319 j_X4_breakDay.1 := Or.inr ⟨_, nw_at (w := Cond.methodLinkNest RX11 319 yX4_breakDay "RoofGale") 1209 (by decide +kernel) rfl⟩
theorem ml_X11_322 : MLk RX11 322 j_X4_fallingSet.1 := Or.inr ⟨_, nw_at (w := Cond.methodLinkNest RX11 322 yX4_fallingSet "RoofGale") 1221 (by decide +kernel) rfl⟩
theorem ml_X11_325 : MLk RX11 325 j_X4_chancesToFall.1 := Or.inr ⟨_, nw_at (w := Cond.methodLinkNest RX11 325 yX4_chancesToFall "RoofGale") 1226 (by decide +kernel) rfl⟩
theorem ml_X11_328 : MLk RX11 328 j_X11_tellFraction.1 := Or.inl (gw_at 1230 (by decide +kernel) rfl)
theorem ml_X11_332 : MLk RX11 332 j_X4_lossByChances.1 := Or.inr ⟨_, nw_at (w := Cond.methodLinkNest RX11 332 yX4_lossByChances "RoofGale") 1244 (by decide +kernel) rfl⟩
theorem ml_X11_335 : MLk RX11 335 j_X4_copyFrom.1 := Or.inr ⟨_, nw_at (w := Cond.methodLinkNest RX11 335 yX4_copyFrom "RoofGale") 1253 (by decide +kernel) rfl⟩
theorem ml_X11_339 : MLk RX11 339 j_X1_isOpen.1 := Or.inr ⟨_, nw_at (w := Cond.methodLinkNest RX11 339 yX1_isOpen "RoofGale") 1274 (by decide +kernel) rfl⟩
theorem ml_X11_342 : MLk RX11 342 j_X3_worthiestSet.1 := Or.inr ⟨_, nw_at (w := Cond.methodLinkNest RX11 342 yX3_worthiestSet "RoofGale") 1283 (by decide +kernel) rfl⟩
theorem ml_X11_346 : MLk RX11 346 j_X4_openSet.1 := Or.inr ⟨_, nw_at (w := Cond.methodLinkNest RX11 346 yX4_openSet "RoofGale") 1309 (by decide +kernel) rfl⟩
theorem ml_X11_349 : MLk RX11 349 j_X3_findOrder.1 := Or.inr ⟨_, nw_at (w := Cond.methodLinkNest RX11 349 yX3_findOrder "RoofGale") 1310 (by decide +kernel) rfl⟩
theorem ml_X11_353 : MLk RX11 353 j_X3_minutesFor.1 := Or.inr ⟨_, nw_at (w := Cond.methodLinkNest RX11 353 yX3_minutesFor "RoofGale") 1323 (by decide +kernel) rfl⟩
theorem ml_X11_362 : MLk RX11 362 j_X3_shareOut.1 := Or.inr ⟨_, nw_at (w := Cond.methodLinkNest RX11 362 yX3_shareOut "RoofGale") 1332 (by decide +kernel) rfl⟩
theorem ml_X11_365 : MLk RX11 365 j_X3_mostShared.1 := Or.inr ⟨_, nw_at (w := Cond.methodLinkNest RX11 365 yX3_mostShared "RoofGale") 1341 (by decide +kernel) rfl⟩
theorem ml_X11_384 : MLk RX11 384 j_X7_areWithin.1 := Or.inr ⟨_, nw_at (w := Cond.methodLinkNest RX11 384 yX7_areWithin "RoofGale") 1357 (by decide +kernel) rfl⟩
def f_X11_wind (M : Mm) (l0 : Option Nat) (l1 : Int32) (l2 : Int32) : Option (Int32 × Mm) := gfR M l0 11 7 fun v3 => gfI M v3 4 5 fun v6 => bd (f_X11_within M l1 0 (v6 - 1)) fun v11 M11 => if v11 = 0 then (ck M11 l0 11 <| bd (f_X11_none M11 l0 2) fun v19 M19 => some (v19, M19)) else (if l2 = 0 then (gfR M11 l0 11 7 fun v54 => gfR M11 v54 4 2 fun v57 => alR M11 v57 38 l1 fun v61 => gfI M11 v61 8 1 fun v62 => ck M11 l0 11 <| bd (f_X11_answer M11 l0 v62) fun v65 M65 => some (v65, M65)) else if l2 = 1 then (gfR M11 l0 11 7 fun v71 => gfR M11 v71 4 2 fun v74 => alR M11 v74 38 l1 fun v78 => gfI M11 v78 8 2 fun v79 => ck M11 l0 11 <| bd (f_X11_answer M11 l0 v79) fun v82 M82 => some (v82, M82)) else (ck M11 l0 11 <| bd (f_X11_none M11 l0 5) fun v88 M88 => some (v88, M88)))
set_option maxHeartbeats 4000000 in
set_option maxRecDepth 100000 in
theorem t_X11_wind_e {G : GG} {X : CX} {ans : Int32 × Mm} (he : EndI G X j_X11_wind b_X11_wind ans) {M : Mm} {l0 : Option Nat} {l1 : Int32} {l2 : Int32} (h : f_X11_wind M l0 l1 l2 = some ans) : Wt G X j_X11_wind b_X11_wind 0 [(0, rf G.1 l0), (1, .int l1), (2, .int l2)] [] M 0 0 := by
  unfold f_X11_wind at h
  refine wt_iload_n (pc := 0) 1 dX11_wind_0 rfl ?_
  refine wt_iconst (pc := 1) (v := 0) dX11_wind_1 (by decide) ?_
  refine wt_aload_n (pc := 2) 0 dX11_wind_2 rfl ?_
  refine wt_getR (pc := 3) dX11_wind_3 fl_X11_37 (fun _ _ _ => rfl) h (fun v3 h => ?_)
  refine wt_getI (pc := 6) dX11_wind_6 fl_X11_194 (fun _ _ _ => rfl) h (fun v6 h => ?_)
  refine wt_iconst (pc := 9) (v := 1) dX11_wind_9 (by decide) ?_
  refine wt_isub (pc := 10) dX11_wind_10 ?_
  refine wt_cSI (pc := 11) (J' := j_X11_within) (As := [.int l1, .int 0, .int (v6 - 1)]) (st := []) (B' := b_X11_within) (u' := 0) (w' := 0) dX11_wind_11 ml_X11_105 ms_X11_within (fun v9 M9 e9 => c_X11_within e9) rfl (by decide) rfl rfl (by decide) (by decide) (by decide) rfl h (fun v11 M11 h => ?_)
  refine wt_if_ne (pc := 14) (tgt := 23) dX11_wind_14 (by decide) (fun q => ?_) (fun q => ?_)
  · have h := ite_f q h
    refine wt_iload_n (pc := 23) 2 dX11_wind_23 rfl ?_
    rcases Decidable.em (l2 = 0) with q24_0 | q24_0
    · have h := ite_t q24_0 h
      refine wt_lookup (pc := 24) (off := 28) (tgt := 52) dX11_wind_24 (by decide) (by rw [q24_0]; rfl) (by decide) ?_
      refine wt_aload_n (pc := 52) 0 dX11_wind_52 rfl ?_
      refine wt_aload_n (pc := 53) 0 dX11_wind_53 rfl ?_
      refine wt_getR (pc := 54) dX11_wind_54 fl_X11_37 (fun _ _ _ => rfl) h (fun v54 h => ?_)
      refine wt_getR (pc := 57) dX11_wind_57 fl_X11_277 (fun _ _ _ => rfl) h (fun v57 h => ?_)
      refine wt_iload_n (pc := 60) 1 dX11_wind_60 rfl ?_
      refine wt_aaload (pc := 61) (kd := 38) dX11_wind_61 rfl rfl (by decide) h (fun v61 h => ?_)
      refine wt_getI (pc := 62) dX11_wind_62 fl_X11_281 (fun _ _ _ => rfl) h (fun v62 h => ?_)
      refine wt_cVI (pc := 65) (J' := j_X11_answer) (As := [.int v62]) (st := []) (B' := b_X11_answer) (u' := 0) (w' := 0) dX11_wind_65 ml_X11_176 mv_X11_answer (fun v9 M9 e9 => c_X11_answer e9) rfl (by decide) rfl rfl (by decide) (by decide) (by decide) rfl h (fun v65 M65 h => ?_)
      cases h
      exact he 68 _ _ _ dX11_wind_68 (by decide) (by decide)
    have h := ite_f q24_0 h
    rcases Decidable.em (l2 = 1) with q24_1 | q24_1
    · have h := ite_t q24_1 h
      refine wt_lookup (pc := 24) (off := 45) (tgt := 69) dX11_wind_24 (by decide) (by rw [q24_1]; rfl) (by decide) ?_
      refine wt_aload_n (pc := 69) 0 dX11_wind_69 rfl ?_
      refine wt_aload_n (pc := 70) 0 dX11_wind_70 rfl ?_
      refine wt_getR (pc := 71) dX11_wind_71 fl_X11_37 (fun _ _ _ => rfl) h (fun v71 h => ?_)
      refine wt_getR (pc := 74) dX11_wind_74 fl_X11_277 (fun _ _ _ => rfl) h (fun v74 h => ?_)
      refine wt_iload_n (pc := 77) 1 dX11_wind_77 rfl ?_
      refine wt_aaload (pc := 78) (kd := 38) dX11_wind_78 rfl rfl (by decide) h (fun v78 h => ?_)
      refine wt_getI (pc := 79) dX11_wind_79 fl_X11_286 (fun _ _ _ => rfl) h (fun v79 h => ?_)
      refine wt_cVI (pc := 82) (J' := j_X11_answer) (As := [.int v79]) (st := []) (B' := b_X11_answer) (u' := 0) (w' := 0) dX11_wind_82 ml_X11_176 mv_X11_answer (fun v9 M9 e9 => c_X11_answer e9) rfl (by decide) rfl rfl (by decide) (by decide) (by decide) rfl h (fun v82 M82 h => ?_)
      cases h
      exact he 85 _ _ _ dX11_wind_85 (by decide) (by decide)
    have h := ite_f q24_1 h
    refine wt_lookup (pc := 24) (off := 62) (tgt := 86) dX11_wind_24 (by decide) ((lv_osw (a := 0) q24_0 (by decide)).trans ((lv_osw (a := 1) q24_1 (by decide)).trans rfl)) (by decide) ?_
    refine wt_aload_n (pc := 86) 0 dX11_wind_86 rfl ?_
    refine wt_iconst (pc := 87) (v := 5) dX11_wind_87 (by decide) ?_
    refine wt_cVI (pc := 88) (J' := j_X11_none) (As := [.int 5]) (st := []) (B' := b_X11_none) (u' := 0) (w' := 0) dX11_wind_88 ml_X11_131 mv_X11_none (fun v9 M9 e9 => c_X11_none e9) rfl (by decide) rfl rfl (by decide) (by decide) (by decide) rfl h (fun v88 M88 h => ?_)
    cases h
    exact he 91 _ _ _ dX11_wind_91 (by decide) (by decide)
  · have h := ite_t q h
    refine wt_aload_n (pc := 17) 0 dX11_wind_17 rfl ?_
    refine wt_iconst (pc := 18) (v := 2) dX11_wind_18 (by decide) ?_
    refine wt_cVI (pc := 19) (J' := j_X11_none) (As := [.int 2]) (st := []) (B' := b_X11_none) (u' := 0) (w' := 0) dX11_wind_19 ml_X11_131 mv_X11_none (fun v9 M9 e9 => c_X11_none e9) rfl (by decide) rfl rfl (by decide) (by decide) (by decide) rfl h (fun v19 M19 h => ?_)
    cases h
    exact he 22 _ _ _ dX11_wind_22 (by decide) (by decide)
set_option maxHeartbeats 4000000 in
set_option maxRecDepth 100000 in
theorem c_X11_wind {G : GG} {M : Mm} {l0 : Option Nat} {l1 : Int32} {l2 : Int32} {r : Int32 × Mm} (h : f_X11_wind M l0 l1 l2 = some r) (l : Launch) : Ct l G j_X11_wind b_X11_wind [rf G.1 l0, .int l1, .int l2] M (some (.int r.1)) r.2 := cf_I (by decide +kernel) (by simp [lg_sl, rf_cat, cat_i, cat_l, j_X11_wind]) rfl (by simp [lv_args, rf_cat, cat_i, cat_l]) (fun X he => t_X11_wind_e he h)
def f_X11_helped_16 (M : Mm) (l0 : Option Nat) : Option (Int32 × Mm) := ck M l0 11 <| bd (f_X11_none M l0 2) fun v18 M18 => some (v18, M18)
def f_X11_helped (M : Mm) (l0 : Option Nat) (l1 : Int32) (l2 : Int32) : Option (Int32 × Mm) := ck M l0 11 <| bd (f_X11_isHouse M l0 l1) fun v2 M2 => if v2 = 0 then (f_X11_helped_16  M2 l0) else (ck M2 l0 11 <| bd (f_X11_isHouse M2 l0 l2) fun v10 M10 => if v10 = 0 then (f_X11_helped_16  M10 l0) else (if l1 = l2 then (ck M10 l0 11 <| bd (f_X11_none M10 l0 5) fun v29 M29 => some (v29, M29)) else (gfR M10 l0 11 7 fun v35 => gfR M10 v35 4 6 fun v38 => alR M10 v38 50 l1 fun v42 => alI M10 v42 21 l2 fun v44 => ck M10 l0 11 <| bd (f_X11_answer M10 l0 v44) fun v45 M45 => some (v45, M45))))
set_option maxHeartbeats 4000000 in
set_option maxRecDepth 100000 in
theorem t_X11_helped_16 {G : GG} {X : CX} {ans : Int32 × Mm} (he : EndI G X j_X11_helped b_X11_helped ans) {M : Mm} {l0 : Option Nat} (h : f_X11_helped_16 M l0 = some ans) : Wt G X j_X11_helped b_X11_helped 16 [(0, rf G.1 l0)] [] M 0 0 := by
  unfold f_X11_helped_16 at h
  refine wt_aload_n (pc := 16) 0 dX11_helped_16 rfl ?_
  refine wt_iconst (pc := 17) (v := 2) dX11_helped_17 (by decide) ?_
  refine wt_cVI (pc := 18) (J' := j_X11_none) (As := [.int 2]) (st := []) (B' := b_X11_none) (u' := 0) (w' := 0) dX11_helped_18 ml_X11_131 mv_X11_none (fun v9 M9 e9 => c_X11_none e9) rfl (by decide) rfl rfl (by decide) (by decide) (by decide) rfl h (fun v18 M18 h => ?_)
  cases h
  exact he 21 _ _ _ dX11_helped_21 (by decide) (by decide)
set_option maxHeartbeats 4000000 in
set_option maxRecDepth 100000 in
theorem t_X11_helped_e {G : GG} {X : CX} {ans : Int32 × Mm} (he : EndI G X j_X11_helped b_X11_helped ans) {M : Mm} {l0 : Option Nat} {l1 : Int32} {l2 : Int32} (h : f_X11_helped M l0 l1 l2 = some ans) : Wt G X j_X11_helped b_X11_helped 0 [(0, rf G.1 l0), (1, .int l1), (2, .int l2)] [] M 0 0 := by
  unfold f_X11_helped at h
  refine wt_aload_n (pc := 0) 0 dX11_helped_0 rfl ?_
  refine wt_iload_n (pc := 1) 1 dX11_helped_1 rfl ?_
  refine wt_cVI (pc := 2) (J' := j_X11_isHouse) (As := [.int l1]) (st := []) (B' := b_X11_isHouse) (u' := 0) (w' := 0) dX11_helped_2 ml_X11_216 mv_X11_isHouse (fun v9 M9 e9 => c_X11_isHouse e9) rfl (by decide) rfl rfl (by decide) (by decide) (by decide) rfl h (fun v2 M2 h => ?_)
  refine wt_if_eq (pc := 5) (tgt := 16) dX11_helped_5 (by decide) (fun q => ?_) (fun q => ?_)
  · have h := ite_t q h
    refine wt_sub (ls' := [(0, rf G.1 l0)]) [0] rfl ?_
    exact t_X11_helped_16 he  h
  · have h := ite_f q h
    refine wt_aload_n (pc := 8) 0 dX11_helped_8 rfl ?_
    refine wt_iload_n (pc := 9) 2 dX11_helped_9 rfl ?_
    refine wt_cVI (pc := 10) (J' := j_X11_isHouse) (As := [.int l2]) (st := []) (B' := b_X11_isHouse) (u' := 0) (w' := 0) dX11_helped_10 ml_X11_216 mv_X11_isHouse (fun v9 M9 e9 => c_X11_isHouse e9) rfl (by decide) rfl rfl (by decide) (by decide) (by decide) rfl h (fun v10 M10 h => ?_)
    refine wt_if_ne (pc := 13) (tgt := 22) dX11_helped_13 (by decide) (fun q => ?_) (fun q => ?_)
    · have h := ite_f q h
      refine wt_iload_n (pc := 22) 1 dX11_helped_22 rfl ?_
      refine wt_iload_n (pc := 23) 2 dX11_helped_23 rfl ?_
      refine wt_icmp_ne (pc := 24) (tgt := 33) dX11_helped_24 (by decide) (fun q => ?_) (fun q => ?_)
      · have h := ite_f q h
        refine wt_aload_n (pc := 33) 0 dX11_helped_33 rfl ?_
        refine wt_aload_n (pc := 34) 0 dX11_helped_34 rfl ?_
        refine wt_getR (pc := 35) dX11_helped_35 fl_X11_37 (fun _ _ _ => rfl) h (fun v35 h => ?_)
        refine wt_getR (pc := 38) dX11_helped_38 fl_X11_289 (fun _ _ _ => rfl) h (fun v38 h => ?_)
        refine wt_iload_n (pc := 41) 1 dX11_helped_41 rfl ?_
        refine wt_aaload (pc := 42) (kd := 50) dX11_helped_42 rfl rfl (by decide) h (fun v42 h => ?_)
        refine wt_iload_n (pc := 43) 2 dX11_helped_43 rfl ?_
        refine wt_iaload (pc := 44) (kd := 21) dX11_helped_44 rfl rfl h (fun v44 h => ?_)
        refine wt_cVI (pc := 45) (J' := j_X11_answer) (As := [.int v44]) (st := []) (B' := b_X11_answer) (u' := 0) (w' := 0) dX11_helped_45 ml_X11_176 mv_X11_answer (fun v9 M9 e9 => c_X11_answer e9) rfl (by decide) rfl rfl (by decide) (by decide) (by decide) rfl h (fun v45 M45 h => ?_)
        cases h
        exact he 48 _ _ _ dX11_helped_48 (by decide) (by decide)
      · have h := ite_t q h
        refine wt_aload_n (pc := 27) 0 dX11_helped_27 rfl ?_
        refine wt_iconst (pc := 28) (v := 5) dX11_helped_28 (by decide) ?_
        refine wt_cVI (pc := 29) (J' := j_X11_none) (As := [.int 5]) (st := []) (B' := b_X11_none) (u' := 0) (w' := 0) dX11_helped_29 ml_X11_131 mv_X11_none (fun v9 M9 e9 => c_X11_none e9) rfl (by decide) rfl rfl (by decide) (by decide) (by decide) rfl h (fun v29 M29 h => ?_)
        cases h
        exact he 32 _ _ _ dX11_helped_32 (by decide) (by decide)
    · have h := ite_t q h
      refine wt_sub (ls' := [(0, rf G.1 l0)]) [0] rfl ?_
      exact t_X11_helped_16 he  h
set_option maxHeartbeats 4000000 in
set_option maxRecDepth 100000 in
theorem c_X11_helped {G : GG} {M : Mm} {l0 : Option Nat} {l1 : Int32} {l2 : Int32} {r : Int32 × Mm} (h : f_X11_helped M l0 l1 l2 = some r) (l : Launch) : Ct l G j_X11_helped b_X11_helped [rf G.1 l0, .int l1, .int l2] M (some (.int r.1)) r.2 := cf_I (by decide +kernel) (by simp [lg_sl, rf_cat, cat_i, cat_l, j_X11_helped]) rfl (by simp [lv_args, rf_cat, cat_i, cat_l]) (fun X he => t_X11_helped_e he h)
def f_X11_takes_16 (M : Mm) (l0 : Option Nat) : Option (Int32 × Mm) := ck M l0 11 <| bd (f_X11_none M l0 2) fun v18 M18 => some (v18, M18)
def f_X11_takes (M : Mm) (l0 : Option Nat) (l1 : Int32) (l2 : Int32) : Option (Int32 × Mm) := ck M l0 11 <| bd (f_X11_isGang M l0 l1) fun v2 M2 => if v2 = 0 then (f_X11_takes_16  M2 l0) else (ck M2 l0 11 <| bd (f_X11_isHouse M2 l0 l2) fun v10 M10 => if v10 = 0 then (f_X11_takes_16  M10 l0) else (gfR M10 l0 11 7 fun v24 => gfR M10 v24 4 1 fun v27 => alR M10 v27 30 l1 fun v31 => gfR M10 l0 11 7 fun v33 => gfR M10 v33 4 0 fun v36 => alR M10 v36 31 l2 fun v40 => ck M10 v31 0 <| bd (f_X0_pieceMinutes M10 v31 v40) fun v41 M41 => ck M41 l0 11 <| bd (f_X11_answer M41 l0 v41) fun v44 M44 => some (v44, M44)))
set_option maxHeartbeats 4000000 in
set_option maxRecDepth 100000 in
theorem t_X11_takes_16 {G : GG} {X : CX} {ans : Int32 × Mm} (he : EndI G X j_X11_takes b_X11_takes ans) {M : Mm} {l0 : Option Nat} (h : f_X11_takes_16 M l0 = some ans) : Wt G X j_X11_takes b_X11_takes 16 [(0, rf G.1 l0)] [] M 0 0 := by
  unfold f_X11_takes_16 at h
  refine wt_aload_n (pc := 16) 0 dX11_takes_16 rfl ?_
  refine wt_iconst (pc := 17) (v := 2) dX11_takes_17 (by decide) ?_
  refine wt_cVI (pc := 18) (J' := j_X11_none) (As := [.int 2]) (st := []) (B' := b_X11_none) (u' := 0) (w' := 0) dX11_takes_18 ml_X11_131 mv_X11_none (fun v9 M9 e9 => c_X11_none e9) rfl (by decide) rfl rfl (by decide) (by decide) (by decide) rfl h (fun v18 M18 h => ?_)
  cases h
  exact he 21 _ _ _ dX11_takes_21 (by decide) (by decide)
set_option maxHeartbeats 4000000 in
set_option maxRecDepth 100000 in
theorem t_X11_takes_e {G : GG} {X : CX} {ans : Int32 × Mm} (he : EndI G X j_X11_takes b_X11_takes ans) {M : Mm} {l0 : Option Nat} {l1 : Int32} {l2 : Int32} (h : f_X11_takes M l0 l1 l2 = some ans) : Wt G X j_X11_takes b_X11_takes 0 [(0, rf G.1 l0), (1, .int l1), (2, .int l2)] [] M 0 0 := by
  unfold f_X11_takes at h
  refine wt_aload_n (pc := 0) 0 dX11_takes_0 rfl ?_
  refine wt_iload_n (pc := 1) 1 dX11_takes_1 rfl ?_
  refine wt_cVI (pc := 2) (J' := j_X11_isGang) (As := [.int l1]) (st := []) (B' := b_X11_isGang) (u' := 0) (w' := 0) dX11_takes_2 ml_X11_252 mv_X11_isGang (fun v9 M9 e9 => c_X11_isGang e9) rfl (by decide) rfl rfl (by decide) (by decide) (by decide) rfl h (fun v2 M2 h => ?_)
  refine wt_if_eq (pc := 5) (tgt := 16) dX11_takes_5 (by decide) (fun q => ?_) (fun q => ?_)
  · have h := ite_t q h
    refine wt_sub (ls' := [(0, rf G.1 l0)]) [0] rfl ?_
    exact t_X11_takes_16 he  h
  · have h := ite_f q h
    refine wt_aload_n (pc := 8) 0 dX11_takes_8 rfl ?_
    refine wt_iload_n (pc := 9) 2 dX11_takes_9 rfl ?_
    refine wt_cVI (pc := 10) (J' := j_X11_isHouse) (As := [.int l2]) (st := []) (B' := b_X11_isHouse) (u' := 0) (w' := 0) dX11_takes_10 ml_X11_216 mv_X11_isHouse (fun v9 M9 e9 => c_X11_isHouse e9) rfl (by decide) rfl rfl (by decide) (by decide) (by decide) rfl h (fun v10 M10 h => ?_)
    refine wt_if_ne (pc := 13) (tgt := 22) dX11_takes_13 (by decide) (fun q => ?_) (fun q => ?_)
    · have h := ite_f q h
      refine wt_aload_n (pc := 22) 0 dX11_takes_22 rfl ?_
      refine wt_aload_n (pc := 23) 0 dX11_takes_23 rfl ?_
      refine wt_getR (pc := 24) dX11_takes_24 fl_X11_37 (fun _ _ _ => rfl) h (fun v24 h => ?_)
      refine wt_getR (pc := 27) dX11_takes_27 fl_X11_255 (fun _ _ _ => rfl) h (fun v27 h => ?_)
      refine wt_iload_n (pc := 30) 1 dX11_takes_30 rfl ?_
      refine wt_aaload (pc := 31) (kd := 30) dX11_takes_31 rfl rfl (by decide) h (fun v31 h => ?_)
      refine wt_aload_n (pc := 32) 0 dX11_takes_32 rfl ?_
      refine wt_getR (pc := 33) dX11_takes_33 fl_X11_37 (fun _ _ _ => rfl) h (fun v33 h => ?_)
      refine wt_getR (pc := 36) dX11_takes_36 fl_X11_219 (fun _ _ _ => rfl) h (fun v36 h => ?_)
      refine wt_iload_n (pc := 39) 2 dX11_takes_39 rfl ?_
      refine wt_aaload (pc := 40) (kd := 31) dX11_takes_40 rfl rfl (by decide) h (fun v40 h => ?_)
      refine wt_cVI (pc := 41) (J' := j_X0_pieceMinutes) (As := [rf G.1 v40]) (st := [rf G.1 l0]) (B' := b_X0_pieceMinutes) (u' := 0) (w' := 0) dX11_takes_41 ml_X11_293 mv_X0_pieceMinutes (fun v9 M9 e9 => c_X0_pieceMinutes e9) rfl (by decide) rfl rfl (by decide) (by decide) (by simp [rf_cat, cat_i, cat_l, cat_r]) rfl h (fun v41 M41 h => ?_)
      refine wt_cVI (pc := 44) (J' := j_X11_answer) (As := [.int v41]) (st := []) (B' := b_X11_answer) (u' := 0) (w' := 0) dX11_takes_44 ml_X11_176 mv_X11_answer (fun v9 M9 e9 => c_X11_answer e9) rfl (by decide) rfl rfl (by decide) (by decide) (by decide) rfl h (fun v44 M44 h => ?_)
      cases h
      exact he 47 _ _ _ dX11_takes_47 (by decide) (by decide)
    · have h := ite_t q h
      refine wt_sub (ls' := [(0, rf G.1 l0)]) [0] rfl ?_
      exact t_X11_takes_16 he  h
set_option maxHeartbeats 4000000 in
set_option maxRecDepth 100000 in
theorem c_X11_takes {G : GG} {M : Mm} {l0 : Option Nat} {l1 : Int32} {l2 : Int32} {r : Int32 × Mm} (h : f_X11_takes M l0 l1 l2 = some r) (l : Launch) : Ct l G j_X11_takes b_X11_takes [rf G.1 l0, .int l1, .int l2] M (some (.int r.1)) r.2 := cf_I (by decide +kernel) (by simp [lg_sl, rf_cat, cat_i, cat_l, j_X11_takes]) rfl (by simp [lv_args, rf_cat, cat_i, cat_l]) (fun X he => t_X11_takes_e he h)
def f_X11_walk_16 (M : Mm) (l0 : Option Nat) : Option (Int32 × Mm) := ck M l0 11 <| bd (f_X11_none M l0 2) fun v18 M18 => some (v18, M18)
def f_X11_walk (M : Mm) (l0 : Option Nat) (l1 : Int32) (l2 : Int32) : Option (Int32 × Mm) := ck M l0 11 <| bd (f_X11_isGang M l0 l1) fun v2 M2 => if v2 = 0 then (f_X11_walk_16  M2 l0) else (ck M2 l0 11 <| bd (f_X11_isHouse M2 l0 l2) fun v10 M10 => if v10 = 0 then (f_X11_walk_16  M10 l0) else (gfR M10 l0 11 7 fun v24 => gfR M10 v24 4 1 fun v27 => alR M10 v27 30 l1 fun v31 => gfR M10 l0 11 7 fun v33 => gfR M10 v33 4 0 fun v36 => alR M10 v36 31 l2 fun v40 => ck M10 v31 0 <| bd (f_X0_wayMinutes M10 v31 v40) fun v41 M41 => ck M41 l0 11 <| bd (f_X11_answer M41 l0 v41) fun v44 M44 => some (v44, M44)))
set_option maxHeartbeats 4000000 in
set_option maxRecDepth 100000 in
theorem t_X11_walk_16 {G : GG} {X : CX} {ans : Int32 × Mm} (he : EndI G X j_X11_walk b_X11_walk ans) {M : Mm} {l0 : Option Nat} (h : f_X11_walk_16 M l0 = some ans) : Wt G X j_X11_walk b_X11_walk 16 [(0, rf G.1 l0)] [] M 0 0 := by
  unfold f_X11_walk_16 at h
  refine wt_aload_n (pc := 16) 0 dX11_walk_16 rfl ?_
  refine wt_iconst (pc := 17) (v := 2) dX11_walk_17 (by decide) ?_
  refine wt_cVI (pc := 18) (J' := j_X11_none) (As := [.int 2]) (st := []) (B' := b_X11_none) (u' := 0) (w' := 0) dX11_walk_18 ml_X11_131 mv_X11_none (fun v9 M9 e9 => c_X11_none e9) rfl (by decide) rfl rfl (by decide) (by decide) (by decide) rfl h (fun v18 M18 h => ?_)
  cases h
  exact he 21 _ _ _ dX11_walk_21 (by decide) (by decide)
set_option maxHeartbeats 4000000 in
set_option maxRecDepth 100000 in
theorem t_X11_walk_e {G : GG} {X : CX} {ans : Int32 × Mm} (he : EndI G X j_X11_walk b_X11_walk ans) {M : Mm} {l0 : Option Nat} {l1 : Int32} {l2 : Int32} (h : f_X11_walk M l0 l1 l2 = some ans) : Wt G X j_X11_walk b_X11_walk 0 [(0, rf G.1 l0), (1, .int l1), (2, .int l2)] [] M 0 0 := by
  unfold f_X11_walk at h
  refine wt_aload_n (pc := 0) 0 dX11_walk_0 rfl ?_
  refine wt_iload_n (pc := 1) 1 dX11_walk_1 rfl ?_
  refine wt_cVI (pc := 2) (J' := j_X11_isGang) (As := [.int l1]) (st := []) (B' := b_X11_isGang) (u' := 0) (w' := 0) dX11_walk_2 ml_X11_252 mv_X11_isGang (fun v9 M9 e9 => c_X11_isGang e9) rfl (by decide) rfl rfl (by decide) (by decide) (by decide) rfl h (fun v2 M2 h => ?_)
  refine wt_if_eq (pc := 5) (tgt := 16) dX11_walk_5 (by decide) (fun q => ?_) (fun q => ?_)
  · have h := ite_t q h
    refine wt_sub (ls' := [(0, rf G.1 l0)]) [0] rfl ?_
    exact t_X11_walk_16 he  h
  · have h := ite_f q h
    refine wt_aload_n (pc := 8) 0 dX11_walk_8 rfl ?_
    refine wt_iload_n (pc := 9) 2 dX11_walk_9 rfl ?_
    refine wt_cVI (pc := 10) (J' := j_X11_isHouse) (As := [.int l2]) (st := []) (B' := b_X11_isHouse) (u' := 0) (w' := 0) dX11_walk_10 ml_X11_216 mv_X11_isHouse (fun v9 M9 e9 => c_X11_isHouse e9) rfl (by decide) rfl rfl (by decide) (by decide) (by decide) rfl h (fun v10 M10 h => ?_)
    refine wt_if_ne (pc := 13) (tgt := 22) dX11_walk_13 (by decide) (fun q => ?_) (fun q => ?_)
    · have h := ite_f q h
      refine wt_aload_n (pc := 22) 0 dX11_walk_22 rfl ?_
      refine wt_aload_n (pc := 23) 0 dX11_walk_23 rfl ?_
      refine wt_getR (pc := 24) dX11_walk_24 fl_X11_37 (fun _ _ _ => rfl) h (fun v24 h => ?_)
      refine wt_getR (pc := 27) dX11_walk_27 fl_X11_255 (fun _ _ _ => rfl) h (fun v27 h => ?_)
      refine wt_iload_n (pc := 30) 1 dX11_walk_30 rfl ?_
      refine wt_aaload (pc := 31) (kd := 30) dX11_walk_31 rfl rfl (by decide) h (fun v31 h => ?_)
      refine wt_aload_n (pc := 32) 0 dX11_walk_32 rfl ?_
      refine wt_getR (pc := 33) dX11_walk_33 fl_X11_37 (fun _ _ _ => rfl) h (fun v33 h => ?_)
      refine wt_getR (pc := 36) dX11_walk_36 fl_X11_219 (fun _ _ _ => rfl) h (fun v36 h => ?_)
      refine wt_iload_n (pc := 39) 2 dX11_walk_39 rfl ?_
      refine wt_aaload (pc := 40) (kd := 31) dX11_walk_40 rfl rfl (by decide) h (fun v40 h => ?_)
      refine wt_cVI (pc := 41) (J' := j_X0_wayMinutes) (As := [rf G.1 v40]) (st := [rf G.1 l0]) (B' := b_X0_wayMinutes) (u' := 0) (w' := 0) dX11_walk_41 ml_X11_297 mv_X0_wayMinutes (fun v9 M9 e9 => c_X0_wayMinutes e9) rfl (by decide) rfl rfl (by decide) (by decide) (by simp [rf_cat, cat_i, cat_l, cat_r]) rfl h (fun v41 M41 h => ?_)
      refine wt_cVI (pc := 44) (J' := j_X11_answer) (As := [.int v41]) (st := []) (B' := b_X11_answer) (u' := 0) (w' := 0) dX11_walk_44 ml_X11_176 mv_X11_answer (fun v9 M9 e9 => c_X11_answer e9) rfl (by decide) rfl rfl (by decide) (by decide) (by decide) rfl h (fun v44 M44 h => ?_)
      cases h
      exact he 47 _ _ _ dX11_walk_47 (by decide) (by decide)
    · have h := ite_t q h
      refine wt_sub (ls' := [(0, rf G.1 l0)]) [0] rfl ?_
      exact t_X11_walk_16 he  h
set_option maxHeartbeats 4000000 in
set_option maxRecDepth 100000 in
theorem c_X11_walk {G : GG} {M : Mm} {l0 : Option Nat} {l1 : Int32} {l2 : Int32} {r : Int32 × Mm} (h : f_X11_walk M l0 l1 l2 = some r) (l : Launch) : Ct l G j_X11_walk b_X11_walk [rf G.1 l0, .int l1, .int l2] M (some (.int r.1)) r.2 := cf_I (by decide +kernel) (by simp [lg_sl, rf_cat, cat_i, cat_l, j_X11_walk]) rfl (by simp [lv_args, rf_cat, cat_i, cat_l]) (fun X he => t_X11_walk_e he h)
def f_X11_next (M : Mm) (l0 : Option Nat) (l1 : Int32) : Option (Int32 × Mm) := ck M l0 11 <| bd (f_X11_isGang M l0 l1) fun v2 M2 => if v2 = 0 then (ck M2 l0 11 <| bd (f_X11_none M2 l0 2) fun v10 M10 => some (v10, M10)) else (gfR M2 l0 11 7 fun v15 => gfR M2 v15 4 1 fun v18 => alR M2 v18 30 l1 fun v22 => gfI M2 v22 0 5 fun v23 => if v23 = (-1) then (gfR M2 l0 11 7 fun v38 => ck M2 v38 4 <| bd (f_X4_firstByLaw M2 v38 l1) fun v42 M42 => if v42 = (-1) then (ck M42 l0 11 <| bd (f_X11_none M42 l0 8) fun v54 M54 => some (v54, M54)) else (ck M42 l0 11 <| bd (f_X11_answer M42 l0 v42) fun v62 M62 => some (v62, M62))) else (ck M2 l0 11 <| bd (f_X11_none M2 l0 9) fun v33 M33 => some (v33, M33)))
set_option maxHeartbeats 4000000 in
set_option maxRecDepth 100000 in
theorem t_X11_next_e {G : GG} {X : CX} {ans : Int32 × Mm} (he : EndI G X j_X11_next b_X11_next ans) {M : Mm} {l0 : Option Nat} {l1 : Int32} (h : f_X11_next M l0 l1 = some ans) : Wt G X j_X11_next b_X11_next 0 [(0, rf G.1 l0), (1, .int l1)] [] M 0 0 := by
  unfold f_X11_next at h
  refine wt_aload_n (pc := 0) 0 dX11_next_0 rfl ?_
  refine wt_iload_n (pc := 1) 1 dX11_next_1 rfl ?_
  refine wt_cVI (pc := 2) (J' := j_X11_isGang) (As := [.int l1]) (st := []) (B' := b_X11_isGang) (u' := 0) (w' := 0) dX11_next_2 ml_X11_252 mv_X11_isGang (fun v9 M9 e9 => c_X11_isGang e9) rfl (by decide) rfl rfl (by decide) (by decide) (by decide) rfl h (fun v2 M2 h => ?_)
  refine wt_if_ne (pc := 5) (tgt := 14) dX11_next_5 (by decide) (fun q => ?_) (fun q => ?_)
  · have h := ite_f q h
    refine wt_aload_n (pc := 14) 0 dX11_next_14 rfl ?_
    refine wt_getR (pc := 15) dX11_next_15 fl_X11_37 (fun _ _ _ => rfl) h (fun v15 h => ?_)
    refine wt_getR (pc := 18) dX11_next_18 fl_X11_255 (fun _ _ _ => rfl) h (fun v18 h => ?_)
    refine wt_iload_n (pc := 21) 1 dX11_next_21 rfl ?_
    refine wt_aaload (pc := 22) (kd := 30) dX11_next_22 rfl rfl (by decide) h (fun v22 h => ?_)
    refine wt_getI (pc := 23) dX11_next_23 fl_X11_271 (fun _ _ _ => rfl) h (fun v23 h => ?_)
    refine wt_iconst (pc := 26) (v := (-1)) dX11_next_26 (by decide) ?_
    refine wt_icmp_eq (pc := 27) (tgt := 37) dX11_next_27 (by decide) (fun q => ?_) (fun q => ?_)
    · have h := ite_t q h
      refine wt_aload_n (pc := 37) 0 dX11_next_37 rfl ?_
      refine wt_getR (pc := 38) dX11_next_38 fl_X11_37 (fun _ _ _ => rfl) h (fun v38 h => ?_)
      refine wt_iload_n (pc := 41) 1 dX11_next_41 rfl ?_
      refine wt_cVI (pc := 42) (J' := j_X4_firstByLaw) (As := [.int l1]) (st := []) (B' := b_X4_firstByLaw) (u' := 0) (w' := 0) dX11_next_42 ml_X11_300 mv_X4_firstByLaw (fun v9 M9 e9 => c_X4_firstByLaw e9) rfl (by decide) rfl rfl (by decide) (by decide) (by decide) rfl h (fun v42 M42 h => ?_)
      refine wt_istore_n (pc := 45) (i := 2) (ls' := [(2, .int v42), (0, rf G.1 l0), (1, .int l1)]) rfl dX11_next_45 (by decide) rfl ?_
      refine wt_iload_n (pc := 46) 0 dX11_next_46 rfl ?_
      refine wt_iconst (pc := 47) (v := (-1)) dX11_next_47 (by decide) ?_
      refine wt_icmp_ne (pc := 48) (tgt := 60) dX11_next_48 (by decide) (fun q => ?_) (fun q => ?_)
      · have h := ite_f q h
        refine wt_aload_n (pc := 60) 1 dX11_next_60 rfl ?_
        refine wt_iload_n (pc := 61) 0 dX11_next_61 rfl ?_
        refine wt_cVI (pc := 62) (J' := j_X11_answer) (As := [.int v42]) (st := []) (B' := b_X11_answer) (u' := 0) (w' := 0) dX11_next_62 ml_X11_176 mv_X11_answer (fun v9 M9 e9 => c_X11_answer e9) rfl (by decide) rfl rfl (by decide) (by decide) (by decide) rfl h (fun v62 M62 h => ?_)
        cases h
        exact he 65 _ _ _ dX11_next_65 (by decide) (by decide)
      · have h := ite_t q h
        refine wt_aload_n (pc := 51) 1 dX11_next_51 rfl ?_
        refine wt_bipush (pc := 52) (v := 8) dX11_next_52 (by decide) ?_
        refine wt_cVI (pc := 54) (J' := j_X11_none) (As := [.int 8]) (st := []) (B' := b_X11_none) (u' := 0) (w' := 0) dX11_next_54 ml_X11_131 mv_X11_none (fun v9 M9 e9 => c_X11_none e9) rfl (by decide) rfl rfl (by decide) (by decide) (by decide) rfl h (fun v54 M54 h => ?_)
        refine wt_goto (pc := 57) (tgt := 65) dX11_next_57 (by decide) ?_
        cases h
        exact he 65 _ _ _ dX11_next_65 (by decide) (by decide)
    · have h := ite_f q h
      refine wt_aload_n (pc := 30) 0 dX11_next_30 rfl ?_
      refine wt_bipush (pc := 31) (v := 9) dX11_next_31 (by decide) ?_
      refine wt_cVI (pc := 33) (J' := j_X11_none) (As := [.int 9]) (st := []) (B' := b_X11_none) (u' := 0) (w' := 0) dX11_next_33 ml_X11_131 mv_X11_none (fun v9 M9 e9 => c_X11_none e9) rfl (by decide) rfl rfl (by decide) (by decide) (by decide) rfl h (fun v33 M33 h => ?_)
      cases h
      exact he 36 _ _ _ dX11_next_36 (by decide) (by decide)
  · have h := ite_t q h
    refine wt_aload_n (pc := 8) 0 dX11_next_8 rfl ?_
    refine wt_iconst (pc := 9) (v := 2) dX11_next_9 (by decide) ?_
    refine wt_cVI (pc := 10) (J' := j_X11_none) (As := [.int 2]) (st := []) (B' := b_X11_none) (u' := 0) (w' := 0) dX11_next_10 ml_X11_131 mv_X11_none (fun v9 M9 e9 => c_X11_none e9) rfl (by decide) rfl rfl (by decide) (by decide) (by decide) rfl h (fun v10 M10 h => ?_)
    cases h
    exact he 13 _ _ _ dX11_next_13 (by decide) (by decide)
set_option maxHeartbeats 4000000 in
set_option maxRecDepth 100000 in
theorem c_X11_next {G : GG} {M : Mm} {l0 : Option Nat} {l1 : Int32} {r : Int32 × Mm} (h : f_X11_next M l0 l1 = some r) (l : Launch) : Ct l G j_X11_next b_X11_next [rf G.1 l0, .int l1] M (some (.int r.1)) r.2 := cf_I (by decide +kernel) (by simp [lg_sl, rf_cat, cat_i, cat_l, j_X11_next]) rfl (by simp [lv_args, rf_cat, cat_i, cat_l]) (fun X he => t_X11_next_e he h)
def f_X11_lift_16 (M : Mm) (l0 : Option Nat) : Option (Int32 × Mm) := ck M l0 11 <| bd (f_X11_none M l0 2) fun v18 M18 => some (v18, M18)
def f_X11_lift (M : Mm) (l0 : Option Nat) (l1 : Int32) (l2 : Int32) : Option (Int32 × Mm) := ck M l0 11 <| bd (f_X11_isGang M l0 l1) fun v2 M2 => if v2 = 0 then (f_X11_lift_16  M2 l0) else (ck M2 l0 11 <| bd (f_X11_isHouse M2 l0 l2) fun v10 M10 => if v10 = 0 then (f_X11_lift_16  M10 l0) else (gfR M10 l0 11 7 fun v23 => ck M10 v23 4 <| bd (f_X4_canTake M10 v23 l1 l2) fun v28 M28 => if v28 = 0 then (ck M28 l0 11 <| bd (f_X11_none M28 l0 9) fun v37 M37 => some (v37, M37)) else (gfR M28 l0 11 7 fun v43 => ck M28 v43 4 <| bd (f_X4_take M28 v43 l1 l2) fun v48 M48 => ck M48 l0 11 <| bd (f_X11_answer M48 l0 v48) fun v51 M51 => some (v51, M51))))
set_option maxHeartbeats 4000000 in
set_option maxRecDepth 100000 in
theorem t_X11_lift_16 {G : GG} {X : CX} {ans : Int32 × Mm} (he : EndI G X j_X11_lift b_X11_lift ans) {M : Mm} {l0 : Option Nat} (h : f_X11_lift_16 M l0 = some ans) : Wt G X j_X11_lift b_X11_lift 16 [(0, rf G.1 l0)] [] M 0 0 := by
  unfold f_X11_lift_16 at h
  refine wt_aload_n (pc := 16) 0 dX11_lift_16 rfl ?_
  refine wt_iconst (pc := 17) (v := 2) dX11_lift_17 (by decide) ?_
  refine wt_cVI (pc := 18) (J' := j_X11_none) (As := [.int 2]) (st := []) (B' := b_X11_none) (u' := 0) (w' := 0) dX11_lift_18 ml_X11_131 mv_X11_none (fun v9 M9 e9 => c_X11_none e9) rfl (by decide) rfl rfl (by decide) (by decide) (by decide) rfl h (fun v18 M18 h => ?_)
  cases h
  exact he 21 _ _ _ dX11_lift_21 (by decide) (by decide)
set_option maxHeartbeats 4000000 in
set_option maxRecDepth 100000 in
theorem t_X11_lift_e {G : GG} {X : CX} {ans : Int32 × Mm} (he : EndI G X j_X11_lift b_X11_lift ans) {M : Mm} {l0 : Option Nat} {l1 : Int32} {l2 : Int32} (h : f_X11_lift M l0 l1 l2 = some ans) : Wt G X j_X11_lift b_X11_lift 0 [(0, rf G.1 l0), (1, .int l1), (2, .int l2)] [] M 0 0 := by
  unfold f_X11_lift at h
  refine wt_aload_n (pc := 0) 0 dX11_lift_0 rfl ?_
  refine wt_iload_n (pc := 1) 1 dX11_lift_1 rfl ?_
  refine wt_cVI (pc := 2) (J' := j_X11_isGang) (As := [.int l1]) (st := []) (B' := b_X11_isGang) (u' := 0) (w' := 0) dX11_lift_2 ml_X11_252 mv_X11_isGang (fun v9 M9 e9 => c_X11_isGang e9) rfl (by decide) rfl rfl (by decide) (by decide) (by decide) rfl h (fun v2 M2 h => ?_)
  refine wt_if_eq (pc := 5) (tgt := 16) dX11_lift_5 (by decide) (fun q => ?_) (fun q => ?_)
  · have h := ite_t q h
    refine wt_sub (ls' := [(0, rf G.1 l0)]) [0] rfl ?_
    exact t_X11_lift_16 he  h
  · have h := ite_f q h
    refine wt_aload_n (pc := 8) 0 dX11_lift_8 rfl ?_
    refine wt_iload_n (pc := 9) 2 dX11_lift_9 rfl ?_
    refine wt_cVI (pc := 10) (J' := j_X11_isHouse) (As := [.int l2]) (st := []) (B' := b_X11_isHouse) (u' := 0) (w' := 0) dX11_lift_10 ml_X11_216 mv_X11_isHouse (fun v9 M9 e9 => c_X11_isHouse e9) rfl (by decide) rfl rfl (by decide) (by decide) (by decide) rfl h (fun v10 M10 h => ?_)
    refine wt_if_ne (pc := 13) (tgt := 22) dX11_lift_13 (by decide) (fun q => ?_) (fun q => ?_)
    · have h := ite_f q h
      refine wt_aload_n (pc := 22) 0 dX11_lift_22 rfl ?_
      refine wt_getR (pc := 23) dX11_lift_23 fl_X11_37 (fun _ _ _ => rfl) h (fun v23 h => ?_)
      refine wt_iload_n (pc := 26) 1 dX11_lift_26 rfl ?_
      refine wt_iload_n (pc := 27) 2 dX11_lift_27 rfl ?_
      refine wt_cVI (pc := 28) (J' := j_X4_canTake) (As := [.int l1, .int l2]) (st := []) (B' := b_X4_canTake) (u' := 0) (w' := 0) dX11_lift_28 ml_X11_303 mv_X4_canTake (fun v9 M9 e9 => c_X4_canTake e9) rfl (by decide) rfl rfl (by decide) (by decide) (by decide) rfl h (fun v28 M28 h => ?_)
      refine wt_if_ne (pc := 31) (tgt := 41) dX11_lift_31 (by decide) (fun q => ?_) (fun q => ?_)
      · have h := ite_f q h
        refine wt_aload_n (pc := 41) 0 dX11_lift_41 rfl ?_
        refine wt_aload_n (pc := 42) 0 dX11_lift_42 rfl ?_
        refine wt_getR (pc := 43) dX11_lift_43 fl_X11_37 (fun _ _ _ => rfl) h (fun v43 h => ?_)
        refine wt_iload_n (pc := 46) 1 dX11_lift_46 rfl ?_
        refine wt_iload_n (pc := 47) 2 dX11_lift_47 rfl ?_
        refine wt_cVI (pc := 48) (J' := j_X4_take) (As := [.int l1, .int l2]) (st := [rf G.1 l0]) (B' := b_X4_take) (u' := 0) (w' := 0) dX11_lift_48 ml_X11_307 mv_X4_take (fun v9 M9 e9 => c_X4_take e9) rfl (by decide) rfl rfl (by decide) (by decide) (by simp [rf_cat, cat_i, cat_l, cat_r]) rfl h (fun v48 M48 h => ?_)
        refine wt_cVI (pc := 51) (J' := j_X11_answer) (As := [.int v48]) (st := []) (B' := b_X11_answer) (u' := 0) (w' := 0) dX11_lift_51 ml_X11_176 mv_X11_answer (fun v9 M9 e9 => c_X11_answer e9) rfl (by decide) rfl rfl (by decide) (by decide) (by decide) rfl h (fun v51 M51 h => ?_)
        cases h
        exact he 54 _ _ _ dX11_lift_54 (by decide) (by decide)
      · have h := ite_t q h
        refine wt_aload_n (pc := 34) 0 dX11_lift_34 rfl ?_
        refine wt_bipush (pc := 35) (v := 9) dX11_lift_35 (by decide) ?_
        refine wt_cVI (pc := 37) (J' := j_X11_none) (As := [.int 9]) (st := []) (B' := b_X11_none) (u' := 0) (w' := 0) dX11_lift_37 ml_X11_131 mv_X11_none (fun v9 M9 e9 => c_X11_none e9) rfl (by decide) rfl rfl (by decide) (by decide) (by decide) rfl h (fun v37 M37 h => ?_)
        cases h
        exact he 40 _ _ _ dX11_lift_40 (by decide) (by decide)
    · have h := ite_t q h
      refine wt_sub (ls' := [(0, rf G.1 l0)]) [0] rfl ?_
      exact t_X11_lift_16 he  h
set_option maxHeartbeats 4000000 in
set_option maxRecDepth 100000 in
theorem c_X11_lift {G : GG} {M : Mm} {l0 : Option Nat} {l1 : Int32} {l2 : Int32} {r : Int32 × Mm} (h : f_X11_lift M l0 l1 l2 = some r) (l : Launch) : Ct l G j_X11_lift b_X11_lift [rf G.1 l0, .int l1, .int l2] M (some (.int r.1)) r.2 := cf_I (by decide +kernel) (by simp [lg_sl, rf_cat, cat_i, cat_l, j_X11_lift]) rfl (by simp [lv_args, rf_cat, cat_i, cat_l]) (fun X he => t_X11_lift_e he h)
def g_X11_rest (M : Mm) (l0 : Option Nat) (l1 : Int32) : Option (Int32 × Mm) := ck M l0 11 <| bd (f_X11_isGang M l0 l1) fun v2 M2 => if v2 = 0 then (ck M2 l0 11 <| bd (f_X11_no M2 l0 2) fun v10 M10 => some (v10, M10)) else (gfR M2 l0 11 7 fun v15 => gfR M2 v15 4 1 fun v18 => alR M2 v18 30 l1 fun v22 => gfI M2 v22 0 5 fun v23 => if v23 = (-1) then (ck M2 l0 11 <| bd (f_X11_no M2 l0 8) fun v33 M33 => some (v33, M33)) else (gfR M2 l0 11 7 fun v38 => gfR M2 v38 4 1 fun v41 => alR M2 v41 30 l1 fun v45 => ck M2 v45 0 <| bv (f_X0_putDown M2 v45) fun M46 => ck M46 l0 11 <| bd (f_X11_yes M46 l0) fun v50 M50 => some (v50, M50)))
def f_X11_rest (M : Mm) (l0 : Option Nat) (l1 : Int32) : Option (Int32 × Mm) := zc (g_X11_rest M l0 l1)
set_option maxHeartbeats 4000000 in
set_option maxRecDepth 100000 in
theorem t_X11_rest_e {G : GG} {X : CX} {ans : Int32 × Mm} (he : EndI G X j_X11_rest b_X11_rest ans) {M : Mm} {l0 : Option Nat} {l1 : Int32} (h : g_X11_rest M l0 l1 = some ans) : Wt G X j_X11_rest b_X11_rest 0 [(0, rf G.1 l0), (1, .int l1)] [] M 0 0 := by
  unfold g_X11_rest at h
  refine wt_aload_n (pc := 0) 0 dX11_rest_0 rfl ?_
  refine wt_iload_n (pc := 1) 1 dX11_rest_1 rfl ?_
  refine wt_cVI (pc := 2) (J' := j_X11_isGang) (As := [.int l1]) (st := []) (B' := b_X11_isGang) (u' := 0) (w' := 0) dX11_rest_2 ml_X11_252 mv_X11_isGang (fun v9 M9 e9 => c_X11_isGang e9) rfl (by decide) rfl rfl (by decide) (by decide) (by decide) rfl h (fun v2 M2 h => ?_)
  refine wt_if_ne (pc := 5) (tgt := 14) dX11_rest_5 (by decide) (fun q => ?_) (fun q => ?_)
  · have h := ite_f q h
    refine wt_aload_n (pc := 14) 0 dX11_rest_14 rfl ?_
    refine wt_getR (pc := 15) dX11_rest_15 fl_X11_37 (fun _ _ _ => rfl) h (fun v15 h => ?_)
    refine wt_getR (pc := 18) dX11_rest_18 fl_X11_255 (fun _ _ _ => rfl) h (fun v18 h => ?_)
    refine wt_iload_n (pc := 21) 1 dX11_rest_21 rfl ?_
    refine wt_aaload (pc := 22) (kd := 30) dX11_rest_22 rfl rfl (by decide) h (fun v22 h => ?_)
    refine wt_getI (pc := 23) dX11_rest_23 fl_X11_271 (fun _ _ _ => rfl) h (fun v23 h => ?_)
    refine wt_iconst (pc := 26) (v := (-1)) dX11_rest_26 (by decide) ?_
    refine wt_icmp_ne (pc := 27) (tgt := 37) dX11_rest_27 (by decide) (fun q => ?_) (fun q => ?_)
    · have h := ite_f q h
      refine wt_aload_n (pc := 37) 0 dX11_rest_37 rfl ?_
      refine wt_getR (pc := 38) dX11_rest_38 fl_X11_37 (fun _ _ _ => rfl) h (fun v38 h => ?_)
      refine wt_getR (pc := 41) dX11_rest_41 fl_X11_255 (fun _ _ _ => rfl) h (fun v41 h => ?_)
      refine wt_iload_n (pc := 44) 1 dX11_rest_44 rfl ?_
      refine wt_aaload (pc := 45) (kd := 30) dX11_rest_45 rfl rfl (by decide) h (fun v45 h => ?_)
      refine wt_cVV (pc := 46) (J' := j_X0_putDown) (As := []) (st := []) (B' := b_X0_putDown) (u' := 0) (w' := 0) dX11_rest_46 ml_X11_310 mv_X0_putDown (fun M9 e9 => c_X0_putDown e9) rfl (by decide) rfl rfl (by decide) (by decide) (by decide) rfl h (fun M46 h => ?_)
      refine wt_aload_n (pc := 49) 0 dX11_rest_49 rfl ?_
      refine wt_cVI (pc := 50) (J' := j_X11_yes) (As := []) (st := []) (B' := b_X11_yes) (u' := 0) (w' := 0) dX11_rest_50 ml_X11_98 mv_X11_yes (fun v9 M9 e9 => c_X11_yes e9) rfl (by decide) rfl rfl (by decide) (by decide) (by decide) rfl h (fun v50 M50 h => ?_)
      cases h
      exact he 53 _ _ _ dX11_rest_53 (by decide) (by decide)
    · have h := ite_t q h
      refine wt_aload_n (pc := 30) 0 dX11_rest_30 rfl ?_
      refine wt_bipush (pc := 31) (v := 8) dX11_rest_31 (by decide) ?_
      refine wt_cVI (pc := 33) (J' := j_X11_no) (As := [.int 8]) (st := []) (B' := b_X11_no) (u' := 0) (w' := 0) dX11_rest_33 ml_X11_116 mv_X11_no (fun v9 M9 e9 => c_X11_no e9) rfl (by decide) rfl rfl (by decide) (by decide) (by decide) rfl h (fun v33 M33 h => ?_)
      cases h
      exact he 36 _ _ _ dX11_rest_36 (by decide) (by decide)
  · have h := ite_t q h
    refine wt_aload_n (pc := 8) 0 dX11_rest_8 rfl ?_
    refine wt_iconst (pc := 9) (v := 2) dX11_rest_9 (by decide) ?_
    refine wt_cVI (pc := 10) (J' := j_X11_no) (As := [.int 2]) (st := []) (B' := b_X11_no) (u' := 0) (w' := 0) dX11_rest_10 ml_X11_116 mv_X11_no (fun v9 M9 e9 => c_X11_no e9) rfl (by decide) rfl rfl (by decide) (by decide) (by decide) rfl h (fun v10 M10 h => ?_)
    cases h
    exact he 13 _ _ _ dX11_rest_13 (by decide) (by decide)
set_option maxHeartbeats 4000000 in
set_option maxRecDepth 100000 in
theorem c_X11_rest {G : GG} {M : Mm} {l0 : Option Nat} {l1 : Int32} {r : Int32 × Mm} (h : f_X11_rest M l0 l1 = some r) (l : Launch) : Ct l G j_X11_rest b_X11_rest [rf G.1 l0, .int l1] M (some (.int r.1)) r.2 := cf_Z h (by decide +kernel) (by simp [lg_sl, rf_cat, cat_i, cat_l, j_X11_rest]) rfl (by simp [lv_args, rf_cat, cat_i, cat_l]) (fun h X he => t_X11_rest_e he h)
def f_X11_hour (M : Mm) (l0 : Option Nat) (l1 : Int32) : Option (Int32 × Mm) := bd (f_X11_within M l1 1 240) fun v5 M5 => if v5 = 0 then (ck M5 l0 11 <| bd (f_X11_none M5 l0 5) fun v13 M13 => some (v13, M13)) else (gfR M5 l0 11 7 fun v18 => gfI M5 v18 4 8 fun v21 => if (v21 + l1) ≤ 9999 then (gfR M5 l0 11 7 fun v41 => ck M5 v41 4 <| bd (f_X4_passHour M5 v41 l1) fun v45 M45 => ck M45 l0 11 <| bd (f_X11_answer M45 l0 v45) fun v48 M48 => some (v48, M48)) else (ck M5 l0 11 <| bd (f_X11_none M5 l0 7) fun v35 M35 => some (v35, M35)))
set_option maxHeartbeats 4000000 in
set_option maxRecDepth 100000 in
theorem t_X11_hour_e {G : GG} {X : CX} {ans : Int32 × Mm} (he : EndI G X j_X11_hour b_X11_hour ans) {M : Mm} {l0 : Option Nat} {l1 : Int32} (h : f_X11_hour M l0 l1 = some ans) : Wt G X j_X11_hour b_X11_hour 0 [(0, rf G.1 l0), (1, .int l1)] [] M 0 0 := by
  unfold f_X11_hour at h
  refine wt_iload_n (pc := 0) 1 dX11_hour_0 rfl ?_
  refine wt_iconst (pc := 1) (v := 1) dX11_hour_1 (by decide) ?_
  refine wt_sipush (pc := 2) (v := 240) dX11_hour_2 (by decide) ?_
  refine wt_cSI (pc := 5) (J' := j_X11_within) (As := [.int l1, .int 1, .int 240]) (st := []) (B' := b_X11_within) (u' := 0) (w' := 0) dX11_hour_5 ml_X11_105 ms_X11_within (fun v9 M9 e9 => c_X11_within e9) rfl (by decide) rfl rfl (by decide) (by decide) (by decide) rfl h (fun v5 M5 h => ?_)
  refine wt_if_ne (pc := 8) (tgt := 17) dX11_hour_8 (by decide) (fun q => ?_) (fun q => ?_)
  · have h := ite_f q h
    refine wt_aload_n (pc := 17) 0 dX11_hour_17 rfl ?_
    refine wt_getR (pc := 18) dX11_hour_18 fl_X11_37 (fun _ _ _ => rfl) h (fun v18 h => ?_)
    refine wt_getI (pc := 21) dX11_hour_21 fl_X11_200 (fun _ _ _ => rfl) h (fun v21 h => ?_)
    refine wt_iload_n (pc := 24) 1 dX11_hour_24 rfl ?_
    refine wt_iadd (pc := 25) dX11_hour_25 ?_
    refine wt_sipush (pc := 26) (v := 9999) dX11_hour_26 (by decide) ?_
    refine wt_icmp_le (pc := 29) (tgt := 39) dX11_hour_29 (by decide) (fun q => ?_) (fun q => ?_)
    · have h := ite_t q h
      refine wt_aload_n (pc := 39) 0 dX11_hour_39 rfl ?_
      refine wt_aload_n (pc := 40) 0 dX11_hour_40 rfl ?_
      refine wt_getR (pc := 41) dX11_hour_41 fl_X11_37 (fun _ _ _ => rfl) h (fun v41 h => ?_)
      refine wt_iload_n (pc := 44) 1 dX11_hour_44 rfl ?_
      refine wt_cVI (pc := 45) (J' := j_X4_passHour) (As := [.int l1]) (st := [rf G.1 l0]) (B' := b_X4_passHour) (u' := 0) (w' := 0) dX11_hour_45 ml_X11_313 mv_X4_passHour (fun v9 M9 e9 => c_X4_passHour e9) rfl (by decide) rfl rfl (by decide) (by decide) (by simp [rf_cat, cat_i, cat_l, cat_r]) rfl h (fun v45 M45 h => ?_)
      refine wt_cVI (pc := 48) (J' := j_X11_answer) (As := [.int v45]) (st := []) (B' := b_X11_answer) (u' := 0) (w' := 0) dX11_hour_48 ml_X11_176 mv_X11_answer (fun v9 M9 e9 => c_X11_answer e9) rfl (by decide) rfl rfl (by decide) (by decide) (by decide) rfl h (fun v48 M48 h => ?_)
      cases h
      exact he 51 _ _ _ dX11_hour_51 (by decide) (by decide)
    · have h := ite_f q h
      refine wt_aload_n (pc := 32) 0 dX11_hour_32 rfl ?_
      refine wt_bipush (pc := 33) (v := 7) dX11_hour_33 (by decide) ?_
      refine wt_cVI (pc := 35) (J' := j_X11_none) (As := [.int 7]) (st := []) (B' := b_X11_none) (u' := 0) (w' := 0) dX11_hour_35 ml_X11_131 mv_X11_none (fun v9 M9 e9 => c_X11_none e9) rfl (by decide) rfl rfl (by decide) (by decide) (by decide) rfl h (fun v35 M35 h => ?_)
      cases h
      exact he 38 _ _ _ dX11_hour_38 (by decide) (by decide)
  · have h := ite_t q h
    refine wt_aload_n (pc := 11) 0 dX11_hour_11 rfl ?_
    refine wt_iconst (pc := 12) (v := 5) dX11_hour_12 (by decide) ?_
    refine wt_cVI (pc := 13) (J' := j_X11_none) (As := [.int 5]) (st := []) (B' := b_X11_none) (u' := 0) (w' := 0) dX11_hour_13 ml_X11_131 mv_X11_none (fun v9 M9 e9 => c_X11_none e9) rfl (by decide) rfl rfl (by decide) (by decide) (by decide) rfl h (fun v13 M13 h => ?_)
    cases h
    exact he 16 _ _ _ dX11_hour_16 (by decide) (by decide)
set_option maxHeartbeats 4000000 in
set_option maxRecDepth 100000 in
theorem c_X11_hour {G : GG} {M : Mm} {l0 : Option Nat} {l1 : Int32} {r : Int32 × Mm} (h : f_X11_hour M l0 l1 = some r) (l : Launch) : Ct l G j_X11_hour b_X11_hour [rf G.1 l0, .int l1] M (some (.int r.1)) r.2 := cf_I (by decide +kernel) (by simp [lg_sl, rf_cat, cat_i, cat_l, j_X11_hour]) rfl (by simp [lv_args, rf_cat, cat_i, cat_l]) (fun X he => t_X11_hour_e he h)
def f_X11_gale (M : Mm) (l0 : Option Nat) (l1 : Int32) : Option (Int32 × Mm) := bd (f_X11_within M l1 0 99) fun v4 M4 => if v4 = 0 then (ck M4 l0 11 <| bd (f_X11_none M4 l0 5) fun v12 M12 => some (v12, M12)) else (gfR M4 l0 11 7 fun v18 => ck M4 v18 4 <| bd (f_X4_blow M4 v18 l1) fun v22 M22 => ck M22 l0 11 <| bd (f_X11_answer M22 l0 v22) fun v25 M25 => some (v25, M25))
set_option maxHeartbeats 4000000 in
set_option maxRecDepth 100000 in
theorem t_X11_gale_e {G : GG} {X : CX} {ans : Int32 × Mm} (he : EndI G X j_X11_gale b_X11_gale ans) {M : Mm} {l0 : Option Nat} {l1 : Int32} (h : f_X11_gale M l0 l1 = some ans) : Wt G X j_X11_gale b_X11_gale 0 [(0, rf G.1 l0), (1, .int l1)] [] M 0 0 := by
  unfold f_X11_gale at h
  refine wt_iload_n (pc := 0) 1 dX11_gale_0 rfl ?_
  refine wt_iconst (pc := 1) (v := 0) dX11_gale_1 (by decide) ?_
  refine wt_bipush (pc := 2) (v := 99) dX11_gale_2 (by decide) ?_
  refine wt_cSI (pc := 4) (J' := j_X11_within) (As := [.int l1, .int 0, .int 99]) (st := []) (B' := b_X11_within) (u' := 0) (w' := 0) dX11_gale_4 ml_X11_105 ms_X11_within (fun v9 M9 e9 => c_X11_within e9) rfl (by decide) rfl rfl (by decide) (by decide) (by decide) rfl h (fun v4 M4 h => ?_)
  refine wt_if_ne (pc := 7) (tgt := 16) dX11_gale_7 (by decide) (fun q => ?_) (fun q => ?_)
  · have h := ite_f q h
    refine wt_aload_n (pc := 16) 0 dX11_gale_16 rfl ?_
    refine wt_aload_n (pc := 17) 0 dX11_gale_17 rfl ?_
    refine wt_getR (pc := 18) dX11_gale_18 fl_X11_37 (fun _ _ _ => rfl) h (fun v18 h => ?_)
    refine wt_iload_n (pc := 21) 1 dX11_gale_21 rfl ?_
    refine wt_cVI (pc := 22) (J' := j_X4_blow) (As := [.int l1]) (st := [rf G.1 l0]) (B' := b_X4_blow) (u' := 0) (w' := 0) dX11_gale_22 ml_X11_316 mv_X4_blow (fun v9 M9 e9 => c_X4_blow e9) rfl (by decide) rfl rfl (by decide) (by decide) (by simp [rf_cat, cat_i, cat_l, cat_r]) rfl h (fun v22 M22 h => ?_)
    refine wt_cVI (pc := 25) (J' := j_X11_answer) (As := [.int v22]) (st := []) (B' := b_X11_answer) (u' := 0) (w' := 0) dX11_gale_25 ml_X11_176 mv_X11_answer (fun v9 M9 e9 => c_X11_answer e9) rfl (by decide) rfl rfl (by decide) (by decide) (by decide) rfl h (fun v25 M25 h => ?_)
    cases h
    exact he 28 _ _ _ dX11_gale_28 (by decide) (by decide)
  · have h := ite_t q h
    refine wt_aload_n (pc := 10) 0 dX11_gale_10 rfl ?_
    refine wt_iconst (pc := 11) (v := 5) dX11_gale_11 (by decide) ?_
    refine wt_cVI (pc := 12) (J' := j_X11_none) (As := [.int 5]) (st := []) (B' := b_X11_none) (u' := 0) (w' := 0) dX11_gale_12 ml_X11_131 mv_X11_none (fun v9 M9 e9 => c_X11_none e9) rfl (by decide) rfl rfl (by decide) (by decide) (by decide) rfl h (fun v12 M12 h => ?_)
    cases h
    exact he 15 _ _ _ dX11_gale_15 (by decide) (by decide)
set_option maxHeartbeats 4000000 in
set_option maxRecDepth 100000 in
theorem c_X11_gale {G : GG} {M : Mm} {l0 : Option Nat} {l1 : Int32} {r : Int32 × Mm} (h : f_X11_gale M l0 l1 = some r) (l : Launch) : Ct l G j_X11_gale b_X11_gale [rf G.1 l0, .int l1] M (some (.int r.1)) r.2 := cf_I (by decide +kernel) (by simp [lg_sl, rf_cat, cat_i, cat_l, j_X11_gale]) rfl (by simp [lv_args, rf_cat, cat_i, cat_l]) (fun X he => t_X11_gale_e he h)
def f_X11_dawn (M : Mm) (l0 : Option Nat) : Option (Int32 × Mm) := gfR M l0 11 7 fun v2 => ck M v2 4 <| bd (f_X4_breakDay M v2) fun v5 M5 => ck M5 l0 11 <| bd (f_X11_answer M5 l0 v5) fun v8 M8 => some (v8, M8)
set_option maxHeartbeats 4000000 in
set_option maxRecDepth 100000 in
theorem t_X11_dawn_e {G : GG} {X : CX} {ans : Int32 × Mm} (he : EndI G X j_X11_dawn b_X11_dawn ans) {M : Mm} {l0 : Option Nat} (h : f_X11_dawn M l0 = some ans) : Wt G X j_X11_dawn b_X11_dawn 0 [(0, rf G.1 l0)] [] M 0 0 := by
  unfold f_X11_dawn at h
  refine wt_aload_n (pc := 0) 0 dX11_dawn_0 rfl ?_
  refine wt_aload_n (pc := 1) 0 dX11_dawn_1 rfl ?_
  refine wt_getR (pc := 2) dX11_dawn_2 fl_X11_37 (fun _ _ _ => rfl) h (fun v2 h => ?_)
  refine wt_cVI (pc := 5) (J' := j_X4_breakDay) (As := []) (st := [rf G.1 l0]) (B' := b_X4_breakDay) (u' := 0) (w' := 0) dX11_dawn_5 ml_X11_319 mv_X4_breakDay (fun v9 M9 e9 => c_X4_breakDay e9) rfl (by decide) rfl rfl (by decide) (by decide) (by simp [rf_cat, cat_i, cat_l, cat_r]) rfl h (fun v5 M5 h => ?_)
  refine wt_cVI (pc := 8) (J' := j_X11_answer) (As := [.int v5]) (st := []) (B' := b_X11_answer) (u' := 0) (w' := 0) dX11_dawn_8 ml_X11_176 mv_X11_answer (fun v9 M9 e9 => c_X11_answer e9) rfl (by decide) rfl rfl (by decide) (by decide) (by decide) rfl h (fun v8 M8 h => ?_)
  cases h
  exact he 11 _ _ _ dX11_dawn_11 (by decide) (by decide)
set_option maxHeartbeats 4000000 in
set_option maxRecDepth 100000 in
theorem c_X11_dawn {G : GG} {M : Mm} {l0 : Option Nat} {r : Int32 × Mm} (h : f_X11_dawn M l0 = some r) (l : Launch) : Ct l G j_X11_dawn b_X11_dawn [rf G.1 l0] M (some (.int r.1)) r.2 := cf_I (by decide +kernel) (by simp [lg_sl, rf_cat, cat_i, cat_l, j_X11_dawn]) rfl (by simp [lv_args, rf_cat, cat_i, cat_l]) (fun X he => t_X11_dawn_e he h)
def f_X11_help_16 (M : Mm) (l0 : Option Nat) : Option (Int32 × Mm) := ck M l0 11 <| bd (f_X11_none M l0 2) fun v18 M18 => some (v18, M18)
def f_X11_help_37 (M : Mm) (l0 : Option Nat) : Option (Int32 × Mm) := ck M l0 11 <| bd (f_X11_none M l0 5) fun v39 M39 => some (v39, M39)
def f_X11_help (M : Mm) (l0 : Option Nat) (l1 : Int32) (l2 : Int32) (l3 : Int32) : Option (Int32 × Mm) := ck M l0 11 <| bd (f_X11_isHouse M l0 l1) fun v2 M2 => if v2 = 0 then (f_X11_help_16  M2 l0) else (ck M2 l0 11 <| bd (f_X11_isHouse M2 l0 l2) fun v10 M10 => if v10 = 0 then (f_X11_help_16  M10 l0) else (if l1 = l2 then (f_X11_help_37  M10 l0) else (bd (f_X11_within M10 l3 1 99) fun v31 M31 => if v31 = 0 then (f_X11_help_37  M31 l0) else (gfR M31 l0 11 7 fun v44 => gfR M31 v44 4 6 fun v47 => alR M31 v47 50 l1 fun v51 => alI M31 v51 21 l2 fun v53 => if (v53 + l3) ≤ 9999 then (gfR M31 l0 11 7 fun v70 => gfR M31 v70 4 6 fun v73 => alR M31 v73 50 l1 fun v77 => alI M31 v77 21 l2 fun v80 => asI M31 v77 21 l2 (v80 + l3) fun M83 => gfR M83 l0 11 7 fun v86 => gfR M83 v86 4 6 fun v89 => alR M83 v89 50 l1 fun v93 => alI M83 v93 21 l2 fun v95 => ck M83 l0 11 <| bd (f_X11_answer M83 l0 v95) fun v96 M96 => some (v96, M96)) else (ck M31 l0 11 <| bd (f_X11_none M31 l0 7) fun v65 M65 => some (v65, M65))))))
set_option maxHeartbeats 4000000 in
set_option maxRecDepth 100000 in
theorem t_X11_help_16 {G : GG} {X : CX} {ans : Int32 × Mm} (he : EndI G X j_X11_help b_X11_help ans) {M : Mm} {l0 : Option Nat} (h : f_X11_help_16 M l0 = some ans) : Wt G X j_X11_help b_X11_help 16 [(0, rf G.1 l0)] [] M 0 0 := by
  unfold f_X11_help_16 at h
  refine wt_aload_n (pc := 16) 0 dX11_help_16 rfl ?_
  refine wt_iconst (pc := 17) (v := 2) dX11_help_17 (by decide) ?_
  refine wt_cVI (pc := 18) (J' := j_X11_none) (As := [.int 2]) (st := []) (B' := b_X11_none) (u' := 0) (w' := 0) dX11_help_18 ml_X11_131 mv_X11_none (fun v9 M9 e9 => c_X11_none e9) rfl (by decide) rfl rfl (by decide) (by decide) (by decide) rfl h (fun v18 M18 h => ?_)
  cases h
  exact he 21 _ _ _ dX11_help_21 (by decide) (by decide)
set_option maxHeartbeats 4000000 in
set_option maxRecDepth 100000 in
theorem t_X11_help_37 {G : GG} {X : CX} {ans : Int32 × Mm} (he : EndI G X j_X11_help b_X11_help ans) {M : Mm} {l0 : Option Nat} (h : f_X11_help_37 M l0 = some ans) : Wt G X j_X11_help b_X11_help 37 [(0, rf G.1 l0)] [] M 0 0 := by
  unfold f_X11_help_37 at h
  refine wt_aload_n (pc := 37) 0 dX11_help_37 rfl ?_
  refine wt_iconst (pc := 38) (v := 5) dX11_help_38 (by decide) ?_
  refine wt_cVI (pc := 39) (J' := j_X11_none) (As := [.int 5]) (st := []) (B' := b_X11_none) (u' := 0) (w' := 0) dX11_help_39 ml_X11_131 mv_X11_none (fun v9 M9 e9 => c_X11_none e9) rfl (by decide) rfl rfl (by decide) (by decide) (by decide) rfl h (fun v39 M39 h => ?_)
  cases h
  exact he 42 _ _ _ dX11_help_42 (by decide) (by decide)
set_option maxHeartbeats 4000000 in
set_option maxRecDepth 100000 in
theorem t_X11_help_e {G : GG} {X : CX} {ans : Int32 × Mm} (he : EndI G X j_X11_help b_X11_help ans) {M : Mm} {l0 : Option Nat} {l1 : Int32} {l2 : Int32} {l3 : Int32} (h : f_X11_help M l0 l1 l2 l3 = some ans) : Wt G X j_X11_help b_X11_help 0 [(0, rf G.1 l0), (1, .int l1), (2, .int l2), (3, .int l3)] [] M 0 0 := by
  unfold f_X11_help at h
  refine wt_aload_n (pc := 0) 0 dX11_help_0 rfl ?_
  refine wt_iload_n (pc := 1) 1 dX11_help_1 rfl ?_
  refine wt_cVI (pc := 2) (J' := j_X11_isHouse) (As := [.int l1]) (st := []) (B' := b_X11_isHouse) (u' := 0) (w' := 0) dX11_help_2 ml_X11_216 mv_X11_isHouse (fun v9 M9 e9 => c_X11_isHouse e9) rfl (by decide) rfl rfl (by decide) (by decide) (by decide) rfl h (fun v2 M2 h => ?_)
  refine wt_if_eq (pc := 5) (tgt := 16) dX11_help_5 (by decide) (fun q => ?_) (fun q => ?_)
  · have h := ite_t q h
    refine wt_sub (ls' := [(0, rf G.1 l0)]) [0] rfl ?_
    exact t_X11_help_16 he  h
  · have h := ite_f q h
    refine wt_aload_n (pc := 8) 0 dX11_help_8 rfl ?_
    refine wt_iload_n (pc := 9) 2 dX11_help_9 rfl ?_
    refine wt_cVI (pc := 10) (J' := j_X11_isHouse) (As := [.int l2]) (st := []) (B' := b_X11_isHouse) (u' := 0) (w' := 0) dX11_help_10 ml_X11_216 mv_X11_isHouse (fun v9 M9 e9 => c_X11_isHouse e9) rfl (by decide) rfl rfl (by decide) (by decide) (by decide) rfl h (fun v10 M10 h => ?_)
    refine wt_if_ne (pc := 13) (tgt := 22) dX11_help_13 (by decide) (fun q => ?_) (fun q => ?_)
    · have h := ite_f q h
      refine wt_iload_n (pc := 22) 1 dX11_help_22 rfl ?_
      refine wt_iload_n (pc := 23) 2 dX11_help_23 rfl ?_
      refine wt_icmp_eq (pc := 24) (tgt := 37) dX11_help_24 (by decide) (fun q => ?_) (fun q => ?_)
      · have h := ite_t q h
        refine wt_sub (ls' := [(0, rf G.1 l0)]) [0] rfl ?_
        exact t_X11_help_37 he  h
      · have h := ite_f q h
        refine wt_iload_n (pc := 27) 3 dX11_help_27 rfl ?_
        refine wt_iconst (pc := 28) (v := 1) dX11_help_28 (by decide) ?_
        refine wt_bipush (pc := 29) (v := 99) dX11_help_29 (by decide) ?_
        refine wt_cSI (pc := 31) (J' := j_X11_within) (As := [.int l3, .int 1, .int 99]) (st := []) (B' := b_X11_within) (u' := 0) (w' := 0) dX11_help_31 ml_X11_105 ms_X11_within (fun v9 M9 e9 => c_X11_within e9) rfl (by decide) rfl rfl (by decide) (by decide) (by decide) rfl h (fun v31 M31 h => ?_)
        refine wt_if_ne (pc := 34) (tgt := 43) dX11_help_34 (by decide) (fun q => ?_) (fun q => ?_)
        · have h := ite_f q h
          refine wt_aload_n (pc := 43) 0 dX11_help_43 rfl ?_
          refine wt_getR (pc := 44) dX11_help_44 fl_X11_37 (fun _ _ _ => rfl) h (fun v44 h => ?_)
          refine wt_getR (pc := 47) dX11_help_47 fl_X11_289 (fun _ _ _ => rfl) h (fun v47 h => ?_)
          refine wt_iload_n (pc := 50) 1 dX11_help_50 rfl ?_
          refine wt_aaload (pc := 51) (kd := 50) dX11_help_51 rfl rfl (by decide) h (fun v51 h => ?_)
          refine wt_iload_n (pc := 52) 2 dX11_help_52 rfl ?_
          refine wt_iaload (pc := 53) (kd := 21) dX11_help_53 rfl rfl h (fun v53 h => ?_)
          refine wt_iload_n (pc := 54) 3 dX11_help_54 rfl ?_
          refine wt_iadd (pc := 55) dX11_help_55 ?_
          refine wt_sipush (pc := 56) (v := 9999) dX11_help_56 (by decide) ?_
          refine wt_icmp_le (pc := 59) (tgt := 69) dX11_help_59 (by decide) (fun q => ?_) (fun q => ?_)
          · have h := ite_t q h
            refine wt_aload_n (pc := 69) 0 dX11_help_69 rfl ?_
            refine wt_getR (pc := 70) dX11_help_70 fl_X11_37 (fun _ _ _ => rfl) h (fun v70 h => ?_)
            refine wt_getR (pc := 73) dX11_help_73 fl_X11_289 (fun _ _ _ => rfl) h (fun v73 h => ?_)
            refine wt_iload_n (pc := 76) 1 dX11_help_76 rfl ?_
            refine wt_aaload (pc := 77) (kd := 50) dX11_help_77 rfl rfl (by decide) h (fun v77 h => ?_)
            refine wt_iload_n (pc := 78) 2 dX11_help_78 rfl ?_
            refine wt_dup2 (pc := 79) dX11_help_79 rfl (rf_cat _ _) ?_
            refine wt_iaload (pc := 80) (kd := 21) dX11_help_80 rfl rfl h (fun v80 h => ?_)
            refine wt_iload_n (pc := 81) 3 dX11_help_81 rfl ?_
            refine wt_iadd (pc := 82) dX11_help_82 ?_
            refine wt_iastore (pc := 83) (kd := 21) dX11_help_83 rfl rfl h (fun M83 h => ?_)
            refine wt_aload_n (pc := 84) 0 dX11_help_84 rfl ?_
            refine wt_aload_n (pc := 85) 0 dX11_help_85 rfl ?_
            refine wt_getR (pc := 86) dX11_help_86 fl_X11_37 (fun _ _ _ => rfl) h (fun v86 h => ?_)
            refine wt_getR (pc := 89) dX11_help_89 fl_X11_289 (fun _ _ _ => rfl) h (fun v89 h => ?_)
            refine wt_iload_n (pc := 92) 1 dX11_help_92 rfl ?_
            refine wt_aaload (pc := 93) (kd := 50) dX11_help_93 rfl rfl (by decide) h (fun v93 h => ?_)
            refine wt_iload_n (pc := 94) 2 dX11_help_94 rfl ?_
            refine wt_iaload (pc := 95) (kd := 21) dX11_help_95 rfl rfl h (fun v95 h => ?_)
            refine wt_cVI (pc := 96) (J' := j_X11_answer) (As := [.int v95]) (st := []) (B' := b_X11_answer) (u' := 0) (w' := 0) dX11_help_96 ml_X11_176 mv_X11_answer (fun v9 M9 e9 => c_X11_answer e9) rfl (by decide) rfl rfl (by decide) (by decide) (by decide) rfl h (fun v96 M96 h => ?_)
            cases h
            exact he 99 _ _ _ dX11_help_99 (by decide) (by decide)
          · have h := ite_f q h
            refine wt_aload_n (pc := 62) 0 dX11_help_62 rfl ?_
            refine wt_bipush (pc := 63) (v := 7) dX11_help_63 (by decide) ?_
            refine wt_cVI (pc := 65) (J' := j_X11_none) (As := [.int 7]) (st := []) (B' := b_X11_none) (u' := 0) (w' := 0) dX11_help_65 ml_X11_131 mv_X11_none (fun v9 M9 e9 => c_X11_none e9) rfl (by decide) rfl rfl (by decide) (by decide) (by decide) rfl h (fun v65 M65 h => ?_)
            cases h
            exact he 68 _ _ _ dX11_help_68 (by decide) (by decide)
        · have h := ite_t q h
          refine wt_sub (ls' := [(0, rf G.1 l0)]) [0] rfl ?_
          exact t_X11_help_37 he  h
    · have h := ite_t q h
      refine wt_sub (ls' := [(0, rf G.1 l0)]) [0] rfl ?_
      exact t_X11_help_16 he  h
set_option maxHeartbeats 4000000 in
set_option maxRecDepth 100000 in
theorem c_X11_help {G : GG} {M : Mm} {l0 : Option Nat} {l1 : Int32} {l2 : Int32} {l3 : Int32} {r : Int32 × Mm} (h : f_X11_help M l0 l1 l2 l3 = some r) (l : Launch) : Ct l G j_X11_help b_X11_help [rf G.1 l0, .int l1, .int l2, .int l3] M (some (.int r.1)) r.2 := cf_I (by decide +kernel) (by simp [lg_sl, rf_cat, cat_i, cat_l, j_X11_help]) rfl (by simp [lv_args, rf_cat, cat_i, cat_l]) (fun X he => t_X11_help_e he h)
def f_X11_falls (M : Mm) (l0 : Option Nat) (l1 : Int32) : Option (Int32 × Mm) := bd (f_X11_within M l1 0 99) fun v4 M4 => if v4 = 0 then (ck M4 l0 11 <| bd (f_X11_none M4 l0 5) fun v12 M12 => some (v12, M12)) else (gfR M4 l0 11 7 fun v18 => ck M4 v18 4 <| bd (f_X4_fallingSet M4 v18 l1) fun v22 M22 => ck M22 l0 11 <| bd (f_X11_answer M22 l0 v22) fun v25 M25 => some (v25, M25))
set_option maxHeartbeats 4000000 in
set_option maxRecDepth 100000 in
theorem t_X11_falls_e {G : GG} {X : CX} {ans : Int32 × Mm} (he : EndI G X j_X11_falls b_X11_falls ans) {M : Mm} {l0 : Option Nat} {l1 : Int32} (h : f_X11_falls M l0 l1 = some ans) : Wt G X j_X11_falls b_X11_falls 0 [(0, rf G.1 l0), (1, .int l1)] [] M 0 0 := by
  unfold f_X11_falls at h
  refine wt_iload_n (pc := 0) 1 dX11_falls_0 rfl ?_
  refine wt_iconst (pc := 1) (v := 0) dX11_falls_1 (by decide) ?_
  refine wt_bipush (pc := 2) (v := 99) dX11_falls_2 (by decide) ?_
  refine wt_cSI (pc := 4) (J' := j_X11_within) (As := [.int l1, .int 0, .int 99]) (st := []) (B' := b_X11_within) (u' := 0) (w' := 0) dX11_falls_4 ml_X11_105 ms_X11_within (fun v9 M9 e9 => c_X11_within e9) rfl (by decide) rfl rfl (by decide) (by decide) (by decide) rfl h (fun v4 M4 h => ?_)
  refine wt_if_ne (pc := 7) (tgt := 16) dX11_falls_7 (by decide) (fun q => ?_) (fun q => ?_)
  · have h := ite_f q h
    refine wt_aload_n (pc := 16) 0 dX11_falls_16 rfl ?_
    refine wt_aload_n (pc := 17) 0 dX11_falls_17 rfl ?_
    refine wt_getR (pc := 18) dX11_falls_18 fl_X11_37 (fun _ _ _ => rfl) h (fun v18 h => ?_)
    refine wt_iload_n (pc := 21) 1 dX11_falls_21 rfl ?_
    refine wt_cVI (pc := 22) (J' := j_X4_fallingSet) (As := [.int l1]) (st := [rf G.1 l0]) (B' := b_X4_fallingSet) (u' := 0) (w' := 0) dX11_falls_22 ml_X11_322 mv_X4_fallingSet (fun v9 M9 e9 => c_X4_fallingSet e9) rfl (by decide) rfl rfl (by decide) (by decide) (by simp [rf_cat, cat_i, cat_l, cat_r]) rfl h (fun v22 M22 h => ?_)
    refine wt_cVI (pc := 25) (J' := j_X11_answer) (As := [.int v22]) (st := []) (B' := b_X11_answer) (u' := 0) (w' := 0) dX11_falls_25 ml_X11_176 mv_X11_answer (fun v9 M9 e9 => c_X11_answer e9) rfl (by decide) rfl rfl (by decide) (by decide) (by decide) rfl h (fun v25 M25 h => ?_)
    cases h
    exact he 28 _ _ _ dX11_falls_28 (by decide) (by decide)
  · have h := ite_t q h
    refine wt_aload_n (pc := 10) 0 dX11_falls_10 rfl ?_
    refine wt_iconst (pc := 11) (v := 5) dX11_falls_11 (by decide) ?_
    refine wt_cVI (pc := 12) (J' := j_X11_none) (As := [.int 5]) (st := []) (B' := b_X11_none) (u' := 0) (w' := 0) dX11_falls_12 ml_X11_131 mv_X11_none (fun v9 M9 e9 => c_X11_none e9) rfl (by decide) rfl rfl (by decide) (by decide) (by decide) rfl h (fun v12 M12 h => ?_)
    cases h
    exact he 15 _ _ _ dX11_falls_15 (by decide) (by decide)
set_option maxHeartbeats 4000000 in
set_option maxRecDepth 100000 in
theorem c_X11_falls {G : GG} {M : Mm} {l0 : Option Nat} {l1 : Int32} {r : Int32 × Mm} (h : f_X11_falls M l0 l1 = some r) (l : Launch) : Ct l G j_X11_falls b_X11_falls [rf G.1 l0, .int l1] M (some (.int r.1)) r.2 := cf_I (by decide +kernel) (by simp [lg_sl, rf_cat, cat_i, cat_l, j_X11_falls]) rfl (by simp [lv_args, rf_cat, cat_i, cat_l]) (fun X he => t_X11_falls_e he h)
def g_X11_risk (M : Mm) (l0 : Option Nat) (l1 : Int32) : Option (Int32 × Mm) := ck M l0 11 <| bd (f_X11_isHouse M l0 l1) fun v2 M2 => if v2 = 0 then (ck M2 l0 11 <| bd (f_X11_no M2 l0 2) fun v10 M10 => some (v10, M10)) else (gfR M2 l0 11 7 fun v15 => gfI M2 v15 4 5 fun v18 => if v18 = 0 then (ck M2 l0 11 <| bd (f_X11_no M2 l0 8) fun v27 M27 => some (v27, M27)) else (gfR M2 l0 11 7 fun v33 => ck M2 v33 4 <| bd (f_X4_chancesToFall M2 v33 l1) fun v37 M37 => gfR M37 l0 11 7 fun v42 => ck M37 v42 4 <| bd (f_X4_allChances M37 v42) fun v45 M45 => ck M45 l0 11 <| bd (f_X11_tellFraction M45 l0 (Int32.toInt64 v37) (Int32.toInt64 v45)) fun v49 M49 => some (v49, M49)))
def f_X11_risk (M : Mm) (l0 : Option Nat) (l1 : Int32) : Option (Int32 × Mm) := zc (g_X11_risk M l0 l1)
set_option maxHeartbeats 4000000 in
set_option maxRecDepth 100000 in
theorem t_X11_risk_e {G : GG} {X : CX} {ans : Int32 × Mm} (he : EndI G X j_X11_risk b_X11_risk ans) {M : Mm} {l0 : Option Nat} {l1 : Int32} (h : g_X11_risk M l0 l1 = some ans) : Wt G X j_X11_risk b_X11_risk 0 [(0, rf G.1 l0), (1, .int l1)] [] M 0 0 := by
  unfold g_X11_risk at h
  refine wt_aload_n (pc := 0) 0 dX11_risk_0 rfl ?_
  refine wt_iload_n (pc := 1) 1 dX11_risk_1 rfl ?_
  refine wt_cVI (pc := 2) (J' := j_X11_isHouse) (As := [.int l1]) (st := []) (B' := b_X11_isHouse) (u' := 0) (w' := 0) dX11_risk_2 ml_X11_216 mv_X11_isHouse (fun v9 M9 e9 => c_X11_isHouse e9) rfl (by decide) rfl rfl (by decide) (by decide) (by decide) rfl h (fun v2 M2 h => ?_)
  refine wt_if_ne (pc := 5) (tgt := 14) dX11_risk_5 (by decide) (fun q => ?_) (fun q => ?_)
  · have h := ite_f q h
    refine wt_aload_n (pc := 14) 0 dX11_risk_14 rfl ?_
    refine wt_getR (pc := 15) dX11_risk_15 fl_X11_37 (fun _ _ _ => rfl) h (fun v15 h => ?_)
    refine wt_getI (pc := 18) dX11_risk_18 fl_X11_194 (fun _ _ _ => rfl) h (fun v18 h => ?_)
    refine wt_if_ne (pc := 21) (tgt := 31) dX11_risk_21 (by decide) (fun q => ?_) (fun q => ?_)
    · have h := ite_f q h
      refine wt_aload_n (pc := 31) 0 dX11_risk_31 rfl ?_
      refine wt_aload_n (pc := 32) 0 dX11_risk_32 rfl ?_
      refine wt_getR (pc := 33) dX11_risk_33 fl_X11_37 (fun _ _ _ => rfl) h (fun v33 h => ?_)
      refine wt_iload_n (pc := 36) 1 dX11_risk_36 rfl ?_
      refine wt_cVI (pc := 37) (J' := j_X4_chancesToFall) (As := [.int l1]) (st := [rf G.1 l0]) (B' := b_X4_chancesToFall) (u' := 0) (w' := 0) dX11_risk_37 ml_X11_325 mv_X4_chancesToFall (fun v9 M9 e9 => c_X4_chancesToFall e9) rfl (by decide) rfl rfl (by decide) (by decide) (by simp [rf_cat, cat_i, cat_l, cat_r]) rfl h (fun v37 M37 h => ?_)
      refine wt_i2l (pc := 40) dX11_risk_40 ?_
      refine wt_aload_n (pc := 41) 0 dX11_risk_41 rfl ?_
      refine wt_getR (pc := 42) dX11_risk_42 fl_X11_37 (fun _ _ _ => rfl) h (fun v42 h => ?_)
      refine wt_cVI (pc := 45) (J' := j_X4_allChances) (As := []) (st := [.long (Int32.toInt64 v37), rf G.1 l0]) (B' := b_X4_allChances) (u' := 0) (w' := 0) dX11_risk_45 ml_X11_213 mv_X4_allChances (fun v9 M9 e9 => c_X4_allChances e9) rfl (by decide) rfl rfl (by decide) (by decide) (by simp [rf_cat, cat_i, cat_l, cat_r]) rfl h (fun v45 M45 h => ?_)
      refine wt_i2l (pc := 48) dX11_risk_48 ?_
      refine wt_cVI (pc := 49) (J' := j_X11_tellFraction) (As := [.long (Int32.toInt64 v37), .long (Int32.toInt64 v45)]) (st := []) (B' := b_X11_tellFraction) (u' := 0) (w' := 0) dX11_risk_49 ml_X11_328 mv_X11_tellFraction (fun v9 M9 e9 => c_X11_tellFraction e9) rfl (by decide) rfl rfl (by decide) (by decide) (by decide) rfl h (fun v49 M49 h => ?_)
      cases h
      exact he 52 _ _ _ dX11_risk_52 (by decide) (by decide)
    · have h := ite_t q h
      refine wt_aload_n (pc := 24) 0 dX11_risk_24 rfl ?_
      refine wt_bipush (pc := 25) (v := 8) dX11_risk_25 (by decide) ?_
      refine wt_cVI (pc := 27) (J' := j_X11_no) (As := [.int 8]) (st := []) (B' := b_X11_no) (u' := 0) (w' := 0) dX11_risk_27 ml_X11_116 mv_X11_no (fun v9 M9 e9 => c_X11_no e9) rfl (by decide) rfl rfl (by decide) (by decide) (by decide) rfl h (fun v27 M27 h => ?_)
      cases h
      exact he 30 _ _ _ dX11_risk_30 (by decide) (by decide)
  · have h := ite_t q h
    refine wt_aload_n (pc := 8) 0 dX11_risk_8 rfl ?_
    refine wt_iconst (pc := 9) (v := 2) dX11_risk_9 (by decide) ?_
    refine wt_cVI (pc := 10) (J' := j_X11_no) (As := [.int 2]) (st := []) (B' := b_X11_no) (u' := 0) (w' := 0) dX11_risk_10 ml_X11_116 mv_X11_no (fun v9 M9 e9 => c_X11_no e9) rfl (by decide) rfl rfl (by decide) (by decide) (by decide) rfl h (fun v10 M10 h => ?_)
    cases h
    exact he 13 _ _ _ dX11_risk_13 (by decide) (by decide)
set_option maxHeartbeats 4000000 in
set_option maxRecDepth 100000 in
theorem c_X11_risk {G : GG} {M : Mm} {l0 : Option Nat} {l1 : Int32} {r : Int32 × Mm} (h : f_X11_risk M l0 l1 = some r) (l : Launch) : Ct l G j_X11_risk b_X11_risk [rf G.1 l0, .int l1] M (some (.int r.1)) r.2 := cf_Z h (by decide +kernel) (by simp [lg_sl, rf_cat, cat_i, cat_l, j_X11_risk]) rfl (by simp [lv_args, rf_cat, cat_i, cat_l]) (fun h X he => t_X11_risk_e he h)
def g_X11_loss (M : Mm) (l0 : Option Nat) : Option (Int32 × Mm) := gfR M l0 11 7 fun v1 => gfI M v1 4 5 fun v4 => if v4 = 0 then (ck M l0 11 <| bd (f_X11_no M l0 8) fun v13 M13 => some (v13, M13)) else (gfR M l0 11 7 fun v19 => ck M v19 4 <| bd (f_X4_lossByChances M v19) fun v22 M22 => gfR M22 l0 11 7 fun v27 => ck M22 v27 4 <| bd (f_X4_allChances M22 v27) fun v30 M30 => ck M30 l0 11 <| bd (f_X11_tellFraction M30 l0 (Int32.toInt64 v22) (Int32.toInt64 v30)) fun v34 M34 => some (v34, M34))
def f_X11_loss (M : Mm) (l0 : Option Nat) : Option (Int32 × Mm) := zc (g_X11_loss M l0)
set_option maxHeartbeats 4000000 in
set_option maxRecDepth 100000 in
theorem t_X11_loss_e {G : GG} {X : CX} {ans : Int32 × Mm} (he : EndI G X j_X11_loss b_X11_loss ans) {M : Mm} {l0 : Option Nat} (h : g_X11_loss M l0 = some ans) : Wt G X j_X11_loss b_X11_loss 0 [(0, rf G.1 l0)] [] M 0 0 := by
  unfold g_X11_loss at h
  refine wt_aload_n (pc := 0) 0 dX11_loss_0 rfl ?_
  refine wt_getR (pc := 1) dX11_loss_1 fl_X11_37 (fun _ _ _ => rfl) h (fun v1 h => ?_)
  refine wt_getI (pc := 4) dX11_loss_4 fl_X11_194 (fun _ _ _ => rfl) h (fun v4 h => ?_)
  refine wt_if_ne (pc := 7) (tgt := 17) dX11_loss_7 (by decide) (fun q => ?_) (fun q => ?_)
  · have h := ite_f q h
    refine wt_aload_n (pc := 17) 0 dX11_loss_17 rfl ?_
    refine wt_aload_n (pc := 18) 0 dX11_loss_18 rfl ?_
    refine wt_getR (pc := 19) dX11_loss_19 fl_X11_37 (fun _ _ _ => rfl) h (fun v19 h => ?_)
    refine wt_cVI (pc := 22) (J' := j_X4_lossByChances) (As := []) (st := [rf G.1 l0]) (B' := b_X4_lossByChances) (u' := 0) (w' := 0) dX11_loss_22 ml_X11_332 mv_X4_lossByChances (fun v9 M9 e9 => c_X4_lossByChances e9) rfl (by decide) rfl rfl (by decide) (by decide) (by simp [rf_cat, cat_i, cat_l, cat_r]) rfl h (fun v22 M22 h => ?_)
    refine wt_i2l (pc := 25) dX11_loss_25 ?_
    refine wt_aload_n (pc := 26) 0 dX11_loss_26 rfl ?_
    refine wt_getR (pc := 27) dX11_loss_27 fl_X11_37 (fun _ _ _ => rfl) h (fun v27 h => ?_)
    refine wt_cVI (pc := 30) (J' := j_X4_allChances) (As := []) (st := [.long (Int32.toInt64 v22), rf G.1 l0]) (B' := b_X4_allChances) (u' := 0) (w' := 0) dX11_loss_30 ml_X11_213 mv_X4_allChances (fun v9 M9 e9 => c_X4_allChances e9) rfl (by decide) rfl rfl (by decide) (by decide) (by simp [rf_cat, cat_i, cat_l, cat_r]) rfl h (fun v30 M30 h => ?_)
    refine wt_i2l (pc := 33) dX11_loss_33 ?_
    refine wt_cVI (pc := 34) (J' := j_X11_tellFraction) (As := [.long (Int32.toInt64 v22), .long (Int32.toInt64 v30)]) (st := []) (B' := b_X11_tellFraction) (u' := 0) (w' := 0) dX11_loss_34 ml_X11_328 mv_X11_tellFraction (fun v9 M9 e9 => c_X11_tellFraction e9) rfl (by decide) rfl rfl (by decide) (by decide) (by decide) rfl h (fun v34 M34 h => ?_)
    cases h
    exact he 37 _ _ _ dX11_loss_37 (by decide) (by decide)
  · have h := ite_t q h
    refine wt_aload_n (pc := 10) 0 dX11_loss_10 rfl ?_
    refine wt_bipush (pc := 11) (v := 8) dX11_loss_11 (by decide) ?_
    refine wt_cVI (pc := 13) (J' := j_X11_no) (As := [.int 8]) (st := []) (B' := b_X11_no) (u' := 0) (w' := 0) dX11_loss_13 ml_X11_116 mv_X11_no (fun v9 M9 e9 => c_X11_no e9) rfl (by decide) rfl rfl (by decide) (by decide) (by decide) rfl h (fun v13 M13 h => ?_)
    cases h
    exact he 16 _ _ _ dX11_loss_16 (by decide) (by decide)
set_option maxHeartbeats 4000000 in
set_option maxRecDepth 100000 in
theorem c_X11_loss {G : GG} {M : Mm} {l0 : Option Nat} {r : Int32 × Mm} (h : f_X11_loss M l0 = some r) (l : Launch) : Ct l G j_X11_loss b_X11_loss [rf G.1 l0] M (some (.int r.1)) r.2 := cf_Z h (by decide +kernel) (by simp [lg_sl, rf_cat, cat_i, cat_l, j_X11_loss]) rfl (by simp [lv_args, rf_cat, cat_i, cat_l]) (fun h X he => t_X11_loss_e he h)
def f_X11_saves_21 (M : Mm) (l0 : Option Nat) : Option (Int32 × Mm) := ck M l0 11 <| bd (f_X11_no M l0 5) fun v23 M23 => some (v23, M23)
def g_X11_saves (M : Mm) (l0 : Option Nat) (l1 : Int32) (l2 : Int32) : Option (Int32 × Mm) := bd (f_X11_within M l1 1 240) fun v5 M5 => if v5 = 0 then (f_X11_saves_21  M5 l0) else (bd (f_X11_within M5 l2 0 99) fun v15 M15 => if v15 = 0 then (f_X11_saves_21  M15 l0) else (gfR M15 l0 11 7 fun v28 => gfI M15 v28 4 5 fun v31 => if v31 = 0 then (ck M15 l0 11 <| bd (f_X11_no M15 l0 8) fun v40 M40 => some (v40, M40)) else (gfR M15 l0 11 8 fun v45 => gfR M15 l0 11 7 fun v49 => ck M15 v45 4 <| bv (f_X4_copyFrom M15 v45 v49) fun M52 => gfR M52 l0 11 8 fun v56 => ck M52 v56 4 <| bd (f_X4_passHour M52 v56 l1) fun v60 M60 => gfR M60 l0 11 7 fun v65 => ck M60 v65 4 <| bd (f_X4_allChances M60 v65) fun v68 M68 => gfR M68 l0 11 7 fun v74 => ck M68 v74 4 <| bd (f_X4_lossByChances M68 v74) fun v77 M77 => gfR M77 l0 11 8 fun v81 => ck M77 v81 4 <| bd (f_X4_lossByChances M77 v81) fun v84 M84 => nmL (Int32.toInt64 (v77 - v84)) fun x89 => ck M84 l0 11 <| bd (f_X11_tellFraction M84 l0 (x89 - (((Int32.toInt64 l2) * (Int32.toInt64 v60)) * (Int32.toInt64 v68))) (Int32.toInt64 v68)) fun v107 M107 => some (v107, M107))))
def f_X11_saves (M : Mm) (l0 : Option Nat) (l1 : Int32) (l2 : Int32) : Option (Int32 × Mm) := zc (g_X11_saves M l0 l1 l2)
set_option maxHeartbeats 4000000 in
set_option maxRecDepth 100000 in
theorem t_X11_saves_21 {G : GG} {X : CX} {ans : Int32 × Mm} (he : EndI G X j_X11_saves b_X11_saves ans) {M : Mm} {l0 : Option Nat} (h : f_X11_saves_21 M l0 = some ans) : Wt G X j_X11_saves b_X11_saves 21 [(0, rf G.1 l0)] [] M 0 0 := by
  unfold f_X11_saves_21 at h
  refine wt_aload_n (pc := 21) 0 dX11_saves_21 rfl ?_
  refine wt_iconst (pc := 22) (v := 5) dX11_saves_22 (by decide) ?_
  refine wt_cVI (pc := 23) (J' := j_X11_no) (As := [.int 5]) (st := []) (B' := b_X11_no) (u' := 0) (w' := 0) dX11_saves_23 ml_X11_116 mv_X11_no (fun v9 M9 e9 => c_X11_no e9) rfl (by decide) rfl rfl (by decide) (by decide) (by decide) rfl h (fun v23 M23 h => ?_)
  cases h
  exact he 26 _ _ _ dX11_saves_26 (by decide) (by decide)
set_option maxHeartbeats 4000000 in
set_option maxRecDepth 100000 in
theorem t_X11_saves_e {G : GG} {X : CX} {ans : Int32 × Mm} (he : EndI G X j_X11_saves b_X11_saves ans) {M : Mm} {l0 : Option Nat} {l1 : Int32} {l2 : Int32} (h : g_X11_saves M l0 l1 l2 = some ans) : Wt G X j_X11_saves b_X11_saves 0 [(0, rf G.1 l0), (1, .int l1), (2, .int l2)] [] M 0 0 := by
  unfold g_X11_saves at h
  refine wt_iload_n (pc := 0) 1 dX11_saves_0 rfl ?_
  refine wt_iconst (pc := 1) (v := 1) dX11_saves_1 (by decide) ?_
  refine wt_sipush (pc := 2) (v := 240) dX11_saves_2 (by decide) ?_
  refine wt_cSI (pc := 5) (J' := j_X11_within) (As := [.int l1, .int 1, .int 240]) (st := []) (B' := b_X11_within) (u' := 0) (w' := 0) dX11_saves_5 ml_X11_105 ms_X11_within (fun v9 M9 e9 => c_X11_within e9) rfl (by decide) rfl rfl (by decide) (by decide) (by decide) rfl h (fun v5 M5 h => ?_)
  refine wt_if_eq (pc := 8) (tgt := 21) dX11_saves_8 (by decide) (fun q => ?_) (fun q => ?_)
  · have h := ite_t q h
    refine wt_sub (ls' := [(0, rf G.1 l0)]) [0] rfl ?_
    exact t_X11_saves_21 he  h
  · have h := ite_f q h
    refine wt_iload_n (pc := 11) 2 dX11_saves_11 rfl ?_
    refine wt_iconst (pc := 12) (v := 0) dX11_saves_12 (by decide) ?_
    refine wt_bipush (pc := 13) (v := 99) dX11_saves_13 (by decide) ?_
    refine wt_cSI (pc := 15) (J' := j_X11_within) (As := [.int l2, .int 0, .int 99]) (st := []) (B' := b_X11_within) (u' := 0) (w' := 0) dX11_saves_15 ml_X11_105 ms_X11_within (fun v9 M9 e9 => c_X11_within e9) rfl (by decide) rfl rfl (by decide) (by decide) (by decide) rfl h (fun v15 M15 h => ?_)
    refine wt_if_ne (pc := 18) (tgt := 27) dX11_saves_18 (by decide) (fun q => ?_) (fun q => ?_)
    · have h := ite_f q h
      refine wt_aload_n (pc := 27) 0 dX11_saves_27 rfl ?_
      refine wt_getR (pc := 28) dX11_saves_28 fl_X11_37 (fun _ _ _ => rfl) h (fun v28 h => ?_)
      refine wt_getI (pc := 31) dX11_saves_31 fl_X11_194 (fun _ _ _ => rfl) h (fun v31 h => ?_)
      refine wt_if_ne (pc := 34) (tgt := 44) dX11_saves_34 (by decide) (fun q => ?_) (fun q => ?_)
      · have h := ite_f q h
        refine wt_aload_n (pc := 44) 0 dX11_saves_44 rfl ?_
        refine wt_getR (pc := 45) dX11_saves_45 fl_X11_41 (fun _ _ _ => rfl) h (fun v45 h => ?_)
        refine wt_aload_n (pc := 48) 0 dX11_saves_48 rfl ?_
        refine wt_getR (pc := 49) dX11_saves_49 fl_X11_37 (fun _ _ _ => rfl) h (fun v49 h => ?_)
        refine wt_cVV (pc := 52) (J' := j_X4_copyFrom) (As := [rf G.1 v49]) (st := []) (B' := b_X4_copyFrom) (u' := 0) (w' := 0) dX11_saves_52 ml_X11_335 mv_X4_copyFrom (fun M9 e9 => c_X4_copyFrom e9) rfl (by decide) rfl rfl (by decide) (by decide) (by decide) rfl h (fun M52 h => ?_)
        refine wt_aload_n (pc := 55) 0 dX11_saves_55 rfl ?_
        refine wt_getR (pc := 56) dX11_saves_56 fl_X11_41 (fun _ _ _ => rfl) h (fun v56 h => ?_)
        refine wt_iload_n (pc := 59) 1 dX11_saves_59 rfl ?_
        refine wt_cVI (pc := 60) (J' := j_X4_passHour) (As := [.int l1]) (st := []) (B' := b_X4_passHour) (u' := 0) (w' := 0) dX11_saves_60 ml_X11_313 mv_X4_passHour (fun v9 M9 e9 => c_X4_passHour e9) rfl (by decide) rfl rfl (by decide) (by decide) (by decide) rfl h (fun v60 M60 h => ?_)
        refine wt_istore_n (pc := 63) (i := 3) (ls' := [(3, .int v60), (0, rf G.1 l0), (1, .int l1), (2, .int l2)]) rfl dX11_saves_63 (by decide) rfl ?_
        refine wt_aload_n (pc := 64) 1 dX11_saves_64 rfl ?_
        refine wt_getR (pc := 65) dX11_saves_65 fl_X11_37 (fun _ _ _ => rfl) h (fun v65 h => ?_)
        refine wt_cVI (pc := 68) (J' := j_X4_allChances) (As := []) (st := []) (B' := b_X4_allChances) (u' := 0) (w' := 0) dX11_saves_68 ml_X11_213 mv_X4_allChances (fun v9 M9 e9 => c_X4_allChances e9) rfl (by decide) rfl rfl (by decide) (by decide) (by decide) rfl h (fun v68 M68 h => ?_)
        refine wt_istore (pc := 71) (i := 4) (ls' := [(4, .int v68), (3, .int v60), (0, rf G.1 l0), (1, .int l1), (2, .int l2)]) dX11_saves_71 (by decide) rfl ?_
        refine wt_aload_n (pc := 73) 2 dX11_saves_73 rfl ?_
        refine wt_getR (pc := 74) dX11_saves_74 fl_X11_37 (fun _ _ _ => rfl) h (fun v74 h => ?_)
        refine wt_cVI (pc := 77) (J' := j_X4_lossByChances) (As := []) (st := []) (B' := b_X4_lossByChances) (u' := 0) (w' := 0) dX11_saves_77 ml_X11_332 mv_X4_lossByChances (fun v9 M9 e9 => c_X4_lossByChances e9) rfl (by decide) rfl rfl (by decide) (by decide) (by decide) rfl h (fun v77 M77 h => ?_)
        refine wt_aload_n (pc := 80) 2 dX11_saves_80 rfl ?_
        refine wt_getR (pc := 81) dX11_saves_81 fl_X11_41 (fun _ _ _ => rfl) h (fun v81 h => ?_)
        refine wt_cVI (pc := 84) (J' := j_X4_lossByChances) (As := []) (st := [.int v77]) (B' := b_X4_lossByChances) (u' := 0) (w' := 0) dX11_saves_84 ml_X11_332 mv_X4_lossByChances (fun v9 M9 e9 => c_X4_lossByChances e9) rfl (by decide) rfl rfl (by decide) (by decide) (by simp [rf_cat, cat_i, cat_l, cat_r]) rfl h (fun v84 M84 h => ?_)
        refine wt_isub (pc := 87) dX11_saves_87 ?_
        refine wt_i2l (pc := 88) dX11_saves_88 ?_
        refine wt_nmL h (fun x89 h => ?_)
        refine wt_lstore (pc := 89) (i := 5) (ls' := [(5, .long x89), (4, .int v68), (3, .int v60), (0, rf G.1 l0), (1, .int l1), (2, .int l2)]) dX11_saves_89 (by decide) rfl ?_
        refine wt_aload_n (pc := 91) 3 dX11_saves_91 rfl ?_
        refine wt_lload (pc := 92) 0 dX11_saves_92 rfl ?_
        refine wt_iload_n (pc := 94) 5 dX11_saves_94 rfl ?_
        refine wt_i2l (pc := 95) dX11_saves_95 ?_
        refine wt_iload_n (pc := 96) 2 dX11_saves_96 rfl ?_
        refine wt_i2l (pc := 97) dX11_saves_97 ?_
        refine wt_lmul (pc := 98) dX11_saves_98 ?_
        refine wt_iload (pc := 99) 1 dX11_saves_99 rfl ?_
        refine wt_i2l (pc := 101) dX11_saves_101 ?_
        refine wt_lmul (pc := 102) dX11_saves_102 ?_
        refine wt_lsub (pc := 103) dX11_saves_103 ?_
        refine wt_iload (pc := 104) 1 dX11_saves_104 rfl ?_
        refine wt_i2l (pc := 106) dX11_saves_106 ?_
        refine wt_cVI (pc := 107) (J' := j_X11_tellFraction) (As := [.long (x89 - (((Int32.toInt64 l2) * (Int32.toInt64 v60)) * (Int32.toInt64 v68))), .long (Int32.toInt64 v68)]) (st := []) (B' := b_X11_tellFraction) (u' := 0) (w' := 0) dX11_saves_107 ml_X11_328 mv_X11_tellFraction (fun v9 M9 e9 => c_X11_tellFraction e9) rfl (by decide) rfl rfl (by decide) (by decide) (by decide) rfl h (fun v107 M107 h => ?_)
        cases h
        exact he 110 _ _ _ dX11_saves_110 (by decide) (by decide)
      · have h := ite_t q h
        refine wt_aload_n (pc := 37) 0 dX11_saves_37 rfl ?_
        refine wt_bipush (pc := 38) (v := 8) dX11_saves_38 (by decide) ?_
        refine wt_cVI (pc := 40) (J' := j_X11_no) (As := [.int 8]) (st := []) (B' := b_X11_no) (u' := 0) (w' := 0) dX11_saves_40 ml_X11_116 mv_X11_no (fun v9 M9 e9 => c_X11_no e9) rfl (by decide) rfl rfl (by decide) (by decide) (by decide) rfl h (fun v40 M40 h => ?_)
        cases h
        exact he 43 _ _ _ dX11_saves_43 (by decide) (by decide)
    · have h := ite_t q h
      refine wt_sub (ls' := [(0, rf G.1 l0)]) [0] rfl ?_
      exact t_X11_saves_21 he  h
set_option maxHeartbeats 4000000 in
set_option maxRecDepth 100000 in
theorem c_X11_saves {G : GG} {M : Mm} {l0 : Option Nat} {l1 : Int32} {l2 : Int32} {r : Int32 × Mm} (h : f_X11_saves M l0 l1 l2 = some r) (l : Launch) : Ct l G j_X11_saves b_X11_saves [rf G.1 l0, .int l1, .int l2] M (some (.int r.1)) r.2 := cf_Z h (by decide +kernel) (by simp [lg_sl, rf_cat, cat_i, cat_l, j_X11_saves]) rfl (by simp [lv_args, rf_cat, cat_i, cat_l]) (fun h X he => t_X11_saves_e he h)
def f_X11_dearest_82 (M : Mm) (l0 : Option Nat) (l1 : Int32) : Option (Int32 × Mm) := if l1 = (-1) then (ck M l0 11 <| bd (f_X11_none M l0 8) fun v90 M90 => some (v90, M90)) else (ck M l0 11 <| bd (f_X11_answer M l0 l1) fun v98 M98 => some (v98, M98))
def f_X11_dearest_76 (k6 : Mm → Option Nat → Int32 → Int32 → Int32 → Option (Int32 × Mm)) (M : Mm) (l0 : Option Nat) (l1 : Int32) (l2 : Int32) (l3 : Int32) : Option (Int32 × Mm) := k6 M l0 l1 l2 (l3 + 1)
def f_X11_dearest_6 : Nat → Mm → Option Nat → Int32 → Int32 → Int32 → Option (Int32 × Mm)
  | 0, _, _, _, _, _ => none
  | n + 1, M, l0, l1, l2, l3 => gfR M l0 11 7 fun v8 => gfI M v8 4 3 fun v11 => if v11 ≤ l3 then (f_X11_dearest_82  M l0 l1) else (gfR M l0 11 7 fun v18 => gfI M v18 4 5 fun v21 => if v21 ≤ 0 then (f_X11_dearest_82  M l0 l1) else (gfR M l0 11 7 fun v28 => gfR M v28 4 0 fun v31 => alR M v31 31 l3 fun v35 => gfI M v35 1 2 fun v36 => gfR M l0 11 7 fun v40 => ck M v40 4 <| bd (f_X4_chancesToFall M v40 l3) fun v44 M44 => nmI (v36 * v44) fun x48 => gfR M44 l0 11 7 fun v51 => gfR M44 v51 4 0 fun v54 => alR M44 v54 31 l3 fun v58 => ck M44 v58 1 <| bd (f_X1_isOpen M44 v58) fun v59 M59 => if v59 = 0 then (f_X11_dearest_76 (f_X11_dearest_6 n) M59 l0 l1 l2 l3) else (if x48 ≤ l2 then (f_X11_dearest_76 (f_X11_dearest_6 n) M59 l0 l1 l2 l3) else (f_X11_dearest_76 (f_X11_dearest_6 n) M59 l0 l3 x48 l3))))
def f_X11_dearest (M : Mm) (l0 : Option Nat) : Option (Int32 × Mm) := f_X11_dearest_6  fu M l0 (-1) (-1) 0
set_option maxHeartbeats 4000000 in
set_option maxRecDepth 100000 in
theorem t_X11_dearest_82 {G : GG} {X : CX} {ans : Int32 × Mm} (he : EndI G X j_X11_dearest b_X11_dearest ans) {M : Mm} {l0 : Option Nat} {l1 : Int32} (h : f_X11_dearest_82 M l0 l1 = some ans) : Wt G X j_X11_dearest b_X11_dearest 82 [(0, rf G.1 l0), (1, .int l1)] [] M 0 0 := by
  unfold f_X11_dearest_82 at h
  refine wt_iload_n (pc := 82) 1 dX11_dearest_82 rfl ?_
  refine wt_iconst (pc := 83) (v := (-1)) dX11_dearest_83 (by decide) ?_
  refine wt_icmp_ne (pc := 84) (tgt := 96) dX11_dearest_84 (by decide) (fun q => ?_) (fun q => ?_)
  · have h := ite_f q h
    refine wt_aload_n (pc := 96) 0 dX11_dearest_96 rfl ?_
    refine wt_iload_n (pc := 97) 1 dX11_dearest_97 rfl ?_
    refine wt_cVI (pc := 98) (J' := j_X11_answer) (As := [.int l1]) (st := []) (B' := b_X11_answer) (u' := 0) (w' := 0) dX11_dearest_98 ml_X11_176 mv_X11_answer (fun v9 M9 e9 => c_X11_answer e9) rfl (by decide) rfl rfl (by decide) (by decide) (by decide) rfl h (fun v98 M98 h => ?_)
    cases h
    exact he 101 _ _ _ dX11_dearest_101 (by decide) (by decide)
  · have h := ite_t q h
    refine wt_aload_n (pc := 87) 0 dX11_dearest_87 rfl ?_
    refine wt_bipush (pc := 88) (v := 8) dX11_dearest_88 (by decide) ?_
    refine wt_cVI (pc := 90) (J' := j_X11_none) (As := [.int 8]) (st := []) (B' := b_X11_none) (u' := 0) (w' := 0) dX11_dearest_90 ml_X11_131 mv_X11_none (fun v9 M9 e9 => c_X11_none e9) rfl (by decide) rfl rfl (by decide) (by decide) (by decide) rfl h (fun v90 M90 h => ?_)
    refine wt_goto (pc := 93) (tgt := 101) dX11_dearest_93 (by decide) ?_
    cases h
    exact he 101 _ _ _ dX11_dearest_101 (by decide) (by decide)
set_option maxHeartbeats 4000000 in
set_option maxRecDepth 100000 in
theorem t_X11_dearest_76 {G : GG} {X : CX} {ans : Int32 × Mm} (he : EndI G X j_X11_dearest b_X11_dearest ans) {k6 : Mm → Option Nat → Int32 → Int32 → Int32 → Option (Int32 × Mm)} (hk6 : ∀ (M : Mm) (a0 : Option Nat) (a1 : Int32) (a2 : Int32) (a3 : Int32), k6 M a0 a1 a2 a3 = some ans → Wt G X j_X11_dearest b_X11_dearest 6 [(0, rf G.1 a0), (1, .int a1), (2, .int a2), (3, .int a3)] [] M 0 0) {M : Mm} {l0 : Option Nat} {l1 : Int32} {l2 : Int32} {l3 : Int32} (h : f_X11_dearest_76 k6 M l0 l1 l2 l3 = some ans) : Wt G X j_X11_dearest b_X11_dearest 76 [(0, rf G.1 l0), (1, .int l1), (2, .int l2), (3, .int l3)] [] M 0 0 := by
  unfold f_X11_dearest_76 at h
  refine wt_iinc (pc := 76) (d := 1) (ls' := [(3, .int (l3 + 1)), (0, rf G.1 l0), (1, .int l1), (2, .int l2)]) 3 dX11_dearest_76 rfl (by decide) (by decide) rfl ?_
  refine wt_goto (pc := 79) (tgt := 6) dX11_dearest_79 (by decide) ?_
  refine wt_sub (ls' := [(0, rf G.1 l0), (1, .int l1), (2, .int l2), (3, .int (l3 + 1))]) [1, 2, 3, 0] rfl ?_
  exact hk6 _ _ _ _ _ h
set_option maxHeartbeats 4000000 in
set_option maxRecDepth 100000 in
theorem t_X11_dearest_6 {G : GG} {X : CX} {ans : Int32 × Mm} (he : EndI G X j_X11_dearest b_X11_dearest ans) : ∀ (n : Nat) {M : Mm} {l0 : Option Nat} {l1 : Int32} {l2 : Int32} {l3 : Int32}, f_X11_dearest_6 n M l0 l1 l2 l3 = some ans → Wt G X j_X11_dearest b_X11_dearest 6 [(0, rf G.1 l0), (1, .int l1), (2, .int l2), (3, .int l3)] [] M 0 0 := by
  intro n
  induction n with
  | zero =>
    intro M l0 l1 l2 l3 h
    rw [f_X11_dearest_6] at h
    cases h
  | succ n ih =>
    intro M l0 l1 l2 l3 h
    rw [f_X11_dearest_6] at h
    refine wt_iload_n (pc := 6) 3 dX11_dearest_6 rfl ?_
    refine wt_aload_n (pc := 7) 0 dX11_dearest_7 rfl ?_
    refine wt_getR (pc := 8) dX11_dearest_8 fl_X11_37 (fun _ _ _ => rfl) h (fun v8 h => ?_)
    refine wt_getI (pc := 11) dX11_dearest_11 fl_X11_102 (fun _ _ _ => rfl) h (fun v11 h => ?_)
    refine wt_icmp_ge (pc := 14) (tgt := 82) dX11_dearest_14 (by decide) (fun q => ?_) (fun q => ?_)
    · have h := ite_t q h
      refine wt_sub (ls' := [(0, rf G.1 l0), (1, .int l1)]) [0, 1] rfl ?_
      exact t_X11_dearest_82 he  h
    · have h := ite_f q h
      refine wt_aload_n (pc := 17) 0 dX11_dearest_17 rfl ?_
      refine wt_getR (pc := 18) dX11_dearest_18 fl_X11_37 (fun _ _ _ => rfl) h (fun v18 h => ?_)
      refine wt_getI (pc := 21) dX11_dearest_21 fl_X11_194 (fun _ _ _ => rfl) h (fun v21 h => ?_)
      refine wt_if_le (pc := 24) (tgt := 82) dX11_dearest_24 (by decide) (fun q => ?_) (fun q => ?_)
      · have h := ite_t q h
        refine wt_sub (ls' := [(0, rf G.1 l0), (1, .int l1)]) [0, 1] rfl ?_
        exact t_X11_dearest_82 he  h
      · have h := ite_f q h
        refine wt_aload_n (pc := 27) 0 dX11_dearest_27 rfl ?_
        refine wt_getR (pc := 28) dX11_dearest_28 fl_X11_37 (fun _ _ _ => rfl) h (fun v28 h => ?_)
        refine wt_getR (pc := 31) dX11_dearest_31 fl_X11_219 (fun _ _ _ => rfl) h (fun v31 h => ?_)
        refine wt_iload_n (pc := 34) 3 dX11_dearest_34 rfl ?_
        refine wt_aaload (pc := 35) (kd := 31) dX11_dearest_35 rfl rfl (by decide) h (fun v35 h => ?_)
        refine wt_getI (pc := 36) dX11_dearest_36 fl_X11_228 (fun _ _ _ => rfl) h (fun v36 h => ?_)
        refine wt_aload_n (pc := 39) 0 dX11_dearest_39 rfl ?_
        refine wt_getR (pc := 40) dX11_dearest_40 fl_X11_37 (fun _ _ _ => rfl) h (fun v40 h => ?_)
        refine wt_iload_n (pc := 43) 3 dX11_dearest_43 rfl ?_
        refine wt_cVI (pc := 44) (J' := j_X4_chancesToFall) (As := [.int l3]) (st := [.int v36]) (B' := b_X4_chancesToFall) (u' := 0) (w' := 0) dX11_dearest_44 ml_X11_325 mv_X4_chancesToFall (fun v9 M9 e9 => c_X4_chancesToFall e9) rfl (by decide) rfl rfl (by decide) (by decide) (by simp [rf_cat, cat_i, cat_l, cat_r]) rfl h (fun v44 M44 h => ?_)
        refine wt_imul (pc := 47) dX11_dearest_47 ?_
        refine wt_nmI h (fun x48 h => ?_)
        refine wt_istore (pc := 48) (i := 4) (ls' := [(4, .int x48), (0, rf G.1 l0), (1, .int l1), (2, .int l2), (3, .int l3)]) dX11_dearest_48 (by decide) rfl ?_
        refine wt_aload_n (pc := 50) 1 dX11_dearest_50 rfl ?_
        refine wt_getR (pc := 51) dX11_dearest_51 fl_X11_37 (fun _ _ _ => rfl) h (fun v51 h => ?_)
        refine wt_getR (pc := 54) dX11_dearest_54 fl_X11_219 (fun _ _ _ => rfl) h (fun v54 h => ?_)
        refine wt_iload_n (pc := 57) 4 dX11_dearest_57 rfl ?_
        refine wt_aaload (pc := 58) (kd := 31) dX11_dearest_58 rfl rfl (by decide) h (fun v58 h => ?_)
        refine wt_cVI (pc := 59) (J' := j_X1_isOpen) (As := []) (st := []) (B' := b_X1_isOpen) (u' := 0) (w' := 0) dX11_dearest_59 ml_X11_339 mv_X1_isOpen (fun v9 M9 e9 => c_X1_isOpen e9) rfl (by decide) rfl rfl (by decide) (by decide) (by decide) rfl h (fun v59 M59 h => ?_)
        refine wt_if_eq (pc := 62) (tgt := 76) dX11_dearest_62 (by decide) (fun q => ?_) (fun q => ?_)
        · have h := ite_t q h
          refine wt_sub (ls' := [(0, rf G.1 l0), (1, .int l1), (2, .int l2), (3, .int l3)]) [1, 2, 3, 4] rfl ?_
          exact t_X11_dearest_76 he (fun _ _ _ _ _ h => ih h) h
        · have h := ite_f q h
          refine wt_iload (pc := 65) 0 dX11_dearest_65 rfl ?_
          refine wt_iload_n (pc := 67) 3 dX11_dearest_67 rfl ?_
          refine wt_icmp_le (pc := 68) (tgt := 76) dX11_dearest_68 (by decide) (fun q => ?_) (fun q => ?_)
          · have h := ite_t q h
            refine wt_sub (ls' := [(0, rf G.1 l0), (1, .int l1), (2, .int l2), (3, .int l3)]) [1, 2, 3, 4] rfl ?_
            exact t_X11_dearest_76 he (fun _ _ _ _ _ h => ih h) h
          · have h := ite_f q h
            refine wt_iload (pc := 71) 0 dX11_dearest_71 rfl ?_
            refine wt_istore_n (pc := 73) (i := 2) (ls' := [(2, .int x48), (4, .int x48), (0, rf G.1 l0), (1, .int l1), (3, .int l3)]) rfl dX11_dearest_73 (by decide) rfl ?_
            refine wt_iload_n (pc := 74) 4 dX11_dearest_74 rfl ?_
            refine wt_istore_n (pc := 75) (i := 1) (ls' := [(1, .int l3), (2, .int x48), (4, .int x48), (0, rf G.1 l0), (3, .int l3)]) rfl dX11_dearest_75 (by decide) (by simp [rf_cat, cat_i, cat_l, cat_r]) ?_
            refine wt_sub (ls' := [(0, rf G.1 l0), (1, .int l3), (2, .int x48), (3, .int l3)]) [3, 0, 1, 4] rfl ?_
            exact t_X11_dearest_76 he (fun _ _ _ _ _ h => ih h) h
set_option maxHeartbeats 4000000 in
set_option maxRecDepth 100000 in
theorem t_X11_dearest_e {G : GG} {X : CX} {ans : Int32 × Mm} (he : EndI G X j_X11_dearest b_X11_dearest ans) {M : Mm} {l0 : Option Nat} (h : f_X11_dearest M l0 = some ans) : Wt G X j_X11_dearest b_X11_dearest 0 [(0, rf G.1 l0)] [] M 0 0 := by
  unfold f_X11_dearest at h
  refine wt_iconst (pc := 0) (v := (-1)) dX11_dearest_0 (by decide) ?_
  refine wt_istore_n (pc := 1) (i := 1) (ls' := [(1, .int (-1)), (0, rf G.1 l0)]) rfl dX11_dearest_1 (by decide) (by simp [rf_cat, cat_i, cat_l, cat_r]) ?_
  refine wt_iconst (pc := 2) (v := (-1)) dX11_dearest_2 (by decide) ?_
  refine wt_istore_n (pc := 3) (i := 2) (ls' := [(2, .int (-1)), (1, .int (-1)), (0, rf G.1 l0)]) rfl dX11_dearest_3 (by decide) rfl ?_
  refine wt_iconst (pc := 4) (v := 0) dX11_dearest_4 (by decide) ?_
  refine wt_istore_n (pc := 5) (i := 3) (ls' := [(3, .int 0), (2, .int (-1)), (1, .int (-1)), (0, rf G.1 l0)]) rfl dX11_dearest_5 (by decide) rfl ?_
  refine wt_sub (ls' := [(0, rf G.1 l0), (1, .int (-1)), (2, .int (-1)), (3, .int 0)]) [3, 2, 1, 0] rfl ?_
  exact t_X11_dearest_6 he  fu h
set_option maxHeartbeats 4000000 in
set_option maxRecDepth 100000 in
theorem c_X11_dearest {G : GG} {M : Mm} {l0 : Option Nat} {r : Int32 × Mm} (h : f_X11_dearest M l0 = some r) (l : Launch) : Ct l G j_X11_dearest b_X11_dearest [rf G.1 l0] M (some (.int r.1)) r.2 := cf_I (by decide +kernel) (by simp [lg_sl, rf_cat, cat_i, cat_l, j_X11_dearest]) rfl (by simp [lv_args, rf_cat, cat_i, cat_l]) (fun X he => t_X11_dearest_e he h)
def f_X11_worstWind_56 (k6 : Mm → Option Nat → Int32 → Int32 → Int32 → Option (Int32 × Mm)) (M : Mm) (l0 : Option Nat) (l1 : Int32) (l2 : Int32) (l3 : Int32) : Option (Int32 × Mm) := k6 M l0 l1 l2 (l3 + 1)
def f_X11_worstWind_6 : Nat → Mm → Option Nat → Int32 → Int32 → Int32 → Option (Int32 × Mm)
  | 0, _, _, _, _, _ => none
  | n + 1, M, l0, l1, l2, l3 => gfR M l0 11 7 fun v8 => gfI M v8 4 5 fun v11 => if v11 ≤ l3 then (if l1 = (-1) then (ck M l0 11 <| bd (f_X11_none M l0 8) fun v70 M70 => some (v70, M70)) else (ck M l0 11 <| bd (f_X11_answer M l0 l1) fun v78 M78 => some (v78, M78))) else (gfR M l0 11 7 fun v18 => gfR M l0 11 7 fun v22 => gfR M l0 11 7 fun v26 => gfR M v26 4 2 fun v29 => alR M v29 38 l3 fun v33 => gfI M v33 8 1 fun v34 => ck M v22 4 <| bd (f_X4_fallingSet M v22 v34) fun v37 M37 => ck M37 v18 4 <| bd (f_X4_worthOf M37 v18 v37) fun v40 M40 => if v40 ≤ l2 then (f_X11_worstWind_56 (f_X11_worstWind_6 n) M40 l0 l1 l2 l3) else (f_X11_worstWind_56 (f_X11_worstWind_6 n) M40 l0 l3 v40 l3))
def f_X11_worstWind (M : Mm) (l0 : Option Nat) : Option (Int32 × Mm) := f_X11_worstWind_6  fu M l0 (-1) (-1) 0
set_option maxHeartbeats 4000000 in
set_option maxRecDepth 100000 in
theorem t_X11_worstWind_56 {G : GG} {X : CX} {ans : Int32 × Mm} (he : EndI G X j_X11_worstWind b_X11_worstWind ans) {k6 : Mm → Option Nat → Int32 → Int32 → Int32 → Option (Int32 × Mm)} (hk6 : ∀ (M : Mm) (a0 : Option Nat) (a1 : Int32) (a2 : Int32) (a3 : Int32), k6 M a0 a1 a2 a3 = some ans → Wt G X j_X11_worstWind b_X11_worstWind 6 [(0, rf G.1 a0), (1, .int a1), (2, .int a2), (3, .int a3)] [] M 0 0) {M : Mm} {l0 : Option Nat} {l1 : Int32} {l2 : Int32} {l3 : Int32} (h : f_X11_worstWind_56 k6 M l0 l1 l2 l3 = some ans) : Wt G X j_X11_worstWind b_X11_worstWind 56 [(0, rf G.1 l0), (1, .int l1), (2, .int l2), (3, .int l3)] [] M 0 0 := by
  unfold f_X11_worstWind_56 at h
  refine wt_iinc (pc := 56) (d := 1) (ls' := [(3, .int (l3 + 1)), (0, rf G.1 l0), (1, .int l1), (2, .int l2)]) 3 dX11_worstWind_56 rfl (by decide) (by decide) rfl ?_
  refine wt_goto (pc := 59) (tgt := 6) dX11_worstWind_59 (by decide) ?_
  refine wt_sub (ls' := [(0, rf G.1 l0), (1, .int l1), (2, .int l2), (3, .int (l3 + 1))]) [1, 2, 3, 0] rfl ?_
  exact hk6 _ _ _ _ _ h
set_option maxHeartbeats 4000000 in
set_option maxRecDepth 100000 in
theorem t_X11_worstWind_6 {G : GG} {X : CX} {ans : Int32 × Mm} (he : EndI G X j_X11_worstWind b_X11_worstWind ans) : ∀ (n : Nat) {M : Mm} {l0 : Option Nat} {l1 : Int32} {l2 : Int32} {l3 : Int32}, f_X11_worstWind_6 n M l0 l1 l2 l3 = some ans → Wt G X j_X11_worstWind b_X11_worstWind 6 [(0, rf G.1 l0), (1, .int l1), (2, .int l2), (3, .int l3)] [] M 0 0 := by
  intro n
  induction n with
  | zero =>
    intro M l0 l1 l2 l3 h
    rw [f_X11_worstWind_6] at h
    cases h
  | succ n ih =>
    intro M l0 l1 l2 l3 h
    rw [f_X11_worstWind_6] at h
    refine wt_iload_n (pc := 6) 3 dX11_worstWind_6 rfl ?_
    refine wt_aload_n (pc := 7) 0 dX11_worstWind_7 rfl ?_
    refine wt_getR (pc := 8) dX11_worstWind_8 fl_X11_37 (fun _ _ _ => rfl) h (fun v8 h => ?_)
    refine wt_getI (pc := 11) dX11_worstWind_11 fl_X11_194 (fun _ _ _ => rfl) h (fun v11 h => ?_)
    refine wt_icmp_ge (pc := 14) (tgt := 62) dX11_worstWind_14 (by decide) (fun q => ?_) (fun q => ?_)
    · have h := ite_t q h
      refine wt_iload_n (pc := 62) 1 dX11_worstWind_62 rfl ?_
      refine wt_iconst (pc := 63) (v := (-1)) dX11_worstWind_63 (by decide) ?_
      refine wt_icmp_ne (pc := 64) (tgt := 76) dX11_worstWind_64 (by decide) (fun q => ?_) (fun q => ?_)
      · have h := ite_f q h
        refine wt_aload_n (pc := 76) 0 dX11_worstWind_76 rfl ?_
        refine wt_iload_n (pc := 77) 1 dX11_worstWind_77 rfl ?_
        refine wt_cVI (pc := 78) (J' := j_X11_answer) (As := [.int l1]) (st := []) (B' := b_X11_answer) (u' := 0) (w' := 0) dX11_worstWind_78 ml_X11_176 mv_X11_answer (fun v9 M9 e9 => c_X11_answer e9) rfl (by decide) rfl rfl (by decide) (by decide) (by decide) rfl h (fun v78 M78 h => ?_)
        cases h
        exact he 81 _ _ _ dX11_worstWind_81 (by decide) (by decide)
      · have h := ite_t q h
        refine wt_aload_n (pc := 67) 0 dX11_worstWind_67 rfl ?_
        refine wt_bipush (pc := 68) (v := 8) dX11_worstWind_68 (by decide) ?_
        refine wt_cVI (pc := 70) (J' := j_X11_none) (As := [.int 8]) (st := []) (B' := b_X11_none) (u' := 0) (w' := 0) dX11_worstWind_70 ml_X11_131 mv_X11_none (fun v9 M9 e9 => c_X11_none e9) rfl (by decide) rfl rfl (by decide) (by decide) (by decide) rfl h (fun v70 M70 h => ?_)
        refine wt_goto (pc := 73) (tgt := 81) dX11_worstWind_73 (by decide) ?_
        cases h
        exact he 81 _ _ _ dX11_worstWind_81 (by decide) (by decide)
    · have h := ite_f q h
      refine wt_aload_n (pc := 17) 0 dX11_worstWind_17 rfl ?_
      refine wt_getR (pc := 18) dX11_worstWind_18 fl_X11_37 (fun _ _ _ => rfl) h (fun v18 h => ?_)
      refine wt_aload_n (pc := 21) 0 dX11_worstWind_21 rfl ?_
      refine wt_getR (pc := 22) dX11_worstWind_22 fl_X11_37 (fun _ _ _ => rfl) h (fun v22 h => ?_)
      refine wt_aload_n (pc := 25) 0 dX11_worstWind_25 rfl ?_
      refine wt_getR (pc := 26) dX11_worstWind_26 fl_X11_37 (fun _ _ _ => rfl) h (fun v26 h => ?_)
      refine wt_getR (pc := 29) dX11_worstWind_29 fl_X11_277 (fun _ _ _ => rfl) h (fun v29 h => ?_)
      refine wt_iload_n (pc := 32) 3 dX11_worstWind_32 rfl ?_
      refine wt_aaload (pc := 33) (kd := 38) dX11_worstWind_33 rfl rfl (by decide) h (fun v33 h => ?_)
      refine wt_getI (pc := 34) dX11_worstWind_34 fl_X11_281 (fun _ _ _ => rfl) h (fun v34 h => ?_)
      refine wt_cVI (pc := 37) (J' := j_X4_fallingSet) (As := [.int v34]) (st := [rf G.1 v18]) (B' := b_X4_fallingSet) (u' := 0) (w' := 0) dX11_worstWind_37 ml_X11_322 mv_X4_fallingSet (fun v9 M9 e9 => c_X4_fallingSet e9) rfl (by decide) rfl rfl (by decide) (by decide) (by simp [rf_cat, cat_i, cat_l, cat_r]) rfl h (fun v37 M37 h => ?_)
      refine wt_cVI (pc := 40) (J' := j_X4_worthOf) (As := [.int v37]) (st := []) (B' := b_X4_worthOf) (u' := 0) (w' := 0) dX11_worstWind_40 ml_X11_210 mv_X4_worthOf (fun v9 M9 e9 => c_X4_worthOf e9) rfl (by decide) rfl rfl (by decide) (by decide) (by decide) rfl h (fun v40 M40 h => ?_)
      refine wt_istore (pc := 43) (i := 4) (ls' := [(4, .int v40), (0, rf G.1 l0), (1, .int l1), (2, .int l2), (3, .int l3)]) dX11_worstWind_43 (by decide) rfl ?_
      refine wt_iload (pc := 45) 0 dX11_worstWind_45 rfl ?_
      refine wt_iload_n (pc := 47) 3 dX11_worstWind_47 rfl ?_
      refine wt_icmp_le (pc := 48) (tgt := 56) dX11_worstWind_48 (by decide) (fun q => ?_) (fun q => ?_)
      · have h := ite_t q h
        refine wt_sub (ls' := [(0, rf G.1 l0), (1, .int l1), (2, .int l2), (3, .int l3)]) [1, 2, 3, 4] rfl ?_
        exact t_X11_worstWind_56 he (fun _ _ _ _ _ h => ih h) h
      · have h := ite_f q h
        refine wt_iload (pc := 51) 0 dX11_worstWind_51 rfl ?_
        refine wt_istore_n (pc := 53) (i := 2) (ls' := [(2, .int v40), (4, .int v40), (0, rf G.1 l0), (1, .int l1), (3, .int l3)]) rfl dX11_worstWind_53 (by decide) rfl ?_
        refine wt_iload_n (pc := 54) 4 dX11_worstWind_54 rfl ?_
        refine wt_istore_n (pc := 55) (i := 1) (ls' := [(1, .int l3), (2, .int v40), (4, .int v40), (0, rf G.1 l0), (3, .int l3)]) rfl dX11_worstWind_55 (by decide) (by simp [rf_cat, cat_i, cat_l, cat_r]) ?_
        refine wt_sub (ls' := [(0, rf G.1 l0), (1, .int l3), (2, .int v40), (3, .int l3)]) [3, 0, 1, 4] rfl ?_
        exact t_X11_worstWind_56 he (fun _ _ _ _ _ h => ih h) h
set_option maxHeartbeats 4000000 in
set_option maxRecDepth 100000 in
theorem t_X11_worstWind_e {G : GG} {X : CX} {ans : Int32 × Mm} (he : EndI G X j_X11_worstWind b_X11_worstWind ans) {M : Mm} {l0 : Option Nat} (h : f_X11_worstWind M l0 = some ans) : Wt G X j_X11_worstWind b_X11_worstWind 0 [(0, rf G.1 l0)] [] M 0 0 := by
  unfold f_X11_worstWind at h
  refine wt_iconst (pc := 0) (v := (-1)) dX11_worstWind_0 (by decide) ?_
  refine wt_istore_n (pc := 1) (i := 1) (ls' := [(1, .int (-1)), (0, rf G.1 l0)]) rfl dX11_worstWind_1 (by decide) (by simp [rf_cat, cat_i, cat_l, cat_r]) ?_
  refine wt_iconst (pc := 2) (v := (-1)) dX11_worstWind_2 (by decide) ?_
  refine wt_istore_n (pc := 3) (i := 2) (ls' := [(2, .int (-1)), (1, .int (-1)), (0, rf G.1 l0)]) rfl dX11_worstWind_3 (by decide) rfl ?_
  refine wt_iconst (pc := 4) (v := 0) dX11_worstWind_4 (by decide) ?_
  refine wt_istore_n (pc := 5) (i := 3) (ls' := [(3, .int 0), (2, .int (-1)), (1, .int (-1)), (0, rf G.1 l0)]) rfl dX11_worstWind_5 (by decide) rfl ?_
  refine wt_sub (ls' := [(0, rf G.1 l0), (1, .int (-1)), (2, .int (-1)), (3, .int 0)]) [3, 2, 1, 0] rfl ?_
  exact t_X11_worstWind_6 he  fu h
set_option maxHeartbeats 4000000 in
set_option maxRecDepth 100000 in
theorem c_X11_worstWind {G : GG} {M : Mm} {l0 : Option Nat} {r : Int32 × Mm} (h : f_X11_worstWind M l0 = some r) (l : Launch) : Ct l G j_X11_worstWind b_X11_worstWind [rf G.1 l0] M (some (.int r.1)) r.2 := cf_I (by decide +kernel) (by simp [lg_sl, rf_cat, cat_i, cat_l, j_X11_worstWind]) rfl (by simp [lv_args, rf_cat, cat_i, cat_l]) (fun X he => t_X11_worstWind_e he h)
def f_X11_best (M : Mm) (l0 : Option Nat) (l1 : Int32) (l2 : Int32) : Option (Int32 × Mm) := ck M l0 11 <| bd (f_X11_isGang M l0 l1) fun v2 M2 => if v2 = 0 then (ck M2 l0 11 <| bd (f_X11_none M2 l0 2) fun v10 M10 => some (v10, M10)) else (bd (f_X11_within M2 l2 0 240) fun v19 M19 => if v19 = 0 then (ck M19 l0 11 <| bd (f_X11_none M19 l0 5) fun v27 M27 => some (v27, M27)) else (gfR M19 l0 11 14 fun v33 => gfR M19 l0 11 7 fun v37 => ck M19 v33 3 <| bd (f_X3_worthiestSet M19 v33 v37 l1 l2) fun v42 M42 => pfI M42 l0 11 15 v42 fun M45 => gfR M45 l0 11 7 fun v50 => gfI M45 l0 11 15 fun v54 => ck M45 v50 4 <| bd (f_X4_worthOf M45 v50 v54) fun v57 M57 => ck M57 l0 11 <| bd (f_X11_answer M57 l0 v57) fun v60 M60 => some (v60, M60)))
set_option maxHeartbeats 4000000 in
set_option maxRecDepth 100000 in
theorem t_X11_best_e {G : GG} {X : CX} {ans : Int32 × Mm} (he : EndI G X j_X11_best b_X11_best ans) {M : Mm} {l0 : Option Nat} {l1 : Int32} {l2 : Int32} (h : f_X11_best M l0 l1 l2 = some ans) : Wt G X j_X11_best b_X11_best 0 [(0, rf G.1 l0), (1, .int l1), (2, .int l2)] [] M 0 0 := by
  unfold f_X11_best at h
  refine wt_aload_n (pc := 0) 0 dX11_best_0 rfl ?_
  refine wt_iload_n (pc := 1) 1 dX11_best_1 rfl ?_
  refine wt_cVI (pc := 2) (J' := j_X11_isGang) (As := [.int l1]) (st := []) (B' := b_X11_isGang) (u' := 0) (w' := 0) dX11_best_2 ml_X11_252 mv_X11_isGang (fun v9 M9 e9 => c_X11_isGang e9) rfl (by decide) rfl rfl (by decide) (by decide) (by decide) rfl h (fun v2 M2 h => ?_)
  refine wt_if_ne (pc := 5) (tgt := 14) dX11_best_5 (by decide) (fun q => ?_) (fun q => ?_)
  · have h := ite_f q h
    refine wt_iload_n (pc := 14) 2 dX11_best_14 rfl ?_
    refine wt_iconst (pc := 15) (v := 0) dX11_best_15 (by decide) ?_
    refine wt_sipush (pc := 16) (v := 240) dX11_best_16 (by decide) ?_
    refine wt_cSI (pc := 19) (J' := j_X11_within) (As := [.int l2, .int 0, .int 240]) (st := []) (B' := b_X11_within) (u' := 0) (w' := 0) dX11_best_19 ml_X11_105 ms_X11_within (fun v9 M9 e9 => c_X11_within e9) rfl (by decide) rfl rfl (by decide) (by decide) (by decide) rfl h (fun v19 M19 h => ?_)
    refine wt_if_ne (pc := 22) (tgt := 31) dX11_best_22 (by decide) (fun q => ?_) (fun q => ?_)
    · have h := ite_f q h
      refine wt_aload_n (pc := 31) 0 dX11_best_31 rfl ?_
      refine wt_aload_n (pc := 32) 0 dX11_best_32 rfl ?_
      refine wt_getR (pc := 33) dX11_best_33 fl_X11_65 (fun _ _ _ => rfl) h (fun v33 h => ?_)
      refine wt_aload_n (pc := 36) 0 dX11_best_36 rfl ?_
      refine wt_getR (pc := 37) dX11_best_37 fl_X11_37 (fun _ _ _ => rfl) h (fun v37 h => ?_)
      refine wt_iload_n (pc := 40) 1 dX11_best_40 rfl ?_
      refine wt_iload_n (pc := 41) 2 dX11_best_41 rfl ?_
      refine wt_cVI (pc := 42) (J' := j_X3_worthiestSet) (As := [rf G.1 v37, .int l1, .int l2]) (st := [rf G.1 l0]) (B' := b_X3_worthiestSet) (u' := 0) (w' := 0) dX11_best_42 ml_X11_342 mv_X3_worthiestSet (fun v9 M9 e9 => c_X3_worthiestSet e9) rfl (by decide) rfl rfl (by decide) (by decide) (by simp [rf_cat, cat_i, cat_l, cat_r]) rfl h (fun v42 M42 h => ?_)
      refine wt_putI (pc := 45) dX11_best_45 fl_X11_69 rfl rfl h (fun M45 h => ?_)
      refine wt_aload_n (pc := 48) 0 dX11_best_48 rfl ?_
      refine wt_aload_n (pc := 49) 0 dX11_best_49 rfl ?_
      refine wt_getR (pc := 50) dX11_best_50 fl_X11_37 (fun _ _ _ => rfl) h (fun v50 h => ?_)
      refine wt_aload_n (pc := 53) 0 dX11_best_53 rfl ?_
      refine wt_getI (pc := 54) dX11_best_54 fl_X11_69 (fun _ _ _ => rfl) h (fun v54 h => ?_)
      refine wt_cVI (pc := 57) (J' := j_X4_worthOf) (As := [.int v54]) (st := [rf G.1 l0]) (B' := b_X4_worthOf) (u' := 0) (w' := 0) dX11_best_57 ml_X11_210 mv_X4_worthOf (fun v9 M9 e9 => c_X4_worthOf e9) rfl (by decide) rfl rfl (by decide) (by decide) (by simp [rf_cat, cat_i, cat_l, cat_r]) rfl h (fun v57 M57 h => ?_)
      refine wt_cVI (pc := 60) (J' := j_X11_answer) (As := [.int v57]) (st := []) (B' := b_X11_answer) (u' := 0) (w' := 0) dX11_best_60 ml_X11_176 mv_X11_answer (fun v9 M9 e9 => c_X11_answer e9) rfl (by decide) rfl rfl (by decide) (by decide) (by decide) rfl h (fun v60 M60 h => ?_)
      cases h
      exact he 63 _ _ _ dX11_best_63 (by decide) (by decide)
    · have h := ite_t q h
      refine wt_aload_n (pc := 25) 0 dX11_best_25 rfl ?_
      refine wt_iconst (pc := 26) (v := 5) dX11_best_26 (by decide) ?_
      refine wt_cVI (pc := 27) (J' := j_X11_none) (As := [.int 5]) (st := []) (B' := b_X11_none) (u' := 0) (w' := 0) dX11_best_27 ml_X11_131 mv_X11_none (fun v9 M9 e9 => c_X11_none e9) rfl (by decide) rfl rfl (by decide) (by decide) (by decide) rfl h (fun v27 M27 h => ?_)
      cases h
      exact he 30 _ _ _ dX11_best_30 (by decide) (by decide)
  · have h := ite_t q h
    refine wt_aload_n (pc := 8) 0 dX11_best_8 rfl ?_
    refine wt_iconst (pc := 9) (v := 2) dX11_best_9 (by decide) ?_
    refine wt_cVI (pc := 10) (J' := j_X11_none) (As := [.int 2]) (st := []) (B' := b_X11_none) (u' := 0) (w' := 0) dX11_best_10 ml_X11_131 mv_X11_none (fun v9 M9 e9 => c_X11_none e9) rfl (by decide) rfl rfl (by decide) (by decide) (by decide) rfl h (fun v10 M10 h => ?_)
    cases h
    exact he 13 _ _ _ dX11_best_13 (by decide) (by decide)
set_option maxHeartbeats 4000000 in
set_option maxRecDepth 100000 in
theorem c_X11_best {G : GG} {M : Mm} {l0 : Option Nat} {l1 : Int32} {l2 : Int32} {r : Int32 × Mm} (h : f_X11_best M l0 l1 l2 = some r) (l : Launch) : Ct l G j_X11_best b_X11_best [rf G.1 l0, .int l1, .int l2] M (some (.int r.1)) r.2 := cf_I (by decide +kernel) (by simp [lg_sl, rf_cat, cat_i, cat_l, j_X11_best]) rfl (by simp [lv_args, rf_cat, cat_i, cat_l]) (fun X he => t_X11_best_e he h)
def f_X11_bestSet (M : Mm) (l0 : Option Nat) : Option (Int32 × Mm) := gfI M l0 11 15 fun v1 => if v1 = (-1) then (ck M l0 11 <| bd (f_X11_none M l0 8) fun v11 M11 => some (v11, M11)) else (gfI M l0 11 15 fun v19 => ck M l0 11 <| bd (f_X11_answer M l0 v19) fun v22 M22 => some (v22, M22))
set_option maxHeartbeats 4000000 in
set_option maxRecDepth 100000 in
theorem t_X11_bestSet_e {G : GG} {X : CX} {ans : Int32 × Mm} (he : EndI G X j_X11_bestSet b_X11_bestSet ans) {M : Mm} {l0 : Option Nat} (h : f_X11_bestSet M l0 = some ans) : Wt G X j_X11_bestSet b_X11_bestSet 0 [(0, rf G.1 l0)] [] M 0 0 := by
  unfold f_X11_bestSet at h
  refine wt_aload_n (pc := 0) 0 dX11_bestSet_0 rfl ?_
  refine wt_getI (pc := 1) dX11_bestSet_1 fl_X11_69 (fun _ _ _ => rfl) h (fun v1 h => ?_)
  refine wt_iconst (pc := 4) (v := (-1)) dX11_bestSet_4 (by decide) ?_
  refine wt_icmp_ne (pc := 5) (tgt := 17) dX11_bestSet_5 (by decide) (fun q => ?_) (fun q => ?_)
  · have h := ite_f q h
    refine wt_aload_n (pc := 17) 0 dX11_bestSet_17 rfl ?_
    refine wt_aload_n (pc := 18) 0 dX11_bestSet_18 rfl ?_
    refine wt_getI (pc := 19) dX11_bestSet_19 fl_X11_69 (fun _ _ _ => rfl) h (fun v19 h => ?_)
    refine wt_cVI (pc := 22) (J' := j_X11_answer) (As := [.int v19]) (st := []) (B' := b_X11_answer) (u' := 0) (w' := 0) dX11_bestSet_22 ml_X11_176 mv_X11_answer (fun v9 M9 e9 => c_X11_answer e9) rfl (by decide) rfl rfl (by decide) (by decide) (by decide) rfl h (fun v22 M22 h => ?_)
    cases h
    exact he 25 _ _ _ dX11_bestSet_25 (by decide) (by decide)
  · have h := ite_t q h
    refine wt_aload_n (pc := 8) 0 dX11_bestSet_8 rfl ?_
    refine wt_bipush (pc := 9) (v := 8) dX11_bestSet_9 (by decide) ?_
    refine wt_cVI (pc := 11) (J' := j_X11_none) (As := [.int 8]) (st := []) (B' := b_X11_none) (u' := 0) (w' := 0) dX11_bestSet_11 ml_X11_131 mv_X11_none (fun v9 M9 e9 => c_X11_none e9) rfl (by decide) rfl rfl (by decide) (by decide) (by decide) rfl h (fun v11 M11 h => ?_)
    refine wt_goto (pc := 14) (tgt := 25) dX11_bestSet_14 (by decide) ?_
    cases h
    exact he 25 _ _ _ dX11_bestSet_25 (by decide) (by decide)
set_option maxHeartbeats 4000000 in
set_option maxRecDepth 100000 in
theorem c_X11_bestSet {G : GG} {M : Mm} {l0 : Option Nat} {r : Int32 × Mm} (h : f_X11_bestSet M l0 = some r) (l : Launch) : Ct l G j_X11_bestSet b_X11_bestSet [rf G.1 l0] M (some (.int r.1)) r.2 := cf_I (by decide +kernel) (by simp [lg_sl, rf_cat, cat_i, cat_l, j_X11_bestSet]) rfl (by simp [lv_args, rf_cat, cat_i, cat_l]) (fun X he => t_X11_bestSet_e he h)
def f_X11_soonest_31 (M : Mm) (l0 : Option Nat) : Option (Int32 × Mm) := ck M l0 11 <| bd (f_X11_none M l0 5) fun v33 M33 => some (v33, M33)
def f_X11_soonest (M : Mm) (l0 : Option Nat) (l1 : Int32) (l2 : Int32) : Option (Int32 × Mm) := ck M l0 11 <| bd (f_X11_isGang M l0 l1) fun v2 M2 => if v2 = 0 then (ck M2 l0 11 <| bd (f_X11_none M2 l0 2) fun v10 M10 => some (v10, M10)) else (if l2 < 0 then (f_X11_soonest_31  M2 l0) else (gfR M2 l0 11 7 fun v21 => gfI M2 v21 4 3 fun v24 => if l2 < (1 <<< (v24 &&& 31)) then (gfR M2 l0 11 7 fun v39 => ck M2 v39 4 <| bd (f_X4_openSet M2 v39) fun v42 M42 => if (l2 &&& (v42 ^^^ (-1))) = 0 then (gfR M42 l0 11 14 fun v59 => gfR M42 l0 11 7 fun v63 => ck M42 v59 3 <| bv (f_X3_findOrder M42 v59 v63 l1 l2) fun M68 => gfR M68 l0 11 14 fun v73 => gfR M68 l0 11 7 fun v77 => ck M68 v73 3 <| bd (f_X3_minutesFor M68 v73 v77 l1 l2) fun v82 M82 => ck M82 l0 11 <| bd (f_X11_answer M82 l0 v82) fun v85 M85 => some (v85, M85)) else (ck M42 l0 11 <| bd (f_X11_none M42 l0 9) fun v54 M54 => some (v54, M54))) else (f_X11_soonest_31  M2 l0)))
set_option maxHeartbeats 4000000 in
set_option maxRecDepth 100000 in
theorem t_X11_soonest_31 {G : GG} {X : CX} {ans : Int32 × Mm} (he : EndI G X j_X11_soonest b_X11_soonest ans) {M : Mm} {l0 : Option Nat} (h : f_X11_soonest_31 M l0 = some ans) : Wt G X j_X11_soonest b_X11_soonest 31 [(0, rf G.1 l0)] [] M 0 0 := by
  unfold f_X11_soonest_31 at h
  refine wt_aload_n (pc := 31) 0 dX11_soonest_31 rfl ?_
  refine wt_iconst (pc := 32) (v := 5) dX11_soonest_32 (by decide) ?_
  refine wt_cVI (pc := 33) (J' := j_X11_none) (As := [.int 5]) (st := []) (B' := b_X11_none) (u' := 0) (w' := 0) dX11_soonest_33 ml_X11_131 mv_X11_none (fun v9 M9 e9 => c_X11_none e9) rfl (by decide) rfl rfl (by decide) (by decide) (by decide) rfl h (fun v33 M33 h => ?_)
  cases h
  exact he 36 _ _ _ dX11_soonest_36 (by decide) (by decide)
set_option maxHeartbeats 4000000 in
set_option maxRecDepth 100000 in
theorem t_X11_soonest_e {G : GG} {X : CX} {ans : Int32 × Mm} (he : EndI G X j_X11_soonest b_X11_soonest ans) {M : Mm} {l0 : Option Nat} {l1 : Int32} {l2 : Int32} (h : f_X11_soonest M l0 l1 l2 = some ans) : Wt G X j_X11_soonest b_X11_soonest 0 [(0, rf G.1 l0), (1, .int l1), (2, .int l2)] [] M 0 0 := by
  unfold f_X11_soonest at h
  refine wt_aload_n (pc := 0) 0 dX11_soonest_0 rfl ?_
  refine wt_iload_n (pc := 1) 1 dX11_soonest_1 rfl ?_
  refine wt_cVI (pc := 2) (J' := j_X11_isGang) (As := [.int l1]) (st := []) (B' := b_X11_isGang) (u' := 0) (w' := 0) dX11_soonest_2 ml_X11_252 mv_X11_isGang (fun v9 M9 e9 => c_X11_isGang e9) rfl (by decide) rfl rfl (by decide) (by decide) (by decide) rfl h (fun v2 M2 h => ?_)
  refine wt_if_ne (pc := 5) (tgt := 14) dX11_soonest_5 (by decide) (fun q => ?_) (fun q => ?_)
  · have h := ite_f q h
    refine wt_iload_n (pc := 14) 2 dX11_soonest_14 rfl ?_
    refine wt_if_lt (pc := 15) (tgt := 31) dX11_soonest_15 (by decide) (fun q => ?_) (fun q => ?_)
    · have h := ite_t q h
      refine wt_sub (ls' := [(0, rf G.1 l0)]) [0] rfl ?_
      exact t_X11_soonest_31 he  h
    · have h := ite_f q h
      refine wt_iload_n (pc := 18) 2 dX11_soonest_18 rfl ?_
      refine wt_iconst (pc := 19) (v := 1) dX11_soonest_19 (by decide) ?_
      refine wt_aload_n (pc := 20) 0 dX11_soonest_20 rfl ?_
      refine wt_getR (pc := 21) dX11_soonest_21 fl_X11_37 (fun _ _ _ => rfl) h (fun v21 h => ?_)
      refine wt_getI (pc := 24) dX11_soonest_24 fl_X11_102 (fun _ _ _ => rfl) h (fun v24 h => ?_)
      refine wt_ishl (pc := 27) dX11_soonest_27 ?_
      refine wt_icmp_lt (pc := 28) (tgt := 37) dX11_soonest_28 (by decide) (fun q => ?_) (fun q => ?_)
      · have h := ite_t q h
        refine wt_iload_n (pc := 37) 2 dX11_soonest_37 rfl ?_
        refine wt_aload_n (pc := 38) 0 dX11_soonest_38 rfl ?_
        refine wt_getR (pc := 39) dX11_soonest_39 fl_X11_37 (fun _ _ _ => rfl) h (fun v39 h => ?_)
        refine wt_cVI (pc := 42) (J' := j_X4_openSet) (As := []) (st := [.int l2]) (B' := b_X4_openSet) (u' := 0) (w' := 0) dX11_soonest_42 ml_X11_346 mv_X4_openSet (fun v9 M9 e9 => c_X4_openSet e9) rfl (by decide) rfl rfl (by decide) (by decide) (by simp [rf_cat, cat_i, cat_l, cat_r]) rfl h (fun v42 M42 h => ?_)
        refine wt_iconst (pc := 45) (v := (-1)) dX11_soonest_45 (by decide) ?_
        refine wt_ixor (pc := 46) dX11_soonest_46 ?_
        refine wt_iand (pc := 47) dX11_soonest_47 ?_
        refine wt_if_eq (pc := 48) (tgt := 58) dX11_soonest_48 (by decide) (fun q => ?_) (fun q => ?_)
        · have h := ite_t q h
          refine wt_aload_n (pc := 58) 0 dX11_soonest_58 rfl ?_
          refine wt_getR (pc := 59) dX11_soonest_59 fl_X11_65 (fun _ _ _ => rfl) h (fun v59 h => ?_)
          refine wt_aload_n (pc := 62) 0 dX11_soonest_62 rfl ?_
          refine wt_getR (pc := 63) dX11_soonest_63 fl_X11_37 (fun _ _ _ => rfl) h (fun v63 h => ?_)
          refine wt_iload_n (pc := 66) 1 dX11_soonest_66 rfl ?_
          refine wt_iload_n (pc := 67) 2 dX11_soonest_67 rfl ?_
          refine wt_cVV (pc := 68) (J' := j_X3_findOrder) (As := [rf G.1 v63, .int l1, .int l2]) (st := []) (B' := b_X3_findOrder) (u' := 0) (w' := 0) dX11_soonest_68 ml_X11_349 mv_X3_findOrder (fun M9 e9 => c_X3_findOrder e9) rfl (by decide) rfl rfl (by decide) (by decide) (by decide) rfl h (fun M68 h => ?_)
          refine wt_aload_n (pc := 71) 0 dX11_soonest_71 rfl ?_
          refine wt_aload_n (pc := 72) 0 dX11_soonest_72 rfl ?_
          refine wt_getR (pc := 73) dX11_soonest_73 fl_X11_65 (fun _ _ _ => rfl) h (fun v73 h => ?_)
          refine wt_aload_n (pc := 76) 0 dX11_soonest_76 rfl ?_
          refine wt_getR (pc := 77) dX11_soonest_77 fl_X11_37 (fun _ _ _ => rfl) h (fun v77 h => ?_)
          refine wt_iload_n (pc := 80) 1 dX11_soonest_80 rfl ?_
          refine wt_iload_n (pc := 81) 2 dX11_soonest_81 rfl ?_
          refine wt_cVI (pc := 82) (J' := j_X3_minutesFor) (As := [rf G.1 v77, .int l1, .int l2]) (st := [rf G.1 l0]) (B' := b_X3_minutesFor) (u' := 0) (w' := 0) dX11_soonest_82 ml_X11_353 mv_X3_minutesFor (fun v9 M9 e9 => c_X3_minutesFor e9) rfl (by decide) rfl rfl (by decide) (by decide) (by simp [rf_cat, cat_i, cat_l, cat_r]) rfl h (fun v82 M82 h => ?_)
          refine wt_cVI (pc := 85) (J' := j_X11_answer) (As := [.int v82]) (st := []) (B' := b_X11_answer) (u' := 0) (w' := 0) dX11_soonest_85 ml_X11_176 mv_X11_answer (fun v9 M9 e9 => c_X11_answer e9) rfl (by decide) rfl rfl (by decide) (by decide) (by decide) rfl h (fun v85 M85 h => ?_)
          cases h
          exact he 88 _ _ _ dX11_soonest_88 (by decide) (by decide)
        · have h := ite_f q h
          refine wt_aload_n (pc := 51) 0 dX11_soonest_51 rfl ?_
          refine wt_bipush (pc := 52) (v := 9) dX11_soonest_52 (by decide) ?_
          refine wt_cVI (pc := 54) (J' := j_X11_none) (As := [.int 9]) (st := []) (B' := b_X11_none) (u' := 0) (w' := 0) dX11_soonest_54 ml_X11_131 mv_X11_none (fun v9 M9 e9 => c_X11_none e9) rfl (by decide) rfl rfl (by decide) (by decide) (by decide) rfl h (fun v54 M54 h => ?_)
          cases h
          exact he 57 _ _ _ dX11_soonest_57 (by decide) (by decide)
      · have h := ite_f q h
        refine wt_sub (ls' := [(0, rf G.1 l0)]) [0] rfl ?_
        exact t_X11_soonest_31 he  h
  · have h := ite_t q h
    refine wt_aload_n (pc := 8) 0 dX11_soonest_8 rfl ?_
    refine wt_iconst (pc := 9) (v := 2) dX11_soonest_9 (by decide) ?_
    refine wt_cVI (pc := 10) (J' := j_X11_none) (As := [.int 2]) (st := []) (B' := b_X11_none) (u' := 0) (w' := 0) dX11_soonest_10 ml_X11_131 mv_X11_none (fun v9 M9 e9 => c_X11_none e9) rfl (by decide) rfl rfl (by decide) (by decide) (by decide) rfl h (fun v10 M10 h => ?_)
    cases h
    exact he 13 _ _ _ dX11_soonest_13 (by decide) (by decide)
set_option maxHeartbeats 4000000 in
set_option maxRecDepth 100000 in
theorem c_X11_soonest {G : GG} {M : Mm} {l0 : Option Nat} {l1 : Int32} {l2 : Int32} {r : Int32 × Mm} (h : f_X11_soonest M l0 l1 l2 = some r) (l : Launch) : Ct l G j_X11_soonest b_X11_soonest [rf G.1 l0, .int l1, .int l2] M (some (.int r.1)) r.2 := cf_I (by decide +kernel) (by simp [lg_sl, rf_cat, cat_i, cat_l, j_X11_soonest]) rfl (by simp [lv_args, rf_cat, cat_i, cat_l]) (fun X he => t_X11_soonest_e he h)
def f_X11_order (M : Mm) (l0 : Option Nat) (l1 : Int32) : Option (Int32 × Mm) := gfR M l0 11 14 fun v3 => gfI M v3 3 1 fun v6 => bd (f_X11_within M l1 0 (v6 - 1)) fun v11 M11 => if v11 = 0 then (ck M11 l0 11 <| bd (f_X11_none M11 l0 8) fun v36 M36 => some (v36, M36)) else (gfR M11 l0 11 14 fun v19 => gfR M11 v19 3 0 fun v22 => alI M11 v22 21 l1 fun v26 => ck M11 l0 11 <| bd (f_X11_answer M11 l0 v26) fun v27 M27 => some (v27, M27))
set_option maxHeartbeats 4000000 in
set_option maxRecDepth 100000 in
theorem t_X11_order_e {G : GG} {X : CX} {ans : Int32 × Mm} (he : EndI G X j_X11_order b_X11_order ans) {M : Mm} {l0 : Option Nat} {l1 : Int32} (h : f_X11_order M l0 l1 = some ans) : Wt G X j_X11_order b_X11_order 0 [(0, rf G.1 l0), (1, .int l1)] [] M 0 0 := by
  unfold f_X11_order at h
  refine wt_iload_n (pc := 0) 1 dX11_order_0 rfl ?_
  refine wt_iconst (pc := 1) (v := 0) dX11_order_1 (by decide) ?_
  refine wt_aload_n (pc := 2) 0 dX11_order_2 rfl ?_
  refine wt_getR (pc := 3) dX11_order_3 fl_X11_65 (fun _ _ _ => rfl) h (fun v3 h => ?_)
  refine wt_getI (pc := 6) dX11_order_6 fl_X11_356 (fun _ _ _ => rfl) h (fun v6 h => ?_)
  refine wt_iconst (pc := 9) (v := 1) dX11_order_9 (by decide) ?_
  refine wt_isub (pc := 10) dX11_order_10 ?_
  refine wt_cSI (pc := 11) (J' := j_X11_within) (As := [.int l1, .int 0, .int (v6 - 1)]) (st := []) (B' := b_X11_within) (u' := 0) (w' := 0) dX11_order_11 ml_X11_105 ms_X11_within (fun v9 M9 e9 => c_X11_within e9) rfl (by decide) rfl rfl (by decide) (by decide) (by decide) rfl h (fun v11 M11 h => ?_)
  refine wt_if_eq (pc := 14) (tgt := 33) dX11_order_14 (by decide) (fun q => ?_) (fun q => ?_)
  · have h := ite_t q h
    refine wt_aload_n (pc := 33) 0 dX11_order_33 rfl ?_
    refine wt_bipush (pc := 34) (v := 8) dX11_order_34 (by decide) ?_
    refine wt_cVI (pc := 36) (J' := j_X11_none) (As := [.int 8]) (st := []) (B' := b_X11_none) (u' := 0) (w' := 0) dX11_order_36 ml_X11_131 mv_X11_none (fun v9 M9 e9 => c_X11_none e9) rfl (by decide) rfl rfl (by decide) (by decide) (by decide) rfl h (fun v36 M36 h => ?_)
    cases h
    exact he 39 _ _ _ dX11_order_39 (by decide) (by decide)
  · have h := ite_f q h
    refine wt_aload_n (pc := 17) 0 dX11_order_17 rfl ?_
    refine wt_aload_n (pc := 18) 0 dX11_order_18 rfl ?_
    refine wt_getR (pc := 19) dX11_order_19 fl_X11_65 (fun _ _ _ => rfl) h (fun v19 h => ?_)
    refine wt_getR (pc := 22) dX11_order_22 fl_X11_359 (fun _ _ _ => rfl) h (fun v22 h => ?_)
    refine wt_iload_n (pc := 25) 1 dX11_order_25 rfl ?_
    refine wt_iaload (pc := 26) (kd := 21) dX11_order_26 rfl rfl h (fun v26 h => ?_)
    refine wt_cVI (pc := 27) (J' := j_X11_answer) (As := [.int v26]) (st := []) (B' := b_X11_answer) (u' := 0) (w' := 0) dX11_order_27 ml_X11_176 mv_X11_answer (fun v9 M9 e9 => c_X11_answer e9) rfl (by decide) rfl rfl (by decide) (by decide) (by decide) rfl h (fun v27 M27 h => ?_)
    refine wt_goto (pc := 30) (tgt := 39) dX11_order_30 (by decide) ?_
    cases h
    exact he 39 _ _ _ dX11_order_39 (by decide) (by decide)
set_option maxHeartbeats 4000000 in
set_option maxRecDepth 100000 in
theorem c_X11_order {G : GG} {M : Mm} {l0 : Option Nat} {l1 : Int32} {r : Int32 × Mm} (h : f_X11_order M l0 l1 = some r) (l : Launch) : Ct l G j_X11_order b_X11_order [rf G.1 l0, .int l1] M (some (.int r.1)) r.2 := cf_I (by decide +kernel) (by simp [lg_sl, rf_cat, cat_i, cat_l, j_X11_order]) rfl (by simp [lv_args, rf_cat, cat_i, cat_l]) (fun X he => t_X11_order_e he h)
def f_X11_shared (M : Mm) (l0 : Option Nat) (l1 : Int32) : Option (Int32 × Mm) := bd (f_X11_within M l1 0 240) fun v5 M5 => if v5 = 0 then (ck M5 l0 11 <| bd (f_X11_none M5 l0 5) fun v13 M13 => some (v13, M13)) else (gfR M5 l0 11 14 fun v18 => gfR M5 l0 11 7 fun v22 => ck M5 v18 3 <| bv (f_X3_shareOut M5 v18 v22) fun M25 => gfR M25 l0 11 14 fun v30 => gfR M25 l0 11 7 fun v34 => ck M25 v30 3 <| bd (f_X3_mostShared M25 v30 v34 l1) fun v38 M38 => ck M38 l0 11 <| bd (f_X11_answer M38 l0 v38) fun v41 M41 => some (v41, M41))
set_option maxHeartbeats 4000000 in
set_option maxRecDepth 100000 in
theorem t_X11_shared_e {G : GG} {X : CX} {ans : Int32 × Mm} (he : EndI G X j_X11_shared b_X11_shared ans) {M : Mm} {l0 : Option Nat} {l1 : Int32} (h : f_X11_shared M l0 l1 = some ans) : Wt G X j_X11_shared b_X11_shared 0 [(0, rf G.1 l0), (1, .int l1)] [] M 0 0 := by
  unfold f_X11_shared at h
  refine wt_iload_n (pc := 0) 1 dX11_shared_0 rfl ?_
  refine wt_iconst (pc := 1) (v := 0) dX11_shared_1 (by decide) ?_
  refine wt_sipush (pc := 2) (v := 240) dX11_shared_2 (by decide) ?_
  refine wt_cSI (pc := 5) (J' := j_X11_within) (As := [.int l1, .int 0, .int 240]) (st := []) (B' := b_X11_within) (u' := 0) (w' := 0) dX11_shared_5 ml_X11_105 ms_X11_within (fun v9 M9 e9 => c_X11_within e9) rfl (by decide) rfl rfl (by decide) (by decide) (by decide) rfl h (fun v5 M5 h => ?_)
  refine wt_if_ne (pc := 8) (tgt := 17) dX11_shared_8 (by decide) (fun q => ?_) (fun q => ?_)
  · have h := ite_f q h
    refine wt_aload_n (pc := 17) 0 dX11_shared_17 rfl ?_
    refine wt_getR (pc := 18) dX11_shared_18 fl_X11_65 (fun _ _ _ => rfl) h (fun v18 h => ?_)
    refine wt_aload_n (pc := 21) 0 dX11_shared_21 rfl ?_
    refine wt_getR (pc := 22) dX11_shared_22 fl_X11_37 (fun _ _ _ => rfl) h (fun v22 h => ?_)
    refine wt_cVV (pc := 25) (J' := j_X3_shareOut) (As := [rf G.1 v22]) (st := []) (B' := b_X3_shareOut) (u' := 0) (w' := 0) dX11_shared_25 ml_X11_362 mv_X3_shareOut (fun M9 e9 => c_X3_shareOut e9) rfl (by decide) rfl rfl (by decide) (by decide) (by decide) rfl h (fun M25 h => ?_)
    refine wt_aload_n (pc := 28) 0 dX11_shared_28 rfl ?_
    refine wt_aload_n (pc := 29) 0 dX11_shared_29 rfl ?_
    refine wt_getR (pc := 30) dX11_shared_30 fl_X11_65 (fun _ _ _ => rfl) h (fun v30 h => ?_)
    refine wt_aload_n (pc := 33) 0 dX11_shared_33 rfl ?_
    refine wt_getR (pc := 34) dX11_shared_34 fl_X11_37 (fun _ _ _ => rfl) h (fun v34 h => ?_)
    refine wt_iload_n (pc := 37) 1 dX11_shared_37 rfl ?_
    refine wt_cVI (pc := 38) (J' := j_X3_mostShared) (As := [rf G.1 v34, .int l1]) (st := [rf G.1 l0]) (B' := b_X3_mostShared) (u' := 0) (w' := 0) dX11_shared_38 ml_X11_365 mv_X3_mostShared (fun v9 M9 e9 => c_X3_mostShared e9) rfl (by decide) rfl rfl (by decide) (by decide) (by simp [rf_cat, cat_i, cat_l, cat_r]) rfl h (fun v38 M38 h => ?_)
    refine wt_cVI (pc := 41) (J' := j_X11_answer) (As := [.int v38]) (st := []) (B' := b_X11_answer) (u' := 0) (w' := 0) dX11_shared_41 ml_X11_176 mv_X11_answer (fun v9 M9 e9 => c_X11_answer e9) rfl (by decide) rfl rfl (by decide) (by decide) (by decide) rfl h (fun v41 M41 h => ?_)
    cases h
    exact he 44 _ _ _ dX11_shared_44 (by decide) (by decide)
  · have h := ite_t q h
    refine wt_aload_n (pc := 11) 0 dX11_shared_11 rfl ?_
    refine wt_iconst (pc := 12) (v := 5) dX11_shared_12 (by decide) ?_
    refine wt_cVI (pc := 13) (J' := j_X11_none) (As := [.int 5]) (st := []) (B' := b_X11_none) (u' := 0) (w' := 0) dX11_shared_13 ml_X11_131 mv_X11_none (fun v9 M9 e9 => c_X11_none e9) rfl (by decide) rfl rfl (by decide) (by decide) (by decide) rfl h (fun v13 M13 h => ?_)
    cases h
    exact he 16 _ _ _ dX11_shared_16 (by decide) (by decide)
set_option maxHeartbeats 4000000 in
set_option maxRecDepth 100000 in
theorem c_X11_shared {G : GG} {M : Mm} {l0 : Option Nat} {l1 : Int32} {r : Int32 × Mm} (h : f_X11_shared M l0 l1 = some r) (l : Launch) : Ct l G j_X11_shared b_X11_shared [rf G.1 l0, .int l1] M (some (.int r.1)) r.2 := cf_I (by decide +kernel) (by simp [lg_sl, rf_cat, cat_i, cat_l, j_X11_shared]) rfl (by simp [lv_args, rf_cat, cat_i, cat_l]) (fun X he => t_X11_shared_e he h)
def f_X11_allOff (M : Mm) (l0 : Option Nat) : Option (Int32 × Mm) := gfR M l0 11 14 fun v1 => gfR M l0 11 7 fun v5 => ck M v1 3 <| bv (f_X3_shareOut M v1 v5) fun M8 => gfR M8 l0 11 14 fun v12 => gfR M8 v12 3 3 fun v15 => gfR M8 l0 11 7 fun v19 => ck M8 v19 4 <| bd (f_X4_openSet M8 v19) fun v22 M22 => alI M22 v15 21 v22 fun v25 => if v25 ≤ 999 then (ck M22 l0 11 <| bd (f_X11_answer M22 l0 v25) fun v45 M45 => some (v45, M45)) else (ck M22 l0 11 <| bd (f_X11_none M22 l0 8) fun v37 M37 => some (v37, M37))
set_option maxHeartbeats 4000000 in
set_option maxRecDepth 100000 in
theorem t_X11_allOff_e {G : GG} {X : CX} {ans : Int32 × Mm} (he : EndI G X j_X11_allOff b_X11_allOff ans) {M : Mm} {l0 : Option Nat} (h : f_X11_allOff M l0 = some ans) : Wt G X j_X11_allOff b_X11_allOff 0 [(0, rf G.1 l0)] [] M 0 0 := by
  unfold f_X11_allOff at h
  refine wt_aload_n (pc := 0) 0 dX11_allOff_0 rfl ?_
  refine wt_getR (pc := 1) dX11_allOff_1 fl_X11_65 (fun _ _ _ => rfl) h (fun v1 h => ?_)
  refine wt_aload_n (pc := 4) 0 dX11_allOff_4 rfl ?_
  refine wt_getR (pc := 5) dX11_allOff_5 fl_X11_37 (fun _ _ _ => rfl) h (fun v5 h => ?_)
  refine wt_cVV (pc := 8) (J' := j_X3_shareOut) (As := [rf G.1 v5]) (st := []) (B' := b_X3_shareOut) (u' := 0) (w' := 0) dX11_allOff_8 ml_X11_362 mv_X3_shareOut (fun M9 e9 => c_X3_shareOut e9) rfl (by decide) rfl rfl (by decide) (by decide) (by decide) rfl h (fun M8 h => ?_)
  refine wt_aload_n (pc := 11) 0 dX11_allOff_11 rfl ?_
  refine wt_getR (pc := 12) dX11_allOff_12 fl_X11_65 (fun _ _ _ => rfl) h (fun v12 h => ?_)
  refine wt_getR (pc := 15) dX11_allOff_15 fl_X11_369 (fun _ _ _ => rfl) h (fun v15 h => ?_)
  refine wt_aload_n (pc := 18) 0 dX11_allOff_18 rfl ?_
  refine wt_getR (pc := 19) dX11_allOff_19 fl_X11_37 (fun _ _ _ => rfl) h (fun v19 h => ?_)
  refine wt_cVI (pc := 22) (J' := j_X4_openSet) (As := []) (st := [rf G.1 v15]) (B' := b_X4_openSet) (u' := 0) (w' := 0) dX11_allOff_22 ml_X11_346 mv_X4_openSet (fun v9 M9 e9 => c_X4_openSet e9) rfl (by decide) rfl rfl (by decide) (by decide) (by simp [rf_cat, cat_i, cat_l, cat_r]) rfl h (fun v22 M22 h => ?_)
  refine wt_iaload (pc := 25) (kd := 21) dX11_allOff_25 rfl rfl h (fun v25 h => ?_)
  refine wt_istore_n (pc := 26) (i := 1) (ls' := [(1, .int v25), (0, rf G.1 l0)]) rfl dX11_allOff_26 (by decide) (by simp [rf_cat, cat_i, cat_l, cat_r]) ?_
  refine wt_iload_n (pc := 27) 0 dX11_allOff_27 rfl ?_
  refine wt_sipush (pc := 28) (v := 999) dX11_allOff_28 (by decide) ?_
  refine wt_icmp_le (pc := 31) (tgt := 43) dX11_allOff_31 (by decide) (fun q => ?_) (fun q => ?_)
  · have h := ite_t q h
    refine wt_aload_n (pc := 43) 1 dX11_allOff_43 rfl ?_
    refine wt_iload_n (pc := 44) 0 dX11_allOff_44 rfl ?_
    refine wt_cVI (pc := 45) (J' := j_X11_answer) (As := [.int v25]) (st := []) (B' := b_X11_answer) (u' := 0) (w' := 0) dX11_allOff_45 ml_X11_176 mv_X11_answer (fun v9 M9 e9 => c_X11_answer e9) rfl (by decide) rfl rfl (by decide) (by decide) (by decide) rfl h (fun v45 M45 h => ?_)
    cases h
    exact he 48 _ _ _ dX11_allOff_48 (by decide) (by decide)
  · have h := ite_f q h
    refine wt_aload_n (pc := 34) 1 dX11_allOff_34 rfl ?_
    refine wt_bipush (pc := 35) (v := 8) dX11_allOff_35 (by decide) ?_
    refine wt_cVI (pc := 37) (J' := j_X11_none) (As := [.int 8]) (st := []) (B' := b_X11_none) (u' := 0) (w' := 0) dX11_allOff_37 ml_X11_131 mv_X11_none (fun v9 M9 e9 => c_X11_none e9) rfl (by decide) rfl rfl (by decide) (by decide) (by decide) rfl h (fun v37 M37 h => ?_)
    refine wt_goto (pc := 40) (tgt := 48) dX11_allOff_40 (by decide) ?_
    cases h
    exact he 48 _ _ _ dX11_allOff_48 (by decide) (by decide)
set_option maxHeartbeats 4000000 in
set_option maxRecDepth 100000 in
theorem c_X11_allOff {G : GG} {M : Mm} {l0 : Option Nat} {r : Int32 × Mm} (h : f_X11_allOff M l0 = some r) (l : Launch) : Ct l G j_X11_allOff b_X11_allOff [rf G.1 l0] M (some (.int r.1)) r.2 := cf_I (by decide +kernel) (by simp [lg_sl, rf_cat, cat_i, cat_l, j_X11_allOff]) rfl (by simp [lv_args, rf_cat, cat_i, cat_l]) (fun X he => t_X11_allOff_e he h)
def f_X11_whyNoScore (M : Mm) (l0 : Option Nat) (l1 : Int32) (l2 : Int32) (l3 : Int32) : Option (Int32 × Mm) := gfR M l0 11 6 fun v1 => ck M v1 7 <| bd (f_X7_has M v1 l1) fun v5 M5 => if v5 = 0 then (some (1, M5)) else (gfR M5 l0 11 6 fun v12 => ck M5 v12 7 <| bd (f_X7_has M5 v12 l2) fun v16 M16 => if v16 = 0 then (some (1, M16)) else (gfR M16 l0 11 6 fun v25 => ck M16 v25 7 <| bd (f_X7_isMissing M16 v25 l1) fun v29 M29 => if v29 = 0 then (gfR M29 l0 11 6 fun v36 => ck M29 v36 7 <| bd (f_X7_isMissing M29 v36 l2) fun v40 M40 => if v40 = 0 then (gfR M40 l0 11 6 fun v50 => gfR M40 v50 7 2 fun v53 => alI M40 v53 21 l1 fun v57 => if v57 < l3 then (some (4, M40)) else (gfR M40 l0 11 6 fun v63 => gfR M40 v63 7 2 fun v66 => alI M40 v66 21 l2 fun v70 => if l3 ≤ v70 then (if l3 < 1 then (some (5, M40)) else (gfR M40 l0 11 6 fun v82 => ck M40 v82 7 <| bd (f_X7_areWithin M40 v82 l1 l3 100) fun v89 M89 => if v89 = 0 then (some (5, M89)) else (gfR M89 l0 11 6 fun v96 => ck M89 v96 7 <| bd (f_X7_areWithin M89 v96 l2 l3 1) fun v102 M102 => if v102 = 0 then (some (5, M102)) else (some (0, M102))))) else (some (4, M40)))) else (some (3, M40))) else (some (3, M29))))
set_option maxHeartbeats 4000000 in
set_option maxRecDepth 100000 in
theorem t_X11_whyNoScore_e {G : GG} {X : CX} {ans : Int32 × Mm} (he : EndI G X j_X11_whyNoScore b_X11_whyNoScore ans) {M : Mm} {l0 : Option Nat} {l1 : Int32} {l2 : Int32} {l3 : Int32} (h : f_X11_whyNoScore M l0 l1 l2 l3 = some ans) : Wt G X j_X11_whyNoScore b_X11_whyNoScore 0 [(0, rf G.1 l0), (1, .int l1), (2, .int l2), (3, .int l3)] [] M 0 0 := by
  unfold f_X11_whyNoScore at h
  refine wt_aload_n (pc := 0) 0 dX11_whyNoScore_0 rfl ?_
  refine wt_getR (pc := 1) dX11_whyNoScore_1 fl_X11_30 (fun _ _ _ => rfl) h (fun v1 h => ?_)
  refine wt_iload_n (pc := 4) 1 dX11_whyNoScore_4 rfl ?_
  refine wt_cVI (pc := 5) (J' := j_X7_has) (As := [.int l1]) (st := []) (B' := b_X7_has) (u' := 0) (w' := 0) dX11_whyNoScore_5 ml_X11_112 mv_X7_has (fun v9 M9 e9 => c_X7_has e9) rfl (by decide) rfl rfl (by decide) (by decide) (by decide) rfl h (fun v5 M5 h => ?_)
  refine wt_if_eq (pc := 8) (tgt := 22) dX11_whyNoScore_8 (by decide) (fun q => ?_) (fun q => ?_)
  · have h := ite_t q h
    refine wt_iconst (pc := 22) (v := 1) dX11_whyNoScore_22 (by decide) ?_
    cases h
    exact he 23 _ _ _ dX11_whyNoScore_23 (by decide) (by decide)
  · have h := ite_f q h
    refine wt_aload_n (pc := 11) 0 dX11_whyNoScore_11 rfl ?_
    refine wt_getR (pc := 12) dX11_whyNoScore_12 fl_X11_30 (fun _ _ _ => rfl) h (fun v12 h => ?_)
    refine wt_iload_n (pc := 15) 2 dX11_whyNoScore_15 rfl ?_
    refine wt_cVI (pc := 16) (J' := j_X7_has) (As := [.int l2]) (st := []) (B' := b_X7_has) (u' := 0) (w' := 0) dX11_whyNoScore_16 ml_X11_112 mv_X7_has (fun v9 M9 e9 => c_X7_has e9) rfl (by decide) rfl rfl (by decide) (by decide) (by decide) rfl h (fun v16 M16 h => ?_)
    refine wt_if_ne (pc := 19) (tgt := 24) dX11_whyNoScore_19 (by decide) (fun q => ?_) (fun q => ?_)
    · have h := ite_f q h
      refine wt_aload_n (pc := 24) 0 dX11_whyNoScore_24 rfl ?_
      refine wt_getR (pc := 25) dX11_whyNoScore_25 fl_X11_30 (fun _ _ _ => rfl) h (fun v25 h => ?_)
      refine wt_iload_n (pc := 28) 1 dX11_whyNoScore_28 rfl ?_
      refine wt_cVI (pc := 29) (J' := j_X7_isMissing) (As := [.int l1]) (st := []) (B' := b_X7_isMissing) (u' := 0) (w' := 0) dX11_whyNoScore_29 ml_X11_139 mv_X7_isMissing (fun v9 M9 e9 => c_X7_isMissing e9) rfl (by decide) rfl rfl (by decide) (by decide) (by decide) rfl h (fun v29 M29 h => ?_)
      refine wt_if_ne (pc := 32) (tgt := 46) dX11_whyNoScore_32 (by decide) (fun q => ?_) (fun q => ?_)
      · have h := ite_f q h
        refine wt_iconst (pc := 46) (v := 3) dX11_whyNoScore_46 (by decide) ?_
        cases h
        exact he 47 _ _ _ dX11_whyNoScore_47 (by decide) (by decide)
      · have h := ite_t q h
        refine wt_aload_n (pc := 35) 0 dX11_whyNoScore_35 rfl ?_
        refine wt_getR (pc := 36) dX11_whyNoScore_36 fl_X11_30 (fun _ _ _ => rfl) h (fun v36 h => ?_)
        refine wt_iload_n (pc := 39) 2 dX11_whyNoScore_39 rfl ?_
        refine wt_cVI (pc := 40) (J' := j_X7_isMissing) (As := [.int l2]) (st := []) (B' := b_X7_isMissing) (u' := 0) (w' := 0) dX11_whyNoScore_40 ml_X11_139 mv_X7_isMissing (fun v9 M9 e9 => c_X7_isMissing e9) rfl (by decide) rfl rfl (by decide) (by decide) (by decide) rfl h (fun v40 M40 h => ?_)
        refine wt_if_eq (pc := 43) (tgt := 48) dX11_whyNoScore_43 (by decide) (fun q => ?_) (fun q => ?_)
        · have h := ite_t q h
          refine wt_iload_n (pc := 48) 3 dX11_whyNoScore_48 rfl ?_
          refine wt_aload_n (pc := 49) 0 dX11_whyNoScore_49 rfl ?_
          refine wt_getR (pc := 50) dX11_whyNoScore_50 fl_X11_30 (fun _ _ _ => rfl) h (fun v50 h => ?_)
          refine wt_getR (pc := 53) dX11_whyNoScore_53 fl_X11_381 (fun _ _ _ => rfl) h (fun v53 h => ?_)
          refine wt_iload_n (pc := 56) 1 dX11_whyNoScore_56 rfl ?_
          refine wt_iaload (pc := 57) (kd := 21) dX11_whyNoScore_57 rfl rfl h (fun v57 h => ?_)
          refine wt_icmp_gt (pc := 58) (tgt := 74) dX11_whyNoScore_58 (by decide) (fun q => ?_) (fun q => ?_)
          · have h := ite_t q h
            refine wt_iconst (pc := 74) (v := 4) dX11_whyNoScore_74 (by decide) ?_
            cases h
            exact he 75 _ _ _ dX11_whyNoScore_75 (by decide) (by decide)
          · have h := ite_f q h
            refine wt_iload_n (pc := 61) 3 dX11_whyNoScore_61 rfl ?_
            refine wt_aload_n (pc := 62) 0 dX11_whyNoScore_62 rfl ?_
            refine wt_getR (pc := 63) dX11_whyNoScore_63 fl_X11_30 (fun _ _ _ => rfl) h (fun v63 h => ?_)
            refine wt_getR (pc := 66) dX11_whyNoScore_66 fl_X11_381 (fun _ _ _ => rfl) h (fun v66 h => ?_)
            refine wt_iload_n (pc := 69) 2 dX11_whyNoScore_69 rfl ?_
            refine wt_iaload (pc := 70) (kd := 21) dX11_whyNoScore_70 rfl rfl h (fun v70 h => ?_)
            refine wt_icmp_le (pc := 71) (tgt := 76) dX11_whyNoScore_71 (by decide) (fun q => ?_) (fun q => ?_)
            · have h := ite_t q h
              refine wt_iload_n (pc := 76) 3 dX11_whyNoScore_76 rfl ?_
              refine wt_iconst (pc := 77) (v := 1) dX11_whyNoScore_77 (by decide) ?_
              refine wt_icmp_lt (pc := 78) (tgt := 108) dX11_whyNoScore_78 (by decide) (fun q => ?_) (fun q => ?_)
              · have h := ite_t q h
                refine wt_iconst (pc := 108) (v := 5) dX11_whyNoScore_108 (by decide) ?_
                cases h
                exact he 109 _ _ _ dX11_whyNoScore_109 (by decide) (by decide)
              · have h := ite_f q h
                refine wt_aload_n (pc := 81) 0 dX11_whyNoScore_81 rfl ?_
                refine wt_getR (pc := 82) dX11_whyNoScore_82 fl_X11_30 (fun _ _ _ => rfl) h (fun v82 h => ?_)
                refine wt_iload_n (pc := 85) 1 dX11_whyNoScore_85 rfl ?_
                refine wt_iload_n (pc := 86) 3 dX11_whyNoScore_86 rfl ?_
                refine wt_bipush (pc := 87) (v := 100) dX11_whyNoScore_87 (by decide) ?_
                refine wt_cVI (pc := 89) (J' := j_X7_areWithin) (As := [.int l1, .int l3, .int 100]) (st := []) (B' := b_X7_areWithin) (u' := 0) (w' := 0) dX11_whyNoScore_89 ml_X11_384 mv_X7_areWithin (fun v9 M9 e9 => c_X7_areWithin e9) rfl (by decide) rfl rfl (by decide) (by decide) (by decide) rfl h (fun v89 M89 h => ?_)
                refine wt_if_eq (pc := 92) (tgt := 108) dX11_whyNoScore_92 (by decide) (fun q => ?_) (fun q => ?_)
                · have h := ite_t q h
                  refine wt_iconst (pc := 108) (v := 5) dX11_whyNoScore_108 (by decide) ?_
                  cases h
                  exact he 109 _ _ _ dX11_whyNoScore_109 (by decide) (by decide)
                · have h := ite_f q h
                  refine wt_aload_n (pc := 95) 0 dX11_whyNoScore_95 rfl ?_
                  refine wt_getR (pc := 96) dX11_whyNoScore_96 fl_X11_30 (fun _ _ _ => rfl) h (fun v96 h => ?_)
                  refine wt_iload_n (pc := 99) 2 dX11_whyNoScore_99 rfl ?_
                  refine wt_iload_n (pc := 100) 3 dX11_whyNoScore_100 rfl ?_
                  refine wt_iconst (pc := 101) (v := 1) dX11_whyNoScore_101 (by decide) ?_
                  refine wt_cVI (pc := 102) (J' := j_X7_areWithin) (As := [.int l2, .int l3, .int 1]) (st := []) (B' := b_X7_areWithin) (u' := 0) (w' := 0) dX11_whyNoScore_102 ml_X11_384 mv_X7_areWithin (fun v9 M9 e9 => c_X7_areWithin e9) rfl (by decide) rfl rfl (by decide) (by decide) (by decide) rfl h (fun v102 M102 h => ?_)
                  refine wt_if_ne (pc := 105) (tgt := 110) dX11_whyNoScore_105 (by decide) (fun q => ?_) (fun q => ?_)
                  · have h := ite_f q h
                    refine wt_iconst (pc := 110) (v := 0) dX11_whyNoScore_110 (by decide) ?_
                    cases h
                    exact he 111 _ _ _ dX11_whyNoScore_111 (by decide) (by decide)
                  · have h := ite_t q h
                    refine wt_iconst (pc := 108) (v := 5) dX11_whyNoScore_108 (by decide) ?_
                    cases h
                    exact he 109 _ _ _ dX11_whyNoScore_109 (by decide) (by decide)
            · have h := ite_f q h
              refine wt_iconst (pc := 74) (v := 4) dX11_whyNoScore_74 (by decide) ?_
              cases h
              exact he 75 _ _ _ dX11_whyNoScore_75 (by decide) (by decide)
        · have h := ite_f q h
          refine wt_iconst (pc := 46) (v := 3) dX11_whyNoScore_46 (by decide) ?_
          cases h
          exact he 47 _ _ _ dX11_whyNoScore_47 (by decide) (by decide)
    · have h := ite_t q h
      refine wt_iconst (pc := 22) (v := 1) dX11_whyNoScore_22 (by decide) ?_
      cases h
      exact he 23 _ _ _ dX11_whyNoScore_23 (by decide) (by decide)
set_option maxHeartbeats 4000000 in
set_option maxRecDepth 100000 in
theorem c_X11_whyNoScore {G : GG} {M : Mm} {l0 : Option Nat} {l1 : Int32} {l2 : Int32} {l3 : Int32} {r : Int32 × Mm} (h : f_X11_whyNoScore M l0 l1 l2 l3 = some r) (l : Launch) : Ct l G j_X11_whyNoScore b_X11_whyNoScore [rf G.1 l0, .int l1, .int l2, .int l3] M (some (.int r.1)) r.2 := cf_I (by decide +kernel) (by simp [lg_sl, rf_cat, cat_i, cat_l, j_X11_whyNoScore]) rfl (by simp [lv_args, rf_cat, cat_i, cat_l]) (fun X he => t_X11_whyNoScore_e he h)

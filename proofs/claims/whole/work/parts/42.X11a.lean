theorem fl_X11_9 : FLk RX11 9 11 2 := ⟨_, rfl, by decide, Or.inl (gw_at 686 (by decide +kernel) rfl)⟩
theorem fl_X11_13 : FLk RX11 13 11 3 := ⟨_, rfl, by decide, Or.inl (gw_at 687 (by decide +kernel) rfl)⟩
theorem fl_X11_17 : FLk RX11 17 11 4 := ⟨_, rfl, by decide, Or.inl (gw_at 688 (by decide +kernel) rfl)⟩
theorem fl_X11_23 : FLk RX11 23 11 5 := ⟨_, rfl, by decide, Or.inl (gw_at 689 (by decide +kernel) rfl)⟩
theorem fl_X11_30 : FLk RX11 30 11 6 := ⟨_, rfl, by decide, Or.inl (gw_at 690 (by decide +kernel) rfl)⟩
theorem fl_X11_37 : FLk RX11 37 11 7 := ⟨_, rfl, by decide, Or.inl (gw_at 691 (by decide +kernel) rfl)⟩
theorem fl_X11_41 : FLk RX11 41 11 8 := ⟨_, rfl, by decide, Or.inl (gw_at 692 (by decide +kernel) rfl)⟩
theorem fl_X11_47 : FLk RX11 47 11 9 := ⟨_, rfl, by decide, Or.inl (gw_at 693 (by decide +kernel) rfl)⟩
theorem fl_X11_51 : FLk RX11 51 11 10 := ⟨_, rfl, by decide, Or.inl (gw_at 694 (by decide +kernel) rfl)⟩
theorem fl_X11_54 : FLk RX11 54 11 11 := ⟨_, rfl, by decide, Or.inl (gw_at 695 (by decide +kernel) rfl)⟩
theorem fl_X11_58 : FLk RX11 58 11 12 := ⟨_, rfl, by decide, Or.inl (gw_at 696 (by decide +kernel) rfl)⟩
theorem fl_X11_65 : FLk RX11 65 11 14 := ⟨_, rfl, by decide, Or.inl (gw_at 698 (by decide +kernel) rfl)⟩
theorem fl_X11_69 : FLk RX11 69 11 15 := ⟨_, rfl, by decide, Or.inl (gw_at 699 (by decide +kernel) rfl)⟩
theorem fl_X11_75 : FLk RX11 75 11 16 := ⟨_, rfl, by decide, Or.inl (gw_at 700 (by decide +kernel) rfl)⟩
theorem fl_X11_79 : FLk RX11 79 11 17 := ⟨_, rfl, by decide, Or.inl (gw_at 701 (by decide +kernel) rfl)⟩
theorem fl_X11_82 : FLk RX11 82 11 0 := ⟨_, rfl, by decide, Or.inl (gw_at 684 (by decide +kernel) rfl)⟩
theorem fl_X11_85 : FLk RX11 85 11 1 := ⟨_, rfl, by decide, Or.inl (gw_at 685 (by decide +kernel) rfl)⟩
theorem fl_X11_102 : FLk RX11 102 4 3 := ⟨_, rfl, by decide, Or.inr ⟨_, nw_at (w := Cond.fieldLinkNest RX11 102 "RoofGale$Shore" "houseCount" "I" "RoofGale") 539 (by decide +kernel) rfl, rfl⟩⟩
theorem fl_X11_109 : FLk RX11 109 4 4 := ⟨_, rfl, by decide, Or.inr ⟨_, nw_at (w := Cond.fieldLinkNest RX11 109 "RoofGale$Shore" "gangCount" "I" "RoofGale") 543 (by decide +kernel) rfl, rfl⟩⟩
theorem fl_X11_135 : FLk RX11 135 7 0 := ⟨_, rfl, by decide, Or.inr ⟨_, nw_at (w := Cond.fieldLinkNest RX11 135 "RoofGale$Trays" "rows" "[[J" "RoofGale") 358 (by decide +kernel) rfl, rfl⟩⟩
theorem fl_X11_142 : FLk RX11 142 7 1 := ⟨_, rfl, by decide, Or.inr ⟨_, nw_at (w := Cond.fieldLinkNest RX11 142 "RoofGale$Trays" "sorts" "[I" "RoofGale") 360 (by decide +kernel) rfl, rfl⟩⟩
theorem fl_X11_155 : FLk RX11 155 6 1 := ⟨_, rfl, by decide, Or.inr ⟨_, nw_at (w := Cond.fieldLinkNest RX11 155 "RoofGale$Tape" "fed" "I" "RoofGale") 294 (by decide +kernel) rfl, rfl⟩⟩
theorem fl_X11_189 : FLk RX11 189 9 1 := ⟨_, rfl, by decide, Or.inr ⟨_, nw_at (w := Cond.fieldLinkNest RX11 189 "RoofGale$Years" "steps" "I" "RoofGale") 587 (by decide +kernel) rfl, rfl⟩⟩
theorem fl_X11_192 : FLk RX11 192 6 12 := ⟨_, rfl, by decide, Or.inr ⟨_, nw_at (w := Cond.fieldLinkNest RX11 192 "RoofGale$Tape" "faultKind" "I" "RoofGale") 315 (by decide +kernel) rfl, rfl⟩⟩
theorem fl_X11_193 : FLk RX11 193 6 13 := ⟨_, rfl, by decide, Or.inr ⟨_, nw_at (w := Cond.fieldLinkNest RX11 193 "RoofGale$Tape" "faultPlace" "I" "RoofGale") 317 (by decide +kernel) rfl, rfl⟩⟩
theorem fl_X11_194 : FLk RX11 194 4 5 := ⟨_, rfl, by decide, Or.inr ⟨_, nw_at (w := Cond.fieldLinkNest RX11 194 "RoofGale$Shore" "windCount" "I" "RoofGale") 547 (by decide +kernel) rfl, rfl⟩⟩
theorem fl_X11_197 : FLk RX11 197 4 7 := ⟨_, rfl, by decide, Or.inr ⟨_, nw_at (w := Cond.fieldLinkNest RX11 197 "RoofGale$Shore" "law" "I" "RoofGale") 553 (by decide +kernel) rfl, rfl⟩⟩
theorem fl_X11_200 : FLk RX11 200 4 8 := ⟨_, rfl, by decide, Or.inr ⟨_, nw_at (w := Cond.fieldLinkNest RX11 200 "RoofGale$Shore" "minute" "I" "RoofGale") 556 (by decide +kernel) rfl, rfl⟩⟩
theorem fl_X11_219 : FLk RX11 219 4 0 := ⟨_, rfl, by decide, Or.inr ⟨_, nw_at (w := Cond.fieldLinkNest RX11 219 "RoofGale$Shore" "houses" "[LRoofGale$House;" "RoofGale") 526 (by decide +kernel) rfl, rfl⟩⟩
theorem fl_X11_223 : FLk RX11 223 1 1 := ⟨_, rfl, by decide, Or.inr ⟨_, nw_at (w := Cond.fieldLinkNest RX11 223 "RoofGale$House" "at" "I" "RoofGale") 398 (by decide +kernel) rfl, rfl⟩⟩
theorem fl_X11_228 : FLk RX11 228 1 2 := ⟨_, rfl, by decide, Or.inr ⟨_, nw_at (w := Cond.fieldLinkNest RX11 228 "RoofGale$House" "worth" "I" "RoofGale") 402 (by decide +kernel) rfl, rfl⟩⟩
theorem fl_X11_231 : FLk RX11 231 1 3 := ⟨_, rfl, by decide, Or.inr ⟨_, nw_at (w := Cond.fieldLinkNest RX11 231 "RoofGale$House" "pieces" "I" "RoofGale") 405 (by decide +kernel) rfl, rfl⟩⟩
theorem fl_X11_234 : FLk RX11 234 1 4 := ⟨_, rfl, by decide, Or.inr ⟨_, nw_at (w := Cond.fieldLinkNest RX11 234 "RoofGale$House" "weight" "I" "RoofGale") 410 (by decide +kernel) rfl, rfl⟩⟩
theorem fl_X11_237 : FLk RX11 237 1 5 := ⟨_, rfl, by decide, Or.inr ⟨_, nw_at (w := Cond.fieldLinkNest RX11 237 "RoofGale$House" "length" "I" "RoofGale") 414 (by decide +kernel) rfl, rfl⟩⟩
theorem fl_X11_240 : FLk RX11 240 1 6 := ⟨_, rfl, by decide, Or.inr ⟨_, nw_at (w := Cond.fieldLinkNest RX11 240 "RoofGale$House" "pegs" "I" "RoofGale") 418 (by decide +kernel) rfl, rfl⟩⟩
theorem fl_X11_243 : FLk RX11 243 1 7 := ⟨_, rfl, by decide, Or.inr ⟨_, nw_at (w := Cond.fieldLinkNest RX11 243 "RoofGale$House" "on" "I" "RoofGale") 423 (by decide +kernel) rfl, rfl⟩⟩
theorem fl_X11_255 : FLk RX11 255 4 1 := ⟨_, rfl, by decide, Or.inr ⟨_, nw_at (w := Cond.fieldLinkNest RX11 255 "RoofGale$Shore" "gangs" "[LRoofGale$Gang;" "RoofGale") 531 (by decide +kernel) rfl, rfl⟩⟩
theorem fl_X11_259 : FLk RX11 259 0 1 := ⟨_, rfl, by decide, Or.inr ⟨_, nw_at (w := Cond.fieldLinkNest RX11 259 "RoofGale$Gang" "home" "I" "RoofGale") 459 (by decide +kernel) rfl, rfl⟩⟩
theorem fl_X11_264 : FLk RX11 264 0 2 := ⟨_, rfl, by decide, Or.inr ⟨_, nw_at (w := Cond.fieldLinkNest RX11 264 "RoofGale$Gang" "hands" "I" "RoofGale") 463 (by decide +kernel) rfl, rfl⟩⟩
theorem fl_X11_267 : FLk RX11 267 0 3 := ⟨_, rfl, by decide, Or.inr ⟨_, nw_at (w := Cond.fieldLinkNest RX11 267 "RoofGale$Gang" "pace" "I" "RoofGale") 467 (by decide +kernel) rfl, rfl⟩⟩
theorem fl_X11_270 : FLk RX11 270 0 4 := ⟨_, rfl, by decide, Or.inr ⟨_, nw_at (w := Cond.fieldLinkNest RX11 270 "RoofGale$Gang" "at" "I" "RoofGale") 472 (by decide +kernel) rfl, rfl⟩⟩
theorem fl_X11_271 : FLk RX11 271 0 5 := ⟨_, rfl, by decide, Or.inr ⟨_, nw_at (w := Cond.fieldLinkNest RX11 271 "RoofGale$Gang" "hand" "I" "RoofGale") 475 (by decide +kernel) rfl, rfl⟩⟩
theorem fl_X11_277 : FLk RX11 277 4 2 := ⟨_, rfl, by decide, Or.inr ⟨_, nw_at (w := Cond.fieldLinkNest RX11 277 "RoofGale$Shore" "winds" "[LRoofGale$Wind;" "RoofGale") 535 (by decide +kernel) rfl, rfl⟩⟩
theorem fl_X11_281 : FLk RX11 281 8 1 := ⟨_, rfl, by decide, Or.inr ⟨_, nw_at (w := Cond.fieldLinkNest RX11 281 "RoofGale$Wind" "strength" "I" "RoofGale") 509 (by decide +kernel) rfl, rfl⟩⟩
theorem fl_X11_286 : FLk RX11 286 8 2 := ⟨_, rfl, by decide, Or.inr ⟨_, nw_at (w := Cond.fieldLinkNest RX11 286 "RoofGale$Wind" "chances" "I" "RoofGale") 514 (by decide +kernel) rfl, rfl⟩⟩
theorem fl_X11_289 : FLk RX11 289 4 6 := ⟨_, rfl, by decide, Or.inr ⟨_, nw_at (w := Cond.fieldLinkNest RX11 289 "RoofGale$Shore" "debts" "[[I" "RoofGale") 550 (by decide +kernel) rfl, rfl⟩⟩
theorem fl_X11_356 : FLk RX11 356 3 1 := ⟨_, rfl, by decide, Or.inr ⟨_, nw_at (w := Cond.fieldLinkNest RX11 356 "RoofGale$Plans" "orderCount" "I" "RoofGale") 634 (by decide +kernel) rfl, rfl⟩⟩
theorem fl_X11_359 : FLk RX11 359 3 0 := ⟨_, rfl, by decide, Or.inr ⟨_, nw_at (w := Cond.fieldLinkNest RX11 359 "RoofGale$Plans" "ordered" "[I" "RoofGale") 632 (by decide +kernel) rfl, rfl⟩⟩
theorem fl_X11_369 : FLk RX11 369 3 3 := ⟨_, rfl, by decide, Or.inr ⟨_, nw_at (w := Cond.fieldLinkNest RX11 369 "RoofGale$Plans" "together" "[I" "RoofGale") 637 (by decide +kernel) rfl, rfl⟩⟩
theorem fl_X11_381 : FLk RX11 381 7 2 := ⟨_, rfl, by decide, Or.inr ⟨_, nw_at (w := Cond.fieldLinkNest RX11 381 "RoofGale$Trays" "lengths" "[I" "RoofGale") 362 (by decide +kernel) rfl, rfl⟩⟩
theorem fl_X11_414 : FLk RX11 414 1 8 := ⟨_, rfl, by decide, Or.inr ⟨_, nw_at (w := Cond.fieldLinkNest RX11 414 "RoofGale$House" "stands" "Z" "RoofGale") 429 (by decide +kernel) rfl, rfl⟩⟩
theorem fl_X11_418 : FLk RX11 418 9 0 := ⟨_, rfl, by decide, Or.inr ⟨_, nw_at (w := Cond.fieldLinkNest RX11 418 "RoofGale$Years" "there" "Z" "RoofGale") 584 (by decide +kernel) rfl, rfl⟩⟩
theorem fl_X11_425 : FLk RX11 425 11 18 := ⟨_, rfl, by decide, Or.inl (gw_at 702 (by decide +kernel) rfl)⟩
theorem fl_X11_428 : FLk RX11 428 2 0 := ⟨_, rfl, by decide, Or.inr ⟨_, nw_at (w := Cond.fieldLinkNest RX11 428 "RoofGale$Life" "steps" "I" "RoofGale") 654 (by decide +kernel) rfl, rfl⟩⟩
theorem fl_X11_429 : FLk RX11 429 2 1 := ⟨_, rfl, by decide, Or.inr ⟨_, nw_at (w := Cond.fieldLinkNest RX11 429 "RoofGale$Life" "missed" "I" "RoofGale") 656 (by decide +kernel) rfl, rfl⟩⟩
theorem fl_X11_432 : FLk RX11 432 2 2 := ⟨_, rfl, by decide, Or.inr ⟨_, nw_at (w := Cond.fieldLinkNest RX11 432 "RoofGale$Life" "minutes" "I" "RoofGale") 658 (by decide +kernel) rfl, rfl⟩⟩
theorem fl_X11_435 : FLk RX11 435 2 3 := ⟨_, rfl, by decide, Or.inr ⟨_, nw_at (w := Cond.fieldLinkNest RX11 435 "RoofGale$Life" "roofs" "I" "RoofGale") 660 (by decide +kernel) rfl, rfl⟩⟩
theorem fl_X11_438 : FLk RX11 438 2 4 := ⟨_, rfl, by decide, Or.inr ⟨_, nw_at (w := Cond.fieldLinkNest RX11 438 "RoofGale$Life" "fallen" "I" "RoofGale") 662 (by decide +kernel) rfl, rfl⟩⟩
theorem fl_X11_441 : FLk RX11 441 2 5 := ⟨_, rfl, by decide, Or.inr ⟨_, nw_at (w := Cond.fieldLinkNest RX11 441 "RoofGale$Life" "leftOver" "I" "RoofGale") 664 (by decide +kernel) rfl, rfl⟩⟩
theorem fl_X11_444 : FLk RX11 444 11 13 := ⟨_, rfl, by decide, Or.inl (gw_at 697 (by decide +kernel) rfl)⟩
theorem ff_X11_23 : FFk RX11 23 11 5 := ⟨_, rfl, by decide, rfl, rfl, gw_at 689 (by decide +kernel) rfl⟩
theorem ff_X11_30 : FFk RX11 30 11 6 := ⟨_, rfl, by decide, rfl, rfl, gw_at 690 (by decide +kernel) rfl⟩
theorem ff_X11_54 : FFk RX11 54 11 11 := ⟨_, rfl, by decide, rfl, rfl, gw_at 695 (by decide +kernel) rfl⟩
theorem ff_X11_58 : FFk RX11 58 11 12 := ⟨_, rfl, by decide, rfl, rfl, gw_at 696 (by decide +kernel) rfl⟩
theorem ff_X11_65 : FFk RX11 65 11 14 := ⟨_, rfl, by decide, rfl, rfl, gw_at 698 (by decide +kernel) rfl⟩
theorem ff_X11_75 : FFk RX11 75 11 16 := ⟨_, rfl, by decide, rfl, rfl, gw_at 700 (by decide +kernel) rfl⟩
theorem ff_X11_79 : FFk RX11 79 11 17 := ⟨_, rfl, by decide, rfl, rfl, gw_at 701 (by decide +kernel) rfl⟩
theorem kc_X11_387 : Cond.constantLong RX11 387 100 ∈ GW := gw_at 1365 (by decide +kernel) rfl
theorem oi_X11_3 : Cond.methodLink RX11 3 Lib.objectInit ∈ GW := gw_at 232 (by decide +kernel) rfl
theorem bi_X11_88 : Cond.methodLink RX11 88 Lib.MathLoose.abs_long.x ∈ GW := gw_at 1234 (by decide +kernel) rfl
theorem bi_X11_94 : Cond.methodLink RX11 94 Lib.MathLoose.max_long.x ∈ GW := gw_at 1237 (by decide +kernel) rfl
theorem bi_X11_149 : Cond.methodLink RX11 149 arraycopyName ∈ GW := gw_at 812 (by decide +kernel) rfl
theorem bi_X11_179 : Cond.methodLink RX11 179 Lib.Math.min.name ∈ GW := gw_at 973 (by decide +kernel) rfl
theorem bi_X11_389 : Cond.methodLink RX11 389 Lib.Math.max.name ∈ GW := gw_at 1374 (by decide +kernel) rfl
theorem bi_X11_412 : Cond.methodLink RX11 412 Lib.Math.abs.name ∈ GW := gw_at 1442 (by decide +kernel) rfl
theorem cl_X11_20 : CLk RX11 20 6 := ⟨_, rfl, gw_at 235 (by decide +kernel) rfl, gw_at 236 (by decide +kernel) rfl, gw_at 208 (by decide +kernel) rfl⟩
theorem cl_X11_27 : CLk RX11 27 7 := ⟨_, rfl, gw_at 349 (by decide +kernel) rfl, gw_at 350 (by decide +kernel) rfl, gw_at 213 (by decide +kernel) rfl⟩
theorem cl_X11_34 : CLk RX11 34 4 := ⟨_, rfl, gw_at 371 (by decide +kernel) rfl, gw_at 372 (by decide +kernel) rfl, gw_at 214 (by decide +kernel) rfl⟩
theorem cl_X11_44 : CLk RX11 44 9 := ⟨_, rfl, gw_at 576 (by decide +kernel) rfl, gw_at 577 (by decide +kernel) rfl, gw_at 218 (by decide +kernel) rfl⟩
theorem cl_X11_62 : CLk RX11 62 3 := ⟨_, rfl, gw_at 625 (by decide +kernel) rfl, gw_at 626 (by decide +kernel) rfl, gw_at 219 (by decide +kernel) rfl⟩
theorem cl_X11_72 : CLk RX11 72 2 := ⟨_, rfl, gw_at 647 (by decide +kernel) rfl, gw_at 648 (by decide +kernel) rfl, gw_at 220 (by decide +kernel) rfl⟩
theorem cl_X11_161 : CLk RX11 161 5 := ⟨_, rfl, gw_at 827 (by decide +kernel) rfl, gw_at 828 (by decide +kernel) rfl, gw_at 223 (by decide +kernel) rfl⟩
theorem cl_X11_183 : CLk RX11 183 10 := ⟨_, rfl, gw_at 976 (by decide +kernel) rfl, gw_at 977 (by decide +kernel) rfl, gw_at 225 (by decide +kernel) rfl⟩
theorem acl_X11_34 : Cond.classLink RX11 34 RX4 ∈ GW := gw_at 371 (by decide +kernel) rfl
theorem acl_X11_44 : Cond.classLink RX11 44 RX9 ∈ GW := gw_at 576 (by decide +kernel) rfl
theorem dX11_init_0 : decode cX11_init 0 = .ok (.aload_n 0, 1) := by decide +kernel
theorem dX11_init_1 : decode cX11_init 1 = .ok (.invokespecial 3, 3) := by decide +kernel
theorem dX11_init_4 : decode cX11_init 4 = .ok (.aload_n 0, 1) := by decide +kernel
theorem dX11_init_5 : decode cX11_init 5 = .ok (.lconst 1, 1) := by decide +kernel
theorem dX11_init_6 : decode cX11_init 6 = .ok (.putfield 9, 3) := by decide +kernel
theorem dX11_init_9 : decode cX11_init 9 = .ok (.aload_n 0, 1) := by decide +kernel
theorem dX11_init_10 : decode cX11_init 10 = .ok (.iconst (-1), 1) := by decide +kernel
theorem dX11_init_11 : decode cX11_init 11 = .ok (.putfield 13, 3) := by decide +kernel
theorem dX11_init_14 : decode cX11_init 14 = .ok (.aload_n 0, 1) := by decide +kernel
theorem dX11_init_15 : decode cX11_init 15 = .ok (.iconst (-1), 1) := by decide +kernel
theorem dX11_init_16 : decode cX11_init 16 = .ok (.putfield 17, 3) := by decide +kernel
theorem dX11_init_19 : decode cX11_init 19 = .ok (.aload_n 0, 1) := by decide +kernel
theorem dX11_init_20 : decode cX11_init 20 = .ok (.new 20, 3) := by decide +kernel
theorem dX11_init_23 : decode cX11_init 23 = .ok (.dup, 1) := by decide +kernel
theorem dX11_init_24 : decode cX11_init 24 = .ok (.invokespecial 22, 3) := by decide +kernel
theorem dX11_init_27 : decode cX11_init 27 = .ok (.putfield 23, 3) := by decide +kernel
theorem dX11_init_30 : decode cX11_init 30 = .ok (.aload_n 0, 1) := by decide +kernel
theorem dX11_init_31 : decode cX11_init 31 = .ok (.new 27, 3) := by decide +kernel
theorem dX11_init_34 : decode cX11_init 34 = .ok (.dup, 1) := by decide +kernel
theorem dX11_init_35 : decode cX11_init 35 = .ok (.invokespecial 29, 3) := by decide +kernel
theorem dX11_init_38 : decode cX11_init 38 = .ok (.putfield 30, 3) := by decide +kernel
theorem dX11_init_41 : decode cX11_init 41 = .ok (.aload_n 0, 1) := by decide +kernel
theorem dX11_init_42 : decode cX11_init 42 = .ok (.new 34, 3) := by decide +kernel
theorem dX11_init_45 : decode cX11_init 45 = .ok (.dup, 1) := by decide +kernel
theorem dX11_init_46 : decode cX11_init 46 = .ok (.invokespecial 36, 3) := by decide +kernel
theorem dX11_init_49 : decode cX11_init 49 = .ok (.putfield 37, 3) := by decide +kernel
theorem dX11_init_52 : decode cX11_init 52 = .ok (.aload_n 0, 1) := by decide +kernel
theorem dX11_init_53 : decode cX11_init 53 = .ok (.new 34, 3) := by decide +kernel
theorem dX11_init_56 : decode cX11_init 56 = .ok (.dup, 1) := by decide +kernel
theorem dX11_init_57 : decode cX11_init 57 = .ok (.invokespecial 36, 3) := by decide +kernel
theorem dX11_init_60 : decode cX11_init 60 = .ok (.putfield 41, 3) := by decide +kernel
theorem dX11_init_63 : decode cX11_init 63 = .ok (.aload_n 0, 1) := by decide +kernel
theorem dX11_init_64 : decode cX11_init 64 = .ok (.new 44, 3) := by decide +kernel
theorem dX11_init_67 : decode cX11_init 67 = .ok (.dup, 1) := by decide +kernel
theorem dX11_init_68 : decode cX11_init 68 = .ok (.invokespecial 46, 3) := by decide +kernel
theorem dX11_init_71 : decode cX11_init 71 = .ok (.putfield 47, 3) := by decide +kernel
theorem dX11_init_74 : decode cX11_init 74 = .ok (.aload_n 0, 1) := by decide +kernel
theorem dX11_init_75 : decode cX11_init 75 = .ok (.new 44, 3) := by decide +kernel
theorem dX11_init_78 : decode cX11_init 78 = .ok (.dup, 1) := by decide +kernel
theorem dX11_init_79 : decode cX11_init 79 = .ok (.invokespecial 46, 3) := by decide +kernel
theorem dX11_init_82 : decode cX11_init 82 = .ok (.putfield 51, 3) := by decide +kernel
theorem dX11_init_85 : decode cX11_init 85 = .ok (.aload_n 0, 1) := by decide +kernel
theorem dX11_init_86 : decode cX11_init 86 = .ok (.iconst 3, 1) := by decide +kernel
theorem dX11_init_87 : decode cX11_init 87 = .ok (.anewarray 34, 3) := by decide +kernel
theorem dX11_init_90 : decode cX11_init 90 = .ok (.putfield 54, 3) := by decide +kernel
theorem dX11_init_93 : decode cX11_init 93 = .ok (.aload_n 0, 1) := by decide +kernel
theorem dX11_init_94 : decode cX11_init 94 = .ok (.iconst 3, 1) := by decide +kernel
theorem dX11_init_95 : decode cX11_init 95 = .ok (.anewarray 44, 3) := by decide +kernel
theorem dX11_init_98 : decode cX11_init 98 = .ok (.putfield 58, 3) := by decide +kernel
theorem dX11_init_101 : decode cX11_init 101 = .ok (.aload_n 0, 1) := by decide +kernel
theorem dX11_init_102 : decode cX11_init 102 = .ok (.new 62, 3) := by decide +kernel
theorem dX11_init_105 : decode cX11_init 105 = .ok (.dup, 1) := by decide +kernel
theorem dX11_init_106 : decode cX11_init 106 = .ok (.invokespecial 64, 3) := by decide +kernel
theorem dX11_init_109 : decode cX11_init 109 = .ok (.putfield 65, 3) := by decide +kernel
theorem dX11_init_112 : decode cX11_init 112 = .ok (.aload_n 0, 1) := by decide +kernel
theorem dX11_init_113 : decode cX11_init 113 = .ok (.iconst (-1), 1) := by decide +kernel
theorem dX11_init_114 : decode cX11_init 114 = .ok (.putfield 69, 3) := by decide +kernel
theorem dX11_init_117 : decode cX11_init 117 = .ok (.aload_n 0, 1) := by decide +kernel
theorem dX11_init_118 : decode cX11_init 118 = .ok (.new 72, 3) := by decide +kernel
theorem dX11_init_121 : decode cX11_init 121 = .ok (.dup, 1) := by decide +kernel
theorem dX11_init_122 : decode cX11_init 122 = .ok (.invokespecial 74, 3) := by decide +kernel
theorem dX11_init_125 : decode cX11_init 125 = .ok (.putfield 75, 3) := by decide +kernel
theorem dX11_init_128 : decode cX11_init 128 = .ok (.aload_n 0, 1) := by decide +kernel
theorem dX11_init_129 : decode cX11_init 129 = .ok (.new 72, 3) := by decide +kernel
theorem dX11_init_132 : decode cX11_init 132 = .ok (.dup, 1) := by decide +kernel
theorem dX11_init_133 : decode cX11_init 133 = .ok (.invokespecial 74, 3) := by decide +kernel
theorem dX11_init_136 : decode cX11_init 136 = .ok (.putfield 79, 3) := by decide +kernel
theorem dX11_init_139 : decode cX11_init 139 = .ok (.iconst 0, 1) := by decide +kernel
theorem dX11_init_140 : decode cX11_init 140 = .ok (.istore_n 1, 1) := by decide +kernel
theorem dX11_init_141 : decode cX11_init 141 = .ok (.iload_n 1, 1) := by decide +kernel
theorem dX11_init_142 : decode cX11_init 142 = .ok (.iconst 3, 1) := by decide +kernel
theorem dX11_init_143 : decode cX11_init 143 = .ok (.if_icmp .ge 35, 3) := by decide +kernel
theorem dX11_init_146 : decode cX11_init 146 = .ok (.aload_n 0, 1) := by decide +kernel
theorem dX11_init_147 : decode cX11_init 147 = .ok (.getfield 54, 3) := by decide +kernel
theorem dX11_init_150 : decode cX11_init 150 = .ok (.iload_n 1, 1) := by decide +kernel
theorem dX11_init_151 : decode cX11_init 151 = .ok (.new 34, 3) := by decide +kernel
theorem dX11_init_154 : decode cX11_init 154 = .ok (.dup, 1) := by decide +kernel
theorem dX11_init_155 : decode cX11_init 155 = .ok (.invokespecial 36, 3) := by decide +kernel
theorem dX11_init_158 : decode cX11_init 158 = .ok (.aastore, 1) := by decide +kernel
theorem dX11_init_159 : decode cX11_init 159 = .ok (.aload_n 0, 1) := by decide +kernel
theorem dX11_init_160 : decode cX11_init 160 = .ok (.getfield 58, 3) := by decide +kernel
theorem dX11_init_163 : decode cX11_init 163 = .ok (.iload_n 1, 1) := by decide +kernel
theorem dX11_init_164 : decode cX11_init 164 = .ok (.new 44, 3) := by decide +kernel
theorem dX11_init_167 : decode cX11_init 167 = .ok (.dup, 1) := by decide +kernel
theorem dX11_init_168 : decode cX11_init 168 = .ok (.invokespecial 46, 3) := by decide +kernel
theorem dX11_init_171 : decode cX11_init 171 = .ok (.aastore, 1) := by decide +kernel
theorem dX11_init_172 : decode cX11_init 172 = .ok (.iinc 1 1, 3) := by decide +kernel
theorem dX11_init_175 : decode cX11_init 175 = .ok (.goto (-34), 3) := by decide +kernel
theorem dX11_init_178 : decode cX11_init 178 = .ok (.return_, 1) := by decide +kernel
def j_X11_init : JD := (yX11_init, cX11_init, 2, none)
def b_X11_init : BD := (7, 206, 4510)
theorem dX11_status_0 : decode cX11_status 0 = .ok (.aload_n 0, 1) := by decide +kernel
theorem dX11_status_1 : decode cX11_status 1 = .ok (.getfield 82, 3) := by decide +kernel
theorem dX11_status_4 : decode cX11_status 4 = .ok (.ireturn, 1) := by decide +kernel
def j_X11_status : JD := (yX11_status, cX11_status, 1, (some .int))
def b_X11_status : BD := (0, 0, 0)
theorem dX11_top_0 : decode cX11_top 0 = .ok (.aload_n 0, 1) := by decide +kernel
theorem dX11_top_1 : decode cX11_top 1 = .ok (.getfield 85, 3) := by decide +kernel
theorem dX11_top_4 : decode cX11_top 4 = .ok (.lreturn, 1) := by decide +kernel
def j_X11_top : JD := (yX11_top, cX11_top, 1, (some .long))
def b_X11_top : BD := (0, 0, 0)
theorem dX11_bottom_0 : decode cX11_bottom 0 = .ok (.aload_n 0, 1) := by decide +kernel
theorem dX11_bottom_1 : decode cX11_bottom 1 = .ok (.getfield 9, 3) := by decide +kernel
theorem dX11_bottom_4 : decode cX11_bottom 4 = .ok (.lreturn, 1) := by decide +kernel
def j_X11_bottom : JD := (yX11_bottom, cX11_bottom, 1, (some .long))
def b_X11_bottom : BD := (0, 0, 0)
theorem dX11_none_0 : decode cX11_none 0 = .ok (.aload_n 0, 1) := by decide +kernel
theorem dX11_none_1 : decode cX11_none 1 = .ok (.iload_n 1, 1) := by decide +kernel
theorem dX11_none_2 : decode cX11_none 2 = .ok (.putfield 82, 3) := by decide +kernel
theorem dX11_none_5 : decode cX11_none 5 = .ok (.iconst (-1), 1) := by decide +kernel
theorem dX11_none_6 : decode cX11_none 6 = .ok (.ireturn, 1) := by decide +kernel
def j_X11_none : JD := (yX11_none, cX11_none, 2, (some .int))
def b_X11_none : BD := (0, 0, 0)
theorem dX11_no_0 : decode cX11_no 0 = .ok (.aload_n 0, 1) := by decide +kernel
theorem dX11_no_1 : decode cX11_no 1 = .ok (.iload_n 1, 1) := by decide +kernel
theorem dX11_no_2 : decode cX11_no 2 = .ok (.putfield 82, 3) := by decide +kernel
theorem dX11_no_5 : decode cX11_no 5 = .ok (.iconst 0, 1) := by decide +kernel
theorem dX11_no_6 : decode cX11_no 6 = .ok (.ireturn, 1) := by decide +kernel
def j_X11_no : JD := (yX11_no, cX11_no, 2, (some .boolean))
def b_X11_no : BD := (0, 0, 0)
theorem dX11_answer_0 : decode cX11_answer 0 = .ok (.aload_n 0, 1) := by decide +kernel
theorem dX11_answer_1 : decode cX11_answer 1 = .ok (.iconst 0, 1) := by decide +kernel
theorem dX11_answer_2 : decode cX11_answer 2 = .ok (.putfield 82, 3) := by decide +kernel
theorem dX11_answer_5 : decode cX11_answer 5 = .ok (.iload_n 1, 1) := by decide +kernel
theorem dX11_answer_6 : decode cX11_answer 6 = .ok (.ireturn, 1) := by decide +kernel
def j_X11_answer : JD := (yX11_answer, cX11_answer, 2, (some .int))
def b_X11_answer : BD := (0, 0, 0)
theorem dX11_yes_0 : decode cX11_yes 0 = .ok (.aload_n 0, 1) := by decide +kernel
theorem dX11_yes_1 : decode cX11_yes 1 = .ok (.iconst 0, 1) := by decide +kernel
theorem dX11_yes_2 : decode cX11_yes 2 = .ok (.putfield 82, 3) := by decide +kernel
theorem dX11_yes_5 : decode cX11_yes 5 = .ok (.iconst 1, 1) := by decide +kernel
theorem dX11_yes_6 : decode cX11_yes 6 = .ok (.ireturn, 1) := by decide +kernel
def j_X11_yes : JD := (yX11_yes, cX11_yes, 1, (some .boolean))
def b_X11_yes : BD := (0, 0, 0)
theorem dX11_tellFraction_0 : decode cX11_tellFraction 0 = .ok (.lload_n 1, 1) := by decide +kernel
theorem dX11_tellFraction_1 : decode cX11_tellFraction 1 = .ok (.invokestatic 88, 3) := by decide +kernel
theorem dX11_tellFraction_4 : decode cX11_tellFraction 4 = .ok (.lstore 5, 2) := by decide +kernel
theorem dX11_tellFraction_6 : decode cX11_tellFraction 6 = .ok (.lload_n 3, 1) := by decide +kernel
theorem dX11_tellFraction_7 : decode cX11_tellFraction 7 = .ok (.lstore 7, 2) := by decide +kernel
theorem dX11_tellFraction_9 : decode cX11_tellFraction 9 = .ok (.iconst 0, 1) := by decide +kernel
theorem dX11_tellFraction_10 : decode cX11_tellFraction 10 = .ok (.istore 9, 2) := by decide +kernel
theorem dX11_tellFraction_12 : decode cX11_tellFraction 12 = .ok (.iload 9, 2) := by decide +kernel
theorem dX11_tellFraction_14 : decode cX11_tellFraction 14 = .ok (.bipush 100, 2) := by decide +kernel
theorem dX11_tellFraction_16 : decode cX11_tellFraction 16 = .ok (.if_icmp .ge 31, 3) := by decide +kernel
theorem dX11_tellFraction_19 : decode cX11_tellFraction 19 = .ok (.lload 7, 2) := by decide +kernel
theorem dX11_tellFraction_21 : decode cX11_tellFraction 21 = .ok (.lconst 0, 1) := by decide +kernel
theorem dX11_tellFraction_22 : decode cX11_tellFraction 22 = .ok (.lcmp, 1) := by decide +kernel
theorem dX11_tellFraction_23 : decode cX11_tellFraction 23 = .ok (.ifCond .le 24, 3) := by decide +kernel
theorem dX11_tellFraction_26 : decode cX11_tellFraction 26 = .ok (.lload 5, 2) := by decide +kernel
theorem dX11_tellFraction_28 : decode cX11_tellFraction 28 = .ok (.lload 7, 2) := by decide +kernel
theorem dX11_tellFraction_30 : decode cX11_tellFraction 30 = .ok (.lrem, 1) := by decide +kernel
theorem dX11_tellFraction_31 : decode cX11_tellFraction 31 = .ok (.lstore 10, 2) := by decide +kernel
theorem dX11_tellFraction_33 : decode cX11_tellFraction 33 = .ok (.lload 7, 2) := by decide +kernel
theorem dX11_tellFraction_35 : decode cX11_tellFraction 35 = .ok (.lstore 5, 2) := by decide +kernel
theorem dX11_tellFraction_37 : decode cX11_tellFraction 37 = .ok (.lload 10, 2) := by decide +kernel
theorem dX11_tellFraction_39 : decode cX11_tellFraction 39 = .ok (.lstore 7, 2) := by decide +kernel
theorem dX11_tellFraction_41 : decode cX11_tellFraction 41 = .ok (.iinc 9 1, 3) := by decide +kernel
theorem dX11_tellFraction_44 : decode cX11_tellFraction 44 = .ok (.goto (-32), 3) := by decide +kernel
theorem dX11_tellFraction_47 : decode cX11_tellFraction 47 = .ok (.lconst 1, 1) := by decide +kernel
theorem dX11_tellFraction_48 : decode cX11_tellFraction 48 = .ok (.lload 5, 2) := by decide +kernel
theorem dX11_tellFraction_50 : decode cX11_tellFraction 50 = .ok (.invokestatic 94, 3) := by decide +kernel
theorem dX11_tellFraction_53 : decode cX11_tellFraction 53 = .ok (.lstore 9, 2) := by decide +kernel
theorem dX11_tellFraction_55 : decode cX11_tellFraction 55 = .ok (.aload_n 0, 1) := by decide +kernel
theorem dX11_tellFraction_56 : decode cX11_tellFraction 56 = .ok (.lload_n 1, 1) := by decide +kernel
theorem dX11_tellFraction_57 : decode cX11_tellFraction 57 = .ok (.lload 9, 2) := by decide +kernel
theorem dX11_tellFraction_59 : decode cX11_tellFraction 59 = .ok (.ldiv, 1) := by decide +kernel
theorem dX11_tellFraction_60 : decode cX11_tellFraction 60 = .ok (.putfield 85, 3) := by decide +kernel
theorem dX11_tellFraction_63 : decode cX11_tellFraction 63 = .ok (.aload_n 0, 1) := by decide +kernel
theorem dX11_tellFraction_64 : decode cX11_tellFraction 64 = .ok (.lload_n 3, 1) := by decide +kernel
theorem dX11_tellFraction_65 : decode cX11_tellFraction 65 = .ok (.lload 9, 2) := by decide +kernel
theorem dX11_tellFraction_67 : decode cX11_tellFraction 67 = .ok (.ldiv, 1) := by decide +kernel
theorem dX11_tellFraction_68 : decode cX11_tellFraction 68 = .ok (.putfield 9, 3) := by decide +kernel
theorem dX11_tellFraction_71 : decode cX11_tellFraction 71 = .ok (.aload_n 0, 1) := by decide +kernel
theorem dX11_tellFraction_72 : decode cX11_tellFraction 72 = .ok (.invokevirtual 98, 3) := by decide +kernel
theorem dX11_tellFraction_75 : decode cX11_tellFraction 75 = .ok (.ireturn, 1) := by decide +kernel
def j_X11_tellFraction : JD := (yX11_tellFraction, cX11_tellFraction, 12, (some .boolean))
def b_X11_tellFraction : BD := (1, 0, 0)
theorem dX11_within_0 : decode cX11_within 0 = .ok (.iload_n 0, 1) := by decide +kernel
theorem dX11_within_1 : decode cX11_within 1 = .ok (.iload_n 1, 1) := by decide +kernel
theorem dX11_within_2 : decode cX11_within 2 = .ok (.if_icmp .lt 12, 3) := by decide +kernel
theorem dX11_within_5 : decode cX11_within 5 = .ok (.iload_n 0, 1) := by decide +kernel
theorem dX11_within_6 : decode cX11_within 6 = .ok (.iload_n 2, 1) := by decide +kernel
theorem dX11_within_7 : decode cX11_within 7 = .ok (.if_icmp .gt 7, 3) := by decide +kernel
theorem dX11_within_10 : decode cX11_within 10 = .ok (.iconst 1, 1) := by decide +kernel
theorem dX11_within_11 : decode cX11_within 11 = .ok (.goto 4, 3) := by decide +kernel
theorem dX11_within_14 : decode cX11_within 14 = .ok (.iconst 0, 1) := by decide +kernel
theorem dX11_within_15 : decode cX11_within 15 = .ok (.ireturn, 1) := by decide +kernel
def j_X11_within : JD := (yX11_within, cX11_within, 3, (some .boolean))
def b_X11_within : BD := (0, 0, 0)
theorem dX11_isHouse_0 : decode cX11_isHouse 0 = .ok (.iload_n 1, 1) := by decide +kernel
theorem dX11_isHouse_1 : decode cX11_isHouse 1 = .ok (.iconst 0, 1) := by decide +kernel
theorem dX11_isHouse_2 : decode cX11_isHouse 2 = .ok (.aload_n 0, 1) := by decide +kernel
theorem dX11_isHouse_3 : decode cX11_isHouse 3 = .ok (.getfield 37, 3) := by decide +kernel
theorem dX11_isHouse_6 : decode cX11_isHouse 6 = .ok (.getfield 102, 3) := by decide +kernel
theorem dX11_isHouse_9 : decode cX11_isHouse 9 = .ok (.iconst 1, 1) := by decide +kernel
theorem dX11_isHouse_10 : decode cX11_isHouse 10 = .ok (.isub, 1) := by decide +kernel
theorem dX11_isHouse_11 : decode cX11_isHouse 11 = .ok (.invokestatic 105, 3) := by decide +kernel
theorem dX11_isHouse_14 : decode cX11_isHouse 14 = .ok (.ireturn, 1) := by decide +kernel
def j_X11_isHouse : JD := (yX11_isHouse, cX11_isHouse, 2, (some .boolean))
def b_X11_isHouse : BD := (1, 0, 0)
theorem dX11_isGang_0 : decode cX11_isGang 0 = .ok (.iload_n 1, 1) := by decide +kernel
theorem dX11_isGang_1 : decode cX11_isGang 1 = .ok (.iconst 0, 1) := by decide +kernel
theorem dX11_isGang_2 : decode cX11_isGang 2 = .ok (.aload_n 0, 1) := by decide +kernel
theorem dX11_isGang_3 : decode cX11_isGang 3 = .ok (.getfield 37, 3) := by decide +kernel
theorem dX11_isGang_6 : decode cX11_isGang 6 = .ok (.getfield 109, 3) := by decide +kernel
theorem dX11_isGang_9 : decode cX11_isGang 9 = .ok (.iconst 1, 1) := by decide +kernel
theorem dX11_isGang_10 : decode cX11_isGang 10 = .ok (.isub, 1) := by decide +kernel
theorem dX11_isGang_11 : decode cX11_isGang 11 = .ok (.invokestatic 105, 3) := by decide +kernel
theorem dX11_isGang_14 : decode cX11_isGang 14 = .ok (.ireturn, 1) := by decide +kernel
def j_X11_isGang : JD := (yX11_isGang, cX11_isGang, 2, (some .boolean))
def b_X11_isGang : BD := (1, 0, 0)
theorem dX11_tray_0 : decode cX11_tray 0 = .ok (.aload_n 0, 1) := by decide +kernel
theorem dX11_tray_1 : decode cX11_tray 1 = .ok (.getfield 30, 3) := by decide +kernel
theorem dX11_tray_4 : decode cX11_tray 4 = .ok (.iload_n 1, 1) := by decide +kernel
theorem dX11_tray_5 : decode cX11_tray 5 = .ok (.invokevirtual 112, 3) := by decide +kernel
theorem dX11_tray_8 : decode cX11_tray 8 = .ok (.ifCond .eq 12, 3) := by decide +kernel
theorem dX11_tray_11 : decode cX11_tray 11 = .ok (.iload_n 2, 1) := by decide +kernel
theorem dX11_tray_12 : decode cX11_tray 12 = .ok (.iconst 0, 1) := by decide +kernel
theorem dX11_tray_13 : decode cX11_tray 13 = .ok (.iconst 3, 1) := by decide +kernel
theorem dX11_tray_14 : decode cX11_tray 14 = .ok (.invokestatic 105, 3) := by decide +kernel
theorem dX11_tray_17 : decode cX11_tray 17 = .ok (.ifCond .ne 9, 3) := by decide +kernel
theorem dX11_tray_20 : decode cX11_tray 20 = .ok (.aload_n 0, 1) := by decide +kernel
theorem dX11_tray_21 : decode cX11_tray 21 = .ok (.iconst 1, 1) := by decide +kernel
theorem dX11_tray_22 : decode cX11_tray 22 = .ok (.invokevirtual 116, 3) := by decide +kernel
theorem dX11_tray_25 : decode cX11_tray 25 = .ok (.ireturn, 1) := by decide +kernel
theorem dX11_tray_26 : decode cX11_tray 26 = .ok (.iload_n 3, 1) := by decide +kernel
theorem dX11_tray_27 : decode cX11_tray 27 = .ok (.bipush 60, 2) := by decide +kernel
theorem dX11_tray_29 : decode cX11_tray 29 = .ok (.if_icmp .le 9, 3) := by decide +kernel
theorem dX11_tray_32 : decode cX11_tray 32 = .ok (.aload_n 0, 1) := by decide +kernel
theorem dX11_tray_33 : decode cX11_tray 33 = .ok (.iconst 5, 1) := by decide +kernel
theorem dX11_tray_34 : decode cX11_tray 34 = .ok (.invokevirtual 116, 3) := by decide +kernel
theorem dX11_tray_37 : decode cX11_tray 37 = .ok (.ireturn, 1) := by decide +kernel
theorem dX11_tray_38 : decode cX11_tray 38 = .ok (.iload_n 3, 1) := by decide +kernel
theorem dX11_tray_39 : decode cX11_tray 39 = .ok (.ifCond .ge 10, 3) := by decide +kernel
theorem dX11_tray_42 : decode cX11_tray 42 = .ok (.aload_n 0, 1) := by decide +kernel
theorem dX11_tray_43 : decode cX11_tray 43 = .ok (.bipush 6, 2) := by decide +kernel
theorem dX11_tray_45 : decode cX11_tray 45 = .ok (.invokevirtual 116, 3) := by decide +kernel
theorem dX11_tray_48 : decode cX11_tray 48 = .ok (.ireturn, 1) := by decide +kernel
theorem dX11_tray_49 : decode cX11_tray 49 = .ok (.aload_n 0, 1) := by decide +kernel
theorem dX11_tray_50 : decode cX11_tray 50 = .ok (.getfield 30, 3) := by decide +kernel
theorem dX11_tray_53 : decode cX11_tray 53 = .ok (.iload_n 1, 1) := by decide +kernel
theorem dX11_tray_54 : decode cX11_tray 54 = .ok (.iload_n 2, 1) := by decide +kernel
theorem dX11_tray_55 : decode cX11_tray 55 = .ok (.iload_n 3, 1) := by decide +kernel
theorem dX11_tray_56 : decode cX11_tray 56 = .ok (.invokevirtual 119, 3) := by decide +kernel
theorem dX11_tray_59 : decode cX11_tray 59 = .ok (.aload_n 0, 1) := by decide +kernel
theorem dX11_tray_60 : decode cX11_tray 60 = .ok (.invokevirtual 98, 3) := by decide +kernel
theorem dX11_tray_63 : decode cX11_tray 63 = .ok (.ireturn, 1) := by decide +kernel
def j_X11_tray : JD := (yX11_tray, cX11_tray, 4, (some .boolean))
def b_X11_tray : BD := (1, 0, 0)
theorem dX11_write_0 : decode cX11_write 0 = .ok (.aload_n 0, 1) := by decide +kernel
theorem dX11_write_1 : decode cX11_write 1 = .ok (.getfield 30, 3) := by decide +kernel
theorem dX11_write_4 : decode cX11_write 4 = .ok (.iload_n 1, 1) := by decide +kernel
theorem dX11_write_5 : decode cX11_write 5 = .ok (.iload_n 2, 1) := by decide +kernel
theorem dX11_write_6 : decode cX11_write 6 = .ok (.iconst 1, 1) := by decide +kernel
theorem dX11_write_7 : decode cX11_write 7 = .ok (.invokevirtual 123, 3) := by decide +kernel
theorem dX11_write_10 : decode cX11_write 10 = .ok (.istore 5, 2) := by decide +kernel
theorem dX11_write_12 : decode cX11_write 12 = .ok (.iload 5, 2) := by decide +kernel
theorem dX11_write_14 : decode cX11_write 14 = .ok (.ifCond .eq 10, 3) := by decide +kernel
theorem dX11_write_17 : decode cX11_write 17 = .ok (.aload_n 0, 1) := by decide +kernel
theorem dX11_write_18 : decode cX11_write 18 = .ok (.iload 5, 2) := by decide +kernel
theorem dX11_write_20 : decode cX11_write 20 = .ok (.invokevirtual 116, 3) := by decide +kernel
theorem dX11_write_23 : decode cX11_write 23 = .ok (.ireturn, 1) := by decide +kernel
theorem dX11_write_24 : decode cX11_write 24 = .ok (.aload_n 0, 1) := by decide +kernel
theorem dX11_write_25 : decode cX11_write 25 = .ok (.getfield 30, 3) := by decide +kernel
theorem dX11_write_28 : decode cX11_write 28 = .ok (.iload_n 1, 1) := by decide +kernel
theorem dX11_write_29 : decode cX11_write 29 = .ok (.iload_n 2, 1) := by decide +kernel
theorem dX11_write_30 : decode cX11_write 30 = .ok (.lload_n 3, 1) := by decide +kernel
theorem dX11_write_31 : decode cX11_write 31 = .ok (.invokevirtual 127, 3) := by decide +kernel
theorem dX11_write_34 : decode cX11_write 34 = .ok (.aload_n 0, 1) := by decide +kernel
theorem dX11_write_35 : decode cX11_write 35 = .ok (.invokevirtual 98, 3) := by decide +kernel
theorem dX11_write_38 : decode cX11_write 38 = .ok (.ireturn, 1) := by decide +kernel
def j_X11_write : JD := (yX11_write, cX11_write, 6, (some .boolean))
def b_X11_write : BD := (2, 0, 0)
theorem dX11_read_0 : decode cX11_read 0 = .ok (.aload_n 0, 1) := by decide +kernel
theorem dX11_read_1 : decode cX11_read 1 = .ok (.getfield 30, 3) := by decide +kernel
theorem dX11_read_4 : decode cX11_read 4 = .ok (.iload_n 1, 1) := by decide +kernel
theorem dX11_read_5 : decode cX11_read 5 = .ok (.iload_n 2, 1) := by decide +kernel
theorem dX11_read_6 : decode cX11_read 6 = .ok (.iconst 1, 1) := by decide +kernel
theorem dX11_read_7 : decode cX11_read 7 = .ok (.invokevirtual 123, 3) := by decide +kernel
theorem dX11_read_10 : decode cX11_read 10 = .ok (.istore_n 3, 1) := by decide +kernel
theorem dX11_read_11 : decode cX11_read 11 = .ok (.iload_n 3, 1) := by decide +kernel
theorem dX11_read_12 : decode cX11_read 12 = .ok (.ifCond .eq 10, 3) := by decide +kernel
theorem dX11_read_15 : decode cX11_read 15 = .ok (.aload_n 0, 1) := by decide +kernel
theorem dX11_read_16 : decode cX11_read 16 = .ok (.iload_n 3, 1) := by decide +kernel
theorem dX11_read_17 : decode cX11_read 17 = .ok (.invokevirtual 131, 3) := by decide +kernel
theorem dX11_read_20 : decode cX11_read 20 = .ok (.i2l, 1) := by decide +kernel
theorem dX11_read_21 : decode cX11_read 21 = .ok (.lreturn, 1) := by decide +kernel
theorem dX11_read_22 : decode cX11_read 22 = .ok (.aload_n 0, 1) := by decide +kernel
theorem dX11_read_23 : decode cX11_read 23 = .ok (.iconst 0, 1) := by decide +kernel
theorem dX11_read_24 : decode cX11_read 24 = .ok (.putfield 82, 3) := by decide +kernel
theorem dX11_read_27 : decode cX11_read 27 = .ok (.aload_n 0, 1) := by decide +kernel
theorem dX11_read_28 : decode cX11_read 28 = .ok (.getfield 30, 3) := by decide +kernel
theorem dX11_read_31 : decode cX11_read 31 = .ok (.getfield 135, 3) := by decide +kernel
theorem dX11_read_34 : decode cX11_read 34 = .ok (.iload_n 1, 1) := by decide +kernel
theorem dX11_read_35 : decode cX11_read 35 = .ok (.aaload, 1) := by decide +kernel
theorem dX11_read_36 : decode cX11_read 36 = .ok (.iload_n 2, 1) := by decide +kernel
theorem dX11_read_37 : decode cX11_read 37 = .ok (.laload, 1) := by decide +kernel
theorem dX11_read_38 : decode cX11_read 38 = .ok (.lreturn, 1) := by decide +kernel
def j_X11_read : JD := (yX11_read, cX11_read, 4, (some .long))
def b_X11_read : BD := (2, 0, 0)
theorem dX11_pour_0 : decode cX11_pour 0 = .ok (.aload_n 0, 1) := by decide +kernel
theorem dX11_pour_1 : decode cX11_pour 1 = .ok (.getfield 30, 3) := by decide +kernel
theorem dX11_pour_4 : decode cX11_pour 4 = .ok (.iload_n 1, 1) := by decide +kernel
theorem dX11_pour_5 : decode cX11_pour 5 = .ok (.invokevirtual 112, 3) := by decide +kernel
theorem dX11_pour_8 : decode cX11_pour 8 = .ok (.ifCond .eq 14, 3) := by decide +kernel
theorem dX11_pour_11 : decode cX11_pour 11 = .ok (.aload_n 0, 1) := by decide +kernel
theorem dX11_pour_12 : decode cX11_pour 12 = .ok (.getfield 30, 3) := by decide +kernel
theorem dX11_pour_15 : decode cX11_pour 15 = .ok (.iload_n 3, 1) := by decide +kernel
theorem dX11_pour_16 : decode cX11_pour 16 = .ok (.invokevirtual 112, 3) := by decide +kernel
theorem dX11_pour_19 : decode cX11_pour 19 = .ok (.ifCond .ne 9, 3) := by decide +kernel
theorem dX11_pour_22 : decode cX11_pour 22 = .ok (.aload_n 0, 1) := by decide +kernel
theorem dX11_pour_23 : decode cX11_pour 23 = .ok (.iconst 1, 1) := by decide +kernel
theorem dX11_pour_24 : decode cX11_pour 24 = .ok (.invokevirtual 116, 3) := by decide +kernel
theorem dX11_pour_27 : decode cX11_pour 27 = .ok (.ireturn, 1) := by decide +kernel
theorem dX11_pour_28 : decode cX11_pour 28 = .ok (.aload_n 0, 1) := by decide +kernel
theorem dX11_pour_29 : decode cX11_pour 29 = .ok (.getfield 30, 3) := by decide +kernel
theorem dX11_pour_32 : decode cX11_pour 32 = .ok (.iload_n 1, 1) := by decide +kernel
theorem dX11_pour_33 : decode cX11_pour 33 = .ok (.invokevirtual 139, 3) := by decide +kernel
theorem dX11_pour_36 : decode cX11_pour 36 = .ok (.ifCond .ne 14, 3) := by decide +kernel
theorem dX11_pour_39 : decode cX11_pour 39 = .ok (.aload_n 0, 1) := by decide +kernel
theorem dX11_pour_40 : decode cX11_pour 40 = .ok (.getfield 30, 3) := by decide +kernel
theorem dX11_pour_43 : decode cX11_pour 43 = .ok (.iload_n 3, 1) := by decide +kernel
theorem dX11_pour_44 : decode cX11_pour 44 = .ok (.invokevirtual 139, 3) := by decide +kernel
theorem dX11_pour_47 : decode cX11_pour 47 = .ok (.ifCond .eq 9, 3) := by decide +kernel
theorem dX11_pour_50 : decode cX11_pour 50 = .ok (.aload_n 0, 1) := by decide +kernel
theorem dX11_pour_51 : decode cX11_pour 51 = .ok (.iconst 3, 1) := by decide +kernel
theorem dX11_pour_52 : decode cX11_pour 52 = .ok (.invokevirtual 116, 3) := by decide +kernel
theorem dX11_pour_55 : decode cX11_pour 55 = .ok (.ireturn, 1) := by decide +kernel
theorem dX11_pour_56 : decode cX11_pour 56 = .ok (.aload_n 0, 1) := by decide +kernel
theorem dX11_pour_57 : decode cX11_pour 57 = .ok (.getfield 30, 3) := by decide +kernel
theorem dX11_pour_60 : decode cX11_pour 60 = .ok (.getfield 142, 3) := by decide +kernel
theorem dX11_pour_63 : decode cX11_pour 63 = .ok (.iload_n 1, 1) := by decide +kernel
theorem dX11_pour_64 : decode cX11_pour 64 = .ok (.iaload, 1) := by decide +kernel
theorem dX11_pour_65 : decode cX11_pour 65 = .ok (.aload_n 0, 1) := by decide +kernel
theorem dX11_pour_66 : decode cX11_pour 66 = .ok (.getfield 30, 3) := by decide +kernel
theorem dX11_pour_69 : decode cX11_pour 69 = .ok (.getfield 142, 3) := by decide +kernel
theorem dX11_pour_72 : decode cX11_pour 72 = .ok (.iload_n 3, 1) := by decide +kernel
theorem dX11_pour_73 : decode cX11_pour 73 = .ok (.iaload, 1) := by decide +kernel
theorem dX11_pour_74 : decode cX11_pour 74 = .ok (.if_icmp .eq 10, 3) := by decide +kernel
theorem dX11_pour_77 : decode cX11_pour 77 = .ok (.aload_n 0, 1) := by decide +kernel
theorem dX11_pour_78 : decode cX11_pour 78 = .ok (.bipush 11, 2) := by decide +kernel
theorem dX11_pour_80 : decode cX11_pour 80 = .ok (.invokevirtual 116, 3) := by decide +kernel
theorem dX11_pour_83 : decode cX11_pour 83 = .ok (.ireturn, 1) := by decide +kernel
theorem dX11_pour_84 : decode cX11_pour 84 = .ok (.iload 5, 2) := by decide +kernel
theorem dX11_pour_86 : decode cX11_pour 86 = .ok (.ifCond .ge 10, 3) := by decide +kernel
theorem dX11_pour_89 : decode cX11_pour 89 = .ok (.aload_n 0, 1) := by decide +kernel
theorem dX11_pour_90 : decode cX11_pour 90 = .ok (.bipush 6, 2) := by decide +kernel
theorem dX11_pour_92 : decode cX11_pour 92 = .ok (.invokevirtual 116, 3) := by decide +kernel
theorem dX11_pour_95 : decode cX11_pour 95 = .ok (.ireturn, 1) := by decide +kernel
theorem dX11_pour_96 : decode cX11_pour 96 = .ok (.aload_n 0, 1) := by decide +kernel
theorem dX11_pour_97 : decode cX11_pour 97 = .ok (.getfield 30, 3) := by decide +kernel
theorem dX11_pour_100 : decode cX11_pour 100 = .ok (.iload_n 1, 1) := by decide +kernel
theorem dX11_pour_101 : decode cX11_pour 101 = .ok (.iload_n 2, 1) := by decide +kernel
theorem dX11_pour_102 : decode cX11_pour 102 = .ok (.iload 5, 2) := by decide +kernel
theorem dX11_pour_104 : decode cX11_pour 104 = .ok (.invokevirtual 146, 3) := by decide +kernel
theorem dX11_pour_107 : decode cX11_pour 107 = .ok (.ifCond .eq 18, 3) := by decide +kernel
theorem dX11_pour_110 : decode cX11_pour 110 = .ok (.aload_n 0, 1) := by decide +kernel
theorem dX11_pour_111 : decode cX11_pour 111 = .ok (.getfield 30, 3) := by decide +kernel
theorem dX11_pour_114 : decode cX11_pour 114 = .ok (.iload_n 3, 1) := by decide +kernel
theorem dX11_pour_115 : decode cX11_pour 115 = .ok (.iload 4, 2) := by decide +kernel
theorem dX11_pour_117 : decode cX11_pour 117 = .ok (.iload 5, 2) := by decide +kernel
theorem dX11_pour_119 : decode cX11_pour 119 = .ok (.invokevirtual 146, 3) := by decide +kernel
theorem dX11_pour_122 : decode cX11_pour 122 = .ok (.ifCond .ne 9, 3) := by decide +kernel
theorem dX11_pour_125 : decode cX11_pour 125 = .ok (.aload_n 0, 1) := by decide +kernel
theorem dX11_pour_126 : decode cX11_pour 126 = .ok (.iconst 4, 1) := by decide +kernel
theorem dX11_pour_127 : decode cX11_pour 127 = .ok (.invokevirtual 116, 3) := by decide +kernel
theorem dX11_pour_130 : decode cX11_pour 130 = .ok (.ireturn, 1) := by decide +kernel
theorem dX11_pour_131 : decode cX11_pour 131 = .ok (.aload_n 0, 1) := by decide +kernel
theorem dX11_pour_132 : decode cX11_pour 132 = .ok (.getfield 30, 3) := by decide +kernel
theorem dX11_pour_135 : decode cX11_pour 135 = .ok (.getfield 135, 3) := by decide +kernel
theorem dX11_pour_138 : decode cX11_pour 138 = .ok (.iload_n 1, 1) := by decide +kernel
theorem dX11_pour_139 : decode cX11_pour 139 = .ok (.aaload, 1) := by decide +kernel
theorem dX11_pour_140 : decode cX11_pour 140 = .ok (.iload_n 2, 1) := by decide +kernel
theorem dX11_pour_141 : decode cX11_pour 141 = .ok (.aload_n 0, 1) := by decide +kernel
theorem dX11_pour_142 : decode cX11_pour 142 = .ok (.getfield 30, 3) := by decide +kernel
theorem dX11_pour_145 : decode cX11_pour 145 = .ok (.getfield 135, 3) := by decide +kernel
theorem dX11_pour_148 : decode cX11_pour 148 = .ok (.iload_n 3, 1) := by decide +kernel
theorem dX11_pour_149 : decode cX11_pour 149 = .ok (.aaload, 1) := by decide +kernel
theorem dX11_pour_150 : decode cX11_pour 150 = .ok (.iload 4, 2) := by decide +kernel
theorem dX11_pour_152 : decode cX11_pour 152 = .ok (.iload 5, 2) := by decide +kernel
theorem dX11_pour_154 : decode cX11_pour 154 = .ok (.invokestatic 149, 3) := by decide +kernel
theorem dX11_pour_157 : decode cX11_pour 157 = .ok (.aload_n 0, 1) := by decide +kernel
theorem dX11_pour_158 : decode cX11_pour 158 = .ok (.invokevirtual 98, 3) := by decide +kernel
theorem dX11_pour_161 : decode cX11_pour 161 = .ok (.ireturn, 1) := by decide +kernel
def j_X11_pour : JD := (yX11_pour, cX11_pour, 6, (some .boolean))
def b_X11_pour : BD := (1, 0, 0)
theorem dX11_feed_0 : decode cX11_feed 0 = .ok (.aload_n 0, 1) := by decide +kernel
theorem dX11_feed_1 : decode cX11_feed 1 = .ok (.getfield 23, 3) := by decide +kernel
theorem dX11_feed_4 : decode cX11_feed 4 = .ok (.getfield 155, 3) := by decide +kernel
theorem dX11_feed_7 : decode cX11_feed 7 = .ok (.bipush 20, 2) := by decide +kernel
theorem dX11_feed_9 : decode cX11_feed 9 = .ok (.iadd, 1) := by decide +kernel
theorem dX11_feed_10 : decode cX11_feed 10 = .ok (.sipush 900, 3) := by decide +kernel
theorem dX11_feed_13 : decode cX11_feed 13 = .ok (.if_icmp .le 5, 3) := by decide +kernel
theorem dX11_feed_16 : decode cX11_feed 16 = .ok (.iconst (-1), 1) := by decide +kernel
theorem dX11_feed_17 : decode cX11_feed 17 = .ok (.ireturn, 1) := by decide +kernel
theorem dX11_feed_18 : decode cX11_feed 18 = .ok (.aload_n 0, 1) := by decide +kernel
theorem dX11_feed_19 : decode cX11_feed 19 = .ok (.getfield 23, 3) := by decide +kernel
theorem dX11_feed_22 : decode cX11_feed 22 = .ok (.iload_n 1, 1) := by decide +kernel
theorem dX11_feed_23 : decode cX11_feed 23 = .ok (.invokevirtual 158, 3) := by decide +kernel
theorem dX11_feed_26 : decode cX11_feed 26 = .ok (.aload_n 0, 1) := by decide +kernel
theorem dX11_feed_27 : decode cX11_feed 27 = .ok (.getfield 23, 3) := by decide +kernel
theorem dX11_feed_30 : decode cX11_feed 30 = .ok (.iload_n 2, 1) := by decide +kernel
theorem dX11_feed_31 : decode cX11_feed 31 = .ok (.invokevirtual 158, 3) := by decide +kernel
theorem dX11_feed_34 : decode cX11_feed 34 = .ok (.aload_n 0, 1) := by decide +kernel
theorem dX11_feed_35 : decode cX11_feed 35 = .ok (.getfield 23, 3) := by decide +kernel
theorem dX11_feed_38 : decode cX11_feed 38 = .ok (.iload_n 3, 1) := by decide +kernel
theorem dX11_feed_39 : decode cX11_feed 39 = .ok (.invokevirtual 158, 3) := by decide +kernel
theorem dX11_feed_42 : decode cX11_feed 42 = .ok (.aload_n 0, 1) := by decide +kernel
theorem dX11_feed_43 : decode cX11_feed 43 = .ok (.getfield 23, 3) := by decide +kernel
theorem dX11_feed_46 : decode cX11_feed 46 = .ok (.iload 4, 2) := by decide +kernel
theorem dX11_feed_48 : decode cX11_feed 48 = .ok (.invokevirtual 158, 3) := by decide +kernel
theorem dX11_feed_51 : decode cX11_feed 51 = .ok (.aload_n 0, 1) := by decide +kernel
theorem dX11_feed_52 : decode cX11_feed 52 = .ok (.getfield 23, 3) := by decide +kernel
theorem dX11_feed_55 : decode cX11_feed 55 = .ok (.iload 5, 2) := by decide +kernel
theorem dX11_feed_57 : decode cX11_feed 57 = .ok (.invokevirtual 158, 3) := by decide +kernel
theorem dX11_feed_60 : decode cX11_feed 60 = .ok (.aload_n 0, 1) := by decide +kernel
theorem dX11_feed_61 : decode cX11_feed 61 = .ok (.getfield 23, 3) := by decide +kernel
theorem dX11_feed_64 : decode cX11_feed 64 = .ok (.getfield 155, 3) := by decide +kernel
theorem dX11_feed_67 : decode cX11_feed 67 = .ok (.ireturn, 1) := by decide +kernel
def j_X11_feed : JD := (yX11_feed, cX11_feed, 6, (some .int))
def b_X11_feed : BD := (1, 0, 0)
theorem dX11_endText_0 : decode cX11_endText 0 = .ok (.aload_n 0, 1) := by decide +kernel
theorem dX11_endText_1 : decode cX11_endText 1 = .ok (.getfield 23, 3) := by decide +kernel
theorem dX11_endText_4 : decode cX11_endText 4 = .ok (.iconst 0, 1) := by decide +kernel
theorem dX11_endText_5 : decode cX11_endText 5 = .ok (.putfield 155, 3) := by decide +kernel
theorem dX11_endText_8 : decode cX11_endText 8 = .ok (.aload_n 0, 1) := by decide +kernel
theorem dX11_endText_9 : decode cX11_endText 9 = .ok (.aload_n 0, 1) := by decide +kernel
theorem dX11_endText_10 : decode cX11_endText 10 = .ok (.getfield 23, 3) := by decide +kernel
theorem dX11_endText_13 : decode cX11_endText 13 = .ok (.getfield 192, 3) := by decide +kernel
theorem dX11_endText_16 : decode cX11_endText 16 = .ok (.putfield 13, 3) := by decide +kernel
theorem dX11_endText_19 : decode cX11_endText 19 = .ok (.aload_n 0, 1) := by decide +kernel
theorem dX11_endText_20 : decode cX11_endText 20 = .ok (.aload_n 0, 1) := by decide +kernel
theorem dX11_endText_21 : decode cX11_endText 21 = .ok (.getfield 23, 3) := by decide +kernel
theorem dX11_endText_24 : decode cX11_endText 24 = .ok (.getfield 193, 3) := by decide +kernel
theorem dX11_endText_27 : decode cX11_endText 27 = .ok (.putfield 17, 3) := by decide +kernel
theorem dX11_endText_30 : decode cX11_endText 30 = .ok (.iload_n 1, 1) := by decide +kernel
theorem dX11_endText_31 : decode cX11_endText 31 = .ok (.ireturn, 1) := by decide +kernel
def j_X11_endText : JD := (yX11_endText, cX11_endText, 2, (some .boolean))
def b_X11_endText : BD := (0, 0, 0)
theorem dX11_shore_0 : decode cX11_shore 0 = .ok (.iload_n 1, 1) := by decide +kernel
theorem dX11_shore_1 : decode cX11_shore 1 = .ok (.iconst 0, 1) := by decide +kernel
theorem dX11_shore_2 : decode cX11_shore 2 = .ok (.aload_n 0, 1) := by decide +kernel
theorem dX11_shore_3 : decode cX11_shore 3 = .ok (.getfield 23, 3) := by decide +kernel
theorem dX11_shore_6 : decode cX11_shore 6 = .ok (.getfield 155, 3) := by decide +kernel
theorem dX11_shore_9 : decode cX11_shore 9 = .ok (.invokestatic 105, 3) := by decide +kernel
theorem dX11_shore_12 : decode cX11_shore 12 = .ok (.ifCond .ne 9, 3) := by decide +kernel
theorem dX11_shore_15 : decode cX11_shore 15 = .ok (.aload_n 0, 1) := by decide +kernel
theorem dX11_shore_16 : decode cX11_shore 16 = .ok (.iconst 5, 1) := by decide +kernel
theorem dX11_shore_17 : decode cX11_shore 17 = .ok (.invokevirtual 131, 3) := by decide +kernel
theorem dX11_shore_20 : decode cX11_shore 20 = .ok (.ireturn, 1) := by decide +kernel
theorem dX11_shore_21 : decode cX11_shore 21 = .ok (.aload_n 0, 1) := by decide +kernel
theorem dX11_shore_22 : decode cX11_shore 22 = .ok (.new 161, 3) := by decide +kernel
theorem dX11_shore_25 : decode cX11_shore 25 = .ok (.dup, 1) := by decide +kernel
theorem dX11_shore_26 : decode cX11_shore 26 = .ok (.aload_n 0, 1) := by decide +kernel
theorem dX11_shore_27 : decode cX11_shore 27 = .ok (.getfield 23, 3) := by decide +kernel
theorem dX11_shore_30 : decode cX11_shore 30 = .ok (.aload_n 0, 1) := by decide +kernel
theorem dX11_shore_31 : decode cX11_shore 31 = .ok (.getfield 41, 3) := by decide +kernel
theorem dX11_shore_34 : decode cX11_shore 34 = .ok (.invokespecial 163, 3) := by decide +kernel
theorem dX11_shore_37 : decode cX11_shore 37 = .ok (.iload_n 1, 1) := by decide +kernel
theorem dX11_shore_38 : decode cX11_shore 38 = .ok (.invokevirtual 166, 3) := by decide +kernel
theorem dX11_shore_41 : decode cX11_shore 41 = .ok (.invokevirtual 169, 3) := by decide +kernel
theorem dX11_shore_44 : decode cX11_shore 44 = .ok (.ifCond .ne 10, 3) := by decide +kernel
theorem dX11_shore_47 : decode cX11_shore 47 = .ok (.aload_n 0, 1) := by decide +kernel
theorem dX11_shore_48 : decode cX11_shore 48 = .ok (.bipush 10, 2) := by decide +kernel
theorem dX11_shore_50 : decode cX11_shore 50 = .ok (.invokevirtual 131, 3) := by decide +kernel
theorem dX11_shore_53 : decode cX11_shore 53 = .ok (.ireturn, 1) := by decide +kernel
theorem dX11_shore_54 : decode cX11_shore 54 = .ok (.aload_n 0, 1) := by decide +kernel
theorem dX11_shore_55 : decode cX11_shore 55 = .ok (.getfield 37, 3) := by decide +kernel
theorem dX11_shore_58 : decode cX11_shore 58 = .ok (.astore_n 2, 1) := by decide +kernel
theorem dX11_shore_59 : decode cX11_shore 59 = .ok (.aload_n 0, 1) := by decide +kernel
theorem dX11_shore_60 : decode cX11_shore 60 = .ok (.aload_n 0, 1) := by decide +kernel
theorem dX11_shore_61 : decode cX11_shore 61 = .ok (.getfield 41, 3) := by decide +kernel
theorem dX11_shore_64 : decode cX11_shore 64 = .ok (.putfield 37, 3) := by decide +kernel
theorem dX11_shore_67 : decode cX11_shore 67 = .ok (.aload_n 0, 1) := by decide +kernel
theorem dX11_shore_68 : decode cX11_shore 68 = .ok (.aload_n 2, 1) := by decide +kernel
theorem dX11_shore_69 : decode cX11_shore 69 = .ok (.putfield 41, 3) := by decide +kernel
theorem dX11_shore_72 : decode cX11_shore 72 = .ok (.aload_n 0, 1) := by decide +kernel
theorem dX11_shore_73 : decode cX11_shore 73 = .ok (.getfield 47, 3) := by decide +kernel
theorem dX11_shore_76 : decode cX11_shore 76 = .ok (.invokevirtual 173, 3) := by decide +kernel
theorem dX11_shore_79 : decode cX11_shore 79 = .ok (.aload_n 0, 1) := by decide +kernel
theorem dX11_shore_80 : decode cX11_shore 80 = .ok (.aload_n 0, 1) := by decide +kernel
theorem dX11_shore_81 : decode cX11_shore 81 = .ok (.getfield 37, 3) := by decide +kernel
theorem dX11_shore_84 : decode cX11_shore 84 = .ok (.getfield 102, 3) := by decide +kernel
theorem dX11_shore_87 : decode cX11_shore 87 = .ok (.invokevirtual 176, 3) := by decide +kernel
theorem dX11_shore_90 : decode cX11_shore 90 = .ok (.ireturn, 1) := by decide +kernel
def j_X11_shore : JD := (yX11_shore, cX11_shore, 3, (some .int))
def b_X11_shore : BD := (7, 1, 3)
theorem dX11_years_0 : decode cX11_years 0 = .ok (.iload_n 1, 1) := by decide +kernel
theorem dX11_years_1 : decode cX11_years 1 = .ok (.iconst 0, 1) := by decide +kernel
theorem dX11_years_2 : decode cX11_years 2 = .ok (.aload_n 0, 1) := by decide +kernel
theorem dX11_years_3 : decode cX11_years 3 = .ok (.getfield 23, 3) := by decide +kernel
theorem dX11_years_6 : decode cX11_years 6 = .ok (.getfield 155, 3) := by decide +kernel
theorem dX11_years_9 : decode cX11_years 9 = .ok (.sipush 300, 3) := by decide +kernel
theorem dX11_years_12 : decode cX11_years 12 = .ok (.invokestatic 179, 3) := by decide +kernel
theorem dX11_years_15 : decode cX11_years 15 = .ok (.invokestatic 105, 3) := by decide +kernel
theorem dX11_years_18 : decode cX11_years 18 = .ok (.ifCond .ne 9, 3) := by decide +kernel
theorem dX11_years_21 : decode cX11_years 21 = .ok (.aload_n 0, 1) := by decide +kernel
theorem dX11_years_22 : decode cX11_years 22 = .ok (.iconst 5, 1) := by decide +kernel
theorem dX11_years_23 : decode cX11_years 23 = .ok (.invokevirtual 131, 3) := by decide +kernel
theorem dX11_years_26 : decode cX11_years 26 = .ok (.ireturn, 1) := by decide +kernel
theorem dX11_years_27 : decode cX11_years 27 = .ok (.aload_n 0, 1) := by decide +kernel
theorem dX11_years_28 : decode cX11_years 28 = .ok (.new 183, 3) := by decide +kernel
theorem dX11_years_31 : decode cX11_years 31 = .ok (.dup, 1) := by decide +kernel
theorem dX11_years_32 : decode cX11_years 32 = .ok (.aload_n 0, 1) := by decide +kernel
theorem dX11_years_33 : decode cX11_years 33 = .ok (.getfield 23, 3) := by decide +kernel
theorem dX11_years_36 : decode cX11_years 36 = .ok (.aload_n 0, 1) := by decide +kernel
theorem dX11_years_37 : decode cX11_years 37 = .ok (.getfield 37, 3) := by decide +kernel
theorem dX11_years_40 : decode cX11_years 40 = .ok (.aload_n 0, 1) := by decide +kernel
theorem dX11_years_41 : decode cX11_years 41 = .ok (.getfield 51, 3) := by decide +kernel
theorem dX11_years_44 : decode cX11_years 44 = .ok (.invokespecial 185, 3) := by decide +kernel
theorem dX11_years_47 : decode cX11_years 47 = .ok (.iload_n 1, 1) := by decide +kernel
theorem dX11_years_48 : decode cX11_years 48 = .ok (.invokevirtual 188, 3) := by decide +kernel
theorem dX11_years_51 : decode cX11_years 51 = .ok (.invokevirtual 169, 3) := by decide +kernel
theorem dX11_years_54 : decode cX11_years 54 = .ok (.ifCond .ne 10, 3) := by decide +kernel
theorem dX11_years_57 : decode cX11_years 57 = .ok (.aload_n 0, 1) := by decide +kernel
theorem dX11_years_58 : decode cX11_years 58 = .ok (.bipush 10, 2) := by decide +kernel
theorem dX11_years_60 : decode cX11_years 60 = .ok (.invokevirtual 131, 3) := by decide +kernel
theorem dX11_years_63 : decode cX11_years 63 = .ok (.ireturn, 1) := by decide +kernel
theorem dX11_years_64 : decode cX11_years 64 = .ok (.aload_n 0, 1) := by decide +kernel
theorem dX11_years_65 : decode cX11_years 65 = .ok (.getfield 47, 3) := by decide +kernel
theorem dX11_years_68 : decode cX11_years 68 = .ok (.astore_n 2, 1) := by decide +kernel
theorem dX11_years_69 : decode cX11_years 69 = .ok (.aload_n 0, 1) := by decide +kernel
theorem dX11_years_70 : decode cX11_years 70 = .ok (.aload_n 0, 1) := by decide +kernel
theorem dX11_years_71 : decode cX11_years 71 = .ok (.getfield 51, 3) := by decide +kernel
theorem dX11_years_74 : decode cX11_years 74 = .ok (.putfield 47, 3) := by decide +kernel
theorem dX11_years_77 : decode cX11_years 77 = .ok (.aload_n 0, 1) := by decide +kernel
theorem dX11_years_78 : decode cX11_years 78 = .ok (.aload_n 2, 1) := by decide +kernel
theorem dX11_years_79 : decode cX11_years 79 = .ok (.putfield 51, 3) := by decide +kernel
theorem dX11_years_82 : decode cX11_years 82 = .ok (.aload_n 0, 1) := by decide +kernel
theorem dX11_years_83 : decode cX11_years 83 = .ok (.aload_n 0, 1) := by decide +kernel
theorem dX11_years_84 : decode cX11_years 84 = .ok (.getfield 47, 3) := by decide +kernel
theorem dX11_years_87 : decode cX11_years 87 = .ok (.getfield 189, 3) := by decide +kernel
theorem dX11_years_90 : decode cX11_years 90 = .ok (.invokevirtual 176, 3) := by decide +kernel
theorem dX11_years_93 : decode cX11_years 93 = .ok (.ireturn, 1) := by decide +kernel
def j_X11_years : JD := (yX11_years, cX11_years, 3, (some .int))
def b_X11_years : BD := (7, 2, 8)
theorem dX11_fault_0 : decode cX11_fault 0 = .ok (.iload_n 1, 1) := by decide +kernel
theorem dX11_fault_1 : decode cX11_fault 1 = .ok (.ifCond .ne 8, 3) := by decide +kernel
theorem dX11_fault_4 : decode cX11_fault 4 = .ok (.aload_n 0, 1) := by decide +kernel
theorem dX11_fault_5 : decode cX11_fault 5 = .ok (.getfield 13, 3) := by decide +kernel
theorem dX11_fault_8 : decode cX11_fault 8 = .ok (.ireturn, 1) := by decide +kernel
theorem dX11_fault_9 : decode cX11_fault 9 = .ok (.iload_n 1, 1) := by decide +kernel
theorem dX11_fault_10 : decode cX11_fault 10 = .ok (.iconst 1, 1) := by decide +kernel
theorem dX11_fault_11 : decode cX11_fault 11 = .ok (.if_icmp .ne 10, 3) := by decide +kernel
theorem dX11_fault_14 : decode cX11_fault 14 = .ok (.aload_n 0, 1) := by decide +kernel
theorem dX11_fault_15 : decode cX11_fault 15 = .ok (.getfield 17, 3) := by decide +kernel
theorem dX11_fault_18 : decode cX11_fault 18 = .ok (.goto 4, 3) := by decide +kernel
theorem dX11_fault_21 : decode cX11_fault 21 = .ok (.iconst (-1), 1) := by decide +kernel
theorem dX11_fault_22 : decode cX11_fault 22 = .ok (.ireturn, 1) := by decide +kernel
def j_X11_fault : JD := (yX11_fault, cX11_fault, 2, (some .int))
def b_X11_fault : BD := (0, 0, 0)
theorem dX11_many_0 : decode cX11_many 0 = .ok (.iload_n 1, 1) := by decide +kernel
theorem dX11_many_1 : decode cX11_many 1 = .ok (.tableswitch 191 0 9 #[55, 67, 79, 91, 103, 115, 127, 139, 158, 179], 55) := by decide +kernel
theorem dX11_many_56 : decode cX11_many 56 = .ok (.aload_n 0, 1) := by decide +kernel
theorem dX11_many_57 : decode cX11_many 57 = .ok (.aload_n 0, 1) := by decide +kernel
theorem dX11_many_58 : decode cX11_many 58 = .ok (.getfield 37, 3) := by decide +kernel
theorem dX11_many_61 : decode cX11_many 61 = .ok (.getfield 102, 3) := by decide +kernel
theorem dX11_many_64 : decode cX11_many 64 = .ok (.invokevirtual 176, 3) := by decide +kernel
theorem dX11_many_67 : decode cX11_many 67 = .ok (.ireturn, 1) := by decide +kernel
theorem dX11_many_68 : decode cX11_many 68 = .ok (.aload_n 0, 1) := by decide +kernel
theorem dX11_many_69 : decode cX11_many 69 = .ok (.aload_n 0, 1) := by decide +kernel
theorem dX11_many_70 : decode cX11_many 70 = .ok (.getfield 37, 3) := by decide +kernel
theorem dX11_many_73 : decode cX11_many 73 = .ok (.getfield 109, 3) := by decide +kernel
theorem dX11_many_76 : decode cX11_many 76 = .ok (.invokevirtual 176, 3) := by decide +kernel
theorem dX11_many_79 : decode cX11_many 79 = .ok (.ireturn, 1) := by decide +kernel
theorem dX11_many_80 : decode cX11_many 80 = .ok (.aload_n 0, 1) := by decide +kernel
theorem dX11_many_81 : decode cX11_many 81 = .ok (.aload_n 0, 1) := by decide +kernel
theorem dX11_many_82 : decode cX11_many 82 = .ok (.getfield 37, 3) := by decide +kernel
theorem dX11_many_85 : decode cX11_many 85 = .ok (.getfield 194, 3) := by decide +kernel
theorem dX11_many_88 : decode cX11_many 88 = .ok (.invokevirtual 176, 3) := by decide +kernel
theorem dX11_many_91 : decode cX11_many 91 = .ok (.ireturn, 1) := by decide +kernel
theorem dX11_many_92 : decode cX11_many 92 = .ok (.aload_n 0, 1) := by decide +kernel
theorem dX11_many_93 : decode cX11_many 93 = .ok (.aload_n 0, 1) := by decide +kernel
theorem dX11_many_94 : decode cX11_many 94 = .ok (.getfield 37, 3) := by decide +kernel
theorem dX11_many_97 : decode cX11_many 97 = .ok (.getfield 197, 3) := by decide +kernel
theorem dX11_many_100 : decode cX11_many 100 = .ok (.invokevirtual 176, 3) := by decide +kernel
theorem dX11_many_103 : decode cX11_many 103 = .ok (.ireturn, 1) := by decide +kernel
theorem dX11_many_104 : decode cX11_many 104 = .ok (.aload_n 0, 1) := by decide +kernel
theorem dX11_many_105 : decode cX11_many 105 = .ok (.aload_n 0, 1) := by decide +kernel
theorem dX11_many_106 : decode cX11_many 106 = .ok (.getfield 37, 3) := by decide +kernel
theorem dX11_many_109 : decode cX11_many 109 = .ok (.getfield 200, 3) := by decide +kernel
theorem dX11_many_112 : decode cX11_many 112 = .ok (.invokevirtual 176, 3) := by decide +kernel
theorem dX11_many_115 : decode cX11_many 115 = .ok (.ireturn, 1) := by decide +kernel
theorem dX11_many_116 : decode cX11_many 116 = .ok (.aload_n 0, 1) := by decide +kernel
theorem dX11_many_117 : decode cX11_many 117 = .ok (.aload_n 0, 1) := by decide +kernel
theorem dX11_many_118 : decode cX11_many 118 = .ok (.getfield 37, 3) := by decide +kernel
theorem dX11_many_121 : decode cX11_many 121 = .ok (.invokevirtual 203, 3) := by decide +kernel
theorem dX11_many_124 : decode cX11_many 124 = .ok (.invokevirtual 176, 3) := by decide +kernel
theorem dX11_many_127 : decode cX11_many 127 = .ok (.ireturn, 1) := by decide +kernel
theorem dX11_many_128 : decode cX11_many 128 = .ok (.aload_n 0, 1) := by decide +kernel
theorem dX11_many_129 : decode cX11_many 129 = .ok (.aload_n 0, 1) := by decide +kernel
theorem dX11_many_130 : decode cX11_many 130 = .ok (.getfield 37, 3) := by decide +kernel
theorem dX11_many_133 : decode cX11_many 133 = .ok (.invokevirtual 207, 3) := by decide +kernel
theorem dX11_many_136 : decode cX11_many 136 = .ok (.invokevirtual 176, 3) := by decide +kernel
theorem dX11_many_139 : decode cX11_many 139 = .ok (.ireturn, 1) := by decide +kernel
theorem dX11_many_140 : decode cX11_many 140 = .ok (.aload_n 0, 1) := by decide +kernel
theorem dX11_many_141 : decode cX11_many 141 = .ok (.aload_n 0, 1) := by decide +kernel
theorem dX11_many_142 : decode cX11_many 142 = .ok (.getfield 37, 3) := by decide +kernel
theorem dX11_many_145 : decode cX11_many 145 = .ok (.aload_n 0, 1) := by decide +kernel
theorem dX11_many_146 : decode cX11_many 146 = .ok (.getfield 37, 3) := by decide +kernel
theorem dX11_many_149 : decode cX11_many 149 = .ok (.invokevirtual 203, 3) := by decide +kernel
theorem dX11_many_152 : decode cX11_many 152 = .ok (.invokevirtual 210, 3) := by decide +kernel
theorem dX11_many_155 : decode cX11_many 155 = .ok (.invokevirtual 176, 3) := by decide +kernel
theorem dX11_many_158 : decode cX11_many 158 = .ok (.ireturn, 1) := by decide +kernel
theorem dX11_many_159 : decode cX11_many 159 = .ok (.aload_n 0, 1) := by decide +kernel
theorem dX11_many_160 : decode cX11_many 160 = .ok (.aload_n 0, 1) := by decide +kernel
theorem dX11_many_161 : decode cX11_many 161 = .ok (.getfield 37, 3) := by decide +kernel
theorem dX11_many_164 : decode cX11_many 164 = .ok (.aload_n 0, 1) := by decide +kernel
theorem dX11_many_165 : decode cX11_many 165 = .ok (.getfield 37, 3) := by decide +kernel
theorem dX11_many_168 : decode cX11_many 168 = .ok (.invokevirtual 203, 3) := by decide +kernel
theorem dX11_many_171 : decode cX11_many 171 = .ok (.iconst (-1), 1) := by decide +kernel
theorem dX11_many_172 : decode cX11_many 172 = .ok (.ixor, 1) := by decide +kernel
theorem dX11_many_173 : decode cX11_many 173 = .ok (.invokevirtual 210, 3) := by decide +kernel
theorem dX11_many_176 : decode cX11_many 176 = .ok (.invokevirtual 176, 3) := by decide +kernel
theorem dX11_many_179 : decode cX11_many 179 = .ok (.ireturn, 1) := by decide +kernel
theorem dX11_many_180 : decode cX11_many 180 = .ok (.aload_n 0, 1) := by decide +kernel
theorem dX11_many_181 : decode cX11_many 181 = .ok (.aload_n 0, 1) := by decide +kernel
theorem dX11_many_182 : decode cX11_many 182 = .ok (.getfield 37, 3) := by decide +kernel
theorem dX11_many_185 : decode cX11_many 185 = .ok (.invokevirtual 213, 3) := by decide +kernel
theorem dX11_many_188 : decode cX11_many 188 = .ok (.invokevirtual 176, 3) := by decide +kernel
theorem dX11_many_191 : decode cX11_many 191 = .ok (.ireturn, 1) := by decide +kernel
theorem dX11_many_192 : decode cX11_many 192 = .ok (.aload_n 0, 1) := by decide +kernel
theorem dX11_many_193 : decode cX11_many 193 = .ok (.iconst 5, 1) := by decide +kernel
theorem dX11_many_194 : decode cX11_many 194 = .ok (.invokevirtual 131, 3) := by decide +kernel
theorem dX11_many_197 : decode cX11_many 197 = .ok (.ireturn, 1) := by decide +kernel
def j_X11_many : JD := (yX11_many, cX11_many, 2, (some .int))
def b_X11_many : BD := (3, 0, 0)
theorem dX11_house_0 : decode cX11_house 0 = .ok (.aload_n 0, 1) := by decide +kernel
theorem dX11_house_1 : decode cX11_house 1 = .ok (.iload_n 1, 1) := by decide +kernel
theorem dX11_house_2 : decode cX11_house 2 = .ok (.invokevirtual 216, 3) := by decide +kernel
theorem dX11_house_5 : decode cX11_house 5 = .ok (.ifCond .ne 9, 3) := by decide +kernel
theorem dX11_house_8 : decode cX11_house 8 = .ok (.aload_n 0, 1) := by decide +kernel
theorem dX11_house_9 : decode cX11_house 9 = .ok (.iconst 2, 1) := by decide +kernel
theorem dX11_house_10 : decode cX11_house 10 = .ok (.invokevirtual 131, 3) := by decide +kernel
theorem dX11_house_13 : decode cX11_house 13 = .ok (.ireturn, 1) := by decide +kernel
theorem dX11_house_14 : decode cX11_house 14 = .ok (.aload_n 0, 1) := by decide +kernel
theorem dX11_house_15 : decode cX11_house 15 = .ok (.getfield 37, 3) := by decide +kernel
theorem dX11_house_18 : decode cX11_house 18 = .ok (.getfield 219, 3) := by decide +kernel
theorem dX11_house_21 : decode cX11_house 21 = .ok (.iload_n 1, 1) := by decide +kernel
theorem dX11_house_22 : decode cX11_house 22 = .ok (.aaload, 1) := by decide +kernel
theorem dX11_house_23 : decode cX11_house 23 = .ok (.astore_n 3, 1) := by decide +kernel
theorem dX11_house_24 : decode cX11_house 24 = .ok (.iload_n 2, 1) := by decide +kernel
theorem dX11_house_25 : decode cX11_house 25 = .ok (.tableswitch 136 0 8 #[51, 60, 69, 78, 87, 96, 105, 114, 123], 51) := by decide +kernel
theorem dX11_house_76 : decode cX11_house 76 = .ok (.aload_n 0, 1) := by decide +kernel
theorem dX11_house_77 : decode cX11_house 77 = .ok (.aload_n 3, 1) := by decide +kernel
theorem dX11_house_78 : decode cX11_house 78 = .ok (.getfield 223, 3) := by decide +kernel
theorem dX11_house_81 : decode cX11_house 81 = .ok (.invokevirtual 176, 3) := by decide +kernel
theorem dX11_house_84 : decode cX11_house 84 = .ok (.ireturn, 1) := by decide +kernel
theorem dX11_house_85 : decode cX11_house 85 = .ok (.aload_n 0, 1) := by decide +kernel
theorem dX11_house_86 : decode cX11_house 86 = .ok (.aload_n 3, 1) := by decide +kernel
theorem dX11_house_87 : decode cX11_house 87 = .ok (.getfield 228, 3) := by decide +kernel
theorem dX11_house_90 : decode cX11_house 90 = .ok (.invokevirtual 176, 3) := by decide +kernel
theorem dX11_house_93 : decode cX11_house 93 = .ok (.ireturn, 1) := by decide +kernel
theorem dX11_house_94 : decode cX11_house 94 = .ok (.aload_n 0, 1) := by decide +kernel
theorem dX11_house_95 : decode cX11_house 95 = .ok (.aload_n 3, 1) := by decide +kernel
theorem dX11_house_96 : decode cX11_house 96 = .ok (.getfield 231, 3) := by decide +kernel
theorem dX11_house_99 : decode cX11_house 99 = .ok (.invokevirtual 176, 3) := by decide +kernel
theorem dX11_house_102 : decode cX11_house 102 = .ok (.ireturn, 1) := by decide +kernel
theorem dX11_house_103 : decode cX11_house 103 = .ok (.aload_n 0, 1) := by decide +kernel
theorem dX11_house_104 : decode cX11_house 104 = .ok (.aload_n 3, 1) := by decide +kernel
theorem dX11_house_105 : decode cX11_house 105 = .ok (.getfield 234, 3) := by decide +kernel
theorem dX11_house_108 : decode cX11_house 108 = .ok (.invokevirtual 176, 3) := by decide +kernel
theorem dX11_house_111 : decode cX11_house 111 = .ok (.ireturn, 1) := by decide +kernel
theorem dX11_house_112 : decode cX11_house 112 = .ok (.aload_n 0, 1) := by decide +kernel
theorem dX11_house_113 : decode cX11_house 113 = .ok (.aload_n 3, 1) := by decide +kernel
theorem dX11_house_114 : decode cX11_house 114 = .ok (.getfield 237, 3) := by decide +kernel
theorem dX11_house_117 : decode cX11_house 117 = .ok (.invokevirtual 176, 3) := by decide +kernel
theorem dX11_house_120 : decode cX11_house 120 = .ok (.ireturn, 1) := by decide +kernel
theorem dX11_house_121 : decode cX11_house 121 = .ok (.aload_n 0, 1) := by decide +kernel
theorem dX11_house_122 : decode cX11_house 122 = .ok (.aload_n 3, 1) := by decide +kernel
theorem dX11_house_123 : decode cX11_house 123 = .ok (.getfield 240, 3) := by decide +kernel
theorem dX11_house_126 : decode cX11_house 126 = .ok (.invokevirtual 176, 3) := by decide +kernel
theorem dX11_house_129 : decode cX11_house 129 = .ok (.ireturn, 1) := by decide +kernel
theorem dX11_house_130 : decode cX11_house 130 = .ok (.aload_n 0, 1) := by decide +kernel
theorem dX11_house_131 : decode cX11_house 131 = .ok (.aload_n 3, 1) := by decide +kernel
theorem dX11_house_132 : decode cX11_house 132 = .ok (.getfield 243, 3) := by decide +kernel
theorem dX11_house_135 : decode cX11_house 135 = .ok (.invokevirtual 176, 3) := by decide +kernel
theorem dX11_house_138 : decode cX11_house 138 = .ok (.ireturn, 1) := by decide +kernel
theorem dX11_house_139 : decode cX11_house 139 = .ok (.aload_n 0, 1) := by decide +kernel
theorem dX11_house_140 : decode cX11_house 140 = .ok (.aload_n 3, 1) := by decide +kernel
theorem dX11_house_141 : decode cX11_house 141 = .ok (.invokevirtual 246, 3) := by decide +kernel
theorem dX11_house_144 : decode cX11_house 144 = .ok (.invokevirtual 176, 3) := by decide +kernel
theorem dX11_house_147 : decode cX11_house 147 = .ok (.ireturn, 1) := by decide +kernel
theorem dX11_house_148 : decode cX11_house 148 = .ok (.aload_n 0, 1) := by decide +kernel
theorem dX11_house_149 : decode cX11_house 149 = .ok (.aload_n 0, 1) := by decide +kernel
theorem dX11_house_150 : decode cX11_house 150 = .ok (.getfield 37, 3) := by decide +kernel
theorem dX11_house_153 : decode cX11_house 153 = .ok (.iload_n 1, 1) := by decide +kernel
theorem dX11_house_154 : decode cX11_house 154 = .ok (.invokevirtual 249, 3) := by decide +kernel
theorem dX11_house_157 : decode cX11_house 157 = .ok (.invokevirtual 176, 3) := by decide +kernel
theorem dX11_house_160 : decode cX11_house 160 = .ok (.ireturn, 1) := by decide +kernel
theorem dX11_house_161 : decode cX11_house 161 = .ok (.aload_n 0, 1) := by decide +kernel
theorem dX11_house_162 : decode cX11_house 162 = .ok (.iconst 5, 1) := by decide +kernel
theorem dX11_house_163 : decode cX11_house 163 = .ok (.invokevirtual 131, 3) := by decide +kernel
theorem dX11_house_166 : decode cX11_house 166 = .ok (.ireturn, 1) := by decide +kernel
def j_X11_house : JD := (yX11_house, cX11_house, 4, (some .int))
def b_X11_house : BD := (2, 0, 0)
theorem dX11_gang_0 : decode cX11_gang 0 = .ok (.aload_n 0, 1) := by decide +kernel
theorem dX11_gang_1 : decode cX11_gang 1 = .ok (.iload_n 1, 1) := by decide +kernel
theorem dX11_gang_2 : decode cX11_gang 2 = .ok (.invokevirtual 252, 3) := by decide +kernel
theorem dX11_gang_5 : decode cX11_gang 5 = .ok (.ifCond .ne 9, 3) := by decide +kernel
theorem dX11_gang_8 : decode cX11_gang 8 = .ok (.aload_n 0, 1) := by decide +kernel
theorem dX11_gang_9 : decode cX11_gang 9 = .ok (.iconst 2, 1) := by decide +kernel
theorem dX11_gang_10 : decode cX11_gang 10 = .ok (.invokevirtual 131, 3) := by decide +kernel
theorem dX11_gang_13 : decode cX11_gang 13 = .ok (.ireturn, 1) := by decide +kernel
theorem dX11_gang_14 : decode cX11_gang 14 = .ok (.aload_n 0, 1) := by decide +kernel
theorem dX11_gang_15 : decode cX11_gang 15 = .ok (.getfield 37, 3) := by decide +kernel
theorem dX11_gang_18 : decode cX11_gang 18 = .ok (.getfield 255, 3) := by decide +kernel
theorem dX11_gang_21 : decode cX11_gang 21 = .ok (.iload_n 1, 1) := by decide +kernel
theorem dX11_gang_22 : decode cX11_gang 22 = .ok (.aaload, 1) := by decide +kernel
theorem dX11_gang_23 : decode cX11_gang 23 = .ok (.astore_n 3, 1) := by decide +kernel
theorem dX11_gang_24 : decode cX11_gang 24 = .ok (.iload_n 2, 1) := by decide +kernel
theorem dX11_gang_25 : decode cX11_gang 25 = .ok (.tableswitch 110 0 5 #[39, 48, 57, 66, 75, 101], 39) := by decide +kernel
theorem dX11_gang_64 : decode cX11_gang 64 = .ok (.aload_n 0, 1) := by decide +kernel
theorem dX11_gang_65 : decode cX11_gang 65 = .ok (.aload_n 3, 1) := by decide +kernel
theorem dX11_gang_66 : decode cX11_gang 66 = .ok (.getfield 259, 3) := by decide +kernel
theorem dX11_gang_69 : decode cX11_gang 69 = .ok (.invokevirtual 176, 3) := by decide +kernel
theorem dX11_gang_72 : decode cX11_gang 72 = .ok (.ireturn, 1) := by decide +kernel
theorem dX11_gang_73 : decode cX11_gang 73 = .ok (.aload_n 0, 1) := by decide +kernel
theorem dX11_gang_74 : decode cX11_gang 74 = .ok (.aload_n 3, 1) := by decide +kernel
theorem dX11_gang_75 : decode cX11_gang 75 = .ok (.getfield 264, 3) := by decide +kernel
theorem dX11_gang_78 : decode cX11_gang 78 = .ok (.invokevirtual 176, 3) := by decide +kernel
theorem dX11_gang_81 : decode cX11_gang 81 = .ok (.ireturn, 1) := by decide +kernel
theorem dX11_gang_82 : decode cX11_gang 82 = .ok (.aload_n 0, 1) := by decide +kernel
theorem dX11_gang_83 : decode cX11_gang 83 = .ok (.aload_n 3, 1) := by decide +kernel
theorem dX11_gang_84 : decode cX11_gang 84 = .ok (.getfield 267, 3) := by decide +kernel
theorem dX11_gang_87 : decode cX11_gang 87 = .ok (.invokevirtual 176, 3) := by decide +kernel
theorem dX11_gang_90 : decode cX11_gang 90 = .ok (.ireturn, 1) := by decide +kernel
theorem dX11_gang_91 : decode cX11_gang 91 = .ok (.aload_n 0, 1) := by decide +kernel
theorem dX11_gang_92 : decode cX11_gang 92 = .ok (.aload_n 3, 1) := by decide +kernel
theorem dX11_gang_93 : decode cX11_gang 93 = .ok (.getfield 270, 3) := by decide +kernel
theorem dX11_gang_96 : decode cX11_gang 96 = .ok (.invokevirtual 176, 3) := by decide +kernel
theorem dX11_gang_99 : decode cX11_gang 99 = .ok (.ireturn, 1) := by decide +kernel
theorem dX11_gang_100 : decode cX11_gang 100 = .ok (.aload_n 3, 1) := by decide +kernel
theorem dX11_gang_101 : decode cX11_gang 101 = .ok (.getfield 271, 3) := by decide +kernel
theorem dX11_gang_104 : decode cX11_gang 104 = .ok (.iconst (-1), 1) := by decide +kernel
theorem dX11_gang_105 : decode cX11_gang 105 = .ok (.if_icmp .ne 12, 3) := by decide +kernel
theorem dX11_gang_108 : decode cX11_gang 108 = .ok (.aload_n 0, 1) := by decide +kernel
theorem dX11_gang_109 : decode cX11_gang 109 = .ok (.bipush 8, 2) := by decide +kernel
theorem dX11_gang_111 : decode cX11_gang 111 = .ok (.invokevirtual 131, 3) := by decide +kernel
theorem dX11_gang_114 : decode cX11_gang 114 = .ok (.goto 11, 3) := by decide +kernel
theorem dX11_gang_117 : decode cX11_gang 117 = .ok (.aload_n 0, 1) := by decide +kernel
theorem dX11_gang_118 : decode cX11_gang 118 = .ok (.aload_n 3, 1) := by decide +kernel
theorem dX11_gang_119 : decode cX11_gang 119 = .ok (.getfield 271, 3) := by decide +kernel
theorem dX11_gang_122 : decode cX11_gang 122 = .ok (.invokevirtual 176, 3) := by decide +kernel
theorem dX11_gang_125 : decode cX11_gang 125 = .ok (.ireturn, 1) := by decide +kernel
theorem dX11_gang_126 : decode cX11_gang 126 = .ok (.aload_n 0, 1) := by decide +kernel
theorem dX11_gang_127 : decode cX11_gang 127 = .ok (.aload_n 3, 1) := by decide +kernel
theorem dX11_gang_128 : decode cX11_gang 128 = .ok (.invokevirtual 274, 3) := by decide +kernel
theorem dX11_gang_131 : decode cX11_gang 131 = .ok (.invokevirtual 176, 3) := by decide +kernel
theorem dX11_gang_134 : decode cX11_gang 134 = .ok (.ireturn, 1) := by decide +kernel
theorem dX11_gang_135 : decode cX11_gang 135 = .ok (.aload_n 0, 1) := by decide +kernel
theorem dX11_gang_136 : decode cX11_gang 136 = .ok (.iconst 5, 1) := by decide +kernel
theorem dX11_gang_137 : decode cX11_gang 137 = .ok (.invokevirtual 131, 3) := by decide +kernel
theorem dX11_gang_140 : decode cX11_gang 140 = .ok (.ireturn, 1) := by decide +kernel
def j_X11_gang : JD := (yX11_gang, cX11_gang, 4, (some .int))
def b_X11_gang : BD := (2, 0, 0)
theorem mv_X11_none : MV j_X11_none 11 1 := ⟨⟨gw_at 805 (by decide +kernel) rfl, gw_at 207 (by decide +kernel) rfl, ⟨by decide +kernel, by decide +kernel⟩, by decide +kernel, by decide, by decide +kernel⟩, ⟨_, rfl, rfl⟩, gw_at 804 (by decide +kernel) rfl, gw_at 8 (by decide +kernel) rfl⟩
theorem mv_X11_no : MV j_X11_no 11 1 := ⟨⟨gw_at 768 (by decide +kernel) rfl, gw_at 207 (by decide +kernel) rfl, ⟨by decide +kernel, by decide +kernel⟩, by decide +kernel, by decide, by decide +kernel⟩, ⟨_, rfl, rfl⟩, gw_at 767 (by decide +kernel) rfl, gw_at 1 (by decide +kernel) rfl⟩
theorem mv_X11_answer : MV j_X11_answer 11 1 := ⟨⟨gw_at 968 (by decide +kernel) rfl, gw_at 207 (by decide +kernel) rfl, ⟨by decide +kernel, by decide +kernel⟩, by decide +kernel, by decide, by decide +kernel⟩, ⟨_, rfl, rfl⟩, gw_at 967 (by decide +kernel) rfl, gw_at 38 (by decide +kernel) rfl⟩
theorem mv_X11_yes : MV j_X11_yes 11 0 := ⟨⟨gw_at 776 (by decide +kernel) rfl, gw_at 207 (by decide +kernel) rfl, ⟨by decide +kernel, by decide +kernel⟩, by decide +kernel, by decide, by decide +kernel⟩, ⟨_, rfl, rfl⟩, gw_at 775 (by decide +kernel) rfl, gw_at 3 (by decide +kernel) rfl⟩
theorem mv_X11_tellFraction : MV j_X11_tellFraction 11 2 := ⟨⟨gw_at 1233 (by decide +kernel) rfl, gw_at 207 (by decide +kernel) rfl, ⟨by decide +kernel, by decide +kernel⟩, by decide +kernel, by decide, by decide +kernel⟩, ⟨_, rfl, rfl⟩, gw_at 1232 (by decide +kernel) rfl, gw_at 71 (by decide +kernel) rfl⟩
theorem ms_X11_within : MS j_X11_within 3 := ⟨⟨gw_at 764 (by decide +kernel) rfl, gw_at 207 (by decide +kernel) rfl, ⟨by decide +kernel, by decide +kernel⟩, by decide +kernel, by decide, by decide +kernel⟩, gw_at 763 (by decide +kernel) rfl⟩
theorem mv_X11_isHouse : MV j_X11_isHouse 11 1 := ⟨⟨gw_at 1070 (by decide +kernel) rfl, gw_at 207 (by decide +kernel) rfl, ⟨by decide +kernel, by decide +kernel⟩, by decide +kernel, by decide, by decide +kernel⟩, ⟨_, rfl, rfl⟩, gw_at 1069 (by decide +kernel) rfl, gw_at 51 (by decide +kernel) rfl⟩
theorem mv_X11_isGang : MV j_X11_isGang 11 1 := ⟨⟨gw_at 1086 (by decide +kernel) rfl, gw_at 207 (by decide +kernel) rfl, ⟨by decide +kernel, by decide +kernel⟩, by decide +kernel, by decide, by decide +kernel⟩, ⟨_, rfl, rfl⟩, gw_at 1085 (by decide +kernel) rfl, gw_at 54 (by decide +kernel) rfl⟩
theorem mv_X11_endText : MV j_X11_endText 11 1 := ⟨⟨gw_at 960 (by decide +kernel) rfl, gw_at 207 (by decide +kernel) rfl, ⟨by decide +kernel, by decide +kernel⟩, by decide +kernel, by decide, by decide +kernel⟩, ⟨_, rfl, rfl⟩, gw_at 959 (by decide +kernel) rfl, gw_at 36 (by decide +kernel) rfl⟩
theorem ml_X11_22 : MLk RX11 22 j_X6_init.1 := Or.inr ⟨_, nw_at (w := Cond.methodLinkNest RX11 22 yX6_init "RoofGale") 237 (by decide +kernel) rfl⟩
theorem ml_X11_29 : MLk RX11 29 j_X7_init.1 := Or.inr ⟨_, nw_at (w := Cond.methodLinkNest RX11 29 yX7_init "RoofGale") 351 (by decide +kernel) rfl⟩
theorem ml_X11_36 : MLk RX11 36 j_X4_init.1 := Or.inr ⟨_, nw_at (w := Cond.methodLinkNest RX11 36 yX4_init "RoofGale") 373 (by decide +kernel) rfl⟩
theorem ml_X11_46 : MLk RX11 46 j_X9_init.1 := Or.inr ⟨_, nw_at (w := Cond.methodLinkNest RX11 46 yX9_init "RoofGale") 578 (by decide +kernel) rfl⟩
theorem ml_X11_64 : MLk RX11 64 j_X3_init.1 := Or.inr ⟨_, nw_at (w := Cond.methodLinkNest RX11 64 yX3_init "RoofGale") 627 (by decide +kernel) rfl⟩
theorem ml_X11_74 : MLk RX11 74 j_X2_init.1 := Or.inr ⟨_, nw_at (w := Cond.methodLinkNest RX11 74 yX2_init "RoofGale") 649 (by decide +kernel) rfl⟩
theorem ml_X11_98 : MLk RX11 98 j_X11_yes.1 := Or.inl (gw_at 773 (by decide +kernel) rfl)
theorem ml_X11_105 : MLk RX11 105 j_X11_within.1 := Or.inl (gw_at 762 (by decide +kernel) rfl)
theorem ml_X11_112 : MLk RX11 112 j_X7_has.1 := Or.inr ⟨_, nw_at (w := Cond.methodLinkNest RX11 112 yX7_has "RoofGale") 758 (by decide +kernel) rfl⟩
theorem ml_X11_116 : MLk RX11 116 j_X11_no.1 := Or.inl (gw_at 765 (by decide +kernel) rfl)
theorem ml_X11_119 : MLk RX11 119 j_X7_lay.1 := Or.inr ⟨_, nw_at (w := Cond.methodLinkNest RX11 119 yX7_lay "RoofGale") 769 (by decide +kernel) rfl⟩
theorem ml_X11_123 : MLk RX11 123 j_X7_whyNot.1 := Or.inr ⟨_, nw_at (w := Cond.methodLinkNest RX11 123 yX7_whyNot "RoofGale") 781 (by decide +kernel) rfl⟩
theorem ml_X11_127 : MLk RX11 127 j_X7_put.1 := Or.inr ⟨_, nw_at (w := Cond.methodLinkNest RX11 127 yX7_put "RoofGale") 794 (by decide +kernel) rfl⟩
theorem ml_X11_131 : MLk RX11 131 j_X11_none.1 := Or.inl (gw_at 802 (by decide +kernel) rfl)
theorem ml_X11_139 : MLk RX11 139 j_X7_isMissing.1 := Or.inr ⟨_, nw_at (w := Cond.methodLinkNest RX11 139 yX7_isMissing "RoofGale") 810 (by decide +kernel) rfl⟩
theorem ml_X11_146 : MLk RX11 146 j_X7_reaches.1 := Or.inr ⟨_, nw_at (w := Cond.methodLinkNest RX11 146 yX7_reaches "RoofGale") 811 (by decide +kernel) rfl⟩
theorem ml_X11_158 : MLk RX11 158 j_X6_put.1 := Or.inr ⟨_, nw_at (w := Cond.methodLinkNest RX11 158 yX6_put "RoofGale") 819 (by decide +kernel) rfl⟩
theorem ml_X11_163 : MLk RX11 163 j_X5_init.1 := Or.inr ⟨_, nw_at (w := Cond.methodLinkNest RX11 163 yX5_init "RoofGale") 829 (by decide +kernel) rfl⟩
theorem ml_X11_166 : MLk RX11 166 j_X5_readAll.1 := Or.inr ⟨_, nw_at (w := Cond.methodLinkNest RX11 166 yX5_readAll "RoofGale") 843 (by decide +kernel) rfl⟩
theorem ml_X11_169 : MLk RX11 169 j_X11_endText.1 := Or.inl (gw_at 957 (by decide +kernel) rfl)
theorem ml_X11_173 : MLk RX11 173 j_X9_clear.1 := Or.inr ⟨_, nw_at (w := Cond.methodLinkNest RX11 173 yX9_clear "RoofGale") 961 (by decide +kernel) rfl⟩
theorem ml_X11_176 : MLk RX11 176 j_X11_answer.1 := Or.inl (gw_at 965 (by decide +kernel) rfl)
theorem ml_X11_185 : MLk RX11 185 j_X10_init.1 := Or.inr ⟨_, nw_at (w := Cond.methodLinkNest RX11 185 yX10_init "RoofGale") 978 (by decide +kernel) rfl⟩
theorem ml_X11_188 : MLk RX11 188 j_X10_readAll.1 := Or.inr ⟨_, nw_at (w := Cond.methodLinkNest RX11 188 yX10_readAll "RoofGale") 998 (by decide +kernel) rfl⟩
theorem ml_X11_203 : MLk RX11 203 j_X4_standingSet.1 := Or.inr ⟨_, nw_at (w := Cond.methodLinkNest RX11 203 yX4_standingSet "RoofGale") 1038 (by decide +kernel) rfl⟩
theorem ml_X11_207 : MLk RX11 207 j_X4_offSet.1 := Or.inr ⟨_, nw_at (w := Cond.methodLinkNest RX11 207 yX4_offSet "RoofGale") 1042 (by decide +kernel) rfl⟩
theorem ml_X11_210 : MLk RX11 210 j_X4_worthOf.1 := Or.inr ⟨_, nw_at (w := Cond.methodLinkNest RX11 210 yX4_worthOf "RoofGale") 1055 (by decide +kernel) rfl⟩
theorem ml_X11_213 : MLk RX11 213 j_X4_allChances.1 := Or.inr ⟨_, nw_at (w := Cond.methodLinkNest RX11 213 yX4_allChances "RoofGale") 1059 (by decide +kernel) rfl⟩
theorem ml_X11_216 : MLk RX11 216 j_X11_isHouse.1 := Or.inl (gw_at 1067 (by decide +kernel) rfl)
theorem ml_X11_246 : MLk RX11 246 j_X1_leastStrength.1 := Or.inr ⟨_, nw_at (w := Cond.methodLinkNest RX11 246 yX1_leastStrength "RoofGale") 1071 (by decide +kernel) rfl⟩
theorem ml_X11_249 : MLk RX11 249 j_X4_dueOf.1 := Or.inr ⟨_, nw_at (w := Cond.methodLinkNest RX11 249 yX4_dueOf "RoofGale") 1075 (by decide +kernel) rfl⟩
theorem ml_X11_252 : MLk RX11 252 j_X11_isGang.1 := Or.inl (gw_at 1083 (by decide +kernel) rfl)
theorem ml_X11_274 : MLk RX11 274 j_X0_minutesLeft.1 := Or.inr ⟨_, nw_at (w := Cond.methodLinkNest RX11 274 yX0_minutesLeft "RoofGale") 1087 (by decide +kernel) rfl⟩
def f_X11_init (M : Mm) (l0 : Option Nat) : Option (Mm) := nz l0 <| pfL M l0 11 2 1 fun M6 => pfI M6 l0 11 3 (-1) fun M11 => pfI M11 l0 11 4 (-1) fun M16 => nwc M16 6 14 fun q20 M20 => nz q20 <| bv (f_X6_init M20 q20) fun M24 => pfR M24 l0 11 5 q20 fun M27 => nwc M27 7 3 fun q31 M31 => nz q31 <| bv (f_X7_init M31 q31) fun M35 => pfR M35 l0 11 6 q31 fun M38 => nwc M38 4 9 fun q42 M42 => nz q42 <| bv (f_X4_init M42 q42) fun M46 => pfR M46 l0 11 7 q42 fun M49 => nwc M49 4 9 fun q53 M53 => nz q53 <| bv (f_X4_init M53 q53) fun M57 => pfR M57 l0 11 8 q53 fun M60 => nwc M60 9 8 fun q64 M64 => nz q64 <| bv (f_X9_init M64 q64) fun M68 => pfR M68 l0 11 9 q64 fun M71 => nwc M71 9 8 fun q75 M75 => nz q75 <| bv (f_X9_init M75 q75) fun M79 => pfR M79 l0 11 10 q75 fun M82 => nwa M82 34 3 fun q87 M87 => pfR M87 l0 11 11 q87 fun M90 => nwa M90 39 3 fun q95 M95 => pfR M95 l0 11 12 q95 fun M98 => nwc M98 3 4 fun q102 M102 => nz q102 <| bv (f_X3_init M102 q102) fun M106 => pfR M106 l0 11 14 q102 fun M109 => pfI M109 l0 11 15 (-1) fun M114 => nwc M114 2 8 fun q118 M118 => nz q118 <| bv (f_X2_init M118 q118) fun M122 => pfR M122 l0 11 16 q118 fun M125 => nwc M125 2 8 fun q129 M129 => nz q129 <| bv (f_X2_init M129 q129) fun M133 => pfR M133 l0 11 17 q129 fun M136 => gfR M136 l0 11 11 fun v147 => nwc M136 4 9 fun q151 M151 => nz q151 <| bv (f_X4_init M151 q151) fun M155 => asR M155 v147 34 4 0 q151 fun M158 => gfR M158 l0 11 12 fun v160 => nwc M158 9 8 fun q164 M164 => nz q164 <| bv (f_X9_init M164 q164) fun M168 => asR M168 v160 39 9 0 q164 fun M171 => gfR M171 l0 11 11 fun v147_1 => nwc M171 4 9 fun q151_1 M151_1 => nz q151_1 <| bv (f_X4_init M151_1 q151_1) fun M155_1 => asR M155_1 v147_1 34 4 (0 + 1) q151_1 fun M158_1 => gfR M158_1 l0 11 12 fun v160_1 => nwc M158_1 9 8 fun q164_1 M164_1 => nz q164_1 <| bv (f_X9_init M164_1 q164_1) fun M168_1 => asR M168_1 v160_1 39 9 (0 + 1) q164_1 fun M171_1 => gfR M171_1 l0 11 11 fun v147_2 => nwc M171_1 4 9 fun q151_2 M151_2 => nz q151_2 <| bv (f_X4_init M151_2 q151_2) fun M155_2 => asR M155_2 v147_2 34 4 ((0 + 1) + 1) q151_2 fun M158_2 => gfR M158_2 l0 11 12 fun v160_2 => nwc M158_2 9 8 fun q164_2 M164_2 => nz q164_2 <| bv (f_X9_init M164_2 q164_2) fun M168_2 => asR M168_2 v160_2 39 9 ((0 + 1) + 1) q164_2 fun M171_2 => some M171_2
set_option maxHeartbeats 4000000 in
set_option maxRecDepth 100000 in
theorem t_X11_init_e {G : GG} {X : CX} {ans : Mm} (he : EndV G X j_X11_init b_X11_init ans) {M : Mm} {l0 : Option Nat} (h : f_X11_init M l0 = some ans) : Wt G X j_X11_init b_X11_init 0 [(0, rf G.1 l0)] [] M 0 0 := by
  unfold f_X11_init at h
  refine wt_aload_n (pc := 0) 0 dX11_init_0 rfl ?_
  refine wt_oI (pc := 1) dX11_init_1 oi_X11_3 oiM oiC (by decide) (by decide) h (fun h => ?_)
  refine wt_aload_n (pc := 4) 0 dX11_init_4 rfl ?_
  refine wt_lconst (pc := 5) (v := 1) dX11_init_5 (by decide) ?_
  refine wt_putL (pc := 6) dX11_init_6 fl_X11_9 rfl rfl h (fun M6 h => ?_)
  refine wt_aload_n (pc := 9) 0 dX11_init_9 rfl ?_
  refine wt_iconst (pc := 10) (v := (-1)) dX11_init_10 (by decide) ?_
  refine wt_putI (pc := 11) dX11_init_11 fl_X11_13 rfl rfl h (fun M11 h => ?_)
  refine wt_aload_n (pc := 14) 0 dX11_init_14 rfl ?_
  refine wt_iconst (pc := 15) (v := (-1)) dX11_init_15 (by decide) ?_
  refine wt_putI (pc := 16) dX11_init_16 fl_X11_17 rfl rfl h (fun M16 h => ?_)
  refine wt_aload_n (pc := 19) 0 dX11_init_19 rfl ?_
  refine wt_new (pc := 20) (n := 14) dX11_init_20 cl_X11_20 rfl (by decide) (by decide) h (fun q20 M20 h => ?_)
  refine wt_dup (pc := 23) dX11_init_23 (rf_cat _ _) ?_
  refine wt_cI (pc := 24) (J' := j_X6_init) (As := []) (st := [rf G.1 q20, rf G.1 l0]) (B' := b_X6_init) (u' := 3) (w' := 944) dX11_init_24 ml_X11_22 mi_X6_init (fun M9 e9 => c_X6_init e9) rfl (by decide) rfl rfl (by decide) (by decide) (by simp [rf_cat, cat_i, cat_l, cat_r]) rfl h (fun M24 h => ?_)
  refine wt_putFR (pc := 27) dX11_init_27 ff_X11_23 rfl rfl h (fun M27 h => ?_)
  refine wt_aload_n (pc := 30) 0 dX11_init_30 rfl ?_
  refine wt_new (pc := 31) (n := 3) dX11_init_31 cl_X11_27 rfl (by decide) (by decide) h (fun q31 M31 h => ?_)
  refine wt_dup (pc := 34) dX11_init_34 (rf_cat _ _) ?_
  refine wt_cI (pc := 35) (J' := j_X7_init) (As := []) (st := [rf G.1 q31, rf G.1 l0]) (B' := b_X7_init) (u' := 11) (w' := 1199) dX11_init_35 ml_X11_29 mi_X7_init (fun M9 e9 => c_X7_init e9) rfl (by decide) rfl rfl (by decide) (by decide) (by simp [rf_cat, cat_i, cat_l, cat_r]) rfl h (fun M35 h => ?_)
  refine wt_putFR (pc := 38) dX11_init_38 ff_X11_30 rfl rfl h (fun M38 h => ?_)
  refine wt_aload_n (pc := 41) 0 dX11_init_41 rfl ?_
  refine wt_new (pc := 42) (n := 9) dX11_init_42 cl_X11_34 rfl (by decide) (by decide) h (fun q42 M42 h => ?_)
  refine wt_dup (pc := 45) dX11_init_45 (rf_cat _ _) ?_
  refine wt_cI (pc := 46) (J' := j_X4_init) (As := []) (st := [rf G.1 q42, rf G.1 l0]) (B' := b_X4_init) (u' := 42) (w' := 1420) dX11_init_46 ml_X11_36 mi_X4_init (fun M9 e9 => c_X4_init e9) rfl (by decide) rfl rfl (by decide) (by decide) (by simp [rf_cat, cat_i, cat_l, cat_r]) rfl h (fun M46 h => ?_)
  refine wt_putR (pc := 49) dX11_init_49 fl_X11_37 rfl rfl h (fun M49 h => ?_)
  refine wt_aload_n (pc := 52) 0 dX11_init_52 rfl ?_
  refine wt_new (pc := 53) (n := 9) dX11_init_53 cl_X11_34 rfl (by decide) (by decide) h (fun q53 M53 h => ?_)
  refine wt_dup (pc := 56) dX11_init_56 (rf_cat _ _) ?_
  refine wt_cI (pc := 57) (J' := j_X4_init) (As := []) (st := [rf G.1 q53, rf G.1 l0]) (B' := b_X4_init) (u' := 73) (w' := 1641) dX11_init_57 ml_X11_36 mi_X4_init (fun M9 e9 => c_X4_init e9) rfl (by decide) rfl rfl (by decide) (by decide) (by simp [rf_cat, cat_i, cat_l, cat_r]) rfl h (fun M57 h => ?_)
  refine wt_putR (pc := 60) dX11_init_60 fl_X11_41 rfl rfl h (fun M60 h => ?_)
  refine wt_aload_n (pc := 63) 0 dX11_init_63 rfl ?_
  refine wt_new (pc := 64) (n := 8) dX11_init_64 cl_X11_44 rfl (by decide) (by decide) h (fun q64 M64 h => ?_)
  refine wt_dup (pc := 67) dX11_init_67 (rf_cat _ _) ?_
  refine wt_cI (pc := 68) (J' := j_X9_init) (As := []) (st := [rf G.1 q64, rf G.1 l0]) (B' := b_X9_init) (u' := 79) (w' := 1949) dX11_init_68 ml_X11_46 mi_X9_init (fun M9 e9 => c_X9_init e9) rfl (by decide) rfl rfl (by decide) (by decide) (by simp [rf_cat, cat_i, cat_l, cat_r]) rfl h (fun M68 h => ?_)
  refine wt_putR (pc := 71) dX11_init_71 fl_X11_47 rfl rfl h (fun M71 h => ?_)
  refine wt_aload_n (pc := 74) 0 dX11_init_74 rfl ?_
  refine wt_new (pc := 75) (n := 8) dX11_init_75 cl_X11_44 rfl (by decide) (by decide) h (fun q75 M75 h => ?_)
  refine wt_dup (pc := 78) dX11_init_78 (rf_cat _ _) ?_
  refine wt_cI (pc := 79) (J' := j_X9_init) (As := []) (st := [rf G.1 q75, rf G.1 l0]) (B' := b_X9_init) (u' := 85) (w' := 2257) dX11_init_79 ml_X11_46 mi_X9_init (fun M9 e9 => c_X9_init e9) rfl (by decide) rfl rfl (by decide) (by decide) (by simp [rf_cat, cat_i, cat_l, cat_r]) rfl h (fun M79 h => ?_)
  refine wt_putR (pc := 82) dX11_init_82 fl_X11_51 rfl rfl h (fun M82 h => ?_)
  refine wt_aload_n (pc := 85) 0 dX11_init_85 rfl ?_
  refine wt_iconst (pc := 86) (v := 3) dX11_init_86 (by decide) ?_
  refine wt_anewarray (pc := 87) (kd := 34) (n' := 3) dX11_init_87 rfl acl_X11_34 (by decide) (by decide) (by decide) (by decide) h (fun q87 M87 h => ?_)
  refine wt_putFA (pc := 90) dX11_init_90 ff_X11_54 rfl rfl h (fun M90 h => ?_)
  refine wt_aload_n (pc := 93) 0 dX11_init_93 rfl ?_
  refine wt_iconst (pc := 94) (v := 3) dX11_init_94 (by decide) ?_
  refine wt_anewarray (pc := 95) (kd := 39) (n' := 3) dX11_init_95 rfl acl_X11_44 (by decide) (by decide) (by decide) (by decide) h (fun q95 M95 h => ?_)
  refine wt_putFA (pc := 98) dX11_init_98 ff_X11_58 rfl rfl h (fun M98 h => ?_)
  refine wt_aload_n (pc := 101) 0 dX11_init_101 rfl ?_
  refine wt_new (pc := 102) (n := 4) dX11_init_102 cl_X11_62 rfl (by decide) (by decide) h (fun q102 M102 h => ?_)
  refine wt_dup (pc := 105) dX11_init_105 (rf_cat _ _) ?_
  refine wt_cI (pc := 106) (J' := j_X3_init) (As := []) (st := [rf G.1 q102, rf G.1 l0]) (B' := b_X3_init) (u' := 91) (w' := 2787) dX11_init_106 ml_X11_64 mi_X3_init (fun M9 e9 => c_X3_init e9) rfl (by decide) rfl rfl (by decide) (by decide) (by simp [rf_cat, cat_i, cat_l, cat_r]) rfl h (fun M106 h => ?_)
  refine wt_putFR (pc := 109) dX11_init_109 ff_X11_65 rfl rfl h (fun M109 h => ?_)
  refine wt_aload_n (pc := 112) 0 dX11_init_112 rfl ?_
  refine wt_iconst (pc := 113) (v := (-1)) dX11_init_113 (by decide) ?_
  refine wt_putI (pc := 114) dX11_init_114 fl_X11_69 rfl rfl h (fun M114 h => ?_)
  refine wt_aload_n (pc := 117) 0 dX11_init_117 rfl ?_
  refine wt_new (pc := 118) (n := 8) dX11_init_118 cl_X11_72 rfl (by decide) (by decide) h (fun q118 M118 h => ?_)
  refine wt_dup (pc := 121) dX11_init_121 (rf_cat _ _) ?_
  refine wt_cI (pc := 122) (J' := j_X2_init) (As := []) (st := [rf G.1 q118, rf G.1 l0]) (B' := b_X2_init) (u' := 93) (w' := 2855) dX11_init_122 ml_X11_74 mi_X2_init (fun M9 e9 => c_X2_init e9) rfl (by decide) rfl rfl (by decide) (by decide) (by simp [rf_cat, cat_i, cat_l, cat_r]) rfl h (fun M122 h => ?_)
  refine wt_putFR (pc := 125) dX11_init_125 ff_X11_75 rfl rfl h (fun M125 h => ?_)
  refine wt_aload_n (pc := 128) 0 dX11_init_128 rfl ?_
  refine wt_new (pc := 129) (n := 8) dX11_init_129 cl_X11_72 rfl (by decide) (by decide) h (fun q129 M129 h => ?_)
  refine wt_dup (pc := 132) dX11_init_132 (rf_cat _ _) ?_
  refine wt_cI (pc := 133) (J' := j_X2_init) (As := []) (st := [rf G.1 q129, rf G.1 l0]) (B' := b_X2_init) (u' := 95) (w' := 2923) dX11_init_133 ml_X11_74 mi_X2_init (fun M9 e9 => c_X2_init e9) rfl (by decide) rfl rfl (by decide) (by decide) (by simp [rf_cat, cat_i, cat_l, cat_r]) rfl h (fun M133 h => ?_)
  refine wt_putFR (pc := 136) dX11_init_136 ff_X11_79 rfl rfl h (fun M136 h => ?_)
  refine wt_iconst (pc := 139) (v := 0) dX11_init_139 (by decide) ?_
  refine wt_istore_n (pc := 140) (i := 1) (ls' := [(1, .int 0), (0, rf G.1 l0)]) rfl dX11_init_140 (by decide) (by simp [rf_cat, cat_i, cat_l, cat_r]) ?_
  refine wt_iload_n (pc := 141) 0 dX11_init_141 rfl ?_
  refine wt_iconst (pc := 142) (v := 3) dX11_init_142 (by decide) ?_
  refine wt_icmp_ge (pc := 143) (tgt := 178) dX11_init_143 (by decide) (fun q => absurd q (by decide)) (fun q => ?_)
  refine wt_aload_n (pc := 146) 1 dX11_init_146 rfl ?_
  refine wt_getR (pc := 147) dX11_init_147 fl_X11_54 (fun _ _ _ => rfl) h (fun v147 h => ?_)
  refine wt_iload_n (pc := 150) 0 dX11_init_150 rfl ?_
  refine wt_new (pc := 151) (n := 9) dX11_init_151 cl_X11_34 rfl (by decide) (by decide) h (fun q151 M151 h => ?_)
  refine wt_dup (pc := 154) dX11_init_154 (rf_cat _ _) ?_
  refine wt_cI (pc := 155) (J' := j_X4_init) (As := []) (st := [rf G.1 q151, .int 0, rf G.1 v147]) (B' := b_X4_init) (u' := 126) (w' := 3144) dX11_init_155 ml_X11_36 mi_X4_init (fun M9 e9 => c_X4_init e9) rfl (by decide) rfl rfl (by decide) (by decide) (by simp [rf_cat, cat_i, cat_l, cat_r]) rfl h (fun M155 h => ?_)
  refine wt_aastore (pc := 158) (kd := 34) (ci := 4) (q := (RX4, TX4, 9)) dX11_init_158 rfl rfl (by decide) h (fun M158 h => ?_)
  refine wt_aload_n (pc := 159) 1 dX11_init_159 rfl ?_
  refine wt_getR (pc := 160) dX11_init_160 fl_X11_58 (fun _ _ _ => rfl) h (fun v160 h => ?_)
  refine wt_iload_n (pc := 163) 0 dX11_init_163 rfl ?_
  refine wt_new (pc := 164) (n := 8) dX11_init_164 cl_X11_44 rfl (by decide) (by decide) h (fun q164 M164 h => ?_)
  refine wt_dup (pc := 167) dX11_init_167 (rf_cat _ _) ?_
  refine wt_cI (pc := 168) (J' := j_X9_init) (As := []) (st := [rf G.1 q164, .int 0, rf G.1 v160]) (B' := b_X9_init) (u' := 132) (w' := 3452) dX11_init_168 ml_X11_46 mi_X9_init (fun M9 e9 => c_X9_init e9) rfl (by decide) rfl rfl (by decide) (by decide) (by simp [rf_cat, cat_i, cat_l, cat_r]) rfl h (fun M168 h => ?_)
  refine wt_aastore (pc := 171) (kd := 39) (ci := 9) (q := (RX9, TX9, 8)) dX11_init_171 rfl rfl (by decide) h (fun M171 h => ?_)
  refine wt_iinc (pc := 172) (d := 1) (ls' := [(1, .int (0 + 1)), (0, rf G.1 l0)]) 0 dX11_init_172 rfl (by decide) (by decide) (by simp [rf_cat, cat_i, cat_l, cat_r]) ?_
  refine wt_goto (pc := 175) (tgt := 141) dX11_init_175 (by decide) ?_
  refine wt_iload_n (pc := 141) 0 dX11_init_141 rfl ?_
  refine wt_iconst (pc := 142) (v := 3) dX11_init_142 (by decide) ?_
  refine wt_icmp_ge (pc := 143) (tgt := 178) dX11_init_143 (by decide) (fun q => absurd q (by decide)) (fun q => ?_)
  refine wt_aload_n (pc := 146) 1 dX11_init_146 rfl ?_
  refine wt_getR (pc := 147) dX11_init_147 fl_X11_54 (fun _ _ _ => rfl) h (fun v147_1 h => ?_)
  refine wt_iload_n (pc := 150) 0 dX11_init_150 rfl ?_
  refine wt_new (pc := 151) (n := 9) dX11_init_151 cl_X11_34 rfl (by decide) (by decide) h (fun q151_1 M151_1 h => ?_)
  refine wt_dup (pc := 154) dX11_init_154 (rf_cat _ _) ?_
  refine wt_cI (pc := 155) (J' := j_X4_init) (As := []) (st := [rf G.1 q151_1, .int (0 + 1), rf G.1 v147_1]) (B' := b_X4_init) (u' := 163) (w' := 3673) dX11_init_155 ml_X11_36 mi_X4_init (fun M9 e9 => c_X4_init e9) rfl (by decide) rfl rfl (by decide) (by decide) (by simp [rf_cat, cat_i, cat_l, cat_r]) rfl h (fun M155_1 h => ?_)
  refine wt_aastore (pc := 158) (kd := 34) (ci := 4) (q := (RX4, TX4, 9)) dX11_init_158 rfl rfl (by decide) h (fun M158_1 h => ?_)
  refine wt_aload_n (pc := 159) 1 dX11_init_159 rfl ?_
  refine wt_getR (pc := 160) dX11_init_160 fl_X11_58 (fun _ _ _ => rfl) h (fun v160_1 h => ?_)
  refine wt_iload_n (pc := 163) 0 dX11_init_163 rfl ?_
  refine wt_new (pc := 164) (n := 8) dX11_init_164 cl_X11_44 rfl (by decide) (by decide) h (fun q164_1 M164_1 h => ?_)
  refine wt_dup (pc := 167) dX11_init_167 (rf_cat _ _) ?_
  refine wt_cI (pc := 168) (J' := j_X9_init) (As := []) (st := [rf G.1 q164_1, .int (0 + 1), rf G.1 v160_1]) (B' := b_X9_init) (u' := 169) (w' := 3981) dX11_init_168 ml_X11_46 mi_X9_init (fun M9 e9 => c_X9_init e9) rfl (by decide) rfl rfl (by decide) (by decide) (by simp [rf_cat, cat_i, cat_l, cat_r]) rfl h (fun M168_1 h => ?_)
  refine wt_aastore (pc := 171) (kd := 39) (ci := 9) (q := (RX9, TX9, 8)) dX11_init_171 rfl rfl (by decide) h (fun M171_1 h => ?_)
  refine wt_iinc (pc := 172) (d := 1) (ls' := [(1, .int ((0 + 1) + 1)), (0, rf G.1 l0)]) 0 dX11_init_172 rfl (by decide) (by decide) (by simp [rf_cat, cat_i, cat_l, cat_r]) ?_
  refine wt_goto (pc := 175) (tgt := 141) dX11_init_175 (by decide) ?_
  refine wt_iload_n (pc := 141) 0 dX11_init_141 rfl ?_
  refine wt_iconst (pc := 142) (v := 3) dX11_init_142 (by decide) ?_
  refine wt_icmp_ge (pc := 143) (tgt := 178) dX11_init_143 (by decide) (fun q => absurd q (by decide)) (fun q => ?_)
  refine wt_aload_n (pc := 146) 1 dX11_init_146 rfl ?_
  refine wt_getR (pc := 147) dX11_init_147 fl_X11_54 (fun _ _ _ => rfl) h (fun v147_2 h => ?_)
  refine wt_iload_n (pc := 150) 0 dX11_init_150 rfl ?_
  refine wt_new (pc := 151) (n := 9) dX11_init_151 cl_X11_34 rfl (by decide) (by decide) h (fun q151_2 M151_2 h => ?_)
  refine wt_dup (pc := 154) dX11_init_154 (rf_cat _ _) ?_
  refine wt_cI (pc := 155) (J' := j_X4_init) (As := []) (st := [rf G.1 q151_2, .int ((0 + 1) + 1), rf G.1 v147_2]) (B' := b_X4_init) (u' := 200) (w' := 4202) dX11_init_155 ml_X11_36 mi_X4_init (fun M9 e9 => c_X4_init e9) rfl (by decide) rfl rfl (by decide) (by decide) (by simp [rf_cat, cat_i, cat_l, cat_r]) rfl h (fun M155_2 h => ?_)
  refine wt_aastore (pc := 158) (kd := 34) (ci := 4) (q := (RX4, TX4, 9)) dX11_init_158 rfl rfl (by decide) h (fun M158_2 h => ?_)
  refine wt_aload_n (pc := 159) 1 dX11_init_159 rfl ?_
  refine wt_getR (pc := 160) dX11_init_160 fl_X11_58 (fun _ _ _ => rfl) h (fun v160_2 h => ?_)
  refine wt_iload_n (pc := 163) 0 dX11_init_163 rfl ?_
  refine wt_new (pc := 164) (n := 8) dX11_init_164 cl_X11_44 rfl (by decide) (by decide) h (fun q164_2 M164_2 h => ?_)
  refine wt_dup (pc := 167) dX11_init_167 (rf_cat _ _) ?_
  refine wt_cI (pc := 168) (J' := j_X9_init) (As := []) (st := [rf G.1 q164_2, .int ((0 + 1) + 1), rf G.1 v160_2]) (B' := b_X9_init) (u' := 206) (w' := 4510) dX11_init_168 ml_X11_46 mi_X9_init (fun M9 e9 => c_X9_init e9) rfl (by decide) rfl rfl (by decide) (by decide) (by simp [rf_cat, cat_i, cat_l, cat_r]) rfl h (fun M168_2 h => ?_)
  refine wt_aastore (pc := 171) (kd := 39) (ci := 9) (q := (RX9, TX9, 8)) dX11_init_171 rfl rfl (by decide) h (fun M171_2 h => ?_)
  refine wt_iinc (pc := 172) (d := 1) (ls' := [(1, .int (((0 + 1) + 1) + 1)), (0, rf G.1 l0)]) 0 dX11_init_172 rfl (by decide) (by decide) (by simp [rf_cat, cat_i, cat_l, cat_r]) ?_
  refine wt_goto (pc := 175) (tgt := 141) dX11_init_175 (by decide) ?_
  refine wt_iload_n (pc := 141) 0 dX11_init_141 rfl ?_
  refine wt_iconst (pc := 142) (v := 3) dX11_init_142 (by decide) ?_
  refine wt_icmp_ge (pc := 143) (tgt := 178) dX11_init_143 (by decide) (fun q => ?_) (fun q => absurd (by decide) q)
  cases h
  exact he 178 _ _ _ dX11_init_178 (by decide) (by decide)
set_option maxHeartbeats 4000000 in
set_option maxRecDepth 100000 in
theorem c_X11_init {G : GG} {M : Mm} {l0 : Option Nat} {r : Mm} (h : f_X11_init M l0 = some r) (l : Launch) : Ct l G j_X11_init b_X11_init [rf G.1 l0] M none r := cf_V (by decide +kernel) (by simp [lg_sl, rf_cat, cat_i, cat_l, j_X11_init]) rfl (by simp [lv_args, rf_cat, cat_i, cat_l]) (fun X he => t_X11_init_e he h)
def f_X11_status (M : Mm) (l0 : Option Nat) : Option (Int32 × Mm) := gfI M l0 11 0 fun v1 => some (v1, M)
set_option maxHeartbeats 4000000 in
set_option maxRecDepth 100000 in
theorem t_X11_status_e {G : GG} {X : CX} {ans : Int32 × Mm} (he : EndI G X j_X11_status b_X11_status ans) {M : Mm} {l0 : Option Nat} (h : f_X11_status M l0 = some ans) : Wt G X j_X11_status b_X11_status 0 [(0, rf G.1 l0)] [] M 0 0 := by
  unfold f_X11_status at h
  refine wt_aload_n (pc := 0) 0 dX11_status_0 rfl ?_
  refine wt_getI (pc := 1) dX11_status_1 fl_X11_82 (fun _ _ _ => rfl) h (fun v1 h => ?_)
  cases h
  exact he 4 _ _ _ dX11_status_4 (by decide) (by decide)
set_option maxHeartbeats 4000000 in
set_option maxRecDepth 100000 in
theorem c_X11_status {G : GG} {M : Mm} {l0 : Option Nat} {r : Int32 × Mm} (h : f_X11_status M l0 = some r) (l : Launch) : Ct l G j_X11_status b_X11_status [rf G.1 l0] M (some (.int r.1)) r.2 := cf_I (by decide +kernel) (by simp [lg_sl, rf_cat, cat_i, cat_l, j_X11_status]) rfl (by simp [lv_args, rf_cat, cat_i, cat_l]) (fun X he => t_X11_status_e he h)
def f_X11_top (M : Mm) (l0 : Option Nat) : Option (Int64 × Mm) := gfL M l0 11 1 fun v1 => some (v1, M)
set_option maxHeartbeats 4000000 in
set_option maxRecDepth 100000 in
theorem t_X11_top_e {G : GG} {X : CX} {ans : Int64 × Mm} (he : EndL G X j_X11_top b_X11_top ans) {M : Mm} {l0 : Option Nat} (h : f_X11_top M l0 = some ans) : Wt G X j_X11_top b_X11_top 0 [(0, rf G.1 l0)] [] M 0 0 := by
  unfold f_X11_top at h
  refine wt_aload_n (pc := 0) 0 dX11_top_0 rfl ?_
  refine wt_getL (pc := 1) dX11_top_1 fl_X11_85 (fun _ _ _ => rfl) h (fun v1 h => ?_)
  cases h
  exact he 4 _ _ _ dX11_top_4 (by decide) (by decide)
set_option maxHeartbeats 4000000 in
set_option maxRecDepth 100000 in
theorem c_X11_top {G : GG} {M : Mm} {l0 : Option Nat} {r : Int64 × Mm} (h : f_X11_top M l0 = some r) (l : Launch) : Ct l G j_X11_top b_X11_top [rf G.1 l0] M (some (.long r.1)) r.2 := cf_L (by decide +kernel) (by simp [lg_sl, rf_cat, cat_i, cat_l, j_X11_top]) rfl (by simp [lv_args, rf_cat, cat_i, cat_l]) (fun X he => t_X11_top_e he h)
def f_X11_bottom (M : Mm) (l0 : Option Nat) : Option (Int64 × Mm) := gfL M l0 11 2 fun v1 => some (v1, M)
set_option maxHeartbeats 4000000 in
set_option maxRecDepth 100000 in
theorem t_X11_bottom_e {G : GG} {X : CX} {ans : Int64 × Mm} (he : EndL G X j_X11_bottom b_X11_bottom ans) {M : Mm} {l0 : Option Nat} (h : f_X11_bottom M l0 = some ans) : Wt G X j_X11_bottom b_X11_bottom 0 [(0, rf G.1 l0)] [] M 0 0 := by
  unfold f_X11_bottom at h
  refine wt_aload_n (pc := 0) 0 dX11_bottom_0 rfl ?_
  refine wt_getL (pc := 1) dX11_bottom_1 fl_X11_9 (fun _ _ _ => rfl) h (fun v1 h => ?_)
  cases h
  exact he 4 _ _ _ dX11_bottom_4 (by decide) (by decide)
set_option maxHeartbeats 4000000 in
set_option maxRecDepth 100000 in
theorem c_X11_bottom {G : GG} {M : Mm} {l0 : Option Nat} {r : Int64 × Mm} (h : f_X11_bottom M l0 = some r) (l : Launch) : Ct l G j_X11_bottom b_X11_bottom [rf G.1 l0] M (some (.long r.1)) r.2 := cf_L (by decide +kernel) (by simp [lg_sl, rf_cat, cat_i, cat_l, j_X11_bottom]) rfl (by simp [lv_args, rf_cat, cat_i, cat_l]) (fun X he => t_X11_bottom_e he h)
def f_X11_none (M : Mm) (l0 : Option Nat) (l1 : Int32) : Option (Int32 × Mm) := pfI M l0 11 0 l1 fun M2 => some ((-1), M2)
set_option maxHeartbeats 4000000 in
set_option maxRecDepth 100000 in
theorem t_X11_none_e {G : GG} {X : CX} {ans : Int32 × Mm} (he : EndI G X j_X11_none b_X11_none ans) {M : Mm} {l0 : Option Nat} {l1 : Int32} (h : f_X11_none M l0 l1 = some ans) : Wt G X j_X11_none b_X11_none 0 [(0, rf G.1 l0), (1, .int l1)] [] M 0 0 := by
  unfold f_X11_none at h
  refine wt_aload_n (pc := 0) 0 dX11_none_0 rfl ?_
  refine wt_iload_n (pc := 1) 1 dX11_none_1 rfl ?_
  refine wt_putI (pc := 2) dX11_none_2 fl_X11_82 rfl rfl h (fun M2 h => ?_)
  refine wt_iconst (pc := 5) (v := (-1)) dX11_none_5 (by decide) ?_
  cases h
  exact he 6 _ _ _ dX11_none_6 (by decide) (by decide)
set_option maxHeartbeats 4000000 in
set_option maxRecDepth 100000 in
theorem c_X11_none {G : GG} {M : Mm} {l0 : Option Nat} {l1 : Int32} {r : Int32 × Mm} (h : f_X11_none M l0 l1 = some r) (l : Launch) : Ct l G j_X11_none b_X11_none [rf G.1 l0, .int l1] M (some (.int r.1)) r.2 := cf_I (by decide +kernel) (by simp [lg_sl, rf_cat, cat_i, cat_l, j_X11_none]) rfl (by simp [lv_args, rf_cat, cat_i, cat_l]) (fun X he => t_X11_none_e he h)
def g_X11_no (M : Mm) (l0 : Option Nat) (l1 : Int32) : Option (Int32 × Mm) := pfI M l0 11 0 l1 fun M2 => some (0, M2)
def f_X11_no (M : Mm) (l0 : Option Nat) (l1 : Int32) : Option (Int32 × Mm) := zc (g_X11_no M l0 l1)
set_option maxHeartbeats 4000000 in
set_option maxRecDepth 100000 in
theorem t_X11_no_e {G : GG} {X : CX} {ans : Int32 × Mm} (he : EndI G X j_X11_no b_X11_no ans) {M : Mm} {l0 : Option Nat} {l1 : Int32} (h : g_X11_no M l0 l1 = some ans) : Wt G X j_X11_no b_X11_no 0 [(0, rf G.1 l0), (1, .int l1)] [] M 0 0 := by
  unfold g_X11_no at h
  refine wt_aload_n (pc := 0) 0 dX11_no_0 rfl ?_
  refine wt_iload_n (pc := 1) 1 dX11_no_1 rfl ?_
  refine wt_putI (pc := 2) dX11_no_2 fl_X11_82 rfl rfl h (fun M2 h => ?_)
  refine wt_iconst (pc := 5) (v := 0) dX11_no_5 (by decide) ?_
  cases h
  exact he 6 _ _ _ dX11_no_6 (by decide) (by decide)
set_option maxHeartbeats 4000000 in
set_option maxRecDepth 100000 in
theorem c_X11_no {G : GG} {M : Mm} {l0 : Option Nat} {l1 : Int32} {r : Int32 × Mm} (h : f_X11_no M l0 l1 = some r) (l : Launch) : Ct l G j_X11_no b_X11_no [rf G.1 l0, .int l1] M (some (.int r.1)) r.2 := cf_Z h (by decide +kernel) (by simp [lg_sl, rf_cat, cat_i, cat_l, j_X11_no]) rfl (by simp [lv_args, rf_cat, cat_i, cat_l]) (fun h X he => t_X11_no_e he h)
def f_X11_answer (M : Mm) (l0 : Option Nat) (l1 : Int32) : Option (Int32 × Mm) := pfI M l0 11 0 0 fun M2 => some (l1, M2)
set_option maxHeartbeats 4000000 in
set_option maxRecDepth 100000 in
theorem t_X11_answer_e {G : GG} {X : CX} {ans : Int32 × Mm} (he : EndI G X j_X11_answer b_X11_answer ans) {M : Mm} {l0 : Option Nat} {l1 : Int32} (h : f_X11_answer M l0 l1 = some ans) : Wt G X j_X11_answer b_X11_answer 0 [(0, rf G.1 l0), (1, .int l1)] [] M 0 0 := by
  unfold f_X11_answer at h
  refine wt_aload_n (pc := 0) 0 dX11_answer_0 rfl ?_
  refine wt_iconst (pc := 1) (v := 0) dX11_answer_1 (by decide) ?_
  refine wt_putI (pc := 2) dX11_answer_2 fl_X11_82 rfl rfl h (fun M2 h => ?_)
  refine wt_iload_n (pc := 5) 1 dX11_answer_5 rfl ?_
  cases h
  exact he 6 _ _ _ dX11_answer_6 (by decide) (by decide)
set_option maxHeartbeats 4000000 in
set_option maxRecDepth 100000 in
theorem c_X11_answer {G : GG} {M : Mm} {l0 : Option Nat} {l1 : Int32} {r : Int32 × Mm} (h : f_X11_answer M l0 l1 = some r) (l : Launch) : Ct l G j_X11_answer b_X11_answer [rf G.1 l0, .int l1] M (some (.int r.1)) r.2 := cf_I (by decide +kernel) (by simp [lg_sl, rf_cat, cat_i, cat_l, j_X11_answer]) rfl (by simp [lv_args, rf_cat, cat_i, cat_l]) (fun X he => t_X11_answer_e he h)
def g_X11_yes (M : Mm) (l0 : Option Nat) : Option (Int32 × Mm) := pfI M l0 11 0 0 fun M2 => some (1, M2)
def f_X11_yes (M : Mm) (l0 : Option Nat) : Option (Int32 × Mm) := zc (g_X11_yes M l0)
set_option maxHeartbeats 4000000 in
set_option maxRecDepth 100000 in
theorem t_X11_yes_e {G : GG} {X : CX} {ans : Int32 × Mm} (he : EndI G X j_X11_yes b_X11_yes ans) {M : Mm} {l0 : Option Nat} (h : g_X11_yes M l0 = some ans) : Wt G X j_X11_yes b_X11_yes 0 [(0, rf G.1 l0)] [] M 0 0 := by
  unfold g_X11_yes at h
  refine wt_aload_n (pc := 0) 0 dX11_yes_0 rfl ?_
  refine wt_iconst (pc := 1) (v := 0) dX11_yes_1 (by decide) ?_
  refine wt_putI (pc := 2) dX11_yes_2 fl_X11_82 rfl rfl h (fun M2 h => ?_)
  refine wt_iconst (pc := 5) (v := 1) dX11_yes_5 (by decide) ?_
  cases h
  exact he 6 _ _ _ dX11_yes_6 (by decide) (by decide)
set_option maxHeartbeats 4000000 in
set_option maxRecDepth 100000 in
theorem c_X11_yes {G : GG} {M : Mm} {l0 : Option Nat} {r : Int32 × Mm} (h : f_X11_yes M l0 = some r) (l : Launch) : Ct l G j_X11_yes b_X11_yes [rf G.1 l0] M (some (.int r.1)) r.2 := cf_Z h (by decide +kernel) (by simp [lg_sl, rf_cat, cat_i, cat_l, j_X11_yes]) rfl (by simp [lv_args, rf_cat, cat_i, cat_l]) (fun h X he => t_X11_yes_e he h)
def f_X11_tellFraction_47 (M : Mm) (l0 : Option Nat) (l1 : Int64) (l3 : Int64) (l5 : Int64) : Option (Int32 × Mm) := nmL (mxL 1 l5) fun x53 => dvL x53 <| pfL M l0 11 1 (l1 / x53) fun M60 => dvL x53 <| pfL M60 l0 11 2 (l3 / x53) fun M68 => ck M68 l0 11 <| bd (f_X11_yes M68 l0) fun v72 M72 => some (v72, M72)
def f_X11_tellFraction_12 : Nat → Mm → Option Nat → Int64 → Int64 → Int64 → Int64 → Int32 → Option (Int32 × Mm)
  | 0, _, _, _, _, _, _, _ => none
  | n + 1, M, l0, l1, l3, l5, l7, l9 => if 100 ≤ l9 then (f_X11_tellFraction_47  M l0 l1 l3 l5) else (if (lg_cmp l7 0) ≤ 0 then (f_X11_tellFraction_47  M l0 l1 l3 l5) else (dvL l7 <| nmL (l5 - l5 / l7 * l7) fun x31 => f_X11_tellFraction_12 n M l0 l1 l3 l7 x31 (l9 + 1)))
def g_X11_tellFraction (M : Mm) (l0 : Option Nat) (l1 : Int64) (l3 : Int64) : Option (Int32 × Mm) := nmL (abL l1) fun x4 => f_X11_tellFraction_12  fu M l0 l1 l3 x4 l3 0
def f_X11_tellFraction (M : Mm) (l0 : Option Nat) (l1 : Int64) (l3 : Int64) : Option (Int32 × Mm) := zc (g_X11_tellFraction M l0 l1 l3)
set_option maxHeartbeats 4000000 in
set_option maxRecDepth 100000 in
theorem t_X11_tellFraction_47 {G : GG} {X : CX} {ans : Int32 × Mm} (he : EndI G X j_X11_tellFraction b_X11_tellFraction ans) {M : Mm} {l0 : Option Nat} {l1 : Int64} {l3 : Int64} {l5 : Int64} (h : f_X11_tellFraction_47 M l0 l1 l3 l5 = some ans) : Wt G X j_X11_tellFraction b_X11_tellFraction 47 [(0, rf G.1 l0), (1, .long l1), (3, .long l3), (5, .long l5)] [] M 0 0 := by
  unfold f_X11_tellFraction_47 at h
  refine wt_lconst (pc := 47) (v := 1) dX11_tellFraction_47 (by decide) ?_
  refine wt_lload (pc := 48) 3 dX11_tellFraction_48 rfl ?_
  refine wt_mmaxL (pc := 50) dX11_tellFraction_50 bi_X11_94 mw_maxL.1 mw_maxL.2.1 mw_maxL.2.2 (by decide) (by decide) (by decide) (by decide) ?_
  refine wt_nmL h (fun x53 h => ?_)
  refine wt_lstore (pc := 53) (i := 9) (ls' := [(9, .long x53), (0, rf G.1 l0), (1, .long l1), (3, .long l3), (5, .long l5)]) dX11_tellFraction_53 (by decide) rfl ?_
  refine wt_aload_n (pc := 55) 1 dX11_tellFraction_55 rfl ?_
  refine wt_lload_n (pc := 56) 2 dX11_tellFraction_56 rfl ?_
  refine wt_lload (pc := 57) 0 dX11_tellFraction_57 rfl ?_
  obtain ⟨qd, h⟩ := dvL_spec h
  refine wt_ldiv (pc := 59) dX11_tellFraction_59 qd ?_
  refine wt_putL (pc := 60) dX11_tellFraction_60 fl_X11_85 rfl rfl h (fun M60 h => ?_)
  refine wt_aload_n (pc := 63) 1 dX11_tellFraction_63 rfl ?_
  refine wt_lload_n (pc := 64) 3 dX11_tellFraction_64 rfl ?_
  refine wt_lload (pc := 65) 0 dX11_tellFraction_65 rfl ?_
  obtain ⟨qd, h⟩ := dvL_spec h
  refine wt_ldiv (pc := 67) dX11_tellFraction_67 qd ?_
  refine wt_putL (pc := 68) dX11_tellFraction_68 fl_X11_9 rfl rfl h (fun M68 h => ?_)
  refine wt_aload_n (pc := 71) 1 dX11_tellFraction_71 rfl ?_
  refine wt_cVI (pc := 72) (J' := j_X11_yes) (As := []) (st := []) (B' := b_X11_yes) (u' := 0) (w' := 0) dX11_tellFraction_72 ml_X11_98 mv_X11_yes (fun v9 M9 e9 => c_X11_yes e9) rfl (by decide) rfl rfl (by decide) (by decide) (by decide) rfl h (fun v72 M72 h => ?_)
  cases h
  exact he 75 _ _ _ dX11_tellFraction_75 (by decide) (by decide)
set_option maxHeartbeats 4000000 in
set_option maxRecDepth 100000 in
theorem t_X11_tellFraction_12 {G : GG} {X : CX} {ans : Int32 × Mm} (he : EndI G X j_X11_tellFraction b_X11_tellFraction ans) : ∀ (n : Nat) {M : Mm} {l0 : Option Nat} {l1 : Int64} {l3 : Int64} {l5 : Int64} {l7 : Int64} {l9 : Int32}, f_X11_tellFraction_12 n M l0 l1 l3 l5 l7 l9 = some ans → Wt G X j_X11_tellFraction b_X11_tellFraction 12 [(0, rf G.1 l0), (1, .long l1), (3, .long l3), (5, .long l5), (7, .long l7), (9, .int l9)] [] M 0 0 := by
  intro n
  induction n with
  | zero =>
    intro M l0 l1 l3 l5 l7 l9 h
    rw [f_X11_tellFraction_12] at h
    cases h
  | succ n ih =>
    intro M l0 l1 l3 l5 l7 l9 h
    rw [f_X11_tellFraction_12] at h
    refine wt_iload (pc := 12) 5 dX11_tellFraction_12 rfl ?_
    refine wt_bipush (pc := 14) (v := 100) dX11_tellFraction_14 (by decide) ?_
    refine wt_icmp_ge (pc := 16) (tgt := 47) dX11_tellFraction_16 (by decide) (fun q => ?_) (fun q => ?_)
    · have h := ite_t q h
      refine wt_sub (ls' := [(0, rf G.1 l0), (1, .long l1), (3, .long l3), (5, .long l5)]) [0, 1, 2, 3] rfl ?_
      exact t_X11_tellFraction_47 he  h
    · have h := ite_f q h
      refine wt_lload (pc := 19) 4 dX11_tellFraction_19 rfl ?_
      refine wt_lconst (pc := 21) (v := 0) dX11_tellFraction_21 (by decide) ?_
      refine wt_lcmp (pc := 22) dX11_tellFraction_22 ?_
      refine wt_if_le (pc := 23) (tgt := 47) dX11_tellFraction_23 (by decide) (fun q => ?_) (fun q => ?_)
      · have h := ite_t q h
        refine wt_sub (ls' := [(0, rf G.1 l0), (1, .long l1), (3, .long l3), (5, .long l5)]) [0, 1, 2, 3] rfl ?_
        exact t_X11_tellFraction_47 he  h
      · have h := ite_f q h
        refine wt_lload (pc := 26) 3 dX11_tellFraction_26 rfl ?_
        refine wt_lload (pc := 28) 4 dX11_tellFraction_28 rfl ?_
        obtain ⟨qd, h⟩ := dvL_spec h
        refine wt_lrem (pc := 30) dX11_tellFraction_30 qd ?_
        refine wt_nmL h (fun x31 h => ?_)
        refine wt_lstore (pc := 31) (i := 10) (ls' := [(10, .long x31), (0, rf G.1 l0), (1, .long l1), (3, .long l3), (5, .long l5), (7, .long l7), (9, .int l9)]) dX11_tellFraction_31 (by decide) rfl ?_
        refine wt_lload (pc := 33) 5 dX11_tellFraction_33 rfl ?_
        refine wt_lstore (pc := 35) (i := 5) (ls' := [(5, .long l7), (10, .long x31), (0, rf G.1 l0), (1, .long l1), (3, .long l3), (7, .long l7), (9, .int l9)]) dX11_tellFraction_35 (by decide) rfl ?_
        refine wt_lload (pc := 37) 1 dX11_tellFraction_37 rfl ?_
        refine wt_lstore (pc := 39) (i := 7) (ls' := [(7, .long x31), (5, .long l7), (10, .long x31), (0, rf G.1 l0), (1, .long l1), (3, .long l3), (9, .int l9)]) dX11_tellFraction_39 (by decide) rfl ?_
        refine wt_iinc (pc := 41) (d := 1) (ls' := [(9, .int (l9 + 1)), (7, .long x31), (5, .long l7), (10, .long x31), (0, rf G.1 l0), (1, .long l1), (3, .long l3)]) 6 dX11_tellFraction_41 rfl (by decide) (by decide) rfl ?_
        refine wt_goto (pc := 44) (tgt := 12) dX11_tellFraction_44 (by decide) ?_
        refine wt_sub (ls' := [(0, rf G.1 l0), (1, .long l1), (3, .long l3), (5, .long l7), (7, .long x31), (9, .int (l9 + 1))]) [4, 5, 6, 2, 1, 0] rfl ?_
        exact ih h
set_option maxHeartbeats 4000000 in
set_option maxRecDepth 100000 in
theorem t_X11_tellFraction_e {G : GG} {X : CX} {ans : Int32 × Mm} (he : EndI G X j_X11_tellFraction b_X11_tellFraction ans) {M : Mm} {l0 : Option Nat} {l1 : Int64} {l3 : Int64} (h : g_X11_tellFraction M l0 l1 l3 = some ans) : Wt G X j_X11_tellFraction b_X11_tellFraction 0 [(0, rf G.1 l0), (1, .long l1), (3, .long l3)] [] M 0 0 := by
  unfold g_X11_tellFraction at h
  refine wt_lload_n (pc := 0) 1 dX11_tellFraction_0 rfl ?_
  refine wt_mabsL (pc := 1) dX11_tellFraction_1 bi_X11_88 mw_absL.1 mw_absL.2.1 mw_absL.2.2 (by decide) (by decide) (by decide) (by decide) ?_
  refine wt_nmL h (fun x4 h => ?_)
  refine wt_lstore (pc := 4) (i := 5) (ls' := [(5, .long x4), (0, rf G.1 l0), (1, .long l1), (3, .long l3)]) dX11_tellFraction_4 (by decide) rfl ?_
  refine wt_lload_n (pc := 6) 3 dX11_tellFraction_6 rfl ?_
  refine wt_lstore (pc := 7) (i := 7) (ls' := [(7, .long l3), (5, .long x4), (0, rf G.1 l0), (1, .long l1), (3, .long l3)]) dX11_tellFraction_7 (by decide) rfl ?_
  refine wt_iconst (pc := 9) (v := 0) dX11_tellFraction_9 (by decide) ?_
  refine wt_istore (pc := 10) (i := 9) (ls' := [(9, .int 0), (7, .long l3), (5, .long x4), (0, rf G.1 l0), (1, .long l1), (3, .long l3)]) dX11_tellFraction_10 (by decide) rfl ?_
  refine wt_sub (ls' := [(0, rf G.1 l0), (1, .long l1), (3, .long l3), (5, .long x4), (7, .long l3), (9, .int 0)]) [3, 4, 5, 2, 1, 0] rfl ?_
  exact t_X11_tellFraction_12 he  fu h
set_option maxHeartbeats 4000000 in
set_option maxRecDepth 100000 in
theorem c_X11_tellFraction {G : GG} {M : Mm} {l0 : Option Nat} {l1 : Int64} {l3 : Int64} {r : Int32 × Mm} (h : f_X11_tellFraction M l0 l1 l3 = some r) (l : Launch) : Ct l G j_X11_tellFraction b_X11_tellFraction [rf G.1 l0, .long l1, .long l3] M (some (.int r.1)) r.2 := cf_Z h (by decide +kernel) (by simp [lg_sl, rf_cat, cat_i, cat_l, j_X11_tellFraction]) rfl (by simp [lv_args, rf_cat, cat_i, cat_l]) (fun h X he => t_X11_tellFraction_e he h)
def g_X11_within (M : Mm) (l0 : Int32) (l1 : Int32) (l2 : Int32) : Option (Int32 × Mm) := if l0 < l1 then (some (0, M)) else (if l2 < l0 then (some (0, M)) else (some (1, M)))
def f_X11_within (M : Mm) (l0 : Int32) (l1 : Int32) (l2 : Int32) : Option (Int32 × Mm) := zc (g_X11_within M l0 l1 l2)
set_option maxHeartbeats 4000000 in
set_option maxRecDepth 100000 in
theorem t_X11_within_e {G : GG} {X : CX} {ans : Int32 × Mm} (he : EndI G X j_X11_within b_X11_within ans) {M : Mm} {l0 : Int32} {l1 : Int32} {l2 : Int32} (h : g_X11_within M l0 l1 l2 = some ans) : Wt G X j_X11_within b_X11_within 0 [(0, .int l0), (1, .int l1), (2, .int l2)] [] M 0 0 := by
  unfold g_X11_within at h
  refine wt_iload_n (pc := 0) 0 dX11_within_0 rfl ?_
  refine wt_iload_n (pc := 1) 1 dX11_within_1 rfl ?_
  refine wt_icmp_lt (pc := 2) (tgt := 14) dX11_within_2 (by decide) (fun q => ?_) (fun q => ?_)
  · have h := ite_t q h
    refine wt_iconst (pc := 14) (v := 0) dX11_within_14 (by decide) ?_
    cases h
    exact he 15 _ _ _ dX11_within_15 (by decide) (by decide)
  · have h := ite_f q h
    refine wt_iload_n (pc := 5) 0 dX11_within_5 rfl ?_
    refine wt_iload_n (pc := 6) 2 dX11_within_6 rfl ?_
    refine wt_icmp_gt (pc := 7) (tgt := 14) dX11_within_7 (by decide) (fun q => ?_) (fun q => ?_)
    · have h := ite_t q h
      refine wt_iconst (pc := 14) (v := 0) dX11_within_14 (by decide) ?_
      cases h
      exact he 15 _ _ _ dX11_within_15 (by decide) (by decide)
    · have h := ite_f q h
      refine wt_iconst (pc := 10) (v := 1) dX11_within_10 (by decide) ?_
      refine wt_goto (pc := 11) (tgt := 15) dX11_within_11 (by decide) ?_
      cases h
      exact he 15 _ _ _ dX11_within_15 (by decide) (by decide)
set_option maxHeartbeats 4000000 in
set_option maxRecDepth 100000 in
theorem c_X11_within {G : GG} {M : Mm} {l0 : Int32} {l1 : Int32} {l2 : Int32} {r : Int32 × Mm} (h : f_X11_within M l0 l1 l2 = some r) (l : Launch) : Ct l G j_X11_within b_X11_within [.int l0, .int l1, .int l2] M (some (.int r.1)) r.2 := cf_Z h (by decide +kernel) (by simp [lg_sl, rf_cat, cat_i, cat_l, j_X11_within]) rfl (by simp [lv_args, rf_cat, cat_i, cat_l]) (fun h X he => t_X11_within_e he h)
def g_X11_isHouse (M : Mm) (l0 : Option Nat) (l1 : Int32) : Option (Int32 × Mm) := gfR M l0 11 7 fun v3 => gfI M v3 4 3 fun v6 => bd (f_X11_within M l1 0 (v6 - 1)) fun v11 M11 => some (v11, M11)
def f_X11_isHouse (M : Mm) (l0 : Option Nat) (l1 : Int32) : Option (Int32 × Mm) := zc (g_X11_isHouse M l0 l1)
set_option maxHeartbeats 4000000 in
set_option maxRecDepth 100000 in
theorem t_X11_isHouse_e {G : GG} {X : CX} {ans : Int32 × Mm} (he : EndI G X j_X11_isHouse b_X11_isHouse ans) {M : Mm} {l0 : Option Nat} {l1 : Int32} (h : g_X11_isHouse M l0 l1 = some ans) : Wt G X j_X11_isHouse b_X11_isHouse 0 [(0, rf G.1 l0), (1, .int l1)] [] M 0 0 := by
  unfold g_X11_isHouse at h
  refine wt_iload_n (pc := 0) 1 dX11_isHouse_0 rfl ?_
  refine wt_iconst (pc := 1) (v := 0) dX11_isHouse_1 (by decide) ?_
  refine wt_aload_n (pc := 2) 0 dX11_isHouse_2 rfl ?_
  refine wt_getR (pc := 3) dX11_isHouse_3 fl_X11_37 (fun _ _ _ => rfl) h (fun v3 h => ?_)
  refine wt_getI (pc := 6) dX11_isHouse_6 fl_X11_102 (fun _ _ _ => rfl) h (fun v6 h => ?_)
  refine wt_iconst (pc := 9) (v := 1) dX11_isHouse_9 (by decide) ?_
  refine wt_isub (pc := 10) dX11_isHouse_10 ?_
  refine wt_cSI (pc := 11) (J' := j_X11_within) (As := [.int l1, .int 0, .int (v6 - 1)]) (st := []) (B' := b_X11_within) (u' := 0) (w' := 0) dX11_isHouse_11 ml_X11_105 ms_X11_within (fun v9 M9 e9 => c_X11_within e9) rfl (by decide) rfl rfl (by decide) (by decide) (by decide) rfl h (fun v11 M11 h => ?_)
  cases h
  exact he 14 _ _ _ dX11_isHouse_14 (by decide) (by decide)
set_option maxHeartbeats 4000000 in
set_option maxRecDepth 100000 in
theorem c_X11_isHouse {G : GG} {M : Mm} {l0 : Option Nat} {l1 : Int32} {r : Int32 × Mm} (h : f_X11_isHouse M l0 l1 = some r) (l : Launch) : Ct l G j_X11_isHouse b_X11_isHouse [rf G.1 l0, .int l1] M (some (.int r.1)) r.2 := cf_Z h (by decide +kernel) (by simp [lg_sl, rf_cat, cat_i, cat_l, j_X11_isHouse]) rfl (by simp [lv_args, rf_cat, cat_i, cat_l]) (fun h X he => t_X11_isHouse_e he h)
def g_X11_isGang (M : Mm) (l0 : Option Nat) (l1 : Int32) : Option (Int32 × Mm) := gfR M l0 11 7 fun v3 => gfI M v3 4 4 fun v6 => bd (f_X11_within M l1 0 (v6 - 1)) fun v11 M11 => some (v11, M11)
def f_X11_isGang (M : Mm) (l0 : Option Nat) (l1 : Int32) : Option (Int32 × Mm) := zc (g_X11_isGang M l0 l1)
set_option maxHeartbeats 4000000 in
set_option maxRecDepth 100000 in
theorem t_X11_isGang_e {G : GG} {X : CX} {ans : Int32 × Mm} (he : EndI G X j_X11_isGang b_X11_isGang ans) {M : Mm} {l0 : Option Nat} {l1 : Int32} (h : g_X11_isGang M l0 l1 = some ans) : Wt G X j_X11_isGang b_X11_isGang 0 [(0, rf G.1 l0), (1, .int l1)] [] M 0 0 := by
  unfold g_X11_isGang at h
  refine wt_iload_n (pc := 0) 1 dX11_isGang_0 rfl ?_
  refine wt_iconst (pc := 1) (v := 0) dX11_isGang_1 (by decide) ?_
  refine wt_aload_n (pc := 2) 0 dX11_isGang_2 rfl ?_
  refine wt_getR (pc := 3) dX11_isGang_3 fl_X11_37 (fun _ _ _ => rfl) h (fun v3 h => ?_)
  refine wt_getI (pc := 6) dX11_isGang_6 fl_X11_109 (fun _ _ _ => rfl) h (fun v6 h => ?_)
  refine wt_iconst (pc := 9) (v := 1) dX11_isGang_9 (by decide) ?_
  refine wt_isub (pc := 10) dX11_isGang_10 ?_
  refine wt_cSI (pc := 11) (J' := j_X11_within) (As := [.int l1, .int 0, .int (v6 - 1)]) (st := []) (B' := b_X11_within) (u' := 0) (w' := 0) dX11_isGang_11 ml_X11_105 ms_X11_within (fun v9 M9 e9 => c_X11_within e9) rfl (by decide) rfl rfl (by decide) (by decide) (by decide) rfl h (fun v11 M11 h => ?_)
  cases h
  exact he 14 _ _ _ dX11_isGang_14 (by decide) (by decide)
set_option maxHeartbeats 4000000 in
set_option maxRecDepth 100000 in
theorem c_X11_isGang {G : GG} {M : Mm} {l0 : Option Nat} {l1 : Int32} {r : Int32 × Mm} (h : f_X11_isGang M l0 l1 = some r) (l : Launch) : Ct l G j_X11_isGang b_X11_isGang [rf G.1 l0, .int l1] M (some (.int r.1)) r.2 := cf_Z h (by decide +kernel) (by simp [lg_sl, rf_cat, cat_i, cat_l, j_X11_isGang]) rfl (by simp [lv_args, rf_cat, cat_i, cat_l]) (fun h X he => t_X11_isGang_e he h)
def f_X11_tray_20 (M : Mm) (l0 : Option Nat) : Option (Int32 × Mm) := ck M l0 11 <| bd (f_X11_no M l0 1) fun v22 M22 => some (v22, M22)
def g_X11_tray (M : Mm) (l0 : Option Nat) (l1 : Int32) (l2 : Int32) (l3 : Int32) : Option (Int32 × Mm) := gfR M l0 11 6 fun v1 => ck M v1 7 <| bd (f_X7_has M v1 l1) fun v5 M5 => if v5 = 0 then (f_X11_tray_20  M5 l0) else (bd (f_X11_within M5 l2 0 3) fun v14 M14 => if v14 = 0 then (f_X11_tray_20  M14 l0) else (if l3 ≤ 60 then (if 0 ≤ l3 then (gfR M14 l0 11 6 fun v50 => ck M14 v50 7 <| bv (f_X7_lay M14 v50 l1 l2 l3) fun M56 => ck M56 l0 11 <| bd (f_X11_yes M56 l0) fun v60 M60 => some (v60, M60)) else (ck M14 l0 11 <| bd (f_X11_no M14 l0 6) fun v45 M45 => some (v45, M45))) else (ck M14 l0 11 <| bd (f_X11_no M14 l0 5) fun v34 M34 => some (v34, M34))))
def f_X11_tray (M : Mm) (l0 : Option Nat) (l1 : Int32) (l2 : Int32) (l3 : Int32) : Option (Int32 × Mm) := zc (g_X11_tray M l0 l1 l2 l3)
set_option maxHeartbeats 4000000 in
set_option maxRecDepth 100000 in
theorem t_X11_tray_20 {G : GG} {X : CX} {ans : Int32 × Mm} (he : EndI G X j_X11_tray b_X11_tray ans) {M : Mm} {l0 : Option Nat} (h : f_X11_tray_20 M l0 = some ans) : Wt G X j_X11_tray b_X11_tray 20 [(0, rf G.1 l0)] [] M 0 0 := by
  unfold f_X11_tray_20 at h
  refine wt_aload_n (pc := 20) 0 dX11_tray_20 rfl ?_
  refine wt_iconst (pc := 21) (v := 1) dX11_tray_21 (by decide) ?_
  refine wt_cVI (pc := 22) (J' := j_X11_no) (As := [.int 1]) (st := []) (B' := b_X11_no) (u' := 0) (w' := 0) dX11_tray_22 ml_X11_116 mv_X11_no (fun v9 M9 e9 => c_X11_no e9) rfl (by decide) rfl rfl (by decide) (by decide) (by decide) rfl h (fun v22 M22 h => ?_)
  cases h
  exact he 25 _ _ _ dX11_tray_25 (by decide) (by decide)
set_option maxHeartbeats 4000000 in
set_option maxRecDepth 100000 in
theorem t_X11_tray_e {G : GG} {X : CX} {ans : Int32 × Mm} (he : EndI G X j_X11_tray b_X11_tray ans) {M : Mm} {l0 : Option Nat} {l1 : Int32} {l2 : Int32} {l3 : Int32} (h : g_X11_tray M l0 l1 l2 l3 = some ans) : Wt G X j_X11_tray b_X11_tray 0 [(0, rf G.1 l0), (1, .int l1), (2, .int l2), (3, .int l3)] [] M 0 0 := by
  unfold g_X11_tray at h
  refine wt_aload_n (pc := 0) 0 dX11_tray_0 rfl ?_
  refine wt_getR (pc := 1) dX11_tray_1 fl_X11_30 (fun _ _ _ => rfl) h (fun v1 h => ?_)
  refine wt_iload_n (pc := 4) 1 dX11_tray_4 rfl ?_
  refine wt_cVI (pc := 5) (J' := j_X7_has) (As := [.int l1]) (st := []) (B' := b_X7_has) (u' := 0) (w' := 0) dX11_tray_5 ml_X11_112 mv_X7_has (fun v9 M9 e9 => c_X7_has e9) rfl (by decide) rfl rfl (by decide) (by decide) (by decide) rfl h (fun v5 M5 h => ?_)
  refine wt_if_eq (pc := 8) (tgt := 20) dX11_tray_8 (by decide) (fun q => ?_) (fun q => ?_)
  · have h := ite_t q h
    refine wt_sub (ls' := [(0, rf G.1 l0)]) [0] rfl ?_
    exact t_X11_tray_20 he  h
  · have h := ite_f q h
    refine wt_iload_n (pc := 11) 2 dX11_tray_11 rfl ?_
    refine wt_iconst (pc := 12) (v := 0) dX11_tray_12 (by decide) ?_
    refine wt_iconst (pc := 13) (v := 3) dX11_tray_13 (by decide) ?_
    refine wt_cSI (pc := 14) (J' := j_X11_within) (As := [.int l2, .int 0, .int 3]) (st := []) (B' := b_X11_within) (u' := 0) (w' := 0) dX11_tray_14 ml_X11_105 ms_X11_within (fun v9 M9 e9 => c_X11_within e9) rfl (by decide) rfl rfl (by decide) (by decide) (by decide) rfl h (fun v14 M14 h => ?_)
    refine wt_if_ne (pc := 17) (tgt := 26) dX11_tray_17 (by decide) (fun q => ?_) (fun q => ?_)
    · have h := ite_f q h
      refine wt_iload_n (pc := 26) 3 dX11_tray_26 rfl ?_
      refine wt_bipush (pc := 27) (v := 60) dX11_tray_27 (by decide) ?_
      refine wt_icmp_le (pc := 29) (tgt := 38) dX11_tray_29 (by decide) (fun q => ?_) (fun q => ?_)
      · have h := ite_t q h
        refine wt_iload_n (pc := 38) 3 dX11_tray_38 rfl ?_
        refine wt_if_ge (pc := 39) (tgt := 49) dX11_tray_39 (by decide) (fun q => ?_) (fun q => ?_)
        · have h := ite_t q h
          refine wt_aload_n (pc := 49) 0 dX11_tray_49 rfl ?_
          refine wt_getR (pc := 50) dX11_tray_50 fl_X11_30 (fun _ _ _ => rfl) h (fun v50 h => ?_)
          refine wt_iload_n (pc := 53) 1 dX11_tray_53 rfl ?_
          refine wt_iload_n (pc := 54) 2 dX11_tray_54 rfl ?_
          refine wt_iload_n (pc := 55) 3 dX11_tray_55 rfl ?_
          refine wt_cVV (pc := 56) (J' := j_X7_lay) (As := [.int l1, .int l2, .int l3]) (st := []) (B' := b_X7_lay) (u' := 0) (w' := 0) dX11_tray_56 ml_X11_119 mv_X7_lay (fun M9 e9 => c_X7_lay e9) rfl (by decide) rfl rfl (by decide) (by decide) (by decide) rfl h (fun M56 h => ?_)
          refine wt_aload_n (pc := 59) 0 dX11_tray_59 rfl ?_
          refine wt_cVI (pc := 60) (J' := j_X11_yes) (As := []) (st := []) (B' := b_X11_yes) (u' := 0) (w' := 0) dX11_tray_60 ml_X11_98 mv_X11_yes (fun v9 M9 e9 => c_X11_yes e9) rfl (by decide) rfl rfl (by decide) (by decide) (by decide) rfl h (fun v60 M60 h => ?_)
          cases h
          exact he 63 _ _ _ dX11_tray_63 (by decide) (by decide)
        · have h := ite_f q h
          refine wt_aload_n (pc := 42) 0 dX11_tray_42 rfl ?_
          refine wt_bipush (pc := 43) (v := 6) dX11_tray_43 (by decide) ?_
          refine wt_cVI (pc := 45) (J' := j_X11_no) (As := [.int 6]) (st := []) (B' := b_X11_no) (u' := 0) (w' := 0) dX11_tray_45 ml_X11_116 mv_X11_no (fun v9 M9 e9 => c_X11_no e9) rfl (by decide) rfl rfl (by decide) (by decide) (by decide) rfl h (fun v45 M45 h => ?_)
          cases h
          exact he 48 _ _ _ dX11_tray_48 (by decide) (by decide)
      · have h := ite_f q h
        refine wt_aload_n (pc := 32) 0 dX11_tray_32 rfl ?_
        refine wt_iconst (pc := 33) (v := 5) dX11_tray_33 (by decide) ?_
        refine wt_cVI (pc := 34) (J' := j_X11_no) (As := [.int 5]) (st := []) (B' := b_X11_no) (u' := 0) (w' := 0) dX11_tray_34 ml_X11_116 mv_X11_no (fun v9 M9 e9 => c_X11_no e9) rfl (by decide) rfl rfl (by decide) (by decide) (by decide) rfl h (fun v34 M34 h => ?_)
        cases h
        exact he 37 _ _ _ dX11_tray_37 (by decide) (by decide)
    · have h := ite_t q h
      refine wt_sub (ls' := [(0, rf G.1 l0)]) [0] rfl ?_
      exact t_X11_tray_20 he  h
set_option maxHeartbeats 4000000 in
set_option maxRecDepth 100000 in
theorem c_X11_tray {G : GG} {M : Mm} {l0 : Option Nat} {l1 : Int32} {l2 : Int32} {l3 : Int32} {r : Int32 × Mm} (h : f_X11_tray M l0 l1 l2 l3 = some r) (l : Launch) : Ct l G j_X11_tray b_X11_tray [rf G.1 l0, .int l1, .int l2, .int l3] M (some (.int r.1)) r.2 := cf_Z h (by decide +kernel) (by simp [lg_sl, rf_cat, cat_i, cat_l, j_X11_tray]) rfl (by simp [lv_args, rf_cat, cat_i, cat_l]) (fun h X he => t_X11_tray_e he h)
def g_X11_write (M : Mm) (l0 : Option Nat) (l1 : Int32) (l2 : Int32) (l3 : Int64) : Option (Int32 × Mm) := gfR M l0 11 6 fun v1 => ck M v1 7 <| bd (f_X7_whyNot M v1 l1 l2 1) fun v7 M7 => if v7 = 0 then (gfR M7 l0 11 6 fun v25 => ck M7 v25 7 <| bv (f_X7_put M7 v25 l1 l2 l3) fun M31 => ck M31 l0 11 <| bd (f_X11_yes M31 l0) fun v35 M35 => some (v35, M35)) else (ck M7 l0 11 <| bd (f_X11_no M7 l0 v7) fun v20 M20 => some (v20, M20))
def f_X11_write (M : Mm) (l0 : Option Nat) (l1 : Int32) (l2 : Int32) (l3 : Int64) : Option (Int32 × Mm) := zc (g_X11_write M l0 l1 l2 l3)
set_option maxHeartbeats 4000000 in
set_option maxRecDepth 100000 in
theorem t_X11_write_e {G : GG} {X : CX} {ans : Int32 × Mm} (he : EndI G X j_X11_write b_X11_write ans) {M : Mm} {l0 : Option Nat} {l1 : Int32} {l2 : Int32} {l3 : Int64} (h : g_X11_write M l0 l1 l2 l3 = some ans) : Wt G X j_X11_write b_X11_write 0 [(0, rf G.1 l0), (1, .int l1), (2, .int l2), (3, .long l3)] [] M 0 0 := by
  unfold g_X11_write at h
  refine wt_aload_n (pc := 0) 0 dX11_write_0 rfl ?_
  refine wt_getR (pc := 1) dX11_write_1 fl_X11_30 (fun _ _ _ => rfl) h (fun v1 h => ?_)
  refine wt_iload_n (pc := 4) 1 dX11_write_4 rfl ?_
  refine wt_iload_n (pc := 5) 2 dX11_write_5 rfl ?_
  refine wt_iconst (pc := 6) (v := 1) dX11_write_6 (by decide) ?_
  refine wt_cVI (pc := 7) (J' := j_X7_whyNot) (As := [.int l1, .int l2, .int 1]) (st := []) (B' := b_X7_whyNot) (u' := 0) (w' := 0) dX11_write_7 ml_X11_123 mv_X7_whyNot (fun v9 M9 e9 => c_X7_whyNot e9) rfl (by decide) rfl rfl (by decide) (by decide) (by decide) rfl h (fun v7 M7 h => ?_)
  refine wt_istore (pc := 10) (i := 5) (ls' := [(5, .int v7), (0, rf G.1 l0), (1, .int l1), (2, .int l2), (3, .long l3)]) dX11_write_10 (by decide) rfl ?_
  refine wt_iload (pc := 12) 0 dX11_write_12 rfl ?_
  refine wt_if_eq (pc := 14) (tgt := 24) dX11_write_14 (by decide) (fun q => ?_) (fun q => ?_)
  · have h := ite_t q h
    refine wt_aload_n (pc := 24) 1 dX11_write_24 rfl ?_
    refine wt_getR (pc := 25) dX11_write_25 fl_X11_30 (fun _ _ _ => rfl) h (fun v25 h => ?_)
    refine wt_iload_n (pc := 28) 2 dX11_write_28 rfl ?_
    refine wt_iload_n (pc := 29) 3 dX11_write_29 rfl ?_
    refine wt_lload_n (pc := 30) 4 dX11_write_30 rfl ?_
    refine wt_cVV (pc := 31) (J' := j_X7_put) (As := [.int l1, .int l2, .long l3]) (st := []) (B' := b_X7_put) (u' := 0) (w' := 0) dX11_write_31 ml_X11_127 mv_X7_put (fun M9 e9 => c_X7_put e9) rfl (by decide) rfl rfl (by decide) (by decide) (by decide) rfl h (fun M31 h => ?_)
    refine wt_aload_n (pc := 34) 1 dX11_write_34 rfl ?_
    refine wt_cVI (pc := 35) (J' := j_X11_yes) (As := []) (st := []) (B' := b_X11_yes) (u' := 0) (w' := 0) dX11_write_35 ml_X11_98 mv_X11_yes (fun v9 M9 e9 => c_X11_yes e9) rfl (by decide) rfl rfl (by decide) (by decide) (by decide) rfl h (fun v35 M35 h => ?_)
    cases h
    exact he 38 _ _ _ dX11_write_38 (by decide) (by decide)
  · have h := ite_f q h
    refine wt_aload_n (pc := 17) 1 dX11_write_17 rfl ?_
    refine wt_iload (pc := 18) 0 dX11_write_18 rfl ?_
    refine wt_cVI (pc := 20) (J' := j_X11_no) (As := [.int v7]) (st := []) (B' := b_X11_no) (u' := 0) (w' := 0) dX11_write_20 ml_X11_116 mv_X11_no (fun v9 M9 e9 => c_X11_no e9) rfl (by decide) rfl rfl (by decide) (by decide) (by decide) rfl h (fun v20 M20 h => ?_)
    cases h
    exact he 23 _ _ _ dX11_write_23 (by decide) (by decide)
set_option maxHeartbeats 4000000 in
set_option maxRecDepth 100000 in
theorem c_X11_write {G : GG} {M : Mm} {l0 : Option Nat} {l1 : Int32} {l2 : Int32} {l3 : Int64} {r : Int32 × Mm} (h : f_X11_write M l0 l1 l2 l3 = some r) (l : Launch) : Ct l G j_X11_write b_X11_write [rf G.1 l0, .int l1, .int l2, .long l3] M (some (.int r.1)) r.2 := cf_Z h (by decide +kernel) (by simp [lg_sl, rf_cat, cat_i, cat_l, j_X11_write]) rfl (by simp [lv_args, rf_cat, cat_i, cat_l]) (fun h X he => t_X11_write_e he h)
def f_X11_read (M : Mm) (l0 : Option Nat) (l1 : Int32) (l2 : Int32) : Option (Int64 × Mm) := gfR M l0 11 6 fun v1 => ck M v1 7 <| bd (f_X7_whyNot M v1 l1 l2 1) fun v7 M7 => if v7 = 0 then (pfI M7 l0 11 0 0 fun M24 => gfR M24 l0 11 6 fun v28 => gfR M24 v28 7 0 fun v31 => alR M24 v31 51 l1 fun v35 => alL M24 v35 22 l2 fun v37 => some (v37, M24)) else (ck M7 l0 11 <| bd (f_X11_none M7 l0 v7) fun v17 M17 => some ((Int32.toInt64 v17), M17))
set_option maxHeartbeats 4000000 in
set_option maxRecDepth 100000 in
theorem t_X11_read_e {G : GG} {X : CX} {ans : Int64 × Mm} (he : EndL G X j_X11_read b_X11_read ans) {M : Mm} {l0 : Option Nat} {l1 : Int32} {l2 : Int32} (h : f_X11_read M l0 l1 l2 = some ans) : Wt G X j_X11_read b_X11_read 0 [(0, rf G.1 l0), (1, .int l1), (2, .int l2)] [] M 0 0 := by
  unfold f_X11_read at h
  refine wt_aload_n (pc := 0) 0 dX11_read_0 rfl ?_
  refine wt_getR (pc := 1) dX11_read_1 fl_X11_30 (fun _ _ _ => rfl) h (fun v1 h => ?_)
  refine wt_iload_n (pc := 4) 1 dX11_read_4 rfl ?_
  refine wt_iload_n (pc := 5) 2 dX11_read_5 rfl ?_
  refine wt_iconst (pc := 6) (v := 1) dX11_read_6 (by decide) ?_
  refine wt_cVI (pc := 7) (J' := j_X7_whyNot) (As := [.int l1, .int l2, .int 1]) (st := []) (B' := b_X7_whyNot) (u' := 0) (w' := 0) dX11_read_7 ml_X11_123 mv_X7_whyNot (fun v9 M9 e9 => c_X7_whyNot e9) rfl (by decide) rfl rfl (by decide) (by decide) (by decide) rfl h (fun v7 M7 h => ?_)
  refine wt_istore_n (pc := 10) (i := 3) (ls' := [(3, .int v7), (0, rf G.1 l0), (1, .int l1), (2, .int l2)]) rfl dX11_read_10 (by decide) rfl ?_
  refine wt_iload_n (pc := 11) 0 dX11_read_11 rfl ?_
  refine wt_if_eq (pc := 12) (tgt := 22) dX11_read_12 (by decide) (fun q => ?_) (fun q => ?_)
  · have h := ite_t q h
    refine wt_aload_n (pc := 22) 1 dX11_read_22 rfl ?_
    refine wt_iconst (pc := 23) (v := 0) dX11_read_23 (by decide) ?_
    refine wt_putI (pc := 24) dX11_read_24 fl_X11_82 rfl rfl h (fun M24 h => ?_)
    refine wt_aload_n (pc := 27) 1 dX11_read_27 rfl ?_
    refine wt_getR (pc := 28) dX11_read_28 fl_X11_30 (fun _ _ _ => rfl) h (fun v28 h => ?_)
    refine wt_getR (pc := 31) dX11_read_31 fl_X11_135 (fun _ _ _ => rfl) h (fun v31 h => ?_)
    refine wt_iload_n (pc := 34) 2 dX11_read_34 rfl ?_
    refine wt_aaload (pc := 35) (kd := 51) dX11_read_35 rfl rfl (by decide) h (fun v35 h => ?_)
    refine wt_iload_n (pc := 36) 3 dX11_read_36 rfl ?_
    refine wt_laload (pc := 37) (kd := 22) dX11_read_37 rfl rfl h (fun v37 h => ?_)
    cases h
    exact he 38 _ _ _ dX11_read_38 (by decide) (by decide)
  · have h := ite_f q h
    refine wt_aload_n (pc := 15) 1 dX11_read_15 rfl ?_
    refine wt_iload_n (pc := 16) 0 dX11_read_16 rfl ?_
    refine wt_cVI (pc := 17) (J' := j_X11_none) (As := [.int v7]) (st := []) (B' := b_X11_none) (u' := 0) (w' := 0) dX11_read_17 ml_X11_131 mv_X11_none (fun v9 M9 e9 => c_X11_none e9) rfl (by decide) rfl rfl (by decide) (by decide) (by decide) rfl h (fun v17 M17 h => ?_)
    refine wt_i2l (pc := 20) dX11_read_20 ?_
    cases h
    exact he 21 _ _ _ dX11_read_21 (by decide) (by decide)
set_option maxHeartbeats 4000000 in
set_option maxRecDepth 100000 in
theorem c_X11_read {G : GG} {M : Mm} {l0 : Option Nat} {l1 : Int32} {l2 : Int32} {r : Int64 × Mm} (h : f_X11_read M l0 l1 l2 = some r) (l : Launch) : Ct l G j_X11_read b_X11_read [rf G.1 l0, .int l1, .int l2] M (some (.long r.1)) r.2 := cf_L (by decide +kernel) (by simp [lg_sl, rf_cat, cat_i, cat_l, j_X11_read]) rfl (by simp [lv_args, rf_cat, cat_i, cat_l]) (fun X he => t_X11_read_e he h)
def f_X11_pour_22 (M : Mm) (l0 : Option Nat) : Option (Int32 × Mm) := ck M l0 11 <| bd (f_X11_no M l0 1) fun v24 M24 => some (v24, M24)
def f_X11_pour_50 (M : Mm) (l0 : Option Nat) : Option (Int32 × Mm) := ck M l0 11 <| bd (f_X11_no M l0 3) fun v52 M52 => some (v52, M52)
def f_X11_pour_125 (M : Mm) (l0 : Option Nat) : Option (Int32 × Mm) := ck M l0 11 <| bd (f_X11_no M l0 4) fun v127 M127 => some (v127, M127)
def g_X11_pour (M : Mm) (l0 : Option Nat) (l1 : Int32) (l2 : Int32) (l3 : Int32) (l4 : Int32) (l5 : Int32) : Option (Int32 × Mm) := gfR M l0 11 6 fun v1 => ck M v1 7 <| bd (f_X7_has M v1 l1) fun v5 M5 => if v5 = 0 then (f_X11_pour_22  M5 l0) else (gfR M5 l0 11 6 fun v12 => ck M5 v12 7 <| bd (f_X7_has M5 v12 l3) fun v16 M16 => if v16 = 0 then (f_X11_pour_22  M16 l0) else (gfR M16 l0 11 6 fun v29 => ck M16 v29 7 <| bd (f_X7_isMissing M16 v29 l1) fun v33 M33 => if v33 = 0 then (gfR M33 l0 11 6 fun v40 => ck M33 v40 7 <| bd (f_X7_isMissing M33 v40 l3) fun v44 M44 => if v44 = 0 then (gfR M44 l0 11 6 fun v57 => gfR M44 v57 7 1 fun v60 => alI M44 v60 21 l1 fun v64 => gfR M44 l0 11 6 fun v66 => gfR M44 v66 7 1 fun v69 => alI M44 v69 21 l3 fun v73 => if v64 = v73 then (if 0 ≤ l5 then (gfR M44 l0 11 6 fun v97 => ck M44 v97 7 <| bd (f_X7_reaches M44 v97 l1 l2 l5) fun v104 M104 => if v104 = 0 then (f_X11_pour_125  M104 l0) else (gfR M104 l0 11 6 fun v111 => ck M104 v111 7 <| bd (f_X7_reaches M104 v111 l3 l4 l5) fun v119 M119 => if v119 = 0 then (f_X11_pour_125  M119 l0) else (gfR M119 l0 11 6 fun v132 => gfR M119 v132 7 0 fun v135 => alR M119 v135 51 l1 fun v139 => gfR M119 l0 11 6 fun v142 => gfR M119 v142 7 0 fun v145 => alR M119 v145 51 l3 fun v149 => acL M119 v139 l2 v149 l4 l5 fun M154 => ck M154 l0 11 <| bd (f_X11_yes M154 l0) fun v158 M158 => some (v158, M158)))) else (ck M44 l0 11 <| bd (f_X11_no M44 l0 6) fun v92 M92 => some (v92, M92))) else (ck M44 l0 11 <| bd (f_X11_no M44 l0 11) fun v80 M80 => some (v80, M80))) else (f_X11_pour_50  M44 l0)) else (f_X11_pour_50  M33 l0)))
def f_X11_pour (M : Mm) (l0 : Option Nat) (l1 : Int32) (l2 : Int32) (l3 : Int32) (l4 : Int32) (l5 : Int32) : Option (Int32 × Mm) := zc (g_X11_pour M l0 l1 l2 l3 l4 l5)
set_option maxHeartbeats 4000000 in
set_option maxRecDepth 100000 in
theorem t_X11_pour_22 {G : GG} {X : CX} {ans : Int32 × Mm} (he : EndI G X j_X11_pour b_X11_pour ans) {M : Mm} {l0 : Option Nat} (h : f_X11_pour_22 M l0 = some ans) : Wt G X j_X11_pour b_X11_pour 22 [(0, rf G.1 l0)] [] M 0 0 := by
  unfold f_X11_pour_22 at h
  refine wt_aload_n (pc := 22) 0 dX11_pour_22 rfl ?_
  refine wt_iconst (pc := 23) (v := 1) dX11_pour_23 (by decide) ?_
  refine wt_cVI (pc := 24) (J' := j_X11_no) (As := [.int 1]) (st := []) (B' := b_X11_no) (u' := 0) (w' := 0) dX11_pour_24 ml_X11_116 mv_X11_no (fun v9 M9 e9 => c_X11_no e9) rfl (by decide) rfl rfl (by decide) (by decide) (by decide) rfl h (fun v24 M24 h => ?_)
  cases h
  exact he 27 _ _ _ dX11_pour_27 (by decide) (by decide)
set_option maxHeartbeats 4000000 in
set_option maxRecDepth 100000 in
theorem t_X11_pour_50 {G : GG} {X : CX} {ans : Int32 × Mm} (he : EndI G X j_X11_pour b_X11_pour ans) {M : Mm} {l0 : Option Nat} (h : f_X11_pour_50 M l0 = some ans) : Wt G X j_X11_pour b_X11_pour 50 [(0, rf G.1 l0)] [] M 0 0 := by
  unfold f_X11_pour_50 at h
  refine wt_aload_n (pc := 50) 0 dX11_pour_50 rfl ?_
  refine wt_iconst (pc := 51) (v := 3) dX11_pour_51 (by decide) ?_
  refine wt_cVI (pc := 52) (J' := j_X11_no) (As := [.int 3]) (st := []) (B' := b_X11_no) (u' := 0) (w' := 0) dX11_pour_52 ml_X11_116 mv_X11_no (fun v9 M9 e9 => c_X11_no e9) rfl (by decide) rfl rfl (by decide) (by decide) (by decide) rfl h (fun v52 M52 h => ?_)
  cases h
  exact he 55 _ _ _ dX11_pour_55 (by decide) (by decide)
set_option maxHeartbeats 4000000 in
set_option maxRecDepth 100000 in
theorem t_X11_pour_125 {G : GG} {X : CX} {ans : Int32 × Mm} (he : EndI G X j_X11_pour b_X11_pour ans) {M : Mm} {l0 : Option Nat} (h : f_X11_pour_125 M l0 = some ans) : Wt G X j_X11_pour b_X11_pour 125 [(0, rf G.1 l0)] [] M 0 0 := by
  unfold f_X11_pour_125 at h
  refine wt_aload_n (pc := 125) 0 dX11_pour_125 rfl ?_
  refine wt_iconst (pc := 126) (v := 4) dX11_pour_126 (by decide) ?_
  refine wt_cVI (pc := 127) (J' := j_X11_no) (As := [.int 4]) (st := []) (B' := b_X11_no) (u' := 0) (w' := 0) dX11_pour_127 ml_X11_116 mv_X11_no (fun v9 M9 e9 => c_X11_no e9) rfl (by decide) rfl rfl (by decide) (by decide) (by decide) rfl h (fun v127 M127 h => ?_)
  cases h
  exact he 130 _ _ _ dX11_pour_130 (by decide) (by decide)
set_option maxHeartbeats 4000000 in
set_option maxRecDepth 100000 in
theorem t_X11_pour_e {G : GG} {X : CX} {ans : Int32 × Mm} (he : EndI G X j_X11_pour b_X11_pour ans) {M : Mm} {l0 : Option Nat} {l1 : Int32} {l2 : Int32} {l3 : Int32} {l4 : Int32} {l5 : Int32} (h : g_X11_pour M l0 l1 l2 l3 l4 l5 = some ans) : Wt G X j_X11_pour b_X11_pour 0 [(0, rf G.1 l0), (1, .int l1), (2, .int l2), (3, .int l3), (4, .int l4), (5, .int l5)] [] M 0 0 := by
  unfold g_X11_pour at h
  refine wt_aload_n (pc := 0) 0 dX11_pour_0 rfl ?_
  refine wt_getR (pc := 1) dX11_pour_1 fl_X11_30 (fun _ _ _ => rfl) h (fun v1 h => ?_)
  refine wt_iload_n (pc := 4) 1 dX11_pour_4 rfl ?_
  refine wt_cVI (pc := 5) (J' := j_X7_has) (As := [.int l1]) (st := []) (B' := b_X7_has) (u' := 0) (w' := 0) dX11_pour_5 ml_X11_112 mv_X7_has (fun v9 M9 e9 => c_X7_has e9) rfl (by decide) rfl rfl (by decide) (by decide) (by decide) rfl h (fun v5 M5 h => ?_)
  refine wt_if_eq (pc := 8) (tgt := 22) dX11_pour_8 (by decide) (fun q => ?_) (fun q => ?_)
  · have h := ite_t q h
    refine wt_sub (ls' := [(0, rf G.1 l0)]) [0] rfl ?_
    exact t_X11_pour_22 he  h
  · have h := ite_f q h
    refine wt_aload_n (pc := 11) 0 dX11_pour_11 rfl ?_
    refine wt_getR (pc := 12) dX11_pour_12 fl_X11_30 (fun _ _ _ => rfl) h (fun v12 h => ?_)
    refine wt_iload_n (pc := 15) 3 dX11_pour_15 rfl ?_
    refine wt_cVI (pc := 16) (J' := j_X7_has) (As := [.int l3]) (st := []) (B' := b_X7_has) (u' := 0) (w' := 0) dX11_pour_16 ml_X11_112 mv_X7_has (fun v9 M9 e9 => c_X7_has e9) rfl (by decide) rfl rfl (by decide) (by decide) (by decide) rfl h (fun v16 M16 h => ?_)
    refine wt_if_ne (pc := 19) (tgt := 28) dX11_pour_19 (by decide) (fun q => ?_) (fun q => ?_)
    · have h := ite_f q h
      refine wt_aload_n (pc := 28) 0 dX11_pour_28 rfl ?_
      refine wt_getR (pc := 29) dX11_pour_29 fl_X11_30 (fun _ _ _ => rfl) h (fun v29 h => ?_)
      refine wt_iload_n (pc := 32) 1 dX11_pour_32 rfl ?_
      refine wt_cVI (pc := 33) (J' := j_X7_isMissing) (As := [.int l1]) (st := []) (B' := b_X7_isMissing) (u' := 0) (w' := 0) dX11_pour_33 ml_X11_139 mv_X7_isMissing (fun v9 M9 e9 => c_X7_isMissing e9) rfl (by decide) rfl rfl (by decide) (by decide) (by decide) rfl h (fun v33 M33 h => ?_)
      refine wt_if_ne (pc := 36) (tgt := 50) dX11_pour_36 (by decide) (fun q => ?_) (fun q => ?_)
      · have h := ite_f q h
        refine wt_sub (ls' := [(0, rf G.1 l0)]) [0] rfl ?_
        exact t_X11_pour_50 he  h
      · have h := ite_t q h
        refine wt_aload_n (pc := 39) 0 dX11_pour_39 rfl ?_
        refine wt_getR (pc := 40) dX11_pour_40 fl_X11_30 (fun _ _ _ => rfl) h (fun v40 h => ?_)
        refine wt_iload_n (pc := 43) 3 dX11_pour_43 rfl ?_
        refine wt_cVI (pc := 44) (J' := j_X7_isMissing) (As := [.int l3]) (st := []) (B' := b_X7_isMissing) (u' := 0) (w' := 0) dX11_pour_44 ml_X11_139 mv_X7_isMissing (fun v9 M9 e9 => c_X7_isMissing e9) rfl (by decide) rfl rfl (by decide) (by decide) (by decide) rfl h (fun v44 M44 h => ?_)
        refine wt_if_eq (pc := 47) (tgt := 56) dX11_pour_47 (by decide) (fun q => ?_) (fun q => ?_)
        · have h := ite_t q h
          refine wt_aload_n (pc := 56) 0 dX11_pour_56 rfl ?_
          refine wt_getR (pc := 57) dX11_pour_57 fl_X11_30 (fun _ _ _ => rfl) h (fun v57 h => ?_)
          refine wt_getR (pc := 60) dX11_pour_60 fl_X11_142 (fun _ _ _ => rfl) h (fun v60 h => ?_)
          refine wt_iload_n (pc := 63) 1 dX11_pour_63 rfl ?_
          refine wt_iaload (pc := 64) (kd := 21) dX11_pour_64 rfl rfl h (fun v64 h => ?_)
          refine wt_aload_n (pc := 65) 0 dX11_pour_65 rfl ?_
          refine wt_getR (pc := 66) dX11_pour_66 fl_X11_30 (fun _ _ _ => rfl) h (fun v66 h => ?_)
          refine wt_getR (pc := 69) dX11_pour_69 fl_X11_142 (fun _ _ _ => rfl) h (fun v69 h => ?_)
          refine wt_iload_n (pc := 72) 3 dX11_pour_72 rfl ?_
          refine wt_iaload (pc := 73) (kd := 21) dX11_pour_73 rfl rfl h (fun v73 h => ?_)
          refine wt_icmp_eq (pc := 74) (tgt := 84) dX11_pour_74 (by decide) (fun q => ?_) (fun q => ?_)
          · have h := ite_t q h
            refine wt_iload (pc := 84) 5 dX11_pour_84 rfl ?_
            refine wt_if_ge (pc := 86) (tgt := 96) dX11_pour_86 (by decide) (fun q => ?_) (fun q => ?_)
            · have h := ite_t q h
              refine wt_aload_n (pc := 96) 0 dX11_pour_96 rfl ?_
              refine wt_getR (pc := 97) dX11_pour_97 fl_X11_30 (fun _ _ _ => rfl) h (fun v97 h => ?_)
              refine wt_iload_n (pc := 100) 1 dX11_pour_100 rfl ?_
              refine wt_iload_n (pc := 101) 2 dX11_pour_101 rfl ?_
              refine wt_iload (pc := 102) 5 dX11_pour_102 rfl ?_
              refine wt_cVI (pc := 104) (J' := j_X7_reaches) (As := [.int l1, .int l2, .int l5]) (st := []) (B' := b_X7_reaches) (u' := 0) (w' := 0) dX11_pour_104 ml_X11_146 mv_X7_reaches (fun v9 M9 e9 => c_X7_reaches e9) rfl (by decide) rfl rfl (by decide) (by decide) (by decide) rfl h (fun v104 M104 h => ?_)
              refine wt_if_eq (pc := 107) (tgt := 125) dX11_pour_107 (by decide) (fun q => ?_) (fun q => ?_)
              · have h := ite_t q h
                refine wt_sub (ls' := [(0, rf G.1 l0)]) [0] rfl ?_
                exact t_X11_pour_125 he  h
              · have h := ite_f q h
                refine wt_aload_n (pc := 110) 0 dX11_pour_110 rfl ?_
                refine wt_getR (pc := 111) dX11_pour_111 fl_X11_30 (fun _ _ _ => rfl) h (fun v111 h => ?_)
                refine wt_iload_n (pc := 114) 3 dX11_pour_114 rfl ?_
                refine wt_iload (pc := 115) 4 dX11_pour_115 rfl ?_
                refine wt_iload (pc := 117) 5 dX11_pour_117 rfl ?_
                refine wt_cVI (pc := 119) (J' := j_X7_reaches) (As := [.int l3, .int l4, .int l5]) (st := []) (B' := b_X7_reaches) (u' := 0) (w' := 0) dX11_pour_119 ml_X11_146 mv_X7_reaches (fun v9 M9 e9 => c_X7_reaches e9) rfl (by decide) rfl rfl (by decide) (by decide) (by decide) rfl h (fun v119 M119 h => ?_)
                refine wt_if_ne (pc := 122) (tgt := 131) dX11_pour_122 (by decide) (fun q => ?_) (fun q => ?_)
                · have h := ite_f q h
                  refine wt_aload_n (pc := 131) 0 dX11_pour_131 rfl ?_
                  refine wt_getR (pc := 132) dX11_pour_132 fl_X11_30 (fun _ _ _ => rfl) h (fun v132 h => ?_)
                  refine wt_getR (pc := 135) dX11_pour_135 fl_X11_135 (fun _ _ _ => rfl) h (fun v135 h => ?_)
                  refine wt_iload_n (pc := 138) 1 dX11_pour_138 rfl ?_
                  refine wt_aaload (pc := 139) (kd := 51) dX11_pour_139 rfl rfl (by decide) h (fun v139 h => ?_)
                  refine wt_iload_n (pc := 140) 2 dX11_pour_140 rfl ?_
                  refine wt_aload_n (pc := 141) 0 dX11_pour_141 rfl ?_
                  refine wt_getR (pc := 142) dX11_pour_142 fl_X11_30 (fun _ _ _ => rfl) h (fun v142 h => ?_)
                  refine wt_getR (pc := 145) dX11_pour_145 fl_X11_135 (fun _ _ _ => rfl) h (fun v145 h => ?_)
                  refine wt_iload_n (pc := 148) 3 dX11_pour_148 rfl ?_
                  refine wt_aaload (pc := 149) (kd := 51) dX11_pour_149 rfl rfl (by decide) h (fun v149 h => ?_)
                  refine wt_iload (pc := 150) 4 dX11_pour_150 rfl ?_
                  refine wt_iload (pc := 152) 5 dX11_pour_152 rfl ?_
                  refine wt_copyL (pc := 154) dX11_pour_154 bi_X11_149 mw_copy.1 mw_copy.2.1 mw_copy.2.2 (by decide) (by decide) h (fun M154 h => ?_)
                  refine wt_aload_n (pc := 157) 0 dX11_pour_157 rfl ?_
                  refine wt_cVI (pc := 158) (J' := j_X11_yes) (As := []) (st := []) (B' := b_X11_yes) (u' := 0) (w' := 0) dX11_pour_158 ml_X11_98 mv_X11_yes (fun v9 M9 e9 => c_X11_yes e9) rfl (by decide) rfl rfl (by decide) (by decide) (by decide) rfl h (fun v158 M158 h => ?_)
                  cases h
                  exact he 161 _ _ _ dX11_pour_161 (by decide) (by decide)
                · have h := ite_t q h
                  refine wt_sub (ls' := [(0, rf G.1 l0)]) [0] rfl ?_
                  exact t_X11_pour_125 he  h
            · have h := ite_f q h
              refine wt_aload_n (pc := 89) 0 dX11_pour_89 rfl ?_
              refine wt_bipush (pc := 90) (v := 6) dX11_pour_90 (by decide) ?_
              refine wt_cVI (pc := 92) (J' := j_X11_no) (As := [.int 6]) (st := []) (B' := b_X11_no) (u' := 0) (w' := 0) dX11_pour_92 ml_X11_116 mv_X11_no (fun v9 M9 e9 => c_X11_no e9) rfl (by decide) rfl rfl (by decide) (by decide) (by decide) rfl h (fun v92 M92 h => ?_)
              cases h
              exact he 95 _ _ _ dX11_pour_95 (by decide) (by decide)
          · have h := ite_f q h
            refine wt_aload_n (pc := 77) 0 dX11_pour_77 rfl ?_
            refine wt_bipush (pc := 78) (v := 11) dX11_pour_78 (by decide) ?_
            refine wt_cVI (pc := 80) (J' := j_X11_no) (As := [.int 11]) (st := []) (B' := b_X11_no) (u' := 0) (w' := 0) dX11_pour_80 ml_X11_116 mv_X11_no (fun v9 M9 e9 => c_X11_no e9) rfl (by decide) rfl rfl (by decide) (by decide) (by decide) rfl h (fun v80 M80 h => ?_)
            cases h
            exact he 83 _ _ _ dX11_pour_83 (by decide) (by decide)
        · have h := ite_f q h
          refine wt_sub (ls' := [(0, rf G.1 l0)]) [0] rfl ?_
          exact t_X11_pour_50 he  h
    · have h := ite_t q h
      refine wt_sub (ls' := [(0, rf G.1 l0)]) [0] rfl ?_
      exact t_X11_pour_22 he  h
set_option maxHeartbeats 4000000 in
set_option maxRecDepth 100000 in
theorem c_X11_pour {G : GG} {M : Mm} {l0 : Option Nat} {l1 : Int32} {l2 : Int32} {l3 : Int32} {l4 : Int32} {l5 : Int32} {r : Int32 × Mm} (h : f_X11_pour M l0 l1 l2 l3 l4 l5 = some r) (l : Launch) : Ct l G j_X11_pour b_X11_pour [rf G.1 l0, .int l1, .int l2, .int l3, .int l4, .int l5] M (some (.int r.1)) r.2 := cf_Z h (by decide +kernel) (by simp [lg_sl, rf_cat, cat_i, cat_l, j_X11_pour]) rfl (by simp [lv_args, rf_cat, cat_i, cat_l]) (fun h X he => t_X11_pour_e he h)
def f_X11_feed (M : Mm) (l0 : Option Nat) (l1 : Int32) (l2 : Int32) (l3 : Int32) (l4 : Int32) (l5 : Int32) : Option (Int32 × Mm) := gfR M l0 11 5 fun v1 => gfI M v1 6 1 fun v4 => if (v4 + 20) ≤ 900 then (gfR M l0 11 5 fun v19 => ck M v19 6 <| bv (f_X6_put M v19 l1) fun M23 => gfR M23 l0 11 5 fun v27 => ck M23 v27 6 <| bv (f_X6_put M23 v27 l2) fun M31 => gfR M31 l0 11 5 fun v35 => ck M31 v35 6 <| bv (f_X6_put M31 v35 l3) fun M39 => gfR M39 l0 11 5 fun v43 => ck M39 v43 6 <| bv (f_X6_put M39 v43 l4) fun M48 => gfR M48 l0 11 5 fun v52 => ck M48 v52 6 <| bv (f_X6_put M48 v52 l5) fun M57 => gfR M57 l0 11 5 fun v61 => gfI M57 v61 6 1 fun v64 => some (v64, M57)) else (some ((-1), M))
set_option maxHeartbeats 4000000 in
set_option maxRecDepth 100000 in
theorem t_X11_feed_e {G : GG} {X : CX} {ans : Int32 × Mm} (he : EndI G X j_X11_feed b_X11_feed ans) {M : Mm} {l0 : Option Nat} {l1 : Int32} {l2 : Int32} {l3 : Int32} {l4 : Int32} {l5 : Int32} (h : f_X11_feed M l0 l1 l2 l3 l4 l5 = some ans) : Wt G X j_X11_feed b_X11_feed 0 [(0, rf G.1 l0), (1, .int l1), (2, .int l2), (3, .int l3), (4, .int l4), (5, .int l5)] [] M 0 0 := by
  unfold f_X11_feed at h
  refine wt_aload_n (pc := 0) 0 dX11_feed_0 rfl ?_
  refine wt_getR (pc := 1) dX11_feed_1 fl_X11_23 (fun _ _ _ => rfl) h (fun v1 h => ?_)
  refine wt_getI (pc := 4) dX11_feed_4 fl_X11_155 (fun _ _ _ => rfl) h (fun v4 h => ?_)
  refine wt_bipush (pc := 7) (v := 20) dX11_feed_7 (by decide) ?_
  refine wt_iadd (pc := 9) dX11_feed_9 ?_
  refine wt_sipush (pc := 10) (v := 900) dX11_feed_10 (by decide) ?_
  refine wt_icmp_le (pc := 13) (tgt := 18) dX11_feed_13 (by decide) (fun q => ?_) (fun q => ?_)
  · have h := ite_t q h
    refine wt_aload_n (pc := 18) 0 dX11_feed_18 rfl ?_
    refine wt_getR (pc := 19) dX11_feed_19 fl_X11_23 (fun _ _ _ => rfl) h (fun v19 h => ?_)
    refine wt_iload_n (pc := 22) 1 dX11_feed_22 rfl ?_
    refine wt_cVV (pc := 23) (J' := j_X6_put) (As := [.int l1]) (st := []) (B' := b_X6_put) (u' := 0) (w' := 0) dX11_feed_23 ml_X11_158 mv_X6_put (fun M9 e9 => c_X6_put e9) rfl (by decide) rfl rfl (by decide) (by decide) (by decide) rfl h (fun M23 h => ?_)
    refine wt_aload_n (pc := 26) 0 dX11_feed_26 rfl ?_
    refine wt_getR (pc := 27) dX11_feed_27 fl_X11_23 (fun _ _ _ => rfl) h (fun v27 h => ?_)
    refine wt_iload_n (pc := 30) 2 dX11_feed_30 rfl ?_
    refine wt_cVV (pc := 31) (J' := j_X6_put) (As := [.int l2]) (st := []) (B' := b_X6_put) (u' := 0) (w' := 0) dX11_feed_31 ml_X11_158 mv_X6_put (fun M9 e9 => c_X6_put e9) rfl (by decide) rfl rfl (by decide) (by decide) (by decide) rfl h (fun M31 h => ?_)
    refine wt_aload_n (pc := 34) 0 dX11_feed_34 rfl ?_
    refine wt_getR (pc := 35) dX11_feed_35 fl_X11_23 (fun _ _ _ => rfl) h (fun v35 h => ?_)
    refine wt_iload_n (pc := 38) 3 dX11_feed_38 rfl ?_
    refine wt_cVV (pc := 39) (J' := j_X6_put) (As := [.int l3]) (st := []) (B' := b_X6_put) (u' := 0) (w' := 0) dX11_feed_39 ml_X11_158 mv_X6_put (fun M9 e9 => c_X6_put e9) rfl (by decide) rfl rfl (by decide) (by decide) (by decide) rfl h (fun M39 h => ?_)
    refine wt_aload_n (pc := 42) 0 dX11_feed_42 rfl ?_
    refine wt_getR (pc := 43) dX11_feed_43 fl_X11_23 (fun _ _ _ => rfl) h (fun v43 h => ?_)
    refine wt_iload (pc := 46) 4 dX11_feed_46 rfl ?_
    refine wt_cVV (pc := 48) (J' := j_X6_put) (As := [.int l4]) (st := []) (B' := b_X6_put) (u' := 0) (w' := 0) dX11_feed_48 ml_X11_158 mv_X6_put (fun M9 e9 => c_X6_put e9) rfl (by decide) rfl rfl (by decide) (by decide) (by decide) rfl h (fun M48 h => ?_)
    refine wt_aload_n (pc := 51) 0 dX11_feed_51 rfl ?_
    refine wt_getR (pc := 52) dX11_feed_52 fl_X11_23 (fun _ _ _ => rfl) h (fun v52 h => ?_)
    refine wt_iload (pc := 55) 5 dX11_feed_55 rfl ?_
    refine wt_cVV (pc := 57) (J' := j_X6_put) (As := [.int l5]) (st := []) (B' := b_X6_put) (u' := 0) (w' := 0) dX11_feed_57 ml_X11_158 mv_X6_put (fun M9 e9 => c_X6_put e9) rfl (by decide) rfl rfl (by decide) (by decide) (by decide) rfl h (fun M57 h => ?_)
    refine wt_aload_n (pc := 60) 0 dX11_feed_60 rfl ?_
    refine wt_getR (pc := 61) dX11_feed_61 fl_X11_23 (fun _ _ _ => rfl) h (fun v61 h => ?_)
    refine wt_getI (pc := 64) dX11_feed_64 fl_X11_155 (fun _ _ _ => rfl) h (fun v64 h => ?_)
    cases h
    exact he 67 _ _ _ dX11_feed_67 (by decide) (by decide)
  · have h := ite_f q h
    refine wt_iconst (pc := 16) (v := (-1)) dX11_feed_16 (by decide) ?_
    cases h
    exact he 17 _ _ _ dX11_feed_17 (by decide) (by decide)
set_option maxHeartbeats 4000000 in
set_option maxRecDepth 100000 in
theorem c_X11_feed {G : GG} {M : Mm} {l0 : Option Nat} {l1 : Int32} {l2 : Int32} {l3 : Int32} {l4 : Int32} {l5 : Int32} {r : Int32 × Mm} (h : f_X11_feed M l0 l1 l2 l3 l4 l5 = some r) (l : Launch) : Ct l G j_X11_feed b_X11_feed [rf G.1 l0, .int l1, .int l2, .int l3, .int l4, .int l5] M (some (.int r.1)) r.2 := cf_I (by decide +kernel) (by simp [lg_sl, rf_cat, cat_i, cat_l, j_X11_feed]) rfl (by simp [lv_args, rf_cat, cat_i, cat_l]) (fun X he => t_X11_feed_e he h)
def g_X11_endText (M : Mm) (l0 : Option Nat) (l1 : Int32) : Option (Int32 × Mm) := gfR M l0 11 5 fun v1 => pfI M v1 6 1 0 fun M5 => gfR M5 l0 11 5 fun v10 => gfI M5 v10 6 12 fun v13 => pfI M5 l0 11 3 v13 fun M16 => gfR M16 l0 11 5 fun v21 => gfI M16 v21 6 13 fun v24 => pfI M16 l0 11 4 v24 fun M27 => some (l1, M27)
def f_X11_endText (M : Mm) (l0 : Option Nat) (l1 : Int32) : Option (Int32 × Mm) := zc (g_X11_endText M l0 l1)
set_option maxHeartbeats 4000000 in
set_option maxRecDepth 100000 in
theorem t_X11_endText_e {G : GG} {X : CX} {ans : Int32 × Mm} (he : EndI G X j_X11_endText b_X11_endText ans) {M : Mm} {l0 : Option Nat} {l1 : Int32} (h : g_X11_endText M l0 l1 = some ans) : Wt G X j_X11_endText b_X11_endText 0 [(0, rf G.1 l0), (1, .int l1)] [] M 0 0 := by
  unfold g_X11_endText at h
  refine wt_aload_n (pc := 0) 0 dX11_endText_0 rfl ?_
  refine wt_getR (pc := 1) dX11_endText_1 fl_X11_23 (fun _ _ _ => rfl) h (fun v1 h => ?_)
  refine wt_iconst (pc := 4) (v := 0) dX11_endText_4 (by decide) ?_
  refine wt_putI (pc := 5) dX11_endText_5 fl_X11_155 rfl rfl h (fun M5 h => ?_)
  refine wt_aload_n (pc := 8) 0 dX11_endText_8 rfl ?_
  refine wt_aload_n (pc := 9) 0 dX11_endText_9 rfl ?_
  refine wt_getR (pc := 10) dX11_endText_10 fl_X11_23 (fun _ _ _ => rfl) h (fun v10 h => ?_)
  refine wt_getI (pc := 13) dX11_endText_13 fl_X11_192 (fun _ _ _ => rfl) h (fun v13 h => ?_)
  refine wt_putI (pc := 16) dX11_endText_16 fl_X11_13 rfl rfl h (fun M16 h => ?_)
  refine wt_aload_n (pc := 19) 0 dX11_endText_19 rfl ?_
  refine wt_aload_n (pc := 20) 0 dX11_endText_20 rfl ?_
  refine wt_getR (pc := 21) dX11_endText_21 fl_X11_23 (fun _ _ _ => rfl) h (fun v21 h => ?_)
  refine wt_getI (pc := 24) dX11_endText_24 fl_X11_193 (fun _ _ _ => rfl) h (fun v24 h => ?_)
  refine wt_putI (pc := 27) dX11_endText_27 fl_X11_17 rfl rfl h (fun M27 h => ?_)
  refine wt_iload_n (pc := 30) 1 dX11_endText_30 rfl ?_
  cases h
  exact he 31 _ _ _ dX11_endText_31 (by decide) (by decide)
set_option maxHeartbeats 4000000 in
set_option maxRecDepth 100000 in
theorem c_X11_endText {G : GG} {M : Mm} {l0 : Option Nat} {l1 : Int32} {r : Int32 × Mm} (h : f_X11_endText M l0 l1 = some r) (l : Launch) : Ct l G j_X11_endText b_X11_endText [rf G.1 l0, .int l1] M (some (.int r.1)) r.2 := cf_Z h (by decide +kernel) (by simp [lg_sl, rf_cat, cat_i, cat_l, j_X11_endText]) rfl (by simp [lv_args, rf_cat, cat_i, cat_l]) (fun h X he => t_X11_endText_e he h)
def f_X11_shore (M : Mm) (l0 : Option Nat) (l1 : Int32) : Option (Int32 × Mm) := gfR M l0 11 5 fun v3 => gfI M v3 6 1 fun v6 => bd (f_X11_within M l1 0 v6) fun v9 M9 => if v9 = 0 then (ck M9 l0 11 <| bd (f_X11_none M9 l0 5) fun v17 M17 => some (v17, M17)) else (nwc M9 5 3 fun q22 M22 => gfR M22 l0 11 5 fun v27 => gfR M22 l0 11 8 fun v31 => nz q22 <| bv (f_X5_init M22 q22 v27 v31) fun M34 => ck M34 q22 5 <| bd (f_X5_readAll M34 q22 l1) fun v38 M38 => ck M38 l0 11 <| bd (f_X11_endText M38 l0 v38) fun v41 M41 => if v41 = 0 then (ck M41 l0 11 <| bd (f_X11_none M41 l0 10) fun v50 M50 => some (v50, M50)) else (gfR M41 l0 11 7 fun v55 => gfR M41 l0 11 8 fun v61 => pfR M41 l0 11 7 v61 fun M64 => pfR M64 l0 11 8 v55 fun M69 => gfR M69 l0 11 9 fun v73 => ck M69 v73 9 <| bv (f_X9_clear M69 v73) fun M76 => gfR M76 l0 11 7 fun v81 => gfI M76 v81 4 3 fun v84 => ck M76 l0 11 <| bd (f_X11_answer M76 l0 v84) fun v87 M87 => some (v87, M87)))
set_option maxHeartbeats 4000000 in
set_option maxRecDepth 100000 in
theorem t_X11_shore_e {G : GG} {X : CX} {ans : Int32 × Mm} (he : EndI G X j_X11_shore b_X11_shore ans) {M : Mm} {l0 : Option Nat} {l1 : Int32} (h : f_X11_shore M l0 l1 = some ans) : Wt G X j_X11_shore b_X11_shore 0 [(0, rf G.1 l0), (1, .int l1)] [] M 0 0 := by
  unfold f_X11_shore at h
  refine wt_iload_n (pc := 0) 1 dX11_shore_0 rfl ?_
  refine wt_iconst (pc := 1) (v := 0) dX11_shore_1 (by decide) ?_
  refine wt_aload_n (pc := 2) 0 dX11_shore_2 rfl ?_
  refine wt_getR (pc := 3) dX11_shore_3 fl_X11_23 (fun _ _ _ => rfl) h (fun v3 h => ?_)
  refine wt_getI (pc := 6) dX11_shore_6 fl_X11_155 (fun _ _ _ => rfl) h (fun v6 h => ?_)
  refine wt_cSI (pc := 9) (J' := j_X11_within) (As := [.int l1, .int 0, .int v6]) (st := []) (B' := b_X11_within) (u' := 0) (w' := 0) dX11_shore_9 ml_X11_105 ms_X11_within (fun v9 M9 e9 => c_X11_within e9) rfl (by decide) rfl rfl (by decide) (by decide) (by decide) rfl h (fun v9 M9 h => ?_)
  refine wt_if_ne (pc := 12) (tgt := 21) dX11_shore_12 (by decide) (fun q => ?_) (fun q => ?_)
  · have h := ite_f q h
    refine wt_aload_n (pc := 21) 0 dX11_shore_21 rfl ?_
    refine wt_new (pc := 22) (n := 3) dX11_shore_22 cl_X11_161 rfl (by decide) (by decide) h (fun q22 M22 h => ?_)
    refine wt_dup (pc := 25) dX11_shore_25 (rf_cat _ _) ?_
    refine wt_aload_n (pc := 26) 0 dX11_shore_26 rfl ?_
    refine wt_getR (pc := 27) dX11_shore_27 fl_X11_23 (fun _ _ _ => rfl) h (fun v27 h => ?_)
    refine wt_aload_n (pc := 30) 0 dX11_shore_30 rfl ?_
    refine wt_getR (pc := 31) dX11_shore_31 fl_X11_41 (fun _ _ _ => rfl) h (fun v31 h => ?_)
    refine wt_cI (pc := 34) (J' := j_X5_init) (As := [rf G.1 v27, rf G.1 v31]) (st := [rf G.1 q22, rf G.1 l0]) (B' := b_X5_init) (u' := 1) (w' := 3) dX11_shore_34 ml_X11_163 mi_X5_init (fun M9 e9 => c_X5_init e9) rfl (by decide) rfl rfl (by decide) (by decide) (by simp [rf_cat, cat_i, cat_l, cat_r]) rfl h (fun M34 h => ?_)
    refine wt_iload_n (pc := 37) 1 dX11_shore_37 rfl ?_
    refine wt_cVI (pc := 38) (J' := j_X5_readAll) (As := [.int l1]) (st := [rf G.1 l0]) (B' := b_X5_readAll) (u' := 1) (w' := 3) dX11_shore_38 ml_X11_166 mv_X5_readAll (fun v9 M9 e9 => c_X5_readAll e9) rfl (by decide) rfl rfl (by decide) (by decide) (by simp [rf_cat, cat_i, cat_l, cat_r]) rfl h (fun v38 M38 h => ?_)
    refine wt_cVI (pc := 41) (J' := j_X11_endText) (As := [.int v38]) (st := []) (B' := b_X11_endText) (u' := 1) (w' := 3) dX11_shore_41 ml_X11_169 mv_X11_endText (fun v9 M9 e9 => c_X11_endText e9) rfl (by decide) rfl rfl (by decide) (by decide) (by decide) rfl h (fun v41 M41 h => ?_)
    refine wt_if_ne (pc := 44) (tgt := 54) dX11_shore_44 (by decide) (fun q => ?_) (fun q => ?_)
    · have h := ite_f q h
      refine wt_aload_n (pc := 54) 0 dX11_shore_54 rfl ?_
      refine wt_getR (pc := 55) dX11_shore_55 fl_X11_37 (fun _ _ _ => rfl) h (fun v55 h => ?_)
      refine wt_astore_n (pc := 58) (i := 2) (ls' := [(2, rf G.1 v55), (0, rf G.1 l0), (1, .int l1)]) rfl dX11_shore_58 (by decide) rfl ?_
      refine wt_aload_n (pc := 59) 1 dX11_shore_59 rfl ?_
      refine wt_aload_n (pc := 60) 1 dX11_shore_60 rfl ?_
      refine wt_getR (pc := 61) dX11_shore_61 fl_X11_41 (fun _ _ _ => rfl) h (fun v61 h => ?_)
      refine wt_putR (pc := 64) dX11_shore_64 fl_X11_37 rfl rfl h (fun M64 h => ?_)
      refine wt_aload_n (pc := 67) 1 dX11_shore_67 rfl ?_
      refine wt_aload_n (pc := 68) 0 dX11_shore_68 rfl ?_
      refine wt_putR (pc := 69) dX11_shore_69 fl_X11_41 rfl rfl h (fun M69 h => ?_)
      refine wt_aload_n (pc := 72) 1 dX11_shore_72 rfl ?_
      refine wt_getR (pc := 73) dX11_shore_73 fl_X11_47 (fun _ _ _ => rfl) h (fun v73 h => ?_)
      refine wt_cVV (pc := 76) (J' := j_X9_clear) (As := []) (st := []) (B' := b_X9_clear) (u' := 1) (w' := 3) dX11_shore_76 ml_X11_173 mv_X9_clear (fun M9 e9 => c_X9_clear e9) rfl (by decide) rfl rfl (by decide) (by decide) (by decide) rfl h (fun M76 h => ?_)
      refine wt_aload_n (pc := 79) 1 dX11_shore_79 rfl ?_
      refine wt_aload_n (pc := 80) 1 dX11_shore_80 rfl ?_
      refine wt_getR (pc := 81) dX11_shore_81 fl_X11_37 (fun _ _ _ => rfl) h (fun v81 h => ?_)
      refine wt_getI (pc := 84) dX11_shore_84 fl_X11_102 (fun _ _ _ => rfl) h (fun v84 h => ?_)
      refine wt_cVI (pc := 87) (J' := j_X11_answer) (As := [.int v84]) (st := []) (B' := b_X11_answer) (u' := 1) (w' := 3) dX11_shore_87 ml_X11_176 mv_X11_answer (fun v9 M9 e9 => c_X11_answer e9) rfl (by decide) rfl rfl (by decide) (by decide) (by decide) rfl h (fun v87 M87 h => ?_)
      cases h
      exact he 90 _ _ _ dX11_shore_90 (by decide) (by decide)
    · have h := ite_t q h
      refine wt_aload_n (pc := 47) 0 dX11_shore_47 rfl ?_
      refine wt_bipush (pc := 48) (v := 10) dX11_shore_48 (by decide) ?_
      refine wt_cVI (pc := 50) (J' := j_X11_none) (As := [.int 10]) (st := []) (B' := b_X11_none) (u' := 1) (w' := 3) dX11_shore_50 ml_X11_131 mv_X11_none (fun v9 M9 e9 => c_X11_none e9) rfl (by decide) rfl rfl (by decide) (by decide) (by decide) rfl h (fun v50 M50 h => ?_)
      cases h
      exact he 53 _ _ _ dX11_shore_53 (by decide) (by decide)
  · have h := ite_t q h
    refine wt_aload_n (pc := 15) 0 dX11_shore_15 rfl ?_
    refine wt_iconst (pc := 16) (v := 5) dX11_shore_16 (by decide) ?_
    refine wt_cVI (pc := 17) (J' := j_X11_none) (As := [.int 5]) (st := []) (B' := b_X11_none) (u' := 0) (w' := 0) dX11_shore_17 ml_X11_131 mv_X11_none (fun v9 M9 e9 => c_X11_none e9) rfl (by decide) rfl rfl (by decide) (by decide) (by decide) rfl h (fun v17 M17 h => ?_)
    cases h
    exact he 20 _ _ _ dX11_shore_20 (by decide) (by decide)
set_option maxHeartbeats 4000000 in
set_option maxRecDepth 100000 in
theorem c_X11_shore {G : GG} {M : Mm} {l0 : Option Nat} {l1 : Int32} {r : Int32 × Mm} (h : f_X11_shore M l0 l1 = some r) (l : Launch) : Ct l G j_X11_shore b_X11_shore [rf G.1 l0, .int l1] M (some (.int r.1)) r.2 := cf_I (by decide +kernel) (by simp [lg_sl, rf_cat, cat_i, cat_l, j_X11_shore]) rfl (by simp [lv_args, rf_cat, cat_i, cat_l]) (fun X he => t_X11_shore_e he h)
def f_X11_years (M : Mm) (l0 : Option Nat) (l1 : Int32) : Option (Int32 × Mm) := gfR M l0 11 5 fun v3 => gfI M v3 6 1 fun v6 => bd (f_X11_within M l1 0 (mnI v6 300)) fun v15 M15 => if v15 = 0 then (ck M15 l0 11 <| bd (f_X11_none M15 l0 5) fun v23 M23 => some (v23, M23)) else (nwc M15 10 5 fun q28 M28 => gfR M28 l0 11 5 fun v33 => gfR M28 l0 11 7 fun v37 => gfR M28 l0 11 10 fun v41 => nz q28 <| bv (f_X10_init M28 q28 v33 v37 v41) fun M44 => ck M44 q28 10 <| bd (f_X10_readAll M44 q28 l1) fun v48 M48 => ck M48 l0 11 <| bd (f_X11_endText M48 l0 v48) fun v51 M51 => if v51 = 0 then (ck M51 l0 11 <| bd (f_X11_none M51 l0 10) fun v60 M60 => some (v60, M60)) else (gfR M51 l0 11 9 fun v65 => gfR M51 l0 11 10 fun v71 => pfR M51 l0 11 9 v71 fun M74 => pfR M74 l0 11 10 v65 fun M79 => gfR M79 l0 11 9 fun v84 => gfI M79 v84 9 1 fun v87 => ck M79 l0 11 <| bd (f_X11_answer M79 l0 v87) fun v90 M90 => some (v90, M90)))
set_option maxHeartbeats 4000000 in
set_option maxRecDepth 100000 in
theorem t_X11_years_e {G : GG} {X : CX} {ans : Int32 × Mm} (he : EndI G X j_X11_years b_X11_years ans) {M : Mm} {l0 : Option Nat} {l1 : Int32} (h : f_X11_years M l0 l1 = some ans) : Wt G X j_X11_years b_X11_years 0 [(0, rf G.1 l0), (1, .int l1)] [] M 0 0 := by
  unfold f_X11_years at h
  refine wt_iload_n (pc := 0) 1 dX11_years_0 rfl ?_
  refine wt_iconst (pc := 1) (v := 0) dX11_years_1 (by decide) ?_
  refine wt_aload_n (pc := 2) 0 dX11_years_2 rfl ?_
  refine wt_getR (pc := 3) dX11_years_3 fl_X11_23 (fun _ _ _ => rfl) h (fun v3 h => ?_)
  refine wt_getI (pc := 6) dX11_years_6 fl_X11_155 (fun _ _ _ => rfl) h (fun v6 h => ?_)
  refine wt_sipush (pc := 9) (v := 300) dX11_years_9 (by decide) ?_
  refine wt_mmin (pc := 12) dX11_years_12 bi_X11_179 mw_min.1 mw_min.2.1 mw_min.2.2 (by decide) (by decide) (by decide) (by simp [rf_cat, cat_i, cat_l, cat_r]) ?_
  refine wt_cSI (pc := 15) (J' := j_X11_within) (As := [.int l1, .int 0, .int (mnI v6 300)]) (st := []) (B' := b_X11_within) (u' := 0) (w' := 0) dX11_years_15 ml_X11_105 ms_X11_within (fun v9 M9 e9 => c_X11_within e9) rfl (by decide) rfl rfl (by decide) (by decide) (by decide) rfl h (fun v15 M15 h => ?_)
  refine wt_if_ne (pc := 18) (tgt := 27) dX11_years_18 (by decide) (fun q => ?_) (fun q => ?_)
  · have h := ite_f q h
    refine wt_aload_n (pc := 27) 0 dX11_years_27 rfl ?_
    refine wt_new (pc := 28) (n := 5) dX11_years_28 cl_X11_183 rfl (by decide) (by decide) h (fun q28 M28 h => ?_)
    refine wt_dup (pc := 31) dX11_years_31 (rf_cat _ _) ?_
    refine wt_aload_n (pc := 32) 0 dX11_years_32 rfl ?_
    refine wt_getR (pc := 33) dX11_years_33 fl_X11_23 (fun _ _ _ => rfl) h (fun v33 h => ?_)
    refine wt_aload_n (pc := 36) 0 dX11_years_36 rfl ?_
    refine wt_getR (pc := 37) dX11_years_37 fl_X11_37 (fun _ _ _ => rfl) h (fun v37 h => ?_)
    refine wt_aload_n (pc := 40) 0 dX11_years_40 rfl ?_
    refine wt_getR (pc := 41) dX11_years_41 fl_X11_51 (fun _ _ _ => rfl) h (fun v41 h => ?_)
    refine wt_cI (pc := 44) (J' := j_X10_init) (As := [rf G.1 v33, rf G.1 v37, rf G.1 v41]) (st := [rf G.1 q28, rf G.1 l0]) (B' := b_X10_init) (u' := 2) (w' := 8) dX11_years_44 ml_X11_185 mi_X10_init (fun M9 e9 => c_X10_init e9) rfl (by decide) rfl rfl (by decide) (by decide) (by simp [rf_cat, cat_i, cat_l, cat_r]) rfl h (fun M44 h => ?_)
    refine wt_iload_n (pc := 47) 1 dX11_years_47 rfl ?_
    refine wt_cVI (pc := 48) (J' := j_X10_readAll) (As := [.int l1]) (st := [rf G.1 l0]) (B' := b_X10_readAll) (u' := 2) (w' := 8) dX11_years_48 ml_X11_188 mv_X10_readAll (fun v9 M9 e9 => c_X10_readAll e9) rfl (by decide) rfl rfl (by decide) (by decide) (by simp [rf_cat, cat_i, cat_l, cat_r]) rfl h (fun v48 M48 h => ?_)
    refine wt_cVI (pc := 51) (J' := j_X11_endText) (As := [.int v48]) (st := []) (B' := b_X11_endText) (u' := 2) (w' := 8) dX11_years_51 ml_X11_169 mv_X11_endText (fun v9 M9 e9 => c_X11_endText e9) rfl (by decide) rfl rfl (by decide) (by decide) (by decide) rfl h (fun v51 M51 h => ?_)
    refine wt_if_ne (pc := 54) (tgt := 64) dX11_years_54 (by decide) (fun q => ?_) (fun q => ?_)
    · have h := ite_f q h
      refine wt_aload_n (pc := 64) 0 dX11_years_64 rfl ?_
      refine wt_getR (pc := 65) dX11_years_65 fl_X11_47 (fun _ _ _ => rfl) h (fun v65 h => ?_)
      refine wt_astore_n (pc := 68) (i := 2) (ls' := [(2, rf G.1 v65), (0, rf G.1 l0), (1, .int l1)]) rfl dX11_years_68 (by decide) rfl ?_
      refine wt_aload_n (pc := 69) 1 dX11_years_69 rfl ?_
      refine wt_aload_n (pc := 70) 1 dX11_years_70 rfl ?_
      refine wt_getR (pc := 71) dX11_years_71 fl_X11_51 (fun _ _ _ => rfl) h (fun v71 h => ?_)
      refine wt_putR (pc := 74) dX11_years_74 fl_X11_47 rfl rfl h (fun M74 h => ?_)
      refine wt_aload_n (pc := 77) 1 dX11_years_77 rfl ?_
      refine wt_aload_n (pc := 78) 0 dX11_years_78 rfl ?_
      refine wt_putR (pc := 79) dX11_years_79 fl_X11_51 rfl rfl h (fun M79 h => ?_)
      refine wt_aload_n (pc := 82) 1 dX11_years_82 rfl ?_
      refine wt_aload_n (pc := 83) 1 dX11_years_83 rfl ?_
      refine wt_getR (pc := 84) dX11_years_84 fl_X11_47 (fun _ _ _ => rfl) h (fun v84 h => ?_)
      refine wt_getI (pc := 87) dX11_years_87 fl_X11_189 (fun _ _ _ => rfl) h (fun v87 h => ?_)
      refine wt_cVI (pc := 90) (J' := j_X11_answer) (As := [.int v87]) (st := []) (B' := b_X11_answer) (u' := 2) (w' := 8) dX11_years_90 ml_X11_176 mv_X11_answer (fun v9 M9 e9 => c_X11_answer e9) rfl (by decide) rfl rfl (by decide) (by decide) (by decide) rfl h (fun v90 M90 h => ?_)
      cases h
      exact he 93 _ _ _ dX11_years_93 (by decide) (by decide)
    · have h := ite_t q h
      refine wt_aload_n (pc := 57) 0 dX11_years_57 rfl ?_
      refine wt_bipush (pc := 58) (v := 10) dX11_years_58 (by decide) ?_
      refine wt_cVI (pc := 60) (J' := j_X11_none) (As := [.int 10]) (st := []) (B' := b_X11_none) (u' := 2) (w' := 8) dX11_years_60 ml_X11_131 mv_X11_none (fun v9 M9 e9 => c_X11_none e9) rfl (by decide) rfl rfl (by decide) (by decide) (by decide) rfl h (fun v60 M60 h => ?_)
      cases h
      exact he 63 _ _ _ dX11_years_63 (by decide) (by decide)
  · have h := ite_t q h
    refine wt_aload_n (pc := 21) 0 dX11_years_21 rfl ?_
    refine wt_iconst (pc := 22) (v := 5) dX11_years_22 (by decide) ?_
    refine wt_cVI (pc := 23) (J' := j_X11_none) (As := [.int 5]) (st := []) (B' := b_X11_none) (u' := 0) (w' := 0) dX11_years_23 ml_X11_131 mv_X11_none (fun v9 M9 e9 => c_X11_none e9) rfl (by decide) rfl rfl (by decide) (by decide) (by decide) rfl h (fun v23 M23 h => ?_)
    cases h
    exact he 26 _ _ _ dX11_years_26 (by decide) (by decide)
set_option maxHeartbeats 4000000 in
set_option maxRecDepth 100000 in
theorem c_X11_years {G : GG} {M : Mm} {l0 : Option Nat} {l1 : Int32} {r : Int32 × Mm} (h : f_X11_years M l0 l1 = some r) (l : Launch) : Ct l G j_X11_years b_X11_years [rf G.1 l0, .int l1] M (some (.int r.1)) r.2 := cf_I (by decide +kernel) (by simp [lg_sl, rf_cat, cat_i, cat_l, j_X11_years]) rfl (by simp [lv_args, rf_cat, cat_i, cat_l]) (fun X he => t_X11_years_e he h)
def f_X11_fault (M : Mm) (l0 : Option Nat) (l1 : Int32) : Option (Int32 × Mm) := if l1 = 0 then (gfI M l0 11 3 fun v5 => some (v5, M)) else (if l1 = 1 then (gfI M l0 11 4 fun v15 => some (v15, M)) else (some ((-1), M)))
set_option maxHeartbeats 4000000 in
set_option maxRecDepth 100000 in
theorem t_X11_fault_e {G : GG} {X : CX} {ans : Int32 × Mm} (he : EndI G X j_X11_fault b_X11_fault ans) {M : Mm} {l0 : Option Nat} {l1 : Int32} (h : f_X11_fault M l0 l1 = some ans) : Wt G X j_X11_fault b_X11_fault 0 [(0, rf G.1 l0), (1, .int l1)] [] M 0 0 := by
  unfold f_X11_fault at h
  refine wt_iload_n (pc := 0) 1 dX11_fault_0 rfl ?_
  refine wt_if_ne (pc := 1) (tgt := 9) dX11_fault_1 (by decide) (fun q => ?_) (fun q => ?_)
  · have h := ite_f q h
    refine wt_iload_n (pc := 9) 1 dX11_fault_9 rfl ?_
    refine wt_iconst (pc := 10) (v := 1) dX11_fault_10 (by decide) ?_
    refine wt_icmp_ne (pc := 11) (tgt := 21) dX11_fault_11 (by decide) (fun q => ?_) (fun q => ?_)
    · have h := ite_f q h
      refine wt_iconst (pc := 21) (v := (-1)) dX11_fault_21 (by decide) ?_
      cases h
      exact he 22 _ _ _ dX11_fault_22 (by decide) (by decide)
    · have h := ite_t q h
      refine wt_aload_n (pc := 14) 0 dX11_fault_14 rfl ?_
      refine wt_getI (pc := 15) dX11_fault_15 fl_X11_17 (fun _ _ _ => rfl) h (fun v15 h => ?_)
      refine wt_goto (pc := 18) (tgt := 22) dX11_fault_18 (by decide) ?_
      cases h
      exact he 22 _ _ _ dX11_fault_22 (by decide) (by decide)
  · have h := ite_t q h
    refine wt_aload_n (pc := 4) 0 dX11_fault_4 rfl ?_
    refine wt_getI (pc := 5) dX11_fault_5 fl_X11_13 (fun _ _ _ => rfl) h (fun v5 h => ?_)
    cases h
    exact he 8 _ _ _ dX11_fault_8 (by decide) (by decide)
set_option maxHeartbeats 4000000 in
set_option maxRecDepth 100000 in
theorem c_X11_fault {G : GG} {M : Mm} {l0 : Option Nat} {l1 : Int32} {r : Int32 × Mm} (h : f_X11_fault M l0 l1 = some r) (l : Launch) : Ct l G j_X11_fault b_X11_fault [rf G.1 l0, .int l1] M (some (.int r.1)) r.2 := cf_I (by decide +kernel) (by simp [lg_sl, rf_cat, cat_i, cat_l, j_X11_fault]) rfl (by simp [lv_args, rf_cat, cat_i, cat_l]) (fun X he => t_X11_fault_e he h)
def f_X11_many (M : Mm) (l0 : Option Nat) (l1 : Int32) : Option (Int32 × Mm) := if l1 = 0 then (gfR M l0 11 7 fun v58 => gfI M v58 4 3 fun v61 => ck M l0 11 <| bd (f_X11_answer M l0 v61) fun v64 M64 => some (v64, M64)) else if l1 = 1 then (gfR M l0 11 7 fun v70 => gfI M v70 4 4 fun v73 => ck M l0 11 <| bd (f_X11_answer M l0 v73) fun v76 M76 => some (v76, M76)) else if l1 = 2 then (gfR M l0 11 7 fun v82 => gfI M v82 4 5 fun v85 => ck M l0 11 <| bd (f_X11_answer M l0 v85) fun v88 M88 => some (v88, M88)) else if l1 = 3 then (gfR M l0 11 7 fun v94 => gfI M v94 4 7 fun v97 => ck M l0 11 <| bd (f_X11_answer M l0 v97) fun v100 M100 => some (v100, M100)) else if l1 = 4 then (gfR M l0 11 7 fun v106 => gfI M v106 4 8 fun v109 => ck M l0 11 <| bd (f_X11_answer M l0 v109) fun v112 M112 => some (v112, M112)) else if l1 = 5 then (gfR M l0 11 7 fun v118 => ck M v118 4 <| bd (f_X4_standingSet M v118) fun v121 M121 => ck M121 l0 11 <| bd (f_X11_answer M121 l0 v121) fun v124 M124 => some (v124, M124)) else if l1 = 6 then (gfR M l0 11 7 fun v130 => ck M v130 4 <| bd (f_X4_offSet M v130) fun v133 M133 => ck M133 l0 11 <| bd (f_X11_answer M133 l0 v133) fun v136 M136 => some (v136, M136)) else if l1 = 7 then (gfR M l0 11 7 fun v142 => gfR M l0 11 7 fun v146 => ck M v146 4 <| bd (f_X4_standingSet M v146) fun v149 M149 => ck M149 v142 4 <| bd (f_X4_worthOf M149 v142 v149) fun v152 M152 => ck M152 l0 11 <| bd (f_X11_answer M152 l0 v152) fun v155 M155 => some (v155, M155)) else if l1 = 8 then (gfR M l0 11 7 fun v161 => gfR M l0 11 7 fun v165 => ck M v165 4 <| bd (f_X4_standingSet M v165) fun v168 M168 => ck M168 v161 4 <| bd (f_X4_worthOf M168 v161 (v168 ^^^ (-1))) fun v173 M173 => ck M173 l0 11 <| bd (f_X11_answer M173 l0 v173) fun v176 M176 => some (v176, M176)) else if l1 = 9 then (gfR M l0 11 7 fun v182 => ck M v182 4 <| bd (f_X4_allChances M v182) fun v185 M185 => ck M185 l0 11 <| bd (f_X11_answer M185 l0 v185) fun v188 M188 => some (v188, M188)) else (ck M l0 11 <| bd (f_X11_none M l0 5) fun v194 M194 => some (v194, M194))
set_option maxHeartbeats 4000000 in
set_option maxRecDepth 100000 in
theorem t_X11_many_e {G : GG} {X : CX} {ans : Int32 × Mm} (he : EndI G X j_X11_many b_X11_many ans) {M : Mm} {l0 : Option Nat} {l1 : Int32} (h : f_X11_many M l0 l1 = some ans) : Wt G X j_X11_many b_X11_many 0 [(0, rf G.1 l0), (1, .int l1)] [] M 0 0 := by
  unfold f_X11_many at h
  refine wt_iload_n (pc := 0) 1 dX11_many_0 rfl ?_
  rcases Decidable.em (l1 = 0) with q1_0 | q1_0
  · have h := ite_t q1_0 h
    refine wt_tableIn (pc := 1) (off := 55) (tgt := 56) q1_0 dX11_many_1 (by decide) (by decide) (by decide) (by decide) ?_
    refine wt_aload_n (pc := 56) 0 dX11_many_56 rfl ?_
    refine wt_aload_n (pc := 57) 0 dX11_many_57 rfl ?_
    refine wt_getR (pc := 58) dX11_many_58 fl_X11_37 (fun _ _ _ => rfl) h (fun v58 h => ?_)
    refine wt_getI (pc := 61) dX11_many_61 fl_X11_102 (fun _ _ _ => rfl) h (fun v61 h => ?_)
    refine wt_cVI (pc := 64) (J' := j_X11_answer) (As := [.int v61]) (st := []) (B' := b_X11_answer) (u' := 0) (w' := 0) dX11_many_64 ml_X11_176 mv_X11_answer (fun v9 M9 e9 => c_X11_answer e9) rfl (by decide) rfl rfl (by decide) (by decide) (by decide) rfl h (fun v64 M64 h => ?_)
    cases h
    exact he 67 _ _ _ dX11_many_67 (by decide) (by decide)
  have h := ite_f q1_0 h
  rcases Decidable.em (l1 = 1) with q1_1 | q1_1
  · have h := ite_t q1_1 h
    refine wt_tableIn (pc := 1) (off := 67) (tgt := 68) q1_1 dX11_many_1 (by decide) (by decide) (by decide) (by decide) ?_
    refine wt_aload_n (pc := 68) 0 dX11_many_68 rfl ?_
    refine wt_aload_n (pc := 69) 0 dX11_many_69 rfl ?_
    refine wt_getR (pc := 70) dX11_many_70 fl_X11_37 (fun _ _ _ => rfl) h (fun v70 h => ?_)
    refine wt_getI (pc := 73) dX11_many_73 fl_X11_109 (fun _ _ _ => rfl) h (fun v73 h => ?_)
    refine wt_cVI (pc := 76) (J' := j_X11_answer) (As := [.int v73]) (st := []) (B' := b_X11_answer) (u' := 0) (w' := 0) dX11_many_76 ml_X11_176 mv_X11_answer (fun v9 M9 e9 => c_X11_answer e9) rfl (by decide) rfl rfl (by decide) (by decide) (by decide) rfl h (fun v76 M76 h => ?_)
    cases h
    exact he 79 _ _ _ dX11_many_79 (by decide) (by decide)
  have h := ite_f q1_1 h
  rcases Decidable.em (l1 = 2) with q1_2 | q1_2
  · have h := ite_t q1_2 h
    refine wt_tableIn (pc := 1) (off := 79) (tgt := 80) q1_2 dX11_many_1 (by decide) (by decide) (by decide) (by decide) ?_
    refine wt_aload_n (pc := 80) 0 dX11_many_80 rfl ?_
    refine wt_aload_n (pc := 81) 0 dX11_many_81 rfl ?_
    refine wt_getR (pc := 82) dX11_many_82 fl_X11_37 (fun _ _ _ => rfl) h (fun v82 h => ?_)
    refine wt_getI (pc := 85) dX11_many_85 fl_X11_194 (fun _ _ _ => rfl) h (fun v85 h => ?_)
    refine wt_cVI (pc := 88) (J' := j_X11_answer) (As := [.int v85]) (st := []) (B' := b_X11_answer) (u' := 0) (w' := 0) dX11_many_88 ml_X11_176 mv_X11_answer (fun v9 M9 e9 => c_X11_answer e9) rfl (by decide) rfl rfl (by decide) (by decide) (by decide) rfl h (fun v88 M88 h => ?_)
    cases h
    exact he 91 _ _ _ dX11_many_91 (by decide) (by decide)
  have h := ite_f q1_2 h
  rcases Decidable.em (l1 = 3) with q1_3 | q1_3
  · have h := ite_t q1_3 h
    refine wt_tableIn (pc := 1) (off := 91) (tgt := 92) q1_3 dX11_many_1 (by decide) (by decide) (by decide) (by decide) ?_
    refine wt_aload_n (pc := 92) 0 dX11_many_92 rfl ?_
    refine wt_aload_n (pc := 93) 0 dX11_many_93 rfl ?_
    refine wt_getR (pc := 94) dX11_many_94 fl_X11_37 (fun _ _ _ => rfl) h (fun v94 h => ?_)
    refine wt_getI (pc := 97) dX11_many_97 fl_X11_197 (fun _ _ _ => rfl) h (fun v97 h => ?_)
    refine wt_cVI (pc := 100) (J' := j_X11_answer) (As := [.int v97]) (st := []) (B' := b_X11_answer) (u' := 0) (w' := 0) dX11_many_100 ml_X11_176 mv_X11_answer (fun v9 M9 e9 => c_X11_answer e9) rfl (by decide) rfl rfl (by decide) (by decide) (by decide) rfl h (fun v100 M100 h => ?_)
    cases h
    exact he 103 _ _ _ dX11_many_103 (by decide) (by decide)
  have h := ite_f q1_3 h
  rcases Decidable.em (l1 = 4) with q1_4 | q1_4
  · have h := ite_t q1_4 h
    refine wt_tableIn (pc := 1) (off := 103) (tgt := 104) q1_4 dX11_many_1 (by decide) (by decide) (by decide) (by decide) ?_
    refine wt_aload_n (pc := 104) 0 dX11_many_104 rfl ?_
    refine wt_aload_n (pc := 105) 0 dX11_many_105 rfl ?_
    refine wt_getR (pc := 106) dX11_many_106 fl_X11_37 (fun _ _ _ => rfl) h (fun v106 h => ?_)
    refine wt_getI (pc := 109) dX11_many_109 fl_X11_200 (fun _ _ _ => rfl) h (fun v109 h => ?_)
    refine wt_cVI (pc := 112) (J' := j_X11_answer) (As := [.int v109]) (st := []) (B' := b_X11_answer) (u' := 0) (w' := 0) dX11_many_112 ml_X11_176 mv_X11_answer (fun v9 M9 e9 => c_X11_answer e9) rfl (by decide) rfl rfl (by decide) (by decide) (by decide) rfl h (fun v112 M112 h => ?_)
    cases h
    exact he 115 _ _ _ dX11_many_115 (by decide) (by decide)
  have h := ite_f q1_4 h
  rcases Decidable.em (l1 = 5) with q1_5 | q1_5
  · have h := ite_t q1_5 h
    refine wt_tableIn (pc := 1) (off := 115) (tgt := 116) q1_5 dX11_many_1 (by decide) (by decide) (by decide) (by decide) ?_
    refine wt_aload_n (pc := 116) 0 dX11_many_116 rfl ?_
    refine wt_aload_n (pc := 117) 0 dX11_many_117 rfl ?_
    refine wt_getR (pc := 118) dX11_many_118 fl_X11_37 (fun _ _ _ => rfl) h (fun v118 h => ?_)
    refine wt_cVI (pc := 121) (J' := j_X4_standingSet) (As := []) (st := [rf G.1 l0]) (B' := b_X4_standingSet) (u' := 0) (w' := 0) dX11_many_121 ml_X11_203 mv_X4_standingSet (fun v9 M9 e9 => c_X4_standingSet e9) rfl (by decide) rfl rfl (by decide) (by decide) (by simp [rf_cat, cat_i, cat_l, cat_r]) rfl h (fun v121 M121 h => ?_)
    refine wt_cVI (pc := 124) (J' := j_X11_answer) (As := [.int v121]) (st := []) (B' := b_X11_answer) (u' := 0) (w' := 0) dX11_many_124 ml_X11_176 mv_X11_answer (fun v9 M9 e9 => c_X11_answer e9) rfl (by decide) rfl rfl (by decide) (by decide) (by decide) rfl h (fun v124 M124 h => ?_)
    cases h
    exact he 127 _ _ _ dX11_many_127 (by decide) (by decide)
  have h := ite_f q1_5 h
  rcases Decidable.em (l1 = 6) with q1_6 | q1_6
  · have h := ite_t q1_6 h
    refine wt_tableIn (pc := 1) (off := 127) (tgt := 128) q1_6 dX11_many_1 (by decide) (by decide) (by decide) (by decide) ?_
    refine wt_aload_n (pc := 128) 0 dX11_many_128 rfl ?_
    refine wt_aload_n (pc := 129) 0 dX11_many_129 rfl ?_
    refine wt_getR (pc := 130) dX11_many_130 fl_X11_37 (fun _ _ _ => rfl) h (fun v130 h => ?_)
    refine wt_cVI (pc := 133) (J' := j_X4_offSet) (As := []) (st := [rf G.1 l0]) (B' := b_X4_offSet) (u' := 0) (w' := 0) dX11_many_133 ml_X11_207 mv_X4_offSet (fun v9 M9 e9 => c_X4_offSet e9) rfl (by decide) rfl rfl (by decide) (by decide) (by simp [rf_cat, cat_i, cat_l, cat_r]) rfl h (fun v133 M133 h => ?_)
    refine wt_cVI (pc := 136) (J' := j_X11_answer) (As := [.int v133]) (st := []) (B' := b_X11_answer) (u' := 0) (w' := 0) dX11_many_136 ml_X11_176 mv_X11_answer (fun v9 M9 e9 => c_X11_answer e9) rfl (by decide) rfl rfl (by decide) (by decide) (by decide) rfl h (fun v136 M136 h => ?_)
    cases h
    exact he 139 _ _ _ dX11_many_139 (by decide) (by decide)
  have h := ite_f q1_6 h
  rcases Decidable.em (l1 = 7) with q1_7 | q1_7
  · have h := ite_t q1_7 h
    refine wt_tableIn (pc := 1) (off := 139) (tgt := 140) q1_7 dX11_many_1 (by decide) (by decide) (by decide) (by decide) ?_
    refine wt_aload_n (pc := 140) 0 dX11_many_140 rfl ?_
    refine wt_aload_n (pc := 141) 0 dX11_many_141 rfl ?_
    refine wt_getR (pc := 142) dX11_many_142 fl_X11_37 (fun _ _ _ => rfl) h (fun v142 h => ?_)
    refine wt_aload_n (pc := 145) 0 dX11_many_145 rfl ?_
    refine wt_getR (pc := 146) dX11_many_146 fl_X11_37 (fun _ _ _ => rfl) h (fun v146 h => ?_)
    refine wt_cVI (pc := 149) (J' := j_X4_standingSet) (As := []) (st := [rf G.1 v142, rf G.1 l0]) (B' := b_X4_standingSet) (u' := 0) (w' := 0) dX11_many_149 ml_X11_203 mv_X4_standingSet (fun v9 M9 e9 => c_X4_standingSet e9) rfl (by decide) rfl rfl (by decide) (by decide) (by simp [rf_cat, cat_i, cat_l, cat_r]) rfl h (fun v149 M149 h => ?_)
    refine wt_cVI (pc := 152) (J' := j_X4_worthOf) (As := [.int v149]) (st := [rf G.1 l0]) (B' := b_X4_worthOf) (u' := 0) (w' := 0) dX11_many_152 ml_X11_210 mv_X4_worthOf (fun v9 M9 e9 => c_X4_worthOf e9) rfl (by decide) rfl rfl (by decide) (by decide) (by simp [rf_cat, cat_i, cat_l, cat_r]) rfl h (fun v152 M152 h => ?_)
    refine wt_cVI (pc := 155) (J' := j_X11_answer) (As := [.int v152]) (st := []) (B' := b_X11_answer) (u' := 0) (w' := 0) dX11_many_155 ml_X11_176 mv_X11_answer (fun v9 M9 e9 => c_X11_answer e9) rfl (by decide) rfl rfl (by decide) (by decide) (by decide) rfl h (fun v155 M155 h => ?_)
    cases h
    exact he 158 _ _ _ dX11_many_158 (by decide) (by decide)
  have h := ite_f q1_7 h
  rcases Decidable.em (l1 = 8) with q1_8 | q1_8
  · have h := ite_t q1_8 h
    refine wt_tableIn (pc := 1) (off := 158) (tgt := 159) q1_8 dX11_many_1 (by decide) (by decide) (by decide) (by decide) ?_
    refine wt_aload_n (pc := 159) 0 dX11_many_159 rfl ?_
    refine wt_aload_n (pc := 160) 0 dX11_many_160 rfl ?_
    refine wt_getR (pc := 161) dX11_many_161 fl_X11_37 (fun _ _ _ => rfl) h (fun v161 h => ?_)
    refine wt_aload_n (pc := 164) 0 dX11_many_164 rfl ?_
    refine wt_getR (pc := 165) dX11_many_165 fl_X11_37 (fun _ _ _ => rfl) h (fun v165 h => ?_)
    refine wt_cVI (pc := 168) (J' := j_X4_standingSet) (As := []) (st := [rf G.1 v161, rf G.1 l0]) (B' := b_X4_standingSet) (u' := 0) (w' := 0) dX11_many_168 ml_X11_203 mv_X4_standingSet (fun v9 M9 e9 => c_X4_standingSet e9) rfl (by decide) rfl rfl (by decide) (by decide) (by simp [rf_cat, cat_i, cat_l, cat_r]) rfl h (fun v168 M168 h => ?_)
    refine wt_iconst (pc := 171) (v := (-1)) dX11_many_171 (by decide) ?_
    refine wt_ixor (pc := 172) dX11_many_172 ?_
    refine wt_cVI (pc := 173) (J' := j_X4_worthOf) (As := [.int (v168 ^^^ (-1))]) (st := [rf G.1 l0]) (B' := b_X4_worthOf) (u' := 0) (w' := 0) dX11_many_173 ml_X11_210 mv_X4_worthOf (fun v9 M9 e9 => c_X4_worthOf e9) rfl (by decide) rfl rfl (by decide) (by decide) (by simp [rf_cat, cat_i, cat_l, cat_r]) rfl h (fun v173 M173 h => ?_)
    refine wt_cVI (pc := 176) (J' := j_X11_answer) (As := [.int v173]) (st := []) (B' := b_X11_answer) (u' := 0) (w' := 0) dX11_many_176 ml_X11_176 mv_X11_answer (fun v9 M9 e9 => c_X11_answer e9) rfl (by decide) rfl rfl (by decide) (by decide) (by decide) rfl h (fun v176 M176 h => ?_)
    cases h
    exact he 179 _ _ _ dX11_many_179 (by decide) (by decide)
  have h := ite_f q1_8 h
  rcases Decidable.em (l1 = 9) with q1_9 | q1_9
  · have h := ite_t q1_9 h
    refine wt_tableIn (pc := 1) (off := 179) (tgt := 180) q1_9 dX11_many_1 (by decide) (by decide) (by decide) (by decide) ?_
    refine wt_aload_n (pc := 180) 0 dX11_many_180 rfl ?_
    refine wt_aload_n (pc := 181) 0 dX11_many_181 rfl ?_
    refine wt_getR (pc := 182) dX11_many_182 fl_X11_37 (fun _ _ _ => rfl) h (fun v182 h => ?_)
    refine wt_cVI (pc := 185) (J' := j_X4_allChances) (As := []) (st := [rf G.1 l0]) (B' := b_X4_allChances) (u' := 0) (w' := 0) dX11_many_185 ml_X11_213 mv_X4_allChances (fun v9 M9 e9 => c_X4_allChances e9) rfl (by decide) rfl rfl (by decide) (by decide) (by simp [rf_cat, cat_i, cat_l, cat_r]) rfl h (fun v185 M185 h => ?_)
    refine wt_cVI (pc := 188) (J' := j_X11_answer) (As := [.int v185]) (st := []) (B' := b_X11_answer) (u' := 0) (w' := 0) dX11_many_188 ml_X11_176 mv_X11_answer (fun v9 M9 e9 => c_X11_answer e9) rfl (by decide) rfl rfl (by decide) (by decide) (by decide) rfl h (fun v188 M188 h => ?_)
    cases h
    exact he 191 _ _ _ dX11_many_191 (by decide) (by decide)
  have h := ite_f q1_9 h
  refine wt_tableOut (pc := 1) (tgt := 192) dX11_many_1 (by have h9 := ts_out (x := l1) 0 10 (fun i hi => by match i, hi with | 0, _ => exact ts_ne (by decide) q1_0 | 1, _ => exact ts_ne (by decide) q1_1 | 2, _ => exact ts_ne (by decide) q1_2 | 3, _ => exact ts_ne (by decide) q1_3 | 4, _ => exact ts_ne (by decide) q1_4 | 5, _ => exact ts_ne (by decide) q1_5 | 6, _ => exact ts_ne (by decide) q1_6 | 7, _ => exact ts_ne (by decide) q1_7 | 8, _ => exact ts_ne (by decide) q1_8 | 9, _ => exact ts_ne (by decide) q1_9 | i + 10, hi => omega); omega) (by decide) ?_
  refine wt_aload_n (pc := 192) 0 dX11_many_192 rfl ?_
  refine wt_iconst (pc := 193) (v := 5) dX11_many_193 (by decide) ?_
  refine wt_cVI (pc := 194) (J' := j_X11_none) (As := [.int 5]) (st := []) (B' := b_X11_none) (u' := 0) (w' := 0) dX11_many_194 ml_X11_131 mv_X11_none (fun v9 M9 e9 => c_X11_none e9) rfl (by decide) rfl rfl (by decide) (by decide) (by decide) rfl h (fun v194 M194 h => ?_)
  cases h
  exact he 197 _ _ _ dX11_many_197 (by decide) (by decide)
set_option maxHeartbeats 4000000 in
set_option maxRecDepth 100000 in
theorem c_X11_many {G : GG} {M : Mm} {l0 : Option Nat} {l1 : Int32} {r : Int32 × Mm} (h : f_X11_many M l0 l1 = some r) (l : Launch) : Ct l G j_X11_many b_X11_many [rf G.1 l0, .int l1] M (some (.int r.1)) r.2 := cf_I (by decide +kernel) (by simp [lg_sl, rf_cat, cat_i, cat_l, j_X11_many]) rfl (by simp [lv_args, rf_cat, cat_i, cat_l]) (fun X he => t_X11_many_e he h)
def f_X11_house (M : Mm) (l0 : Option Nat) (l1 : Int32) (l2 : Int32) : Option (Int32 × Mm) := ck M l0 11 <| bd (f_X11_isHouse M l0 l1) fun v2 M2 => if v2 = 0 then (ck M2 l0 11 <| bd (f_X11_none M2 l0 2) fun v10 M10 => some (v10, M10)) else (gfR M2 l0 11 7 fun v15 => gfR M2 v15 4 0 fun v18 => alR M2 v18 31 l1 fun v22 => if l2 = 0 then (gfI M2 v22 1 1 fun v78 => ck M2 l0 11 <| bd (f_X11_answer M2 l0 v78) fun v81 M81 => some (v81, M81)) else if l2 = 1 then (gfI M2 v22 1 2 fun v87 => ck M2 l0 11 <| bd (f_X11_answer M2 l0 v87) fun v90 M90 => some (v90, M90)) else if l2 = 2 then (gfI M2 v22 1 3 fun v96 => ck M2 l0 11 <| bd (f_X11_answer M2 l0 v96) fun v99 M99 => some (v99, M99)) else if l2 = 3 then (gfI M2 v22 1 4 fun v105 => ck M2 l0 11 <| bd (f_X11_answer M2 l0 v105) fun v108 M108 => some (v108, M108)) else if l2 = 4 then (gfI M2 v22 1 5 fun v114 => ck M2 l0 11 <| bd (f_X11_answer M2 l0 v114) fun v117 M117 => some (v117, M117)) else if l2 = 5 then (gfI M2 v22 1 6 fun v123 => ck M2 l0 11 <| bd (f_X11_answer M2 l0 v123) fun v126 M126 => some (v126, M126)) else if l2 = 6 then (gfI M2 v22 1 7 fun v132 => ck M2 l0 11 <| bd (f_X11_answer M2 l0 v132) fun v135 M135 => some (v135, M135)) else if l2 = 7 then (ck M2 v22 1 <| bd (f_X1_leastStrength M2 v22) fun v141 M141 => ck M141 l0 11 <| bd (f_X11_answer M141 l0 v141) fun v144 M144 => some (v144, M144)) else if l2 = 8 then (gfR M2 l0 11 7 fun v150 => ck M2 v150 4 <| bd (f_X4_dueOf M2 v150 l1) fun v154 M154 => ck M154 l0 11 <| bd (f_X11_answer M154 l0 v154) fun v157 M157 => some (v157, M157)) else (ck M2 l0 11 <| bd (f_X11_none M2 l0 5) fun v163 M163 => some (v163, M163)))
set_option maxHeartbeats 4000000 in
set_option maxRecDepth 100000 in
theorem t_X11_house_e {G : GG} {X : CX} {ans : Int32 × Mm} (he : EndI G X j_X11_house b_X11_house ans) {M : Mm} {l0 : Option Nat} {l1 : Int32} {l2 : Int32} (h : f_X11_house M l0 l1 l2 = some ans) : Wt G X j_X11_house b_X11_house 0 [(0, rf G.1 l0), (1, .int l1), (2, .int l2)] [] M 0 0 := by
  unfold f_X11_house at h
  refine wt_aload_n (pc := 0) 0 dX11_house_0 rfl ?_
  refine wt_iload_n (pc := 1) 1 dX11_house_1 rfl ?_
  refine wt_cVI (pc := 2) (J' := j_X11_isHouse) (As := [.int l1]) (st := []) (B' := b_X11_isHouse) (u' := 0) (w' := 0) dX11_house_2 ml_X11_216 mv_X11_isHouse (fun v9 M9 e9 => c_X11_isHouse e9) rfl (by decide) rfl rfl (by decide) (by decide) (by decide) rfl h (fun v2 M2 h => ?_)
  refine wt_if_ne (pc := 5) (tgt := 14) dX11_house_5 (by decide) (fun q => ?_) (fun q => ?_)
  · have h := ite_f q h
    refine wt_aload_n (pc := 14) 0 dX11_house_14 rfl ?_
    refine wt_getR (pc := 15) dX11_house_15 fl_X11_37 (fun _ _ _ => rfl) h (fun v15 h => ?_)
    refine wt_getR (pc := 18) dX11_house_18 fl_X11_219 (fun _ _ _ => rfl) h (fun v18 h => ?_)
    refine wt_iload_n (pc := 21) 1 dX11_house_21 rfl ?_
    refine wt_aaload (pc := 22) (kd := 31) dX11_house_22 rfl rfl (by decide) h (fun v22 h => ?_)
    refine wt_astore_n (pc := 23) (i := 3) (ls' := [(3, rf G.1 v22), (0, rf G.1 l0), (1, .int l1), (2, .int l2)]) rfl dX11_house_23 (by decide) rfl ?_
    refine wt_iload_n (pc := 24) 3 dX11_house_24 rfl ?_
    rcases Decidable.em (l2 = 0) with q25_0 | q25_0
    · have h := ite_t q25_0 h
      refine wt_tableIn (pc := 25) (off := 51) (tgt := 76) q25_0 dX11_house_25 (by decide) (by decide) (by decide) (by decide) ?_
      refine wt_aload_n (pc := 76) 1 dX11_house_76 rfl ?_
      refine wt_aload_n (pc := 77) 0 dX11_house_77 rfl ?_
      refine wt_getI (pc := 78) dX11_house_78 fl_X11_223 (fun _ _ _ => rfl) h (fun v78 h => ?_)
      refine wt_cVI (pc := 81) (J' := j_X11_answer) (As := [.int v78]) (st := []) (B' := b_X11_answer) (u' := 0) (w' := 0) dX11_house_81 ml_X11_176 mv_X11_answer (fun v9 M9 e9 => c_X11_answer e9) rfl (by decide) rfl rfl (by decide) (by decide) (by decide) rfl h (fun v81 M81 h => ?_)
      cases h
      exact he 84 _ _ _ dX11_house_84 (by decide) (by decide)
    have h := ite_f q25_0 h
    rcases Decidable.em (l2 = 1) with q25_1 | q25_1
    · have h := ite_t q25_1 h
      refine wt_tableIn (pc := 25) (off := 60) (tgt := 85) q25_1 dX11_house_25 (by decide) (by decide) (by decide) (by decide) ?_
      refine wt_aload_n (pc := 85) 1 dX11_house_85 rfl ?_
      refine wt_aload_n (pc := 86) 0 dX11_house_86 rfl ?_
      refine wt_getI (pc := 87) dX11_house_87 fl_X11_228 (fun _ _ _ => rfl) h (fun v87 h => ?_)
      refine wt_cVI (pc := 90) (J' := j_X11_answer) (As := [.int v87]) (st := []) (B' := b_X11_answer) (u' := 0) (w' := 0) dX11_house_90 ml_X11_176 mv_X11_answer (fun v9 M9 e9 => c_X11_answer e9) rfl (by decide) rfl rfl (by decide) (by decide) (by decide) rfl h (fun v90 M90 h => ?_)
      cases h
      exact he 93 _ _ _ dX11_house_93 (by decide) (by decide)
    have h := ite_f q25_1 h
    rcases Decidable.em (l2 = 2) with q25_2 | q25_2
    · have h := ite_t q25_2 h
      refine wt_tableIn (pc := 25) (off := 69) (tgt := 94) q25_2 dX11_house_25 (by decide) (by decide) (by decide) (by decide) ?_
      refine wt_aload_n (pc := 94) 1 dX11_house_94 rfl ?_
      refine wt_aload_n (pc := 95) 0 dX11_house_95 rfl ?_
      refine wt_getI (pc := 96) dX11_house_96 fl_X11_231 (fun _ _ _ => rfl) h (fun v96 h => ?_)
      refine wt_cVI (pc := 99) (J' := j_X11_answer) (As := [.int v96]) (st := []) (B' := b_X11_answer) (u' := 0) (w' := 0) dX11_house_99 ml_X11_176 mv_X11_answer (fun v9 M9 e9 => c_X11_answer e9) rfl (by decide) rfl rfl (by decide) (by decide) (by decide) rfl h (fun v99 M99 h => ?_)
      cases h
      exact he 102 _ _ _ dX11_house_102 (by decide) (by decide)
    have h := ite_f q25_2 h
    rcases Decidable.em (l2 = 3) with q25_3 | q25_3
    · have h := ite_t q25_3 h
      refine wt_tableIn (pc := 25) (off := 78) (tgt := 103) q25_3 dX11_house_25 (by decide) (by decide) (by decide) (by decide) ?_
      refine wt_aload_n (pc := 103) 1 dX11_house_103 rfl ?_
      refine wt_aload_n (pc := 104) 0 dX11_house_104 rfl ?_
      refine wt_getI (pc := 105) dX11_house_105 fl_X11_234 (fun _ _ _ => rfl) h (fun v105 h => ?_)
      refine wt_cVI (pc := 108) (J' := j_X11_answer) (As := [.int v105]) (st := []) (B' := b_X11_answer) (u' := 0) (w' := 0) dX11_house_108 ml_X11_176 mv_X11_answer (fun v9 M9 e9 => c_X11_answer e9) rfl (by decide) rfl rfl (by decide) (by decide) (by decide) rfl h (fun v108 M108 h => ?_)
      cases h
      exact he 111 _ _ _ dX11_house_111 (by decide) (by decide)
    have h := ite_f q25_3 h
    rcases Decidable.em (l2 = 4) with q25_4 | q25_4
    · have h := ite_t q25_4 h
      refine wt_tableIn (pc := 25) (off := 87) (tgt := 112) q25_4 dX11_house_25 (by decide) (by decide) (by decide) (by decide) ?_
      refine wt_aload_n (pc := 112) 1 dX11_house_112 rfl ?_
      refine wt_aload_n (pc := 113) 0 dX11_house_113 rfl ?_
      refine wt_getI (pc := 114) dX11_house_114 fl_X11_237 (fun _ _ _ => rfl) h (fun v114 h => ?_)
      refine wt_cVI (pc := 117) (J' := j_X11_answer) (As := [.int v114]) (st := []) (B' := b_X11_answer) (u' := 0) (w' := 0) dX11_house_117 ml_X11_176 mv_X11_answer (fun v9 M9 e9 => c_X11_answer e9) rfl (by decide) rfl rfl (by decide) (by decide) (by decide) rfl h (fun v117 M117 h => ?_)
      cases h
      exact he 120 _ _ _ dX11_house_120 (by decide) (by decide)
    have h := ite_f q25_4 h
    rcases Decidable.em (l2 = 5) with q25_5 | q25_5
    · have h := ite_t q25_5 h
      refine wt_tableIn (pc := 25) (off := 96) (tgt := 121) q25_5 dX11_house_25 (by decide) (by decide) (by decide) (by decide) ?_
      refine wt_aload_n (pc := 121) 1 dX11_house_121 rfl ?_
      refine wt_aload_n (pc := 122) 0 dX11_house_122 rfl ?_
      refine wt_getI (pc := 123) dX11_house_123 fl_X11_240 (fun _ _ _ => rfl) h (fun v123 h => ?_)
      refine wt_cVI (pc := 126) (J' := j_X11_answer) (As := [.int v123]) (st := []) (B' := b_X11_answer) (u' := 0) (w' := 0) dX11_house_126 ml_X11_176 mv_X11_answer (fun v9 M9 e9 => c_X11_answer e9) rfl (by decide) rfl rfl (by decide) (by decide) (by decide) rfl h (fun v126 M126 h => ?_)
      cases h
      exact he 129 _ _ _ dX11_house_129 (by decide) (by decide)
    have h := ite_f q25_5 h
    rcases Decidable.em (l2 = 6) with q25_6 | q25_6
    · have h := ite_t q25_6 h
      refine wt_tableIn (pc := 25) (off := 105) (tgt := 130) q25_6 dX11_house_25 (by decide) (by decide) (by decide) (by decide) ?_
      refine wt_aload_n (pc := 130) 1 dX11_house_130 rfl ?_
      refine wt_aload_n (pc := 131) 0 dX11_house_131 rfl ?_
      refine wt_getI (pc := 132) dX11_house_132 fl_X11_243 (fun _ _ _ => rfl) h (fun v132 h => ?_)
      refine wt_cVI (pc := 135) (J' := j_X11_answer) (As := [.int v132]) (st := []) (B' := b_X11_answer) (u' := 0) (w' := 0) dX11_house_135 ml_X11_176 mv_X11_answer (fun v9 M9 e9 => c_X11_answer e9) rfl (by decide) rfl rfl (by decide) (by decide) (by decide) rfl h (fun v135 M135 h => ?_)
      cases h
      exact he 138 _ _ _ dX11_house_138 (by decide) (by decide)
    have h := ite_f q25_6 h
    rcases Decidable.em (l2 = 7) with q25_7 | q25_7
    · have h := ite_t q25_7 h
      refine wt_tableIn (pc := 25) (off := 114) (tgt := 139) q25_7 dX11_house_25 (by decide) (by decide) (by decide) (by decide) ?_
      refine wt_aload_n (pc := 139) 1 dX11_house_139 rfl ?_
      refine wt_aload_n (pc := 140) 0 dX11_house_140 rfl ?_
      refine wt_cVI (pc := 141) (J' := j_X1_leastStrength) (As := []) (st := [rf G.1 l0]) (B' := b_X1_leastStrength) (u' := 0) (w' := 0) dX11_house_141 ml_X11_246 mv_X1_leastStrength (fun v9 M9 e9 => c_X1_leastStrength e9) rfl (by decide) rfl rfl (by decide) (by decide) (by simp [rf_cat, cat_i, cat_l, cat_r]) rfl h (fun v141 M141 h => ?_)
      refine wt_cVI (pc := 144) (J' := j_X11_answer) (As := [.int v141]) (st := []) (B' := b_X11_answer) (u' := 0) (w' := 0) dX11_house_144 ml_X11_176 mv_X11_answer (fun v9 M9 e9 => c_X11_answer e9) rfl (by decide) rfl rfl (by decide) (by decide) (by decide) rfl h (fun v144 M144 h => ?_)
      cases h
      exact he 147 _ _ _ dX11_house_147 (by decide) (by decide)
    have h := ite_f q25_7 h
    rcases Decidable.em (l2 = 8) with q25_8 | q25_8
    · have h := ite_t q25_8 h
      refine wt_tableIn (pc := 25) (off := 123) (tgt := 148) q25_8 dX11_house_25 (by decide) (by decide) (by decide) (by decide) ?_
      refine wt_aload_n (pc := 148) 1 dX11_house_148 rfl ?_
      refine wt_aload_n (pc := 149) 1 dX11_house_149 rfl ?_
      refine wt_getR (pc := 150) dX11_house_150 fl_X11_37 (fun _ _ _ => rfl) h (fun v150 h => ?_)
      refine wt_iload_n (pc := 153) 2 dX11_house_153 rfl ?_
      refine wt_cVI (pc := 154) (J' := j_X4_dueOf) (As := [.int l1]) (st := [rf G.1 l0]) (B' := b_X4_dueOf) (u' := 0) (w' := 0) dX11_house_154 ml_X11_249 mv_X4_dueOf (fun v9 M9 e9 => c_X4_dueOf e9) rfl (by decide) rfl rfl (by decide) (by decide) (by simp [rf_cat, cat_i, cat_l, cat_r]) rfl h (fun v154 M154 h => ?_)
      refine wt_cVI (pc := 157) (J' := j_X11_answer) (As := [.int v154]) (st := []) (B' := b_X11_answer) (u' := 0) (w' := 0) dX11_house_157 ml_X11_176 mv_X11_answer (fun v9 M9 e9 => c_X11_answer e9) rfl (by decide) rfl rfl (by decide) (by decide) (by decide) rfl h (fun v157 M157 h => ?_)
      cases h
      exact he 160 _ _ _ dX11_house_160 (by decide) (by decide)
    have h := ite_f q25_8 h
    refine wt_tableOut (pc := 25) (tgt := 161) dX11_house_25 (by have h9 := ts_out (x := l2) 0 9 (fun i hi => by match i, hi with | 0, _ => exact ts_ne (by decide) q25_0 | 1, _ => exact ts_ne (by decide) q25_1 | 2, _ => exact ts_ne (by decide) q25_2 | 3, _ => exact ts_ne (by decide) q25_3 | 4, _ => exact ts_ne (by decide) q25_4 | 5, _ => exact ts_ne (by decide) q25_5 | 6, _ => exact ts_ne (by decide) q25_6 | 7, _ => exact ts_ne (by decide) q25_7 | 8, _ => exact ts_ne (by decide) q25_8 | i + 9, hi => omega); omega) (by decide) ?_
    refine wt_aload_n (pc := 161) 1 dX11_house_161 rfl ?_
    refine wt_iconst (pc := 162) (v := 5) dX11_house_162 (by decide) ?_
    refine wt_cVI (pc := 163) (J' := j_X11_none) (As := [.int 5]) (st := []) (B' := b_X11_none) (u' := 0) (w' := 0) dX11_house_163 ml_X11_131 mv_X11_none (fun v9 M9 e9 => c_X11_none e9) rfl (by decide) rfl rfl (by decide) (by decide) (by decide) rfl h (fun v163 M163 h => ?_)
    cases h
    exact he 166 _ _ _ dX11_house_166 (by decide) (by decide)
  · have h := ite_t q h
    refine wt_aload_n (pc := 8) 0 dX11_house_8 rfl ?_
    refine wt_iconst (pc := 9) (v := 2) dX11_house_9 (by decide) ?_
    refine wt_cVI (pc := 10) (J' := j_X11_none) (As := [.int 2]) (st := []) (B' := b_X11_none) (u' := 0) (w' := 0) dX11_house_10 ml_X11_131 mv_X11_none (fun v9 M9 e9 => c_X11_none e9) rfl (by decide) rfl rfl (by decide) (by decide) (by decide) rfl h (fun v10 M10 h => ?_)
    cases h
    exact he 13 _ _ _ dX11_house_13 (by decide) (by decide)
set_option maxHeartbeats 4000000 in
set_option maxRecDepth 100000 in
theorem c_X11_house {G : GG} {M : Mm} {l0 : Option Nat} {l1 : Int32} {l2 : Int32} {r : Int32 × Mm} (h : f_X11_house M l0 l1 l2 = some r) (l : Launch) : Ct l G j_X11_house b_X11_house [rf G.1 l0, .int l1, .int l2] M (some (.int r.1)) r.2 := cf_I (by decide +kernel) (by simp [lg_sl, rf_cat, cat_i, cat_l, j_X11_house]) rfl (by simp [lv_args, rf_cat, cat_i, cat_l]) (fun X he => t_X11_house_e he h)
def f_X11_gang (M : Mm) (l0 : Option Nat) (l1 : Int32) (l2 : Int32) : Option (Int32 × Mm) := ck M l0 11 <| bd (f_X11_isGang M l0 l1) fun v2 M2 => if v2 = 0 then (ck M2 l0 11 <| bd (f_X11_none M2 l0 2) fun v10 M10 => some (v10, M10)) else (gfR M2 l0 11 7 fun v15 => gfR M2 v15 4 1 fun v18 => alR M2 v18 30 l1 fun v22 => if l2 = 0 then (gfI M2 v22 0 1 fun v66 => ck M2 l0 11 <| bd (f_X11_answer M2 l0 v66) fun v69 M69 => some (v69, M69)) else if l2 = 1 then (gfI M2 v22 0 2 fun v75 => ck M2 l0 11 <| bd (f_X11_answer M2 l0 v75) fun v78 M78 => some (v78, M78)) else if l2 = 2 then (gfI M2 v22 0 3 fun v84 => ck M2 l0 11 <| bd (f_X11_answer M2 l0 v84) fun v87 M87 => some (v87, M87)) else if l2 = 3 then (gfI M2 v22 0 4 fun v93 => ck M2 l0 11 <| bd (f_X11_answer M2 l0 v93) fun v96 M96 => some (v96, M96)) else if l2 = 4 then (gfI M2 v22 0 5 fun v101 => if v101 = (-1) then (ck M2 l0 11 <| bd (f_X11_none M2 l0 8) fun v111 M111 => some (v111, M111)) else (gfI M2 v22 0 5 fun v119 => ck M2 l0 11 <| bd (f_X11_answer M2 l0 v119) fun v122 M122 => some (v122, M122))) else if l2 = 5 then (ck M2 v22 0 <| bd (f_X0_minutesLeft M2 v22) fun v128 M128 => ck M128 l0 11 <| bd (f_X11_answer M128 l0 v128) fun v131 M131 => some (v131, M131)) else (ck M2 l0 11 <| bd (f_X11_none M2 l0 5) fun v137 M137 => some (v137, M137)))
set_option maxHeartbeats 4000000 in
set_option maxRecDepth 100000 in
theorem t_X11_gang_e {G : GG} {X : CX} {ans : Int32 × Mm} (he : EndI G X j_X11_gang b_X11_gang ans) {M : Mm} {l0 : Option Nat} {l1 : Int32} {l2 : Int32} (h : f_X11_gang M l0 l1 l2 = some ans) : Wt G X j_X11_gang b_X11_gang 0 [(0, rf G.1 l0), (1, .int l1), (2, .int l2)] [] M 0 0 := by
  unfold f_X11_gang at h
  refine wt_aload_n (pc := 0) 0 dX11_gang_0 rfl ?_
  refine wt_iload_n (pc := 1) 1 dX11_gang_1 rfl ?_
  refine wt_cVI (pc := 2) (J' := j_X11_isGang) (As := [.int l1]) (st := []) (B' := b_X11_isGang) (u' := 0) (w' := 0) dX11_gang_2 ml_X11_252 mv_X11_isGang (fun v9 M9 e9 => c_X11_isGang e9) rfl (by decide) rfl rfl (by decide) (by decide) (by decide) rfl h (fun v2 M2 h => ?_)
  refine wt_if_ne (pc := 5) (tgt := 14) dX11_gang_5 (by decide) (fun q => ?_) (fun q => ?_)
  · have h := ite_f q h
    refine wt_aload_n (pc := 14) 0 dX11_gang_14 rfl ?_
    refine wt_getR (pc := 15) dX11_gang_15 fl_X11_37 (fun _ _ _ => rfl) h (fun v15 h => ?_)
    refine wt_getR (pc := 18) dX11_gang_18 fl_X11_255 (fun _ _ _ => rfl) h (fun v18 h => ?_)
    refine wt_iload_n (pc := 21) 1 dX11_gang_21 rfl ?_
    refine wt_aaload (pc := 22) (kd := 30) dX11_gang_22 rfl rfl (by decide) h (fun v22 h => ?_)
    refine wt_astore_n (pc := 23) (i := 3) (ls' := [(3, rf G.1 v22), (0, rf G.1 l0), (1, .int l1), (2, .int l2)]) rfl dX11_gang_23 (by decide) rfl ?_
    refine wt_iload_n (pc := 24) 3 dX11_gang_24 rfl ?_
    rcases Decidable.em (l2 = 0) with q25_0 | q25_0
    · have h := ite_t q25_0 h
      refine wt_tableIn (pc := 25) (off := 39) (tgt := 64) q25_0 dX11_gang_25 (by decide) (by decide) (by decide) (by decide) ?_
      refine wt_aload_n (pc := 64) 1 dX11_gang_64 rfl ?_
      refine wt_aload_n (pc := 65) 0 dX11_gang_65 rfl ?_
      refine wt_getI (pc := 66) dX11_gang_66 fl_X11_259 (fun _ _ _ => rfl) h (fun v66 h => ?_)
      refine wt_cVI (pc := 69) (J' := j_X11_answer) (As := [.int v66]) (st := []) (B' := b_X11_answer) (u' := 0) (w' := 0) dX11_gang_69 ml_X11_176 mv_X11_answer (fun v9 M9 e9 => c_X11_answer e9) rfl (by decide) rfl rfl (by decide) (by decide) (by decide) rfl h (fun v69 M69 h => ?_)
      cases h
      exact he 72 _ _ _ dX11_gang_72 (by decide) (by decide)
    have h := ite_f q25_0 h
    rcases Decidable.em (l2 = 1) with q25_1 | q25_1
    · have h := ite_t q25_1 h
      refine wt_tableIn (pc := 25) (off := 48) (tgt := 73) q25_1 dX11_gang_25 (by decide) (by decide) (by decide) (by decide) ?_
      refine wt_aload_n (pc := 73) 1 dX11_gang_73 rfl ?_
      refine wt_aload_n (pc := 74) 0 dX11_gang_74 rfl ?_
      refine wt_getI (pc := 75) dX11_gang_75 fl_X11_264 (fun _ _ _ => rfl) h (fun v75 h => ?_)
      refine wt_cVI (pc := 78) (J' := j_X11_answer) (As := [.int v75]) (st := []) (B' := b_X11_answer) (u' := 0) (w' := 0) dX11_gang_78 ml_X11_176 mv_X11_answer (fun v9 M9 e9 => c_X11_answer e9) rfl (by decide) rfl rfl (by decide) (by decide) (by decide) rfl h (fun v78 M78 h => ?_)
      cases h
      exact he 81 _ _ _ dX11_gang_81 (by decide) (by decide)
    have h := ite_f q25_1 h
    rcases Decidable.em (l2 = 2) with q25_2 | q25_2
    · have h := ite_t q25_2 h
      refine wt_tableIn (pc := 25) (off := 57) (tgt := 82) q25_2 dX11_gang_25 (by decide) (by decide) (by decide) (by decide) ?_
      refine wt_aload_n (pc := 82) 1 dX11_gang_82 rfl ?_
      refine wt_aload_n (pc := 83) 0 dX11_gang_83 rfl ?_
      refine wt_getI (pc := 84) dX11_gang_84 fl_X11_267 (fun _ _ _ => rfl) h (fun v84 h => ?_)
      refine wt_cVI (pc := 87) (J' := j_X11_answer) (As := [.int v84]) (st := []) (B' := b_X11_answer) (u' := 0) (w' := 0) dX11_gang_87 ml_X11_176 mv_X11_answer (fun v9 M9 e9 => c_X11_answer e9) rfl (by decide) rfl rfl (by decide) (by decide) (by decide) rfl h (fun v87 M87 h => ?_)
      cases h
      exact he 90 _ _ _ dX11_gang_90 (by decide) (by decide)
    have h := ite_f q25_2 h
    rcases Decidable.em (l2 = 3) with q25_3 | q25_3
    · have h := ite_t q25_3 h
      refine wt_tableIn (pc := 25) (off := 66) (tgt := 91) q25_3 dX11_gang_25 (by decide) (by decide) (by decide) (by decide) ?_
      refine wt_aload_n (pc := 91) 1 dX11_gang_91 rfl ?_
      refine wt_aload_n (pc := 92) 0 dX11_gang_92 rfl ?_
      refine wt_getI (pc := 93) dX11_gang_93 fl_X11_270 (fun _ _ _ => rfl) h (fun v93 h => ?_)
      refine wt_cVI (pc := 96) (J' := j_X11_answer) (As := [.int v93]) (st := []) (B' := b_X11_answer) (u' := 0) (w' := 0) dX11_gang_96 ml_X11_176 mv_X11_answer (fun v9 M9 e9 => c_X11_answer e9) rfl (by decide) rfl rfl (by decide) (by decide) (by decide) rfl h (fun v96 M96 h => ?_)
      cases h
      exact he 99 _ _ _ dX11_gang_99 (by decide) (by decide)
    have h := ite_f q25_3 h
    rcases Decidable.em (l2 = 4) with q25_4 | q25_4
    · have h := ite_t q25_4 h
      refine wt_tableIn (pc := 25) (off := 75) (tgt := 100) q25_4 dX11_gang_25 (by decide) (by decide) (by decide) (by decide) ?_
      refine wt_aload_n (pc := 100) 0 dX11_gang_100 rfl ?_
      refine wt_getI (pc := 101) dX11_gang_101 fl_X11_271 (fun _ _ _ => rfl) h (fun v101 h => ?_)
      refine wt_iconst (pc := 104) (v := (-1)) dX11_gang_104 (by decide) ?_
      refine wt_icmp_ne (pc := 105) (tgt := 117) dX11_gang_105 (by decide) (fun q => ?_) (fun q => ?_)
      · have h := ite_f q h
        refine wt_aload_n (pc := 117) 1 dX11_gang_117 rfl ?_
        refine wt_aload_n (pc := 118) 0 dX11_gang_118 rfl ?_
        refine wt_getI (pc := 119) dX11_gang_119 fl_X11_271 (fun _ _ _ => rfl) h (fun v119 h => ?_)
        refine wt_cVI (pc := 122) (J' := j_X11_answer) (As := [.int v119]) (st := []) (B' := b_X11_answer) (u' := 0) (w' := 0) dX11_gang_122 ml_X11_176 mv_X11_answer (fun v9 M9 e9 => c_X11_answer e9) rfl (by decide) rfl rfl (by decide) (by decide) (by decide) rfl h (fun v122 M122 h => ?_)
        cases h
        exact he 125 _ _ _ dX11_gang_125 (by decide) (by decide)
      · have h := ite_t q h
        refine wt_aload_n (pc := 108) 1 dX11_gang_108 rfl ?_
        refine wt_bipush (pc := 109) (v := 8) dX11_gang_109 (by decide) ?_
        refine wt_cVI (pc := 111) (J' := j_X11_none) (As := [.int 8]) (st := []) (B' := b_X11_none) (u' := 0) (w' := 0) dX11_gang_111 ml_X11_131 mv_X11_none (fun v9 M9 e9 => c_X11_none e9) rfl (by decide) rfl rfl (by decide) (by decide) (by decide) rfl h (fun v111 M111 h => ?_)
        refine wt_goto (pc := 114) (tgt := 125) dX11_gang_114 (by decide) ?_
        cases h
        exact he 125 _ _ _ dX11_gang_125 (by decide) (by decide)
    have h := ite_f q25_4 h
    rcases Decidable.em (l2 = 5) with q25_5 | q25_5
    · have h := ite_t q25_5 h
      refine wt_tableIn (pc := 25) (off := 101) (tgt := 126) q25_5 dX11_gang_25 (by decide) (by decide) (by decide) (by decide) ?_
      refine wt_aload_n (pc := 126) 1 dX11_gang_126 rfl ?_
      refine wt_aload_n (pc := 127) 0 dX11_gang_127 rfl ?_
      refine wt_cVI (pc := 128) (J' := j_X0_minutesLeft) (As := []) (st := [rf G.1 l0]) (B' := b_X0_minutesLeft) (u' := 0) (w' := 0) dX11_gang_128 ml_X11_274 mv_X0_minutesLeft (fun v9 M9 e9 => c_X0_minutesLeft e9) rfl (by decide) rfl rfl (by decide) (by decide) (by simp [rf_cat, cat_i, cat_l, cat_r]) rfl h (fun v128 M128 h => ?_)
      refine wt_cVI (pc := 131) (J' := j_X11_answer) (As := [.int v128]) (st := []) (B' := b_X11_answer) (u' := 0) (w' := 0) dX11_gang_131 ml_X11_176 mv_X11_answer (fun v9 M9 e9 => c_X11_answer e9) rfl (by decide) rfl rfl (by decide) (by decide) (by decide) rfl h (fun v131 M131 h => ?_)
      cases h
      exact he 134 _ _ _ dX11_gang_134 (by decide) (by decide)
    have h := ite_f q25_5 h
    refine wt_tableOut (pc := 25) (tgt := 135) dX11_gang_25 (by have h9 := ts_out (x := l2) 0 6 (fun i hi => by match i, hi with | 0, _ => exact ts_ne (by decide) q25_0 | 1, _ => exact ts_ne (by decide) q25_1 | 2, _ => exact ts_ne (by decide) q25_2 | 3, _ => exact ts_ne (by decide) q25_3 | 4, _ => exact ts_ne (by decide) q25_4 | 5, _ => exact ts_ne (by decide) q25_5 | i + 6, hi => omega); omega) (by decide) ?_
    refine wt_aload_n (pc := 135) 1 dX11_gang_135 rfl ?_
    refine wt_iconst (pc := 136) (v := 5) dX11_gang_136 (by decide) ?_
    refine wt_cVI (pc := 137) (J' := j_X11_none) (As := [.int 5]) (st := []) (B' := b_X11_none) (u' := 0) (w' := 0) dX11_gang_137 ml_X11_131 mv_X11_none (fun v9 M9 e9 => c_X11_none e9) rfl (by decide) rfl rfl (by decide) (by decide) (by decide) rfl h (fun v137 M137 h => ?_)
    cases h
    exact he 140 _ _ _ dX11_gang_140 (by decide) (by decide)
  · have h := ite_t q h
    refine wt_aload_n (pc := 8) 0 dX11_gang_8 rfl ?_
    refine wt_iconst (pc := 9) (v := 2) dX11_gang_9 (by decide) ?_
    refine wt_cVI (pc := 10) (J' := j_X11_none) (As := [.int 2]) (st := []) (B' := b_X11_none) (u' := 0) (w' := 0) dX11_gang_10 ml_X11_131 mv_X11_none (fun v9 M9 e9 => c_X11_none e9) rfl (by decide) rfl rfl (by decide) (by decide) (by decide) rfl h (fun v10 M10 h => ?_)
    cases h
    exact he 13 _ _ _ dX11_gang_13 (by decide) (by decide)
set_option maxHeartbeats 4000000 in
set_option maxRecDepth 100000 in
theorem c_X11_gang {G : GG} {M : Mm} {l0 : Option Nat} {l1 : Int32} {l2 : Int32} {r : Int32 × Mm} (h : f_X11_gang M l0 l1 l2 = some r) (l : Launch) : Ct l G j_X11_gang b_X11_gang [rf G.1 l0, .int l1, .int l2] M (some (.int r.1)) r.2 := cf_I (by decide +kernel) (by simp [lg_sl, rf_cat, cat_i, cat_l, j_X11_gang]) rfl (by simp [lv_args, rf_cat, cat_i, cat_l]) (fun X he => t_X11_gang_e he h)

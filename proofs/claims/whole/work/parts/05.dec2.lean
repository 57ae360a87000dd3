theorem dX3_numberOf_1 : decode cX3_numberOf 1 = .ok (.ifnonnull 7, 3) := by decide +kernel
theorem dX3_numberOf_4 : decode cX3_numberOf 4 = .ok (.iconst 0, 1) := by decide +kernel
theorem dX3_numberOf_5 : decode cX3_numberOf 5 = .ok (.goto 7, 3) := by decide +kernel
theorem dX3_numberOf_8 : decode cX3_numberOf 8 = .ok (.aload_n 0, 1) := by decide +kernel
theorem dX3_numberOf_9 : decode cX3_numberOf 9 = .ok (.getfield 215, 3) := by decide +kernel
theorem dX3_numberOf_12 : decode cX3_numberOf 12 = .ok (.ireturn, 1) := by decide +kernel
set_option maxRecDepth 20000 in
theorem ggX3_newestNumber_X3_numberOf : GoodIn wsX3_newestNumber wsX3_numberOf := goodIn_r _ [5, 6, 13, 14, 15, 16, 17] (by decide +kernel) (by decide +kernel)
set_option maxRecDepth 20000 in
theorem gX3_newestNumber_X3_numberOf : GoodIn wsX3_newestNumber (va_wsS RX3 218 yX3_numberOf wsX3_numberOf) := goodIn_app (goodIn_of _ (by decide +kernel)) ggX3_newestNumber_X3_numberOf
theorem dX3_newestNumber_0 : decode cX3_newestNumber 0 = .ok (.aload_n 0, 1) := by decide +kernel
theorem dX3_newestNumber_1 : decode cX3_newestNumber 1 = .ok (.getfield 11, 3) := by decide +kernel
theorem dX3_newestNumber_4 : decode cX3_newestNumber 4 = .ok (.iload_n 1, 1) := by decide +kernel
theorem dX3_newestNumber_5 : decode cX3_newestNumber 5 = .ok (.aaload, 1) := by decide +kernel
theorem dX3_newestNumber_6 : decode cX3_newestNumber 6 = .ok (.invokestatic 218, 3) := by decide +kernel
theorem dX3_newestNumber_9 : decode cX3_newestNumber 9 = .ok (.ireturn, 1) := by decide +kernel
set_option maxRecDepth 20000 in
theorem ggX3_itemNumber_X3_numberOf : GoodIn wsX3_itemNumber wsX3_numberOf := goodIn_r _ [5, 6, 12, 13, 14, 15, 16] (by decide +kernel) (by decide +kernel)
set_option maxRecDepth 20000 in
theorem gX3_itemNumber_X3_numberOf : GoodIn wsX3_itemNumber (va_wsS RX3 218 yX3_numberOf wsX3_numberOf) := goodIn_app (goodIn_of _ (by decide +kernel)) ggX3_itemNumber_X3_numberOf
theorem dX3_itemNumber_0 : decode cX3_itemNumber 0 = .ok (.aload_n 0, 1) := by decide +kernel
theorem dX3_itemNumber_1 : decode cX3_itemNumber 1 = .ok (.getfield 93, 3) := by decide +kernel
theorem dX3_itemNumber_4 : decode cX3_itemNumber 4 = .ok (.iload_n 1, 1) := by decide +kernel
theorem dX3_itemNumber_5 : decode cX3_itemNumber 5 = .ok (.aaload, 1) := by decide +kernel
theorem dX3_itemNumber_6 : decode cX3_itemNumber 6 = .ok (.invokestatic 218, 3) := by decide +kernel
theorem dX3_itemNumber_9 : decode cX3_itemNumber 9 = .ok (.ireturn, 1) := by decide +kernel
set_option maxRecDepth 20000 in
theorem ggX3_hasLaterVersion_X3_itemNumber : GoodIn wsX3_hasLaterVersion wsX3_itemNumber := goodIn_r _ [5, 1, 6, 7, 4, 8, 9, 15, 16, 17, 18, 19, 20, 21, 22, 23, 24] (by decide +kernel) (by decide +kernel)
set_option maxRecDepth 20000 in
theorem gX3_hasLaterVersion_X3_itemNumber : GoodIn wsX3_hasLaterVersion (va_wsS RX3 116 yX3_itemNumber wsX3_itemNumber) := goodIn_app (goodIn_of _ (by decide +kernel)) ggX3_hasLaterVersion_X3_itemNumber
set_option maxRecDepth 20000 in
theorem ggX3_hasLaterVersion_X3_newestNumber : GoodIn wsX3_hasLaterVersion wsX3_newestNumber := goodIn_r _ [13, 14, 6, 7, 4, 8, 9, 25, 26, 27, 28, 29, 30, 20, 21, 22, 23, 24] (by decide +kernel) (by decide +kernel)
set_option maxRecDepth 20000 in
theorem gX3_hasLaterVersion_X3_newestNumber : GoodIn wsX3_hasLaterVersion (wsV RX3 54 RX3 yX3_newestNumber wsX3_newestNumber) := goodIn_app (goodIn_of _ (by decide +kernel)) ggX3_hasLaterVersion_X3_newestNumber
theorem dX3_hasLaterVersion_0 : decode cX3_hasLaterVersion 0 = .ok (.aload_n 1, 1) := by decide +kernel
theorem dX3_hasLaterVersion_1 : decode cX3_hasLaterVersion 1 = .ok (.getfield 93, 3) := by decide +kernel
theorem dX3_hasLaterVersion_4 : decode cX3_hasLaterVersion 4 = .ok (.iload_n 2, 1) := by decide +kernel
theorem dX3_hasLaterVersion_5 : decode cX3_hasLaterVersion 5 = .ok (.aaload, 1) := by decide +kernel
theorem dX3_hasLaterVersion_6 : decode cX3_hasLaterVersion 6 = .ok (.ifnull 20, 3) := by decide +kernel
theorem dX3_hasLaterVersion_9 : decode cX3_hasLaterVersion 9 = .ok (.aload_n 1, 1) := by decide +kernel
theorem dX3_hasLaterVersion_10 : decode cX3_hasLaterVersion 10 = .ok (.iload_n 2, 1) := by decide +kernel
theorem dX3_hasLaterVersion_11 : decode cX3_hasLaterVersion 11 = .ok (.invokestatic 116, 3) := by decide +kernel
theorem dX3_hasLaterVersion_14 : decode cX3_hasLaterVersion 14 = .ok (.aload_n 0, 1) := by decide +kernel
theorem dX3_hasLaterVersion_15 : decode cX3_hasLaterVersion 15 = .ok (.iload_n 2, 1) := by decide +kernel
theorem dX3_hasLaterVersion_16 : decode cX3_hasLaterVersion 16 = .ok (.invokevirtual 54, 3) := by decide +kernel
theorem dX3_hasLaterVersion_19 : decode cX3_hasLaterVersion 19 = .ok (.if_icmp .ge 7, 3) := by decide +kernel
theorem dX3_hasLaterVersion_22 : decode cX3_hasLaterVersion 22 = .ok (.iconst 1, 1) := by decide +kernel
theorem dX3_hasLaterVersion_23 : decode cX3_hasLaterVersion 23 = .ok (.goto 4, 3) := by decide +kernel
theorem dX3_hasLaterVersion_26 : decode cX3_hasLaterVersion 26 = .ok (.iconst 0, 1) := by decide +kernel
theorem dX3_hasLaterVersion_27 : decode cX3_hasLaterVersion 27 = .ok (.ireturn, 1) := by decide +kernel
set_option maxRecDepth 20000 in
theorem ggX3_obstacle_X0_clauseSet : GoodIn wsX3_obstacle wsX0_clauseSet := goodIn_r _ [7, 8, 29, 30, 31, 32, 33] (by decide +kernel) (by decide +kernel)
set_option maxRecDepth 20000 in
theorem gX3_obstacle_X0_clauseSet : GoodIn wsX3_obstacle (wsV RX3 222 RX0 yX0_clauseSet wsX0_clauseSet) := goodIn_app (goodIn_of _ (by decide +kernel)) ggX3_obstacle_X0_clauseSet
set_option maxRecDepth 20000 in
theorem ggX3_obstacle_X0_isDraft : GoodIn wsX3_obstacle wsX0_isDraft := goodIn_r _ [12, 13, 29, 30, 31, 32, 33] (by decide +kernel) (by decide +kernel)
set_option maxRecDepth 20000 in
theorem gX3_obstacle_X0_isDraft : GoodIn wsX3_obstacle (wsV RX3 120 RX0 yX0_isDraft wsX0_isDraft) := goodIn_app (goodIn_of _ (by decide +kernel)) ggX3_obstacle_X0_isDraft
set_option maxRecDepth 20000 in
theorem ggX3_obstacle_X0_isAgreed : GoodIn wsX3_obstacle wsX0_isAgreed := goodIn_r _ [17, 8, 18, 29, 30, 31, 32, 33] (by decide +kernel) (by decide +kernel)
set_option maxRecDepth 20000 in
theorem gX3_obstacle_X0_isAgreed : GoodIn wsX3_obstacle (wsV RX3 225 RX0 yX0_isAgreed wsX0_isAgreed) := goodIn_app (goodIn_of _ (by decide +kernel)) ggX3_obstacle_X0_isAgreed
set_option maxRecDepth 20000 in
theorem ggX3_obstacle_X3_unionOver : GoodIn wsX3_obstacle wsX3_unionOver := goodIn_r _ [22] (by decide +kernel) (by decide +kernel)
set_option maxRecDepth 20000 in
theorem gX3_obstacle_X3_unionOver : GoodIn wsX3_obstacle (va_wsS RX3 228 yX3_unionOver wsX3_unionOver) := goodIn_app (goodIn_of _ (by decide +kernel)) ggX3_obstacle_X3_unionOver
theorem dX3_obstacle_0 : decode cX3_obstacle 0 = .ok (.aload_n 1, 1) := by decide +kernel
theorem dX3_obstacle_1 : decode cX3_obstacle 1 = .ok (.invokevirtual 222, 3) := by decide +kernel
theorem dX3_obstacle_4 : decode cX3_obstacle 4 = .ok (.istore_n 2, 1) := by decide +kernel
theorem dX3_obstacle_5 : decode cX3_obstacle 5 = .ok (.aload_n 1, 1) := by decide +kernel
theorem dX3_obstacle_6 : decode cX3_obstacle 6 = .ok (.invokevirtual 120, 3) := by decide +kernel
theorem dX3_obstacle_9 : decode cX3_obstacle 9 = .ok (.ifCond .ne 5, 3) := by decide +kernel
theorem dX3_obstacle_12 : decode cX3_obstacle 12 = .ok (.iconst 1, 1) := by decide +kernel
theorem dX3_obstacle_13 : decode cX3_obstacle 13 = .ok (.ireturn, 1) := by decide +kernel
theorem dX3_obstacle_14 : decode cX3_obstacle 14 = .ok (.iload_n 2, 1) := by decide +kernel
theorem dX3_obstacle_15 : decode cX3_obstacle 15 = .ok (.ifCond .ne 5, 3) := by decide +kernel
theorem dX3_obstacle_18 : decode cX3_obstacle 18 = .ok (.iconst 2, 1) := by decide +kernel
theorem dX3_obstacle_19 : decode cX3_obstacle 19 = .ok (.ireturn, 1) := by decide +kernel
theorem dX3_obstacle_20 : decode cX3_obstacle 20 = .ok (.aload_n 1, 1) := by decide +kernel
theorem dX3_obstacle_21 : decode cX3_obstacle 21 = .ok (.invokevirtual 225, 3) := by decide +kernel
theorem dX3_obstacle_24 : decode cX3_obstacle 24 = .ok (.ifCond .ne 5, 3) := by decide +kernel
theorem dX3_obstacle_27 : decode cX3_obstacle 27 = .ok (.iconst 3, 1) := by decide +kernel
theorem dX3_obstacle_28 : decode cX3_obstacle 28 = .ok (.ireturn, 1) := by decide +kernel
theorem dX3_obstacle_29 : decode cX3_obstacle 29 = .ok (.iload_n 2, 1) := by decide +kernel
theorem dX3_obstacle_30 : decode cX3_obstacle 30 = .ok (.aload_n 0, 1) := by decide +kernel
theorem dX3_obstacle_31 : decode cX3_obstacle 31 = .ok (.getfield 15, 3) := by decide +kernel
theorem dX3_obstacle_34 : decode cX3_obstacle 34 = .ok (.invokestatic 228, 3) := by decide +kernel
theorem dX3_obstacle_37 : decode cX3_obstacle 37 = .ok (.iload_n 2, 1) := by decide +kernel
theorem dX3_obstacle_38 : decode cX3_obstacle 38 = .ok (.iconst (-1), 1) := by decide +kernel
theorem dX3_obstacle_39 : decode cX3_obstacle 39 = .ok (.ixor, 1) := by decide +kernel
theorem dX3_obstacle_40 : decode cX3_obstacle 40 = .ok (.iand, 1) := by decide +kernel
theorem dX3_obstacle_41 : decode cX3_obstacle 41 = .ok (.ifCond .eq 5, 3) := by decide +kernel
theorem dX3_obstacle_44 : decode cX3_obstacle 44 = .ok (.iconst 4, 1) := by decide +kernel
theorem dX3_obstacle_45 : decode cX3_obstacle 45 = .ok (.ireturn, 1) := by decide +kernel
theorem dX3_obstacle_46 : decode cX3_obstacle 46 = .ok (.iload_n 2, 1) := by decide +kernel
theorem dX3_obstacle_47 : decode cX3_obstacle 47 = .ok (.aload_n 0, 1) := by decide +kernel
theorem dX3_obstacle_48 : decode cX3_obstacle 48 = .ok (.getfield 19, 3) := by decide +kernel
theorem dX3_obstacle_51 : decode cX3_obstacle 51 = .ok (.invokestatic 228, 3) := by decide +kernel
theorem dX3_obstacle_54 : decode cX3_obstacle 54 = .ok (.iload_n 2, 1) := by decide +kernel
theorem dX3_obstacle_55 : decode cX3_obstacle 55 = .ok (.iand, 1) := by decide +kernel
theorem dX3_obstacle_56 : decode cX3_obstacle 56 = .ok (.ifCond .eq 7, 3) := by decide +kernel
theorem dX3_obstacle_59 : decode cX3_obstacle 59 = .ok (.iconst 5, 1) := by decide +kernel
theorem dX3_obstacle_60 : decode cX3_obstacle 60 = .ok (.goto 4, 3) := by decide +kernel
theorem dX3_obstacle_63 : decode cX3_obstacle 63 = .ok (.iconst 0, 1) := by decide +kernel
theorem dX3_obstacle_64 : decode cX3_obstacle 64 = .ok (.ireturn, 1) := by decide +kernel
theorem dX3_unionOver_0 : decode cX3_unionOver 0 = .ok (.iconst 0, 1) := by decide +kernel
theorem dX3_unionOver_1 : decode cX3_unionOver 1 = .ok (.istore_n 2, 1) := by decide +kernel
theorem dX3_unionOver_2 : decode cX3_unionOver 2 = .ok (.iconst 0, 1) := by decide +kernel
theorem dX3_unionOver_3 : decode cX3_unionOver 3 = .ok (.istore_n 3, 1) := by decide +kernel
theorem dX3_unionOver_4 : decode cX3_unionOver 4 = .ok (.iload_n 3, 1) := by decide +kernel
theorem dX3_unionOver_5 : decode cX3_unionOver 5 = .ok (.bipush 10, 2) := by decide +kernel
theorem dX3_unionOver_7 : decode cX3_unionOver 7 = .ok (.if_icmp .ge 23, 3) := by decide +kernel
theorem dX3_unionOver_10 : decode cX3_unionOver 10 = .ok (.iload_n 0, 1) := by decide +kernel
theorem dX3_unionOver_11 : decode cX3_unionOver 11 = .ok (.iconst 1, 1) := by decide +kernel
theorem dX3_unionOver_12 : decode cX3_unionOver 12 = .ok (.iload_n 3, 1) := by decide +kernel
theorem dX3_unionOver_13 : decode cX3_unionOver 13 = .ok (.ishl, 1) := by decide +kernel
theorem dX3_unionOver_14 : decode cX3_unionOver 14 = .ok (.iand, 1) := by decide +kernel
theorem dX3_unionOver_15 : decode cX3_unionOver 15 = .ok (.ifCond .eq 9, 3) := by decide +kernel
theorem dX3_unionOver_18 : decode cX3_unionOver 18 = .ok (.iload_n 2, 1) := by decide +kernel
theorem dX3_unionOver_19 : decode cX3_unionOver 19 = .ok (.aload_n 1, 1) := by decide +kernel
theorem dX3_unionOver_20 : decode cX3_unionOver 20 = .ok (.iload_n 3, 1) := by decide +kernel
theorem dX3_unionOver_21 : decode cX3_unionOver 21 = .ok (.iaload, 1) := by decide +kernel
theorem dX3_unionOver_22 : decode cX3_unionOver 22 = .ok (.ior, 1) := by decide +kernel
theorem dX3_unionOver_23 : decode cX3_unionOver 23 = .ok (.istore_n 2, 1) := by decide +kernel
theorem dX3_unionOver_24 : decode cX3_unionOver 24 = .ok (.iinc 3 1, 3) := by decide +kernel
theorem dX3_unionOver_27 : decode cX3_unionOver 27 = .ok (.goto (-23), 3) := by decide +kernel
theorem dX3_unionOver_30 : decode cX3_unionOver 30 = .ok (.iload_n 2, 1) := by decide +kernel
theorem dX3_unionOver_31 : decode cX3_unionOver 31 = .ok (.ireturn, 1) := by decide +kernel
set_option maxRecDepth 20000 in
theorem ggX3_makeDuties_X1_init : GoodIn wsX3_makeDuties wsX1_init := goodIn_r _ [10, 11, 12, 13, 14, 15, 16, 17, 85, 86, 87, 88] (by decide +kernel) (by decide +kernel)
set_option maxRecDepth 20000 in
theorem gX3_makeDuties_X1_init : GoodIn wsX3_makeDuties (wsX1_init) := ggX3_makeDuties_X1_init
set_option maxRecDepth 20000 in
theorem ggX3_makeDuties_Jx4a65c_add_9ea2d : GoodIn wsX3_makeDuties wsJx4a65c_add_9ea2d := goodIn_r _ [22, 23, 24, 25, 26, 27, 28, 29, 21, 30, 31, 32, 33, 34, 35, 36, 37, 38, 39, 40, 41, 42, 43, 44, 45, 46, 47, 48, 49, 50, 51, 52, 53, 54, 55, 56, 57, 58, 59, 60, 61, 62, 63, 64, 65, 66, 67, 68, 69, 70, 71, 72, 73, 94, 95, 96] (by decide +kernel) (by decide +kernel)
set_option maxRecDepth 20000 in
theorem gX3_makeDuties_Jx4a65c_add_9ea2d : GoodIn wsX3_makeDuties (wsV RX3 79 RJx4a65c yJx4a65c_add_9ea2d wsJx4a65c_add_9ea2d) := goodIn_app (goodIn_of _ (by decide +kernel)) ggX3_makeDuties_Jx4a65c_add_9ea2d
theorem dX3_makeDuties_0 : decode cX3_makeDuties 0 = .ok (.iconst 0, 1) := by decide +kernel
theorem dX3_makeDuties_1 : decode cX3_makeDuties 1 = .ok (.istore_n 2, 1) := by decide +kernel
theorem dX3_makeDuties_2 : decode cX3_makeDuties 2 = .ok (.iconst 0, 1) := by decide +kernel
theorem dX3_makeDuties_3 : decode cX3_makeDuties 3 = .ok (.istore_n 3, 1) := by decide +kernel
theorem dX3_makeDuties_4 : decode cX3_makeDuties 4 = .ok (.iload_n 3, 1) := by decide +kernel
theorem dX3_makeDuties_5 : decode cX3_makeDuties 5 = .ok (.bipush 10, 2) := by decide +kernel
theorem dX3_makeDuties_7 : decode cX3_makeDuties 7 = .ok (.if_icmp .ge 53, 3) := by decide +kernel
theorem dX3_makeDuties_10 : decode cX3_makeDuties 10 = .ok (.aload_n 1, 1) := by decide +kernel
theorem dX3_makeDuties_11 : decode cX3_makeDuties 11 = .ok (.getfield 93, 3) := by decide +kernel
theorem dX3_makeDuties_14 : decode cX3_makeDuties 14 = .ok (.iload_n 3, 1) := by decide +kernel
theorem dX3_makeDuties_15 : decode cX3_makeDuties 15 = .ok (.aaload, 1) := by decide +kernel
theorem dX3_makeDuties_16 : decode cX3_makeDuties 16 = .ok (.astore 4, 2) := by decide +kernel
theorem dX3_makeDuties_18 : decode cX3_makeDuties 18 = .ok (.aload 4, 2) := by decide +kernel
theorem dX3_makeDuties_20 : decode cX3_makeDuties 20 = .ok (.ifnull 34, 3) := by decide +kernel
theorem dX3_makeDuties_23 : decode cX3_makeDuties 23 = .ok (.aload_n 0, 1) := by decide +kernel
theorem dX3_makeDuties_24 : decode cX3_makeDuties 24 = .ok (.getfield 29, 3) := by decide +kernel
theorem dX3_makeDuties_27 : decode cX3_makeDuties 27 = .ok (.new 152, 3) := by decide +kernel
theorem dX3_makeDuties_30 : decode cX3_makeDuties 30 = .ok (.dup, 1) := by decide +kernel
theorem dX3_makeDuties_31 : decode cX3_makeDuties 31 = .ok (.aload_n 1, 1) := by decide +kernel
theorem dX3_makeDuties_32 : decode cX3_makeDuties 32 = .ok (.aload 4, 2) := by decide +kernel
theorem dX3_makeDuties_34 : decode cX3_makeDuties 34 = .ok (.aload_n 0, 1) := by decide +kernel
theorem dX3_makeDuties_35 : decode cX3_makeDuties 35 = .ok (.getfield 32, 3) := by decide +kernel
theorem dX3_makeDuties_38 : decode cX3_makeDuties 38 = .ok (.aload 4, 2) := by decide +kernel
theorem dX3_makeDuties_40 : decode cX3_makeDuties 40 = .ok (.getfield 232, 3) := by decide +kernel
theorem dX3_makeDuties_43 : decode cX3_makeDuties 43 = .ok (.iadd, 1) := by decide +kernel
theorem dX3_makeDuties_44 : decode cX3_makeDuties 44 = .ok (.invokespecial 235, 3) := by decide +kernel
theorem dX3_makeDuties_47 : decode cX3_makeDuties 47 = .ok (.invokevirtual 79, 3) := by decide +kernel
theorem dX3_makeDuties_50 : decode cX3_makeDuties 50 = .ok (.pop, 1) := by decide +kernel
theorem dX3_makeDuties_51 : decode cX3_makeDuties 51 = .ok (.iinc 2 1, 3) := by decide +kernel
theorem dX3_makeDuties_54 : decode cX3_makeDuties 54 = .ok (.iinc 3 1, 3) := by decide +kernel
theorem dX3_makeDuties_57 : decode cX3_makeDuties 57 = .ok (.goto (-53), 3) := by decide +kernel
theorem dX3_makeDuties_60 : decode cX3_makeDuties 60 = .ok (.iload_n 2, 1) := by decide +kernel
theorem dX3_makeDuties_61 : decode cX3_makeDuties 61 = .ok (.ireturn, 1) := by decide +kernel
set_option maxRecDepth 20000 in
theorem ggX3_putOffHeldUpDuties_Jx4a65c_size_8abf5 : GoodIn wsX3_putOffHeldUpDuties wsJx4a65c_size_8abf5 := goodIn_r _ [8, 9, 51, 52, 53] (by decide +kernel) (by decide +kernel)
set_option maxRecDepth 20000 in
theorem gX3_putOffHeldUpDuties_Jx4a65c_size_8abf5 : GoodIn wsX3_putOffHeldUpDuties (wsV RX3 70 RJx4a65c yJx4a65c_size_8abf5 wsJx4a65c_size_8abf5) := goodIn_app (goodIn_of _ (by decide +kernel)) ggX3_putOffHeldUpDuties_Jx4a65c_size_8abf5
set_option maxRecDepth 20000 in
theorem ggX3_putOffHeldUpDuties_Jx4a65c_get_915e3 : GoodIn wsX3_putOffHeldUpDuties wsJx4a65c_get_915e3 := goodIn_r _ [13, 9, 14, 15, 16, 17, 18, 19, 20, 21, 22, 23, 24, 7, 25, 26, 51, 52, 53] (by decide +kernel) (by decide +kernel)
set_option maxRecDepth 20000 in
theorem gX3_putOffHeldUpDuties_Jx4a65c_get_915e3 : GoodIn wsX3_putOffHeldUpDuties (wsV RX3 209 RJx4a65c yJx4a65c_get_915e3 wsJx4a65c_get_915e3) := goodIn_app (goodIn_of _ (by decide +kernel)) ggX3_putOffHeldUpDuties_Jx4a65c_get_915e3
set_option maxRecDepth 20000 in
theorem ggX3_putOffHeldUpDuties_X1_isHeldUp : GoodIn wsX3_putOffHeldUpDuties wsX1_isHeldUp := goodIn_r _ [31, 32, 33, 34, 35, 36, 37, 38, 30, 39, 40, 47, 48, 49, 50, 54, 55, 56, 57, 58, 59, 60, 61, 62, 63] (by decide +kernel) (by decide +kernel)
set_option maxRecDepth 20000 in
theorem gX3_putOffHeldUpDuties_X1_isHeldUp : GoodIn wsX3_putOffHeldUpDuties (wsV RX3 159 RX1 yX1_isHeldUp wsX1_isHeldUp) := goodIn_app (goodIn_of _ (by decide +kernel)) ggX3_putOffHeldUpDuties_X1_isHeldUp
theorem dX3_putOffHeldUpDuties_0 : decode cX3_putOffHeldUpDuties 0 = .ok (.iconst 0, 1) := by decide +kernel
theorem dX3_putOffHeldUpDuties_1 : decode cX3_putOffHeldUpDuties 1 = .ok (.istore_n 1, 1) := by decide +kernel
theorem dX3_putOffHeldUpDuties_2 : decode cX3_putOffHeldUpDuties 2 = .ok (.iload_n 1, 1) := by decide +kernel
theorem dX3_putOffHeldUpDuties_3 : decode cX3_putOffHeldUpDuties 3 = .ok (.aload_n 0, 1) := by decide +kernel
theorem dX3_putOffHeldUpDuties_4 : decode cX3_putOffHeldUpDuties 4 = .ok (.getfield 29, 3) := by decide +kernel
theorem dX3_putOffHeldUpDuties_7 : decode cX3_putOffHeldUpDuties 7 = .ok (.invokevirtual 70, 3) := by decide +kernel
theorem dX3_putOffHeldUpDuties_10 : decode cX3_putOffHeldUpDuties 10 = .ok (.if_icmp .ge 38, 3) := by decide +kernel
theorem dX3_putOffHeldUpDuties_13 : decode cX3_putOffHeldUpDuties 13 = .ok (.aload_n 0, 1) := by decide +kernel
theorem dX3_putOffHeldUpDuties_14 : decode cX3_putOffHeldUpDuties 14 = .ok (.getfield 29, 3) := by decide +kernel
theorem dX3_putOffHeldUpDuties_17 : decode cX3_putOffHeldUpDuties 17 = .ok (.iload_n 1, 1) := by decide +kernel
theorem dX3_putOffHeldUpDuties_18 : decode cX3_putOffHeldUpDuties 18 = .ok (.invokevirtual 209, 3) := by decide +kernel
theorem dX3_putOffHeldUpDuties_21 : decode cX3_putOffHeldUpDuties 21 = .ok (.checkcast 152, 3) := by decide +kernel
theorem dX3_putOffHeldUpDuties_24 : decode cX3_putOffHeldUpDuties 24 = .ok (.astore_n 2, 1) := by decide +kernel
theorem dX3_putOffHeldUpDuties_25 : decode cX3_putOffHeldUpDuties 25 = .ok (.aload_n 2, 1) := by decide +kernel
theorem dX3_putOffHeldUpDuties_26 : decode cX3_putOffHeldUpDuties 26 = .ok (.invokevirtual 159, 3) := by decide +kernel
theorem dX3_putOffHeldUpDuties_29 : decode cX3_putOffHeldUpDuties 29 = .ok (.ifCond .eq 13, 3) := by decide +kernel
theorem dX3_putOffHeldUpDuties_32 : decode cX3_putOffHeldUpDuties 32 = .ok (.aload_n 2, 1) := by decide +kernel
theorem dX3_putOffHeldUpDuties_33 : decode cX3_putOffHeldUpDuties 33 = .ok (.dup, 1) := by decide +kernel
theorem dX3_putOffHeldUpDuties_34 : decode cX3_putOffHeldUpDuties 34 = .ok (.getfield 156, 3) := by decide +kernel
theorem dX3_putOffHeldUpDuties_37 : decode cX3_putOffHeldUpDuties 37 = .ok (.iconst 1, 1) := by decide +kernel
theorem dX3_putOffHeldUpDuties_38 : decode cX3_putOffHeldUpDuties 38 = .ok (.iadd, 1) := by decide +kernel
theorem dX3_putOffHeldUpDuties_39 : decode cX3_putOffHeldUpDuties 39 = .ok (.putfield 156, 3) := by decide +kernel
theorem dX3_putOffHeldUpDuties_42 : decode cX3_putOffHeldUpDuties 42 = .ok (.iinc 1 1, 3) := by decide +kernel
theorem dX3_putOffHeldUpDuties_45 : decode cX3_putOffHeldUpDuties 45 = .ok (.goto (-43), 3) := by decide +kernel
theorem dX3_putOffHeldUpDuties_48 : decode cX3_putOffHeldUpDuties 48 = .ok (.return_, 1) := by decide +kernel
set_option maxRecDepth 20000 in
theorem ggX3_breachUncuredDuties_Jx4a65c_size_8abf5 : GoodIn wsX3_breachUncuredDuties wsJx4a65c_size_8abf5 := goodIn_r _ [10, 11, 56, 57, 58] (by decide +kernel) (by decide +kernel)
set_option maxRecDepth 20000 in
theorem gX3_breachUncuredDuties_Jx4a65c_size_8abf5 : GoodIn wsX3_breachUncuredDuties (wsV RX3 70 RJx4a65c yJx4a65c_size_8abf5 wsJx4a65c_size_8abf5) := goodIn_app (goodIn_of _ (by decide +kernel)) ggX3_breachUncuredDuties_Jx4a65c_size_8abf5
set_option maxRecDepth 20000 in
theorem ggX3_breachUncuredDuties_Jx4a65c_get_915e3 : GoodIn wsX3_breachUncuredDuties wsJx4a65c_get_915e3 := goodIn_r _ [15, 11, 16, 17, 18, 19, 20, 21, 22, 23, 24, 25, 26, 9, 27, 28, 56, 57, 58] (by decide +kernel) (by decide +kernel)
set_option maxRecDepth 20000 in
theorem gX3_breachUncuredDuties_Jx4a65c_get_915e3 : GoodIn wsX3_breachUncuredDuties (wsV RX3 209 RJx4a65c yJx4a65c_get_915e3 wsJx4a65c_get_915e3) := goodIn_app (goodIn_of _ (by decide +kernel)) ggX3_breachUncuredDuties_Jx4a65c_get_915e3
set_option maxRecDepth 20000 in
theorem ggX3_breachUncuredDuties_X1_move : GoodIn wsX3_breachUncuredDuties wsX1_move := goodIn_r _ [33, 34, 35, 52, 53, 54, 55] (by decide +kernel) (by decide +kernel)
set_option maxRecDepth 20000 in
theorem gX3_breachUncuredDuties_X1_move : GoodIn wsX3_breachUncuredDuties (wsV RX3 167 RX1 yX1_move wsX1_move) := goodIn_app (goodIn_of _ (by decide +kernel)) ggX3_breachUncuredDuties_X1_move
set_option maxRecDepth 20000 in
theorem ggX3_breachUncuredDuties_X1_countBreach : GoodIn wsX3_breachUncuredDuties wsX1_countBreach := goodIn_r _ [39, 40, 41, 42, 43, 44, 45, 52, 53, 54, 55, 59, 60, 61, 62, 63, 64, 65, 66, 67, 68] (by decide +kernel) (by decide +kernel)
set_option maxRecDepth 20000 in
theorem gX3_breachUncuredDuties_X1_countBreach : GoodIn wsX3_breachUncuredDuties (wsV RX3 181 RX1 yX1_countBreach wsX1_countBreach) := goodIn_app (goodIn_of _ (by decide +kernel)) ggX3_breachUncuredDuties_X1_countBreach
theorem dX3_breachUncuredDuties_0 : decode cX3_breachUncuredDuties 0 = .ok (.iconst 0, 1) := by decide +kernel
theorem dX3_breachUncuredDuties_1 : decode cX3_breachUncuredDuties 1 = .ok (.istore_n 1, 1) := by decide +kernel
theorem dX3_breachUncuredDuties_2 : decode cX3_breachUncuredDuties 2 = .ok (.iconst 0, 1) := by decide +kernel
theorem dX3_breachUncuredDuties_3 : decode cX3_breachUncuredDuties 3 = .ok (.istore_n 2, 1) := by decide +kernel
theorem dX3_breachUncuredDuties_4 : decode cX3_breachUncuredDuties 4 = .ok (.iload_n 2, 1) := by decide +kernel
theorem dX3_breachUncuredDuties_5 : decode cX3_breachUncuredDuties 5 = .ok (.aload_n 0, 1) := by decide +kernel
theorem dX3_breachUncuredDuties_6 : decode cX3_breachUncuredDuties 6 = .ok (.getfield 29, 3) := by decide +kernel
theorem dX3_breachUncuredDuties_9 : decode cX3_breachUncuredDuties 9 = .ok (.invokevirtual 70, 3) := by decide +kernel
theorem dX3_breachUncuredDuties_12 : decode cX3_breachUncuredDuties 12 = .ok (.if_icmp .ge 57, 3) := by decide +kernel
theorem dX3_breachUncuredDuties_15 : decode cX3_breachUncuredDuties 15 = .ok (.aload_n 0, 1) := by decide +kernel
theorem dX3_breachUncuredDuties_16 : decode cX3_breachUncuredDuties 16 = .ok (.getfield 29, 3) := by decide +kernel
theorem dX3_breachUncuredDuties_19 : decode cX3_breachUncuredDuties 19 = .ok (.iload_n 2, 1) := by decide +kernel
theorem dX3_breachUncuredDuties_20 : decode cX3_breachUncuredDuties 20 = .ok (.invokevirtual 209, 3) := by decide +kernel
theorem dX3_breachUncuredDuties_23 : decode cX3_breachUncuredDuties 23 = .ok (.checkcast 152, 3) := by decide +kernel
theorem dX3_breachUncuredDuties_26 : decode cX3_breachUncuredDuties 26 = .ok (.astore_n 3, 1) := by decide +kernel
theorem dX3_breachUncuredDuties_27 : decode cX3_breachUncuredDuties 27 = .ok (.aload_n 3, 1) := by decide +kernel
theorem dX3_breachUncuredDuties_28 : decode cX3_breachUncuredDuties 28 = .ok (.getfield 151, 3) := by decide +kernel
theorem dX3_breachUncuredDuties_31 : decode cX3_breachUncuredDuties 31 = .ok (.iconst 2, 1) := by decide +kernel
theorem dX3_breachUncuredDuties_32 : decode cX3_breachUncuredDuties 32 = .ok (.if_icmp .ne 31, 3) := by decide +kernel
theorem dX3_breachUncuredDuties_35 : decode cX3_breachUncuredDuties 35 = .ok (.aload_n 0, 1) := by decide +kernel
theorem dX3_breachUncuredDuties_36 : decode cX3_breachUncuredDuties 36 = .ok (.getfield 32, 3) := by decide +kernel
theorem dX3_breachUncuredDuties_39 : decode cX3_breachUncuredDuties 39 = .ok (.aload_n 3, 1) := by decide +kernel
theorem dX3_breachUncuredDuties_40 : decode cX3_breachUncuredDuties 40 = .ok (.getfield 156, 3) := by decide +kernel
theorem dX3_breachUncuredDuties_43 : decode cX3_breachUncuredDuties 43 = .ok (.if_icmp .le 20, 3) := by decide +kernel
theorem dX3_breachUncuredDuties_46 : decode cX3_breachUncuredDuties 46 = .ok (.aload_n 3, 1) := by decide +kernel
theorem dX3_breachUncuredDuties_47 : decode cX3_breachUncuredDuties 47 = .ok (.iconst 3, 1) := by decide +kernel
theorem dX3_breachUncuredDuties_48 : decode cX3_breachUncuredDuties 48 = .ok (.aload_n 0, 1) := by decide +kernel
theorem dX3_breachUncuredDuties_49 : decode cX3_breachUncuredDuties 49 = .ok (.getfield 32, 3) := by decide +kernel
theorem dX3_breachUncuredDuties_52 : decode cX3_breachUncuredDuties 52 = .ok (.invokevirtual 167, 3) := by decide +kernel
theorem dX3_breachUncuredDuties_55 : decode cX3_breachUncuredDuties 55 = .ok (.aload_n 3, 1) := by decide +kernel
theorem dX3_breachUncuredDuties_56 : decode cX3_breachUncuredDuties 56 = .ok (.iconst 1, 1) := by decide +kernel
theorem dX3_breachUncuredDuties_57 : decode cX3_breachUncuredDuties 57 = .ok (.invokevirtual 181, 3) := by decide +kernel
theorem dX3_breachUncuredDuties_60 : decode cX3_breachUncuredDuties 60 = .ok (.iinc 1 1, 3) := by decide +kernel
theorem dX3_breachUncuredDuties_63 : decode cX3_breachUncuredDuties 63 = .ok (.iinc 2 1, 3) := by decide +kernel
theorem dX3_breachUncuredDuties_66 : decode cX3_breachUncuredDuties 66 = .ok (.goto (-62), 3) := by decide +kernel
theorem dX3_breachUncuredDuties_69 : decode cX3_breachUncuredDuties 69 = .ok (.iload_n 1, 1) := by decide +kernel
theorem dX3_breachUncuredDuties_70 : decode cX3_breachUncuredDuties 70 = .ok (.ireturn, 1) := by decide +kernel
theorem dX4_init_0 : decode cX4_init 0 = .ok (.aload_n 0, 1) := by decide +kernel
theorem dX4_init_1 : decode cX4_init 1 = .ok (.invokespecial 1, 3) := by decide +kernel
theorem dX4_init_4 : decode cX4_init 4 = .ok (.aload_n 0, 1) := by decide +kernel
theorem dX4_init_5 : decode cX4_init 5 = .ok (.bipush 10, 2) := by decide +kernel
theorem dX4_init_7 : decode cX4_init 7 = .ok (.newarray .int, 2) := by decide +kernel
theorem dX4_init_9 : decode cX4_init 9 = .ok (.putfield 7, 3) := by decide +kernel
theorem dX4_init_12 : decode cX4_init 12 = .ok (.aload_n 0, 1) := by decide +kernel
theorem dX4_init_13 : decode cX4_init 13 = .ok (.bipush 90, 2) := by decide +kernel
theorem dX4_init_15 : decode cX4_init 15 = .ok (.newarray .int, 2) := by decide +kernel
theorem dX4_init_17 : decode cX4_init 17 = .ok (.putfield 13, 3) := by decide +kernel
theorem dX4_init_20 : decode cX4_init 20 = .ok (.aload_n 0, 1) := by decide +kernel
theorem dX4_init_21 : decode cX4_init 21 = .ok (.bipush 90, 2) := by decide +kernel
theorem dX4_init_23 : decode cX4_init 23 = .ok (.newarray .int, 2) := by decide +kernel
theorem dX4_init_25 : decode cX4_init 25 = .ok (.putfield 16, 3) := by decide +kernel
theorem dX4_init_28 : decode cX4_init 28 = .ok (.aload_n 0, 1) := by decide +kernel
theorem dX4_init_29 : decode cX4_init 29 = .ok (.bipush 90, 2) := by decide +kernel
theorem dX4_init_31 : decode cX4_init 31 = .ok (.newarray .int, 2) := by decide +kernel
theorem dX4_init_33 : decode cX4_init 33 = .ok (.putfield 19, 3) := by decide +kernel
theorem dX4_init_36 : decode cX4_init 36 = .ok (.aload_n 0, 1) := by decide +kernel
theorem dX4_init_37 : decode cX4_init 37 = .ok (.bipush 90, 2) := by decide +kernel
theorem dX4_init_39 : decode cX4_init 39 = .ok (.newarray .int, 2) := by decide +kernel
theorem dX4_init_41 : decode cX4_init 41 = .ok (.putfield 22, 3) := by decide +kernel
theorem dX4_init_44 : decode cX4_init 44 = .ok (.aload_n 0, 1) := by decide +kernel
theorem dX4_init_45 : decode cX4_init 45 = .ok (.bipush 10, 2) := by decide +kernel
theorem dX4_init_47 : decode cX4_init 47 = .ok (.newarray .int, 2) := by decide +kernel
theorem dX4_init_49 : decode cX4_init 49 = .ok (.putfield 25, 3) := by decide +kernel
theorem dX4_init_52 : decode cX4_init 52 = .ok (.aload_n 0, 1) := by decide +kernel
theorem dX4_init_53 : decode cX4_init 53 = .ok (.bipush 10, 2) := by decide +kernel
theorem dX4_init_55 : decode cX4_init 55 = .ok (.newarray .int, 2) := by decide +kernel
theorem dX4_init_57 : decode cX4_init 57 = .ok (.putfield 28, 3) := by decide +kernel
theorem dX4_init_60 : decode cX4_init 60 = .ok (.aload_n 0, 1) := by decide +kernel
theorem dX4_init_61 : decode cX4_init 61 = .ok (.bipush 10, 2) := by decide +kernel
theorem dX4_init_63 : decode cX4_init 63 = .ok (.newarray .boolean, 2) := by decide +kernel
theorem dX4_init_65 : decode cX4_init 65 = .ok (.putfield 31, 3) := by decide +kernel
theorem dX4_init_68 : decode cX4_init 68 = .ok (.aload_n 0, 1) := by decide +kernel
theorem dX4_init_69 : decode cX4_init 69 = .ok (.bipush 10, 2) := by decide +kernel
theorem dX4_init_71 : decode cX4_init 71 = .ok (.newarray .int, 2) := by decide +kernel
theorem dX4_init_73 : decode cX4_init 73 = .ok (.putfield 35, 3) := by decide +kernel
theorem dX4_init_76 : decode cX4_init 76 = .ok (.aload_n 0, 1) := by decide +kernel
theorem dX4_init_77 : decode cX4_init 77 = .ok (.bipush 100, 2) := by decide +kernel
theorem dX4_init_79 : decode cX4_init 79 = .ok (.newarray .int, 2) := by decide +kernel
theorem dX4_init_81 : decode cX4_init 81 = .ok (.putfield 38, 3) := by decide +kernel
theorem dX4_init_84 : decode cX4_init 84 = .ok (.aload_n 0, 1) := by decide +kernel
theorem dX4_init_85 : decode cX4_init 85 = .ok (.sipush 200, 3) := by decide +kernel
theorem dX4_init_88 : decode cX4_init 88 = .ok (.newarray .int, 2) := by decide +kernel
theorem dX4_init_90 : decode cX4_init 90 = .ok (.putfield 41, 3) := by decide +kernel
theorem dX4_init_93 : decode cX4_init 93 = .ok (.aload_n 0, 1) := by decide +kernel
theorem dX4_init_94 : decode cX4_init 94 = .ok (.bipush 100, 2) := by decide +kernel
theorem dX4_init_96 : decode cX4_init 96 = .ok (.newarray .int, 2) := by decide +kernel
theorem dX4_init_98 : decode cX4_init 98 = .ok (.putfield 44, 3) := by decide +kernel
theorem dX4_init_101 : decode cX4_init 101 = .ok (.aload_n 0, 1) := by decide +kernel
theorem dX4_init_102 : decode cX4_init 102 = .ok (.bipush 100, 2) := by decide +kernel
theorem dX4_init_104 : decode cX4_init 104 = .ok (.newarray .int, 2) := by decide +kernel
theorem dX4_init_106 : decode cX4_init 106 = .ok (.putfield 47, 3) := by decide +kernel
theorem dX4_init_109 : decode cX4_init 109 = .ok (.aload_n 0, 1) := by decide +kernel
theorem dX4_init_110 : decode cX4_init 110 = .ok (.bipush 100, 2) := by decide +kernel
theorem dX4_init_112 : decode cX4_init 112 = .ok (.newarray .int, 2) := by decide +kernel
theorem dX4_init_114 : decode cX4_init 114 = .ok (.putfield 50, 3) := by decide +kernel
theorem dX4_init_117 : decode cX4_init 117 = .ok (.aload_n 0, 1) := by decide +kernel
theorem dX4_init_118 : decode cX4_init 118 = .ok (.bipush 100, 2) := by decide +kernel
theorem dX4_init_120 : decode cX4_init 120 = .ok (.newarray .int, 2) := by decide +kernel
theorem dX4_init_122 : decode cX4_init 122 = .ok (.putfield 53, 3) := by decide +kernel
theorem dX4_init_125 : decode cX4_init 125 = .ok (.aload_n 0, 1) := by decide +kernel
theorem dX4_init_126 : decode cX4_init 126 = .ok (.bipush 100, 2) := by decide +kernel
theorem dX4_init_128 : decode cX4_init 128 = .ok (.newarray .int, 2) := by decide +kernel
theorem dX4_init_130 : decode cX4_init 130 = .ok (.putfield 56, 3) := by decide +kernel
theorem dX4_init_133 : decode cX4_init 133 = .ok (.aload_n 0, 1) := by decide +kernel
theorem dX4_init_134 : decode cX4_init 134 = .ok (.bipush 100, 2) := by decide +kernel
theorem dX4_init_136 : decode cX4_init 136 = .ok (.newarray .int, 2) := by decide +kernel
theorem dX4_init_138 : decode cX4_init 138 = .ok (.putfield 59, 3) := by decide +kernel
theorem dX4_init_141 : decode cX4_init 141 = .ok (.aload_n 0, 1) := by decide +kernel
theorem dX4_init_142 : decode cX4_init 142 = .ok (.bipush 100, 2) := by decide +kernel
theorem dX4_init_144 : decode cX4_init 144 = .ok (.newarray .boolean, 2) := by decide +kernel
theorem dX4_init_146 : decode cX4_init 146 = .ok (.putfield 62, 3) := by decide +kernel
theorem dX4_init_149 : decode cX4_init 149 = .ok (.return_, 1) := by decide +kernel
theorem dX4_thrown_0 : decode cX4_thrown 0 = .ok (.aload_n 0, 1) := by decide +kernel
theorem dX4_thrown_1 : decode cX4_thrown 1 = .ok (.getfield 65, 3) := by decide +kernel
theorem dX4_thrown_4 : decode cX4_thrown 4 = .ok (.ireturn, 1) := by decide +kernel
theorem dX4_in_0 : decode cX4_in 0 = .ok (.iload_n 0, 1) := by decide +kernel
theorem dX4_in_1 : decode cX4_in 1 = .ok (.iload_n 1, 1) := by decide +kernel
theorem dX4_in_2 : decode cX4_in 2 = .ok (.if_icmp .lt 12, 3) := by decide +kernel
theorem dX4_in_5 : decode cX4_in 5 = .ok (.iload_n 0, 1) := by decide +kernel
theorem dX4_in_6 : decode cX4_in 6 = .ok (.iload_n 2, 1) := by decide +kernel
theorem dX4_in_7 : decode cX4_in 7 = .ok (.if_icmp .gt 7, 3) := by decide +kernel
theorem dX4_in_10 : decode cX4_in 10 = .ok (.iconst 1, 1) := by decide +kernel
theorem dX4_in_11 : decode cX4_in 11 = .ok (.goto 4, 3) := by decide +kernel
theorem dX4_in_14 : decode cX4_in 14 = .ok (.iconst 0, 1) := by decide +kernel
theorem dX4_in_15 : decode cX4_in 15 = .ok (.ireturn, 1) := by decide +kernel
set_option maxRecDepth 20000 in
theorem ggX4_isClause_X4_in : GoodIn wsX4_isClause wsX4_in := goodIn_r _ [4] (by decide +kernel) (by decide +kernel)
set_option maxRecDepth 20000 in
theorem gX4_isClause_X4_in : GoodIn wsX4_isClause (va_wsS RX4 69 yX4_in wsX4_in) := goodIn_app (goodIn_of _ (by decide +kernel)) ggX4_isClause_X4_in
theorem dX4_isClause_0 : decode cX4_isClause 0 = .ok (.iload_n 0, 1) := by decide +kernel
theorem dX4_isClause_1 : decode cX4_isClause 1 = .ok (.iconst 0, 1) := by decide +kernel
theorem dX4_isClause_2 : decode cX4_isClause 2 = .ok (.bipush 9, 2) := by decide +kernel
theorem dX4_isClause_4 : decode cX4_isClause 4 = .ok (.invokestatic 69, 3) := by decide +kernel
theorem dX4_isClause_7 : decode cX4_isClause 7 = .ok (.ireturn, 1) := by decide +kernel
set_option maxRecDepth 20000 in
theorem ggX4_isSide_X4_in : GoodIn wsX4_isSide wsX4_in := goodIn_r _ [4] (by decide +kernel) (by decide +kernel)
set_option maxRecDepth 20000 in
theorem gX4_isSide_X4_in : GoodIn wsX4_isSide (va_wsS RX4 69 yX4_in wsX4_in) := goodIn_app (goodIn_of _ (by decide +kernel)) ggX4_isSide_X4_in
theorem dX4_isSide_0 : decode cX4_isSide 0 = .ok (.iload_n 0, 1) := by decide +kernel
theorem dX4_isSide_1 : decode cX4_isSide 1 = .ok (.iconst 0, 1) := by decide +kernel
theorem dX4_isSide_2 : decode cX4_isSide 2 = .ok (.iconst 1, 1) := by decide +kernel
theorem dX4_isSide_3 : decode cX4_isSide 3 = .ok (.invokestatic 69, 3) := by decide +kernel
theorem dX4_isSide_6 : decode cX4_isSide 6 = .ok (.ireturn, 1) := by decide +kernel
set_option maxRecDepth 20000 in
theorem ggX4_isContract_X4_in : GoodIn wsX4_isContract wsX4_in := goodIn_r _ [5] (by decide +kernel) (by decide +kernel)
set_option maxRecDepth 20000 in
theorem gX4_isContract_X4_in : GoodIn wsX4_isContract (va_wsS RX4 69 yX4_in wsX4_in) := goodIn_app (goodIn_of _ (by decide +kernel)) ggX4_isContract_X4_in
theorem dX4_isContract_0 : decode cX4_isContract 0 = .ok (.iload_n 1, 1) := by decide +kernel
theorem dX4_isContract_1 : decode cX4_isContract 1 = .ok (.iconst 0, 1) := by decide +kernel
theorem dX4_isContract_2 : decode cX4_isContract 2 = .ok (.aload_n 0, 1) := by decide +kernel
theorem dX4_isContract_3 : decode cX4_isContract 3 = .ok (.getfield 73, 3) := by decide +kernel
theorem dX4_isContract_6 : decode cX4_isContract 6 = .ok (.iconst 1, 1) := by decide +kernel
theorem dX4_isContract_7 : decode cX4_isContract 7 = .ok (.isub, 1) := by decide +kernel
theorem dX4_isContract_8 : decode cX4_isContract 8 = .ok (.invokestatic 69, 3) := by decide +kernel
theorem dX4_isContract_11 : decode cX4_isContract 11 = .ok (.ireturn, 1) := by decide +kernel
set_option maxRecDepth 20000 in
theorem ggX4_isDuty_X4_in : GoodIn wsX4_isDuty wsX4_in := goodIn_r _ [5] (by decide +kernel) (by decide +kernel)
set_option maxRecDepth 20000 in
theorem gX4_isDuty_X4_in : GoodIn wsX4_isDuty (va_wsS RX4 69 yX4_in wsX4_in) := goodIn_app (goodIn_of _ (by decide +kernel)) ggX4_isDuty_X4_in
theorem dX4_isDuty_0 : decode cX4_isDuty 0 = .ok (.iload_n 1, 1) := by decide +kernel
theorem dX4_isDuty_1 : decode cX4_isDuty 1 = .ok (.iconst 0, 1) := by decide +kernel
theorem dX4_isDuty_2 : decode cX4_isDuty 2 = .ok (.aload_n 0, 1) := by decide +kernel
theorem dX4_isDuty_3 : decode cX4_isDuty 3 = .ok (.getfield 76, 3) := by decide +kernel
theorem dX4_isDuty_6 : decode cX4_isDuty 6 = .ok (.iconst 1, 1) := by decide +kernel
theorem dX4_isDuty_7 : decode cX4_isDuty 7 = .ok (.isub, 1) := by decide +kernel
theorem dX4_isDuty_8 : decode cX4_isDuty 8 = .ok (.invokestatic 69, 3) := by decide +kernel
theorem dX4_isDuty_11 : decode cX4_isDuty 11 = .ok (.ireturn, 1) := by decide +kernel
set_option maxRecDepth 20000 in
theorem ggX4_issue_X4_isClause : GoodIn wsX4_issue wsX4_isClause := goodIn_r _ [10, 11, 12, 9, 13] (by decide +kernel) (by decide +kernel)
set_option maxRecDepth 20000 in
theorem gX4_issue_X4_isClause : GoodIn wsX4_issue (va_wsS RX4 79 yX4_isClause wsX4_isClause) := goodIn_app (goodIn_of _ (by decide +kernel)) ggX4_issue_X4_isClause
set_option maxRecDepth 20000 in
theorem ggX4_issue_X4_isSide : GoodIn wsX4_issue wsX4_isSide := goodIn_r _ [16, 11, 12, 9, 13] (by decide +kernel) (by decide +kernel)
set_option maxRecDepth 20000 in
theorem gX4_issue_X4_isSide : GoodIn wsX4_issue (va_wsS RX4 83 yX4_isSide wsX4_isSide) := goodIn_app (goodIn_of _ (by decide +kernel)) ggX4_issue_X4_isSide
set_option maxRecDepth 20000 in
theorem ggX4_issue_X4_in : GoodIn wsX4_issue wsX4_in := goodIn_r _ [13] (by decide +kernel) (by decide +kernel)
set_option maxRecDepth 20000 in
theorem gX4_issue_X4_in : GoodIn wsX4_issue (va_wsS RX4 69 yX4_in wsX4_in) := goodIn_app (goodIn_of _ (by decide +kernel)) ggX4_issue_X4_in
theorem dX4_issue_0 : decode cX4_issue 0 = .ok (.iload_n 1, 1) := by decide +kernel
theorem dX4_issue_1 : decode cX4_issue 1 = .ok (.invokestatic 79, 3) := by decide +kernel
theorem dX4_issue_4 : decode cX4_issue 4 = .ok (.ifCond .eq 47, 3) := by decide +kernel
theorem dX4_issue_7 : decode cX4_issue 7 = .ok (.iload_n 2, 1) := by decide +kernel
theorem dX4_issue_8 : decode cX4_issue 8 = .ok (.invokestatic 83, 3) := by decide +kernel
theorem dX4_issue_11 : decode cX4_issue 11 = .ok (.ifCond .eq 40, 3) := by decide +kernel
theorem dX4_issue_14 : decode cX4_issue 14 = .ok (.iload_n 3, 1) := by decide +kernel
theorem dX4_issue_15 : decode cX4_issue 15 = .ok (.iconst 0, 1) := by decide +kernel
theorem dX4_issue_16 : decode cX4_issue 16 = .ok (.bipush 100, 2) := by decide +kernel
theorem dX4_issue_18 : decode cX4_issue 18 = .ok (.invokestatic 69, 3) := by decide +kernel
theorem dX4_issue_21 : decode cX4_issue 21 = .ok (.ifCond .eq 30, 3) := by decide +kernel
theorem dX4_issue_24 : decode cX4_issue 24 = .ok (.iload 4, 2) := by decide +kernel
theorem dX4_issue_26 : decode cX4_issue 26 = .ok (.iconst 0, 1) := by decide +kernel
theorem dX4_issue_27 : decode cX4_issue 27 = .ok (.bipush 50, 2) := by decide +kernel
theorem dX4_issue_29 : decode cX4_issue 29 = .ok (.invokestatic 69, 3) := by decide +kernel
theorem dX4_issue_32 : decode cX4_issue 32 = .ok (.ifCond .eq 19, 3) := by decide +kernel
theorem dX4_issue_35 : decode cX4_issue 35 = .ok (.iload 5, 2) := by decide +kernel
theorem dX4_issue_37 : decode cX4_issue 37 = .ok (.iconst 0, 1) := by decide +kernel
theorem dX4_issue_38 : decode cX4_issue 38 = .ok (.sipush 1000, 3) := by decide +kernel
theorem dX4_issue_41 : decode cX4_issue 41 = .ok (.invokestatic 69, 3) := by decide +kernel
theorem dX4_issue_44 : decode cX4_issue 44 = .ok (.ifCond .eq 7, 3) := by decide +kernel
theorem dX4_issue_47 : decode cX4_issue 47 = .ok (.iconst 1, 1) := by decide +kernel
theorem dX4_issue_48 : decode cX4_issue 48 = .ok (.goto 4, 3) := by decide +kernel
theorem dX4_issue_51 : decode cX4_issue 51 = .ok (.iconst 0, 1) := by decide +kernel
theorem dX4_issue_52 : decode cX4_issue 52 = .ok (.istore 6, 2) := by decide +kernel
theorem dX4_issue_54 : decode cX4_issue 54 = .ok (.aload_n 0, 1) := by decide +kernel
theorem dX4_issue_55 : decode cX4_issue 55 = .ok (.iload 6, 2) := by decide +kernel
theorem dX4_issue_57 : decode cX4_issue 57 = .ok (.ifCond .ne 7, 3) := by decide +kernel
theorem dX4_issue_60 : decode cX4_issue 60 = .ok (.iconst 1, 1) := by decide +kernel
theorem dX4_issue_61 : decode cX4_issue 61 = .ok (.goto 19, 3) := by decide +kernel
theorem dX4_issue_64 : decode cX4_issue 64 = .ok (.aload_n 0, 1) := by decide +kernel
theorem dX4_issue_65 : decode cX4_issue 65 = .ok (.getfield 7, 3) := by decide +kernel
theorem dX4_issue_68 : decode cX4_issue 68 = .ok (.iload_n 1, 1) := by decide +kernel
theorem dX4_issue_69 : decode cX4_issue 69 = .ok (.iaload, 1) := by decide +kernel
theorem dX4_issue_70 : decode cX4_issue 70 = .ok (.bipush 9, 2) := by decide +kernel
theorem dX4_issue_72 : decode cX4_issue 72 = .ok (.if_icmp .ne 7, 3) := by decide +kernel
theorem dX4_issue_75 : decode cX4_issue 75 = .ok (.iconst 2, 1) := by decide +kernel
theorem dX4_issue_76 : decode cX4_issue 76 = .ok (.goto 4, 3) := by decide +kernel
theorem dX4_issue_79 : decode cX4_issue 79 = .ok (.iconst 0, 1) := by decide +kernel
theorem dX4_issue_80 : decode cX4_issue 80 = .ok (.putfield 65, 3) := by decide +kernel
theorem dX4_issue_83 : decode cX4_issue 83 = .ok (.aload_n 0, 1) := by decide +kernel
theorem dX4_issue_84 : decode cX4_issue 84 = .ok (.getfield 65, 3) := by decide +kernel
theorem dX4_issue_87 : decode cX4_issue 87 = .ok (.ifCond .le 5, 3) := by decide +kernel
theorem dX4_issue_90 : decode cX4_issue 90 = .ok (.iconst 0, 1) := by decide +kernel
theorem dX4_issue_91 : decode cX4_issue 91 = .ok (.ireturn, 1) := by decide +kernel
theorem dX4_issue_92 : decode cX4_issue 92 = .ok (.bipush 9, 2) := by decide +kernel
theorem dX4_issue_94 : decode cX4_issue 94 = .ok (.iload_n 1, 1) := by decide +kernel
theorem dX4_issue_95 : decode cX4_issue 95 = .ok (.imul, 1) := by decide +kernel
theorem dX4_issue_96 : decode cX4_issue 96 = .ok (.aload_n 0, 1) := by decide +kernel
theorem dX4_issue_97 : decode cX4_issue 97 = .ok (.getfield 7, 3) := by decide +kernel
theorem dX4_issue_100 : decode cX4_issue 100 = .ok (.iload_n 1, 1) := by decide +kernel
theorem dX4_issue_101 : decode cX4_issue 101 = .ok (.iaload, 1) := by decide +kernel
theorem dX4_issue_102 : decode cX4_issue 102 = .ok (.iadd, 1) := by decide +kernel
theorem dX4_issue_103 : decode cX4_issue 103 = .ok (.istore 7, 2) := by decide +kernel
theorem dX4_issue_105 : decode cX4_issue 105 = .ok (.aload_n 0, 1) := by decide +kernel
theorem dX4_issue_106 : decode cX4_issue 106 = .ok (.getfield 13, 3) := by decide +kernel
theorem dX4_issue_109 : decode cX4_issue 109 = .ok (.iload 7, 2) := by decide +kernel
theorem dX4_issue_111 : decode cX4_issue 111 = .ok (.iload_n 2, 1) := by decide +kernel
theorem dX4_issue_112 : decode cX4_issue 112 = .ok (.iastore, 1) := by decide +kernel
theorem dX4_issue_113 : decode cX4_issue 113 = .ok (.aload_n 0, 1) := by decide +kernel
theorem dX4_issue_114 : decode cX4_issue 114 = .ok (.getfield 16, 3) := by decide +kernel
theorem dX4_issue_117 : decode cX4_issue 117 = .ok (.iload 7, 2) := by decide +kernel
theorem dX4_issue_119 : decode cX4_issue 119 = .ok (.iload_n 3, 1) := by decide +kernel
theorem dX4_issue_120 : decode cX4_issue 120 = .ok (.iastore, 1) := by decide +kernel
theorem dX4_issue_121 : decode cX4_issue 121 = .ok (.aload_n 0, 1) := by decide +kernel
theorem dX4_issue_122 : decode cX4_issue 122 = .ok (.getfield 19, 3) := by decide +kernel
theorem dX4_issue_125 : decode cX4_issue 125 = .ok (.iload 7, 2) := by decide +kernel
theorem dX4_issue_127 : decode cX4_issue 127 = .ok (.iload 4, 2) := by decide +kernel
theorem dX4_issue_129 : decode cX4_issue 129 = .ok (.iastore, 1) := by decide +kernel
theorem dX4_issue_130 : decode cX4_issue 130 = .ok (.aload_n 0, 1) := by decide +kernel
theorem dX4_issue_131 : decode cX4_issue 131 = .ok (.getfield 22, 3) := by decide +kernel
theorem dX4_issue_134 : decode cX4_issue 134 = .ok (.iload 7, 2) := by decide +kernel
theorem dX4_issue_136 : decode cX4_issue 136 = .ok (.iload 5, 2) := by decide +kernel
theorem dX4_issue_138 : decode cX4_issue 138 = .ok (.iastore, 1) := by decide +kernel
theorem dX4_issue_139 : decode cX4_issue 139 = .ok (.aload_n 0, 1) := by decide +kernel
theorem dX4_issue_140 : decode cX4_issue 140 = .ok (.getfield 7, 3) := by decide +kernel
theorem dX4_issue_143 : decode cX4_issue 143 = .ok (.iload_n 1, 1) := by decide +kernel
theorem dX4_issue_144 : decode cX4_issue 144 = .ok (.dup2, 1) := by decide +kernel
theorem dX4_issue_145 : decode cX4_issue 145 = .ok (.iaload, 1) := by decide +kernel
theorem dX4_issue_146 : decode cX4_issue 146 = .ok (.iconst 1, 1) := by decide +kernel
theorem dX4_issue_147 : decode cX4_issue 147 = .ok (.iadd, 1) := by decide +kernel
theorem dX4_issue_148 : decode cX4_issue 148 = .ok (.iastore, 1) := by decide +kernel
theorem dX4_issue_149 : decode cX4_issue 149 = .ok (.aload_n 0, 1) := by decide +kernel
theorem dX4_issue_150 : decode cX4_issue 150 = .ok (.getfield 7, 3) := by decide +kernel
theorem dX4_issue_153 : decode cX4_issue 153 = .ok (.iload_n 1, 1) := by decide +kernel
theorem dX4_issue_154 : decode cX4_issue 154 = .ok (.iaload, 1) := by decide +kernel
theorem dX4_issue_155 : decode cX4_issue 155 = .ok (.ireturn, 1) := by decide +kernel
set_option maxRecDepth 20000 in
theorem ggX4_relate_X4_isClause : GoodIn wsX4_relate wsX4_isClause := goodIn_r _ [7, 8, 9, 6, 10] (by decide +kernel) (by decide +kernel)
set_option maxRecDepth 20000 in
theorem gX4_relate_X4_isClause : GoodIn wsX4_relate (va_wsS RX4 79 yX4_isClause wsX4_isClause) := goodIn_app (goodIn_of _ (by decide +kernel)) ggX4_relate_X4_isClause
set_option maxRecDepth 20000 in
theorem ggX4_relate_X4_in : GoodIn wsX4_relate wsX4_in := goodIn_r _ [10] (by decide +kernel) (by decide +kernel)
set_option maxRecDepth 20000 in
theorem gX4_relate_X4_in : GoodIn wsX4_relate (va_wsS RX4 69 yX4_in wsX4_in) := goodIn_app (goodIn_of _ (by decide +kernel)) ggX4_relate_X4_in
theorem dX4_relate_0 : decode cX4_relate 0 = .ok (.iload_n 1, 1) := by decide +kernel
theorem dX4_relate_1 : decode cX4_relate 1 = .ok (.invokestatic 79, 3) := by decide +kernel
theorem dX4_relate_4 : decode cX4_relate 4 = .ok (.ifCond .eq 29, 3) := by decide +kernel
theorem dX4_relate_7 : decode cX4_relate 7 = .ok (.iload_n 2, 1) := by decide +kernel
theorem dX4_relate_8 : decode cX4_relate 8 = .ok (.iconst 0, 1) := by decide +kernel
theorem dX4_relate_9 : decode cX4_relate 9 = .ok (.sipush 1023, 3) := by decide +kernel
theorem dX4_relate_12 : decode cX4_relate 12 = .ok (.invokestatic 69, 3) := by decide +kernel
theorem dX4_relate_15 : decode cX4_relate 15 = .ok (.ifCond .eq 18, 3) := by decide +kernel
theorem dX4_relate_18 : decode cX4_relate 18 = .ok (.iload_n 3, 1) := by decide +kernel
theorem dX4_relate_19 : decode cX4_relate 19 = .ok (.iconst 0, 1) := by decide +kernel
theorem dX4_relate_20 : decode cX4_relate 20 = .ok (.sipush 1023, 3) := by decide +kernel
theorem dX4_relate_23 : decode cX4_relate 23 = .ok (.invokestatic 69, 3) := by decide +kernel
theorem dX4_relate_26 : decode cX4_relate 26 = .ok (.ifCond .eq 7, 3) := by decide +kernel
theorem dX4_relate_29 : decode cX4_relate 29 = .ok (.iconst 1, 1) := by decide +kernel
theorem dX4_relate_30 : decode cX4_relate 30 = .ok (.goto 4, 3) := by decide +kernel
theorem dX4_relate_33 : decode cX4_relate 33 = .ok (.iconst 0, 1) := by decide +kernel
theorem dX4_relate_34 : decode cX4_relate 34 = .ok (.istore 4, 2) := by decide +kernel
theorem dX4_relate_36 : decode cX4_relate 36 = .ok (.aload_n 0, 1) := by decide +kernel
theorem dX4_relate_37 : decode cX4_relate 37 = .ok (.iload 4, 2) := by decide +kernel
theorem dX4_relate_39 : decode cX4_relate 39 = .ok (.ifCond .eq 14, 3) := by decide +kernel
theorem dX4_relate_42 : decode cX4_relate 42 = .ok (.iload_n 2, 1) := by decide +kernel
theorem dX4_relate_43 : decode cX4_relate 43 = .ok (.iload_n 3, 1) := by decide +kernel
theorem dX4_relate_44 : decode cX4_relate 44 = .ok (.ior, 1) := by decide +kernel
theorem dX4_relate_45 : decode cX4_relate 45 = .ok (.iload_n 1, 1) := by decide +kernel
theorem dX4_relate_46 : decode cX4_relate 46 = .ok (.ishr, 1) := by decide +kernel
theorem dX4_relate_47 : decode cX4_relate 47 = .ok (.iconst 1, 1) := by decide +kernel
theorem dX4_relate_48 : decode cX4_relate 48 = .ok (.iand, 1) := by decide +kernel
theorem dX4_relate_49 : decode cX4_relate 49 = .ok (.iconst 1, 1) := by decide +kernel
theorem dX4_relate_50 : decode cX4_relate 50 = .ok (.if_icmp .ne 7, 3) := by decide +kernel
theorem dX4_relate_53 : decode cX4_relate 53 = .ok (.iconst 1, 1) := by decide +kernel
theorem dX4_relate_54 : decode cX4_relate 54 = .ok (.goto 4, 3) := by decide +kernel
theorem dX4_relate_57 : decode cX4_relate 57 = .ok (.iconst 0, 1) := by decide +kernel
theorem dX4_relate_58 : decode cX4_relate 58 = .ok (.putfield 65, 3) := by decide +kernel
theorem dX4_relate_61 : decode cX4_relate 61 = .ok (.aload_n 0, 1) := by decide +kernel
theorem dX4_relate_62 : decode cX4_relate 62 = .ok (.getfield 65, 3) := by decide +kernel
theorem dX4_relate_65 : decode cX4_relate 65 = .ok (.ifCond .ne 17, 3) := by decide +kernel
theorem dX4_relate_68 : decode cX4_relate 68 = .ok (.aload_n 0, 1) := by decide +kernel
theorem dX4_relate_69 : decode cX4_relate 69 = .ok (.getfield 25, 3) := by decide +kernel
theorem dX4_relate_72 : decode cX4_relate 72 = .ok (.iload_n 1, 1) := by decide +kernel
theorem dX4_relate_73 : decode cX4_relate 73 = .ok (.iload_n 2, 1) := by decide +kernel
theorem dX4_relate_74 : decode cX4_relate 74 = .ok (.iastore, 1) := by decide +kernel
theorem dX4_relate_75 : decode cX4_relate 75 = .ok (.aload_n 0, 1) := by decide +kernel
theorem dX4_relate_76 : decode cX4_relate 76 = .ok (.getfield 28, 3) := by decide +kernel
theorem dX4_relate_79 : decode cX4_relate 79 = .ok (.iload_n 1, 1) := by decide +kernel
theorem dX4_relate_80 : decode cX4_relate 80 = .ok (.iload_n 3, 1) := by decide +kernel
theorem dX4_relate_81 : decode cX4_relate 81 = .ok (.iastore, 1) := by decide +kernel
theorem dX4_relate_82 : decode cX4_relate 82 = .ok (.return_, 1) := by decide +kernel
set_option maxRecDepth 20000 in
theorem ggX4_latest_X4_isClause : GoodIn wsX4_latest wsX4_isClause := goodIn_r _ [6, 7, 8, 5, 9] (by decide +kernel) (by decide +kernel)
set_option maxRecDepth 20000 in
theorem gX4_latest_X4_isClause : GoodIn wsX4_latest (va_wsS RX4 79 yX4_isClause wsX4_isClause) := goodIn_app (goodIn_of _ (by decide +kernel)) ggX4_latest_X4_isClause
theorem dX4_latest_0 : decode cX4_latest 0 = .ok (.aload_n 0, 1) := by decide +kernel
theorem dX4_latest_1 : decode cX4_latest 1 = .ok (.iload_n 1, 1) := by decide +kernel
theorem dX4_latest_2 : decode cX4_latest 2 = .ok (.invokestatic 79, 3) := by decide +kernel
theorem dX4_latest_5 : decode cX4_latest 5 = .ok (.ifCond .eq 7, 3) := by decide +kernel
theorem dX4_latest_8 : decode cX4_latest 8 = .ok (.iconst 0, 1) := by decide +kernel
theorem dX4_latest_9 : decode cX4_latest 9 = .ok (.goto 4, 3) := by decide +kernel
theorem dX4_latest_12 : decode cX4_latest 12 = .ok (.iconst 1, 1) := by decide +kernel
theorem dX4_latest_13 : decode cX4_latest 13 = .ok (.putfield 65, 3) := by decide +kernel
theorem dX4_latest_16 : decode cX4_latest 16 = .ok (.aload_n 0, 1) := by decide +kernel
theorem dX4_latest_17 : decode cX4_latest 17 = .ok (.getfield 65, 3) := by decide +kernel
theorem dX4_latest_20 : decode cX4_latest 20 = .ok (.ifCond .le 7, 3) := by decide +kernel
theorem dX4_latest_23 : decode cX4_latest 23 = .ok (.iconst 0, 1) := by decide +kernel
theorem dX4_latest_24 : decode cX4_latest 24 = .ok (.goto 9, 3) := by decide +kernel
theorem dX4_latest_27 : decode cX4_latest 27 = .ok (.aload_n 0, 1) := by decide +kernel
theorem dX4_latest_28 : decode cX4_latest 28 = .ok (.getfield 7, 3) := by decide +kernel
theorem dX4_latest_31 : decode cX4_latest 31 = .ok (.iload_n 1, 1) := by decide +kernel
theorem dX4_latest_32 : decode cX4_latest 32 = .ok (.iaload, 1) := by decide +kernel
theorem dX4_latest_33 : decode cX4_latest 33 = .ok (.ireturn, 1) := by decide +kernel
theorem dX4_begin_0 : decode cX4_begin 0 = .ok (.aload_n 0, 1) := by decide +kernel
theorem dX4_begin_1 : decode cX4_begin 1 = .ok (.aload_n 0, 1) := by decide +kernel
theorem dX4_begin_2 : decode cX4_begin 2 = .ok (.getfield 73, 3) := by decide +kernel
theorem dX4_begin_5 : decode cX4_begin 5 = .ok (.bipush 10, 2) := by decide +kernel
theorem dX4_begin_7 : decode cX4_begin 7 = .ok (.if_icmp .ne 7, 3) := by decide +kernel
theorem dX4_begin_10 : decode cX4_begin 10 = .ok (.iconst 1, 1) := by decide +kernel
theorem dX4_begin_11 : decode cX4_begin 11 = .ok (.goto 4, 3) := by decide +kernel
theorem dX4_begin_14 : decode cX4_begin 14 = .ok (.iconst 0, 1) := by decide +kernel
theorem dX4_begin_15 : decode cX4_begin 15 = .ok (.putfield 65, 3) := by decide +kernel
theorem dX4_begin_18 : decode cX4_begin 18 = .ok (.aload_n 0, 1) := by decide +kernel
theorem dX4_begin_19 : decode cX4_begin 19 = .ok (.getfield 65, 3) := by decide +kernel
theorem dX4_begin_22 : decode cX4_begin 22 = .ok (.ifCond .le 5, 3) := by decide +kernel
theorem dX4_begin_25 : decode cX4_begin 25 = .ok (.iconst 0, 1) := by decide +kernel
theorem dX4_begin_26 : decode cX4_begin 26 = .ok (.ireturn, 1) := by decide +kernel
theorem dX4_begin_27 : decode cX4_begin 27 = .ok (.aload_n 0, 1) := by decide +kernel
theorem dX4_begin_28 : decode cX4_begin 28 = .ok (.dup, 1) := by decide +kernel
theorem dX4_begin_29 : decode cX4_begin 29 = .ok (.getfield 73, 3) := by decide +kernel
theorem dX4_begin_32 : decode cX4_begin 32 = .ok (.iconst 1, 1) := by decide +kernel
theorem dX4_begin_33 : decode cX4_begin 33 = .ok (.iadd, 1) := by decide +kernel
theorem dX4_begin_34 : decode cX4_begin 34 = .ok (.putfield 73, 3) := by decide +kernel
theorem dX4_begin_37 : decode cX4_begin 37 = .ok (.aload_n 0, 1) := by decide +kernel
theorem dX4_begin_38 : decode cX4_begin 38 = .ok (.getfield 73, 3) := by decide +kernel
theorem dX4_begin_41 : decode cX4_begin 41 = .ok (.iconst 1, 1) := by decide +kernel
theorem dX4_begin_42 : decode cX4_begin 42 = .ok (.isub, 1) := by decide +kernel
theorem dX4_begin_43 : decode cX4_begin 43 = .ok (.ireturn, 1) := by decide +kernel
theorem dX4_marks_0 : decode cX4_marks 0 = .ok (.bipush 10, 2) := by decide +kernel
theorem dX4_marks_2 : decode cX4_marks 2 = .ok (.iload_n 1, 1) := by decide +kernel
theorem dX4_marks_3 : decode cX4_marks 3 = .ok (.imul, 1) := by decide +kernel
theorem dX4_marks_4 : decode cX4_marks 4 = .ok (.iload_n 3, 1) := by decide +kernel
theorem dX4_marks_5 : decode cX4_marks 5 = .ok (.iadd, 1) := by decide +kernel
theorem dX4_marks_6 : decode cX4_marks 6 = .ok (.istore 5, 2) := by decide +kernel
theorem dX4_marks_8 : decode cX4_marks 8 = .ok (.aload_n 0, 1) := by decide +kernel
theorem dX4_marks_9 : decode cX4_marks 9 = .ok (.getfield 41, 3) := by decide +kernel
theorem dX4_marks_12 : decode cX4_marks 12 = .ok (.iconst 2, 1) := by decide +kernel
theorem dX4_marks_13 : decode cX4_marks 13 = .ok (.iload 5, 2) := by decide +kernel
theorem dX4_marks_15 : decode cX4_marks 15 = .ok (.imul, 1) := by decide +kernel
theorem dX4_marks_16 : decode cX4_marks 16 = .ok (.iload_n 2, 1) := by decide +kernel
theorem dX4_marks_17 : decode cX4_marks 17 = .ok (.iadd, 1) := by decide +kernel
theorem dX4_marks_18 : decode cX4_marks 18 = .ok (.iaload, 1) := by decide +kernel
theorem dX4_marks_19 : decode cX4_marks 19 = .ok (.iload 4, 2) := by decide +kernel
theorem dX4_marks_21 : decode cX4_marks 21 = .ok (.if_icmp .eq 23, 3) := by decide +kernel
theorem dX4_marks_24 : decode cX4_marks 24 = .ok (.aload_n 0, 1) := by decide +kernel
theorem dX4_marks_25 : decode cX4_marks 25 = .ok (.getfield 41, 3) := by decide +kernel
theorem dX4_marks_28 : decode cX4_marks 28 = .ok (.iconst 2, 1) := by decide +kernel
theorem dX4_marks_29 : decode cX4_marks 29 = .ok (.iload 5, 2) := by decide +kernel
theorem dX4_marks_31 : decode cX4_marks 31 = .ok (.imul, 1) := by decide +kernel
theorem dX4_marks_32 : decode cX4_marks 32 = .ok (.iload_n 2, 1) := by decide +kernel
theorem dX4_marks_33 : decode cX4_marks 33 = .ok (.iadd, 1) := by decide +kernel
theorem dX4_marks_34 : decode cX4_marks 34 = .ok (.iload 4, 2) := by decide +kernel
theorem dX4_marks_36 : decode cX4_marks 36 = .ok (.iastore, 1) := by decide +kernel
theorem dX4_marks_37 : decode cX4_marks 37 = .ok (.aload_n 0, 1) := by decide +kernel
theorem dX4_marks_38 : decode cX4_marks 38 = .ok (.getfield 35, 3) := by decide +kernel
theorem dX4_marks_41 : decode cX4_marks 41 = .ok (.iload_n 1, 1) := by decide +kernel
theorem dX4_marks_42 : decode cX4_marks 42 = .ok (.iconst 0, 1) := by decide +kernel
theorem dX4_marks_43 : decode cX4_marks 43 = .ok (.iastore, 1) := by decide +kernel
theorem dX4_marks_44 : decode cX4_marks 44 = .ok (.aload_n 0, 1) := by decide +kernel
theorem dX4_marks_45 : decode cX4_marks 45 = .ok (.getfield 41, 3) := by decide +kernel
theorem dX4_marks_48 : decode cX4_marks 48 = .ok (.iconst 2, 1) := by decide +kernel
theorem dX4_marks_49 : decode cX4_marks 49 = .ok (.iload 5, 2) := by decide +kernel
theorem dX4_marks_51 : decode cX4_marks 51 = .ok (.imul, 1) := by decide +kernel
theorem dX4_marks_52 : decode cX4_marks 52 = .ok (.iconst 1, 1) := by decide +kernel
theorem dX4_marks_53 : decode cX4_marks 53 = .ok (.iadd, 1) := by decide +kernel
theorem dX4_marks_54 : decode cX4_marks 54 = .ok (.iload_n 2, 1) := by decide +kernel
theorem dX4_marks_55 : decode cX4_marks 55 = .ok (.isub, 1) := by decide +kernel
theorem dX4_marks_56 : decode cX4_marks 56 = .ok (.iaload, 1) := by decide +kernel
theorem dX4_marks_57 : decode cX4_marks 57 = .ok (.istore 6, 2) := by decide +kernel
theorem dX4_marks_59 : decode cX4_marks 59 = .ok (.iload 4, 2) := by decide +kernel
theorem dX4_marks_61 : decode cX4_marks 61 = .ok (.iconst 2, 1) := by decide +kernel
theorem dX4_marks_62 : decode cX4_marks 62 = .ok (.if_icmp .ne 39, 3) := by decide +kernel
theorem dX4_marks_65 : decode cX4_marks 65 = .ok (.iload 6, 2) := by decide +kernel
theorem dX4_marks_67 : decode cX4_marks 67 = .ok (.iconst 1, 1) := by decide +kernel
theorem dX4_marks_68 : decode cX4_marks 68 = .ok (.if_icmp .eq 33, 3) := by decide +kernel
theorem dX4_marks_71 : decode cX4_marks 71 = .ok (.aload_n 0, 1) := by decide +kernel
theorem dX4_marks_72 : decode cX4_marks 72 = .ok (.getfield 38, 3) := by decide +kernel
theorem dX4_marks_75 : decode cX4_marks 75 = .ok (.iload 5, 2) := by decide +kernel
theorem dX4_marks_77 : decode cX4_marks 77 = .ok (.iconst 0, 1) := by decide +kernel
theorem dX4_marks_78 : decode cX4_marks 78 = .ok (.iastore, 1) := by decide +kernel
theorem dX4_marks_79 : decode cX4_marks 79 = .ok (.aload_n 0, 1) := by decide +kernel
theorem dX4_marks_80 : decode cX4_marks 80 = .ok (.getfield 41, 3) := by decide +kernel
theorem dX4_marks_83 : decode cX4_marks 83 = .ok (.iconst 2, 1) := by decide +kernel
theorem dX4_marks_84 : decode cX4_marks 84 = .ok (.iload 5, 2) := by decide +kernel
theorem dX4_marks_86 : decode cX4_marks 86 = .ok (.imul, 1) := by decide +kernel
theorem dX4_marks_87 : decode cX4_marks 87 = .ok (.iconst 0, 1) := by decide +kernel
theorem dX4_marks_88 : decode cX4_marks 88 = .ok (.iastore, 1) := by decide +kernel
theorem dX4_marks_89 : decode cX4_marks 89 = .ok (.aload_n 0, 1) := by decide +kernel
theorem dX4_marks_90 : decode cX4_marks 90 = .ok (.getfield 41, 3) := by decide +kernel
theorem dX4_marks_93 : decode cX4_marks 93 = .ok (.iconst 2, 1) := by decide +kernel
theorem dX4_marks_94 : decode cX4_marks 94 = .ok (.iload 5, 2) := by decide +kernel
theorem dX4_marks_96 : decode cX4_marks 96 = .ok (.imul, 1) := by decide +kernel
theorem dX4_marks_97 : decode cX4_marks 97 = .ok (.iconst 1, 1) := by decide +kernel
theorem dX4_marks_98 : decode cX4_marks 98 = .ok (.iadd, 1) := by decide +kernel
theorem dX4_marks_99 : decode cX4_marks 99 = .ok (.iconst 0, 1) := by decide +kernel
theorem dX4_marks_100 : decode cX4_marks 100 = .ok (.iastore, 1) := by decide +kernel
theorem dX4_marks_101 : decode cX4_marks 101 = .ok (.return_, 1) := by decide +kernel
set_option maxRecDepth 20000 in
theorem ggX4_mark_X4_isContract : GoodIn wsX4_mark wsX4_isContract := goodIn_r _ [10, 11, 12, 13, 9, 14, 26, 27, 28, 29, 30, 31, 32, 33, 34, 35, 36, 37, 38, 39, 40, 41, 42, 43, 44, 45, 46, 47] (by decide +kernel) (by decide +kernel)
set_option maxRecDepth 20000 in
theorem gX4_mark_X4_isContract : GoodIn wsX4_mark (wsV RX4 86 RX4 yX4_isContract wsX4_isContract) := goodIn_app (goodIn_of _ (by decide +kernel)) ggX4_mark_X4_isContract
set_option maxRecDepth 20000 in
theorem ggX4_mark_X4_isSide : GoodIn wsX4_mark wsX4_isSide := goodIn_r _ [17, 12, 13, 9, 14] (by decide +kernel) (by decide +kernel)
set_option maxRecDepth 20000 in
theorem gX4_mark_X4_isSide : GoodIn wsX4_mark (va_wsS RX4 83 yX4_isSide wsX4_isSide) := goodIn_app (goodIn_of _ (by decide +kernel)) ggX4_mark_X4_isSide
set_option maxRecDepth 20000 in
theorem ggX4_mark_X4_isClause : GoodIn wsX4_mark wsX4_isClause := goodIn_r _ [20, 12, 13, 9, 14] (by decide +kernel) (by decide +kernel)
set_option maxRecDepth 20000 in
theorem gX4_mark_X4_isClause : GoodIn wsX4_mark (va_wsS RX4 79 yX4_isClause wsX4_isClause) := goodIn_app (goodIn_of _ (by decide +kernel)) ggX4_mark_X4_isClause
set_option maxRecDepth 20000 in
theorem ggX4_mark_X4_in : GoodIn wsX4_mark wsX4_in := goodIn_r _ [14] (by decide +kernel) (by decide +kernel)
set_option maxRecDepth 20000 in
theorem gX4_mark_X4_in : GoodIn wsX4_mark (va_wsS RX4 69 yX4_in wsX4_in) := goodIn_app (goodIn_of _ (by decide +kernel)) ggX4_mark_X4_in
set_option maxRecDepth 20000 in
theorem ggX4_mark_X4_marks : GoodIn wsX4_mark wsX4_marks := goodIn_r _ [24, 5, 25, 2, 26, 27, 28, 29, 30, 31, 32, 33, 34, 35, 36, 37, 38, 39, 40, 41, 42, 43, 44, 45, 46, 47] (by decide +kernel) (by decide +kernel)
set_option maxRecDepth 20000 in
theorem gX4_mark_X4_marks : GoodIn wsX4_mark (wsV RX4 89 RX4 yX4_marks wsX4_marks) := goodIn_app (goodIn_of _ (by decide +kernel)) ggX4_mark_X4_marks
theorem dX4_mark_0 : decode cX4_mark 0 = .ok (.aload_n 0, 1) := by decide +kernel
theorem dX4_mark_1 : decode cX4_mark 1 = .ok (.aload_n 0, 1) := by decide +kernel
theorem dX4_mark_2 : decode cX4_mark 2 = .ok (.iload_n 1, 1) := by decide +kernel
theorem dX4_mark_3 : decode cX4_mark 3 = .ok (.invokevirtual 86, 3) := by decide +kernel
theorem dX4_mark_6 : decode cX4_mark 6 = .ok (.ifCond .ne 7, 3) := by decide +kernel
theorem dX4_mark_9 : decode cX4_mark 9 = .ok (.iconst 1, 1) := by decide +kernel
theorem dX4_mark_10 : decode cX4_mark 10 = .ok (.goto 32, 3) := by decide +kernel
theorem dX4_mark_13 : decode cX4_mark 13 = .ok (.iload_n 2, 1) := by decide +kernel
theorem dX4_mark_14 : decode cX4_mark 14 = .ok (.invokestatic 83, 3) := by decide +kernel
theorem dX4_mark_17 : decode cX4_mark 17 = .ok (.ifCond .eq 20, 3) := by decide +kernel
theorem dX4_mark_20 : decode cX4_mark 20 = .ok (.iload_n 3, 1) := by decide +kernel
theorem dX4_mark_21 : decode cX4_mark 21 = .ok (.invokestatic 79, 3) := by decide +kernel
theorem dX4_mark_24 : decode cX4_mark 24 = .ok (.ifCond .eq 13, 3) := by decide +kernel
theorem dX4_mark_27 : decode cX4_mark 27 = .ok (.iload 4, 2) := by decide +kernel
theorem dX4_mark_29 : decode cX4_mark 29 = .ok (.iconst 1, 1) := by decide +kernel
theorem dX4_mark_30 : decode cX4_mark 30 = .ok (.iconst 2, 1) := by decide +kernel
theorem dX4_mark_31 : decode cX4_mark 31 = .ok (.invokestatic 69, 3) := by decide +kernel
theorem dX4_mark_34 : decode cX4_mark 34 = .ok (.ifCond .ne 7, 3) := by decide +kernel
theorem dX4_mark_37 : decode cX4_mark 37 = .ok (.iconst 2, 1) := by decide +kernel
theorem dX4_mark_38 : decode cX4_mark 38 = .ok (.goto 4, 3) := by decide +kernel
theorem dX4_mark_41 : decode cX4_mark 41 = .ok (.iconst 0, 1) := by decide +kernel
theorem dX4_mark_42 : decode cX4_mark 42 = .ok (.putfield 65, 3) := by decide +kernel
theorem dX4_mark_45 : decode cX4_mark 45 = .ok (.bipush 10, 2) := by decide +kernel
theorem dX4_mark_47 : decode cX4_mark 47 = .ok (.iload_n 1, 1) := by decide +kernel
theorem dX4_mark_48 : decode cX4_mark 48 = .ok (.imul, 1) := by decide +kernel
theorem dX4_mark_49 : decode cX4_mark 49 = .ok (.iload_n 3, 1) := by decide +kernel
theorem dX4_mark_50 : decode cX4_mark 50 = .ok (.iadd, 1) := by decide +kernel
theorem dX4_mark_51 : decode cX4_mark 51 = .ok (.istore 5, 2) := by decide +kernel
theorem dX4_mark_53 : decode cX4_mark 53 = .ok (.aload_n 0, 1) := by decide +kernel
theorem dX4_mark_54 : decode cX4_mark 54 = .ok (.getfield 65, 3) := by decide +kernel
theorem dX4_mark_57 : decode cX4_mark 57 = .ok (.ifCond .ne 58, 3) := by decide +kernel
theorem dX4_mark_60 : decode cX4_mark 60 = .ok (.aload_n 0, 1) := by decide +kernel
theorem dX4_mark_61 : decode cX4_mark 61 = .ok (.getfield 38, 3) := by decide +kernel
theorem dX4_mark_64 : decode cX4_mark 64 = .ok (.iload 5, 2) := by decide +kernel
theorem dX4_mark_66 : decode cX4_mark 66 = .ok (.iaload, 1) := by decide +kernel
theorem dX4_mark_67 : decode cX4_mark 67 = .ok (.ifCond .ne 7, 3) := by decide +kernel
theorem dX4_mark_70 : decode cX4_mark 70 = .ok (.iconst 1, 1) := by decide +kernel
theorem dX4_mark_71 : decode cX4_mark 71 = .ok (.goto 4, 3) := by decide +kernel
theorem dX4_mark_74 : decode cX4_mark 74 = .ok (.iconst 0, 1) := by decide +kernel
theorem dX4_mark_75 : decode cX4_mark 75 = .ok (.istore 6, 2) := by decide +kernel
theorem dX4_mark_77 : decode cX4_mark 77 = .ok (.aload_n 0, 1) := by decide +kernel
theorem dX4_mark_78 : decode cX4_mark 78 = .ok (.aload_n 0, 1) := by decide +kernel
theorem dX4_mark_79 : decode cX4_mark 79 = .ok (.getfield 31, 3) := by decide +kernel
theorem dX4_mark_82 : decode cX4_mark 82 = .ok (.iload_n 1, 1) := by decide +kernel
theorem dX4_mark_83 : decode cX4_mark 83 = .ok (.baload, 1) := by decide +kernel
theorem dX4_mark_84 : decode cX4_mark 84 = .ok (.ifCond .ne 23, 3) := by decide +kernel
theorem dX4_mark_87 : decode cX4_mark 87 = .ok (.iload 6, 2) := by decide +kernel
theorem dX4_mark_89 : decode cX4_mark 89 = .ok (.ifCond .eq 22, 3) := by decide +kernel
theorem dX4_mark_92 : decode cX4_mark 92 = .ok (.iload 4, 2) := by decide +kernel
theorem dX4_mark_94 : decode cX4_mark 94 = .ok (.iconst 2, 1) := by decide +kernel
theorem dX4_mark_95 : decode cX4_mark 95 = .ok (.if_icmp .eq 12, 3) := by decide +kernel
theorem dX4_mark_98 : decode cX4_mark 98 = .ok (.aload_n 0, 1) := by decide +kernel
theorem dX4_mark_99 : decode cX4_mark 99 = .ok (.getfield 7, 3) := by decide +kernel
theorem dX4_mark_102 : decode cX4_mark 102 = .ok (.iload_n 3, 1) := by decide +kernel
theorem dX4_mark_103 : decode cX4_mark 103 = .ok (.iaload, 1) := by decide +kernel
theorem dX4_mark_104 : decode cX4_mark 104 = .ok (.ifCond .ne 7, 3) := by decide +kernel
theorem dX4_mark_107 : decode cX4_mark 107 = .ok (.iconst 3, 1) := by decide +kernel
theorem dX4_mark_108 : decode cX4_mark 108 = .ok (.goto 4, 3) := by decide +kernel
theorem dX4_mark_111 : decode cX4_mark 111 = .ok (.iconst 0, 1) := by decide +kernel
theorem dX4_mark_112 : decode cX4_mark 112 = .ok (.putfield 65, 3) := by decide +kernel
theorem dX4_mark_115 : decode cX4_mark 115 = .ok (.aload_n 0, 1) := by decide +kernel
theorem dX4_mark_116 : decode cX4_mark 116 = .ok (.getfield 65, 3) := by decide +kernel
theorem dX4_mark_119 : decode cX4_mark 119 = .ok (.ifCond .le 5, 3) := by decide +kernel
theorem dX4_mark_122 : decode cX4_mark 122 = .ok (.iconst 0, 1) := by decide +kernel
theorem dX4_mark_123 : decode cX4_mark 123 = .ok (.ireturn, 1) := by decide +kernel
theorem dX4_mark_124 : decode cX4_mark 124 = .ok (.aload_n 0, 1) := by decide +kernel
theorem dX4_mark_125 : decode cX4_mark 125 = .ok (.getfield 41, 3) := by decide +kernel
theorem dX4_mark_128 : decode cX4_mark 128 = .ok (.iconst 2, 1) := by decide +kernel
theorem dX4_mark_129 : decode cX4_mark 129 = .ok (.iload 5, 2) := by decide +kernel
theorem dX4_mark_131 : decode cX4_mark 131 = .ok (.imul, 1) := by decide +kernel
theorem dX4_mark_132 : decode cX4_mark 132 = .ok (.iload_n 2, 1) := by decide +kernel
theorem dX4_mark_133 : decode cX4_mark 133 = .ok (.iadd, 1) := by decide +kernel
theorem dX4_mark_134 : decode cX4_mark 134 = .ok (.iaload, 1) := by decide +kernel
theorem dX4_mark_135 : decode cX4_mark 135 = .ok (.istore 6, 2) := by decide +kernel
theorem dX4_mark_137 : decode cX4_mark 137 = .ok (.aload_n 0, 1) := by decide +kernel
theorem dX4_mark_138 : decode cX4_mark 138 = .ok (.getfield 38, 3) := by decide +kernel
theorem dX4_mark_141 : decode cX4_mark 141 = .ok (.iload 5, 2) := by decide +kernel
theorem dX4_mark_143 : decode cX4_mark 143 = .ok (.aload_n 0, 1) := by decide +kernel
theorem dX4_mark_144 : decode cX4_mark 144 = .ok (.getfield 38, 3) := by decide +kernel
theorem dX4_mark_147 : decode cX4_mark 147 = .ok (.iload 5, 2) := by decide +kernel
theorem dX4_mark_149 : decode cX4_mark 149 = .ok (.iaload, 1) := by decide +kernel
theorem dX4_mark_150 : decode cX4_mark 150 = .ok (.ifCond .ne 12, 3) := by decide +kernel
theorem dX4_mark_153 : decode cX4_mark 153 = .ok (.aload_n 0, 1) := by decide +kernel
theorem dX4_mark_154 : decode cX4_mark 154 = .ok (.getfield 7, 3) := by decide +kernel
theorem dX4_mark_157 : decode cX4_mark 157 = .ok (.iload_n 3, 1) := by decide +kernel
theorem dX4_mark_158 : decode cX4_mark 158 = .ok (.iaload, 1) := by decide +kernel
theorem dX4_mark_159 : decode cX4_mark 159 = .ok (.goto 10, 3) := by decide +kernel
theorem dX4_mark_162 : decode cX4_mark 162 = .ok (.aload_n 0, 1) := by decide +kernel
theorem dX4_mark_163 : decode cX4_mark 163 = .ok (.getfield 38, 3) := by decide +kernel
theorem dX4_mark_166 : decode cX4_mark 166 = .ok (.iload 5, 2) := by decide +kernel
theorem dX4_mark_168 : decode cX4_mark 168 = .ok (.iaload, 1) := by decide +kernel
theorem dX4_mark_169 : decode cX4_mark 169 = .ok (.iastore, 1) := by decide +kernel
theorem dX4_mark_170 : decode cX4_mark 170 = .ok (.aload_n 0, 1) := by decide +kernel
theorem dX4_mark_171 : decode cX4_mark 171 = .ok (.iload_n 1, 1) := by decide +kernel
theorem dX4_mark_172 : decode cX4_mark 172 = .ok (.iload_n 2, 1) := by decide +kernel
theorem dX4_mark_173 : decode cX4_mark 173 = .ok (.iload_n 3, 1) := by decide +kernel
theorem dX4_mark_174 : decode cX4_mark 174 = .ok (.iload 4, 2) := by decide +kernel
theorem dX4_mark_176 : decode cX4_mark 176 = .ok (.invokevirtual 89, 3) := by decide +kernel
theorem dX4_mark_179 : decode cX4_mark 179 = .ok (.iload 6, 2) := by decide +kernel
theorem dX4_mark_181 : decode cX4_mark 181 = .ok (.ireturn, 1) := by decide +kernel
set_option maxRecDepth 20000 in
theorem ggX4_renew_X4_isContract : GoodIn wsX4_renew wsX4_isContract := goodIn_r _ [11, 12, 13, 14, 10, 15, 22, 23, 24, 25, 26, 27, 28, 29, 30, 31, 32, 33, 34, 35, 36, 37, 38, 39, 40, 41, 42, 43] (by decide +kernel) (by decide +kernel)
set_option maxRecDepth 20000 in
theorem gX4_renew_X4_isContract : GoodIn wsX4_renew (wsV RX4 86 RX4 yX4_isContract wsX4_isContract) := goodIn_app (goodIn_of _ (by decide +kernel)) ggX4_renew_X4_isContract
set_option maxRecDepth 20000 in
theorem ggX4_renew_X4_isSide : GoodIn wsX4_renew wsX4_isSide := goodIn_r _ [18, 13, 14, 10, 15] (by decide +kernel) (by decide +kernel)
set_option maxRecDepth 20000 in
theorem gX4_renew_X4_isSide : GoodIn wsX4_renew (va_wsS RX4 83 yX4_isSide wsX4_isSide) := goodIn_app (goodIn_of _ (by decide +kernel)) ggX4_renew_X4_isSide
set_option maxRecDepth 20000 in
theorem ggX4_renew_X4_isClause : GoodIn wsX4_renew wsX4_isClause := goodIn_r _ [21, 13, 14, 10, 15] (by decide +kernel) (by decide +kernel)
set_option maxRecDepth 20000 in
theorem gX4_renew_X4_isClause : GoodIn wsX4_renew (va_wsS RX4 79 yX4_isClause wsX4_isClause) := goodIn_app (goodIn_of _ (by decide +kernel)) ggX4_renew_X4_isClause
theorem dX4_renew_0 : decode cX4_renew 0 = .ok (.aload_n 0, 1) := by decide +kernel
theorem dX4_renew_1 : decode cX4_renew 1 = .ok (.aload_n 0, 1) := by decide +kernel
theorem dX4_renew_2 : decode cX4_renew 2 = .ok (.iload_n 1, 1) := by decide +kernel
theorem dX4_renew_3 : decode cX4_renew 3 = .ok (.invokevirtual 86, 3) := by decide +kernel
theorem dX4_renew_6 : decode cX4_renew 6 = .ok (.ifCond .ne 7, 3) := by decide +kernel
theorem dX4_renew_9 : decode cX4_renew 9 = .ok (.iconst 1, 1) := by decide +kernel
theorem dX4_renew_10 : decode cX4_renew 10 = .ok (.goto 22, 3) := by decide +kernel
theorem dX4_renew_13 : decode cX4_renew 13 = .ok (.iload_n 2, 1) := by decide +kernel
theorem dX4_renew_14 : decode cX4_renew 14 = .ok (.invokestatic 83, 3) := by decide +kernel
theorem dX4_renew_17 : decode cX4_renew 17 = .ok (.ifCond .eq 10, 3) := by decide +kernel
theorem dX4_renew_20 : decode cX4_renew 20 = .ok (.iload_n 3, 1) := by decide +kernel
theorem dX4_renew_21 : decode cX4_renew 21 = .ok (.invokestatic 79, 3) := by decide +kernel
theorem dX4_renew_24 : decode cX4_renew 24 = .ok (.ifCond .ne 7, 3) := by decide +kernel
theorem dX4_renew_27 : decode cX4_renew 27 = .ok (.iconst 2, 1) := by decide +kernel
theorem dX4_renew_28 : decode cX4_renew 28 = .ok (.goto 4, 3) := by decide +kernel
theorem dX4_renew_31 : decode cX4_renew 31 = .ok (.iconst 0, 1) := by decide +kernel
theorem dX4_renew_32 : decode cX4_renew 32 = .ok (.putfield 65, 3) := by decide +kernel
theorem dX4_renew_35 : decode cX4_renew 35 = .ok (.bipush 10, 2) := by decide +kernel
theorem dX4_renew_37 : decode cX4_renew 37 = .ok (.iload_n 1, 1) := by decide +kernel
theorem dX4_renew_38 : decode cX4_renew 38 = .ok (.imul, 1) := by decide +kernel
theorem dX4_renew_39 : decode cX4_renew 39 = .ok (.iload_n 3, 1) := by decide +kernel
theorem dX4_renew_40 : decode cX4_renew 40 = .ok (.iadd, 1) := by decide +kernel
theorem dX4_renew_41 : decode cX4_renew 41 = .ok (.istore 4, 2) := by decide +kernel
theorem dX4_renew_43 : decode cX4_renew 43 = .ok (.aload_n 0, 1) := by decide +kernel
theorem dX4_renew_44 : decode cX4_renew 44 = .ok (.getfield 65, 3) := by decide +kernel
theorem dX4_renew_47 : decode cX4_renew 47 = .ok (.ifCond .ne 47, 3) := by decide +kernel
theorem dX4_renew_50 : decode cX4_renew 50 = .ok (.aload_n 0, 1) := by decide +kernel
theorem dX4_renew_51 : decode cX4_renew 51 = .ok (.aload_n 0, 1) := by decide +kernel
theorem dX4_renew_52 : decode cX4_renew 52 = .ok (.getfield 31, 3) := by decide +kernel
theorem dX4_renew_55 : decode cX4_renew 55 = .ok (.iload_n 1, 1) := by decide +kernel
theorem dX4_renew_56 : decode cX4_renew 56 = .ok (.baload, 1) := by decide +kernel
theorem dX4_renew_57 : decode cX4_renew 57 = .ok (.ifCond .ne 29, 3) := by decide +kernel
theorem dX4_renew_60 : decode cX4_renew 60 = .ok (.aload_n 0, 1) := by decide +kernel
theorem dX4_renew_61 : decode cX4_renew 61 = .ok (.getfield 38, 3) := by decide +kernel
theorem dX4_renew_64 : decode cX4_renew 64 = .ok (.iload 4, 2) := by decide +kernel
theorem dX4_renew_66 : decode cX4_renew 66 = .ok (.iaload, 1) := by decide +kernel
theorem dX4_renew_67 : decode cX4_renew 67 = .ok (.ifCond .eq 19, 3) := by decide +kernel
theorem dX4_renew_70 : decode cX4_renew 70 = .ok (.aload_n 0, 1) := by decide +kernel
theorem dX4_renew_71 : decode cX4_renew 71 = .ok (.getfield 38, 3) := by decide +kernel
theorem dX4_renew_74 : decode cX4_renew 74 = .ok (.iload 4, 2) := by decide +kernel
theorem dX4_renew_76 : decode cX4_renew 76 = .ok (.iaload, 1) := by decide +kernel
theorem dX4_renew_77 : decode cX4_renew 77 = .ok (.aload_n 0, 1) := by decide +kernel
theorem dX4_renew_78 : decode cX4_renew 78 = .ok (.getfield 7, 3) := by decide +kernel
theorem dX4_renew_81 : decode cX4_renew 81 = .ok (.iload_n 3, 1) := by decide +kernel
theorem dX4_renew_82 : decode cX4_renew 82 = .ok (.iaload, 1) := by decide +kernel
theorem dX4_renew_83 : decode cX4_renew 83 = .ok (.if_icmp .ne 7, 3) := by decide +kernel
theorem dX4_renew_86 : decode cX4_renew 86 = .ok (.iconst 3, 1) := by decide +kernel
theorem dX4_renew_87 : decode cX4_renew 87 = .ok (.goto 4, 3) := by decide +kernel
theorem dX4_renew_90 : decode cX4_renew 90 = .ok (.iconst 0, 1) := by decide +kernel
theorem dX4_renew_91 : decode cX4_renew 91 = .ok (.putfield 65, 3) := by decide +kernel
theorem dX4_renew_94 : decode cX4_renew 94 = .ok (.aload_n 0, 1) := by decide +kernel
theorem dX4_renew_95 : decode cX4_renew 95 = .ok (.getfield 65, 3) := by decide +kernel
theorem dX4_renew_98 : decode cX4_renew 98 = .ok (.ifCond .le 5, 3) := by decide +kernel
theorem dX4_renew_101 : decode cX4_renew 101 = .ok (.iconst 0, 1) := by decide +kernel
theorem dX4_renew_102 : decode cX4_renew 102 = .ok (.ireturn, 1) := by decide +kernel
theorem dX4_renew_103 : decode cX4_renew 103 = .ok (.aload_n 0, 1) := by decide +kernel
theorem dX4_renew_104 : decode cX4_renew 104 = .ok (.getfield 38, 3) := by decide +kernel
theorem dX4_renew_107 : decode cX4_renew 107 = .ok (.iload 4, 2) := by decide +kernel
theorem dX4_renew_109 : decode cX4_renew 109 = .ok (.iaload, 1) := by decide +kernel
theorem dX4_renew_110 : decode cX4_renew 110 = .ok (.istore 5, 2) := by decide +kernel
theorem dX4_renew_112 : decode cX4_renew 112 = .ok (.aload_n 0, 1) := by decide +kernel
theorem dX4_renew_113 : decode cX4_renew 113 = .ok (.getfield 38, 3) := by decide +kernel
theorem dX4_renew_116 : decode cX4_renew 116 = .ok (.iload 4, 2) := by decide +kernel
theorem dX4_renew_118 : decode cX4_renew 118 = .ok (.aload_n 0, 1) := by decide +kernel
theorem dX4_renew_119 : decode cX4_renew 119 = .ok (.getfield 7, 3) := by decide +kernel
theorem dX4_renew_122 : decode cX4_renew 122 = .ok (.iload_n 3, 1) := by decide +kernel
theorem dX4_renew_123 : decode cX4_renew 123 = .ok (.iaload, 1) := by decide +kernel
theorem dX4_renew_124 : decode cX4_renew 124 = .ok (.iastore, 1) := by decide +kernel
theorem dX4_renew_125 : decode cX4_renew 125 = .ok (.aload_n 0, 1) := by decide +kernel
theorem dX4_renew_126 : decode cX4_renew 126 = .ok (.getfield 41, 3) := by decide +kernel
theorem dX4_renew_129 : decode cX4_renew 129 = .ok (.iconst 2, 1) := by decide +kernel
theorem dX4_renew_130 : decode cX4_renew 130 = .ok (.iload 4, 2) := by decide +kernel
theorem dX4_renew_132 : decode cX4_renew 132 = .ok (.imul, 1) := by decide +kernel
theorem dX4_renew_133 : decode cX4_renew 133 = .ok (.iload_n 2, 1) := by decide +kernel
theorem dX4_renew_134 : decode cX4_renew 134 = .ok (.iadd, 1) := by decide +kernel
theorem dX4_renew_135 : decode cX4_renew 135 = .ok (.iconst 1, 1) := by decide +kernel
theorem dX4_renew_136 : decode cX4_renew 136 = .ok (.iastore, 1) := by decide +kernel
theorem dX4_renew_137 : decode cX4_renew 137 = .ok (.aload_n 0, 1) := by decide +kernel
theorem dX4_renew_138 : decode cX4_renew 138 = .ok (.getfield 41, 3) := by decide +kernel
theorem dX4_renew_141 : decode cX4_renew 141 = .ok (.iconst 2, 1) := by decide +kernel
theorem dX4_renew_142 : decode cX4_renew 142 = .ok (.iload 4, 2) := by decide +kernel
theorem dX4_renew_144 : decode cX4_renew 144 = .ok (.imul, 1) := by decide +kernel
theorem dX4_renew_145 : decode cX4_renew 145 = .ok (.iconst 1, 1) := by decide +kernel
theorem dX4_renew_146 : decode cX4_renew 146 = .ok (.iadd, 1) := by decide +kernel
theorem dX4_renew_147 : decode cX4_renew 147 = .ok (.iload_n 2, 1) := by decide +kernel
theorem dX4_renew_148 : decode cX4_renew 148 = .ok (.isub, 1) := by decide +kernel
theorem dX4_renew_149 : decode cX4_renew 149 = .ok (.iconst 0, 1) := by decide +kernel
theorem dX4_renew_150 : decode cX4_renew 150 = .ok (.iastore, 1) := by decide +kernel
theorem dX4_renew_151 : decode cX4_renew 151 = .ok (.aload_n 0, 1) := by decide +kernel
theorem dX4_renew_152 : decode cX4_renew 152 = .ok (.getfield 35, 3) := by decide +kernel
theorem dX4_renew_155 : decode cX4_renew 155 = .ok (.iload_n 1, 1) := by decide +kernel
theorem dX4_renew_156 : decode cX4_renew 156 = .ok (.iconst 0, 1) := by decide +kernel
theorem dX4_renew_157 : decode cX4_renew 157 = .ok (.iastore, 1) := by decide +kernel
theorem dX4_renew_158 : decode cX4_renew 158 = .ok (.iload 5, 2) := by decide +kernel
theorem dX4_renew_160 : decode cX4_renew 160 = .ok (.ireturn, 1) := by decide +kernel
set_option maxRecDepth 20000 in
theorem ggX4_version_X4_isContract : GoodIn wsX4_version wsX4_isContract := goodIn_r _ [7, 8, 9, 10, 6, 11, 15, 16, 17, 18, 19, 20, 21, 22, 23, 24, 25, 26, 27, 28, 29, 30, 31, 32, 33, 34, 35, 36] (by decide +kernel) (by decide +kernel)
set_option maxRecDepth 20000 in
theorem gX4_version_X4_isContract : GoodIn wsX4_version (wsV RX4 86 RX4 yX4_isContract wsX4_isContract) := goodIn_app (goodIn_of _ (by decide +kernel)) ggX4_version_X4_isContract
set_option maxRecDepth 20000 in
theorem ggX4_version_X4_isClause : GoodIn wsX4_version wsX4_isClause := goodIn_r _ [14, 9, 10, 6, 11] (by decide +kernel) (by decide +kernel)
set_option maxRecDepth 20000 in
theorem gX4_version_X4_isClause : GoodIn wsX4_version (va_wsS RX4 79 yX4_isClause wsX4_isClause) := goodIn_app (goodIn_of _ (by decide +kernel)) ggX4_version_X4_isClause
theorem dX4_version_0 : decode cX4_version 0 = .ok (.aload_n 0, 1) := by decide +kernel
theorem dX4_version_1 : decode cX4_version 1 = .ok (.aload_n 0, 1) := by decide +kernel
theorem dX4_version_2 : decode cX4_version 2 = .ok (.iload_n 1, 1) := by decide +kernel
theorem dX4_version_3 : decode cX4_version 3 = .ok (.invokevirtual 86, 3) := by decide +kernel
theorem dX4_version_6 : decode cX4_version 6 = .ok (.ifCond .ne 7, 3) := by decide +kernel
theorem dX4_version_9 : decode cX4_version 9 = .ok (.iconst 1, 1) := by decide +kernel
theorem dX4_version_10 : decode cX4_version 10 = .ok (.goto 15, 3) := by decide +kernel
theorem dX4_version_13 : decode cX4_version 13 = .ok (.iload_n 2, 1) := by decide +kernel
theorem dX4_version_14 : decode cX4_version 14 = .ok (.invokestatic 79, 3) := by decide +kernel
theorem dX4_version_17 : decode cX4_version 17 = .ok (.ifCond .eq 7, 3) := by decide +kernel
theorem dX4_version_20 : decode cX4_version 20 = .ok (.iconst 0, 1) := by decide +kernel
theorem dX4_version_21 : decode cX4_version 21 = .ok (.goto 4, 3) := by decide +kernel
theorem dX4_version_24 : decode cX4_version 24 = .ok (.iconst 2, 1) := by decide +kernel
theorem dX4_version_25 : decode cX4_version 25 = .ok (.putfield 65, 3) := by decide +kernel
theorem dX4_version_28 : decode cX4_version 28 = .ok (.aload_n 0, 1) := by decide +kernel
theorem dX4_version_29 : decode cX4_version 29 = .ok (.getfield 65, 3) := by decide +kernel
theorem dX4_version_32 : decode cX4_version 32 = .ok (.ifCond .le 7, 3) := by decide +kernel
theorem dX4_version_35 : decode cX4_version 35 = .ok (.iconst 0, 1) := by decide +kernel
theorem dX4_version_36 : decode cX4_version 36 = .ok (.goto 14, 3) := by decide +kernel
theorem dX4_version_39 : decode cX4_version 39 = .ok (.aload_n 0, 1) := by decide +kernel
theorem dX4_version_40 : decode cX4_version 40 = .ok (.getfield 38, 3) := by decide +kernel
theorem dX4_version_43 : decode cX4_version 43 = .ok (.bipush 10, 2) := by decide +kernel
theorem dX4_version_45 : decode cX4_version 45 = .ok (.iload_n 1, 1) := by decide +kernel
theorem dX4_version_46 : decode cX4_version 46 = .ok (.imul, 1) := by decide +kernel
theorem dX4_version_47 : decode cX4_version 47 = .ok (.iload_n 2, 1) := by decide +kernel
theorem dX4_version_48 : decode cX4_version 48 = .ok (.iadd, 1) := by decide +kernel
theorem dX4_version_49 : decode cX4_version 49 = .ok (.iaload, 1) := by decide +kernel
theorem dX4_version_50 : decode cX4_version 50 = .ok (.ireturn, 1) := by decide +kernel
set_option maxRecDepth 20000 in
theorem ggX4_offered_X4_isContract : GoodIn wsX4_offered wsX4_isContract := goodIn_r _ [9, 10, 11, 12, 8, 13, 14, 15, 16, 17, 18, 19, 20, 21, 22, 23, 24, 25, 26, 27, 28, 29, 30, 31, 32, 33, 34, 35] (by decide +kernel) (by decide +kernel)
set_option maxRecDepth 20000 in
theorem gX4_offered_X4_isContract : GoodIn wsX4_offered (wsV RX4 86 RX4 yX4_isContract wsX4_isContract) := goodIn_app (goodIn_of _ (by decide +kernel)) ggX4_offered_X4_isContract
theorem dX4_offered_0 : decode cX4_offered 0 = .ok (.aload_n 0, 1) := by decide +kernel
theorem dX4_offered_1 : decode cX4_offered 1 = .ok (.aload_n 0, 1) := by decide +kernel
theorem dX4_offered_2 : decode cX4_offered 2 = .ok (.iload_n 1, 1) := by decide +kernel
theorem dX4_offered_3 : decode cX4_offered 3 = .ok (.invokevirtual 86, 3) := by decide +kernel
theorem dX4_offered_6 : decode cX4_offered 6 = .ok (.ifCond .eq 7, 3) := by decide +kernel
theorem dX4_offered_9 : decode cX4_offered 9 = .ok (.iconst 0, 1) := by decide +kernel
theorem dX4_offered_10 : decode cX4_offered 10 = .ok (.goto 4, 3) := by decide +kernel
theorem dX4_offered_13 : decode cX4_offered 13 = .ok (.iconst 1, 1) := by decide +kernel
theorem dX4_offered_14 : decode cX4_offered 14 = .ok (.putfield 65, 3) := by decide +kernel
theorem dX4_offered_17 : decode cX4_offered 17 = .ok (.iconst 0, 1) := by decide +kernel
theorem dX4_offered_18 : decode cX4_offered 18 = .ok (.istore_n 2, 1) := by decide +kernel
theorem dX4_offered_19 : decode cX4_offered 19 = .ok (.iconst 0, 1) := by decide +kernel
theorem dX4_offered_20 : decode cX4_offered 20 = .ok (.istore_n 3, 1) := by decide +kernel
theorem dX4_offered_21 : decode cX4_offered 21 = .ok (.iload_n 3, 1) := by decide +kernel
theorem dX4_offered_22 : decode cX4_offered 22 = .ok (.bipush 10, 2) := by decide +kernel
theorem dX4_offered_24 : decode cX4_offered 24 = .ok (.if_icmp .ge 62, 3) := by decide +kernel
theorem dX4_offered_27 : decode cX4_offered 27 = .ok (.aload_n 0, 1) := by decide +kernel
theorem dX4_offered_28 : decode cX4_offered 28 = .ok (.getfield 65, 3) := by decide +kernel
theorem dX4_offered_31 : decode cX4_offered 31 = .ok (.ifCond .ne 55, 3) := by decide +kernel
theorem dX4_offered_34 : decode cX4_offered 34 = .ok (.aload_n 0, 1) := by decide +kernel
theorem dX4_offered_35 : decode cX4_offered 35 = .ok (.getfield 31, 3) := by decide +kernel
theorem dX4_offered_38 : decode cX4_offered 38 = .ok (.iload_n 1, 1) := by decide +kernel
theorem dX4_offered_39 : decode cX4_offered 39 = .ok (.baload, 1) := by decide +kernel
theorem dX4_offered_40 : decode cX4_offered 40 = .ok (.ifCond .ne 46, 3) := by decide +kernel
theorem dX4_offered_43 : decode cX4_offered 43 = .ok (.aload_n 0, 1) := by decide +kernel
theorem dX4_offered_44 : decode cX4_offered 44 = .ok (.getfield 38, 3) := by decide +kernel
theorem dX4_offered_47 : decode cX4_offered 47 = .ok (.bipush 10, 2) := by decide +kernel
theorem dX4_offered_49 : decode cX4_offered 49 = .ok (.iload_n 1, 1) := by decide +kernel
theorem dX4_offered_50 : decode cX4_offered 50 = .ok (.imul, 1) := by decide +kernel
theorem dX4_offered_51 : decode cX4_offered 51 = .ok (.iload_n 3, 1) := by decide +kernel
theorem dX4_offered_52 : decode cX4_offered 52 = .ok (.iadd, 1) := by decide +kernel
theorem dX4_offered_53 : decode cX4_offered 53 = .ok (.iaload, 1) := by decide +kernel
theorem dX4_offered_54 : decode cX4_offered 54 = .ok (.istore 4, 2) := by decide +kernel
theorem dX4_offered_56 : decode cX4_offered 56 = .ok (.iload_n 2, 1) := by decide +kernel
theorem dX4_offered_57 : decode cX4_offered 57 = .ok (.iload 4, 2) := by decide +kernel
theorem dX4_offered_59 : decode cX4_offered 59 = .ok (.ifCond .le 18, 3) := by decide +kernel
theorem dX4_offered_62 : decode cX4_offered 62 = .ok (.iload 4, 2) := by decide +kernel
theorem dX4_offered_64 : decode cX4_offered 64 = .ok (.aload_n 0, 1) := by decide +kernel
theorem dX4_offered_65 : decode cX4_offered 65 = .ok (.getfield 7, 3) := by decide +kernel
theorem dX4_offered_68 : decode cX4_offered 68 = .ok (.iload_n 3, 1) := by decide +kernel
theorem dX4_offered_69 : decode cX4_offered 69 = .ok (.iaload, 1) := by decide +kernel
theorem dX4_offered_70 : decode cX4_offered 70 = .ok (.if_icmp .ge 7, 3) := by decide +kernel
theorem dX4_offered_73 : decode cX4_offered 73 = .ok (.iconst 1, 1) := by decide +kernel
theorem dX4_offered_74 : decode cX4_offered 74 = .ok (.goto 4, 3) := by decide +kernel
theorem dX4_offered_77 : decode cX4_offered 77 = .ok (.iconst 0, 1) := by decide +kernel
theorem dX4_offered_78 : decode cX4_offered 78 = .ok (.iadd, 1) := by decide +kernel
theorem dX4_offered_79 : decode cX4_offered 79 = .ok (.istore_n 2, 1) := by decide +kernel
theorem dX4_offered_80 : decode cX4_offered 80 = .ok (.iinc 3 1, 3) := by decide +kernel
theorem dX4_offered_83 : decode cX4_offered 83 = .ok (.goto (-62), 3) := by decide +kernel
theorem dX4_offered_86 : decode cX4_offered 86 = .ok (.iload_n 2, 1) := by decide +kernel
theorem dX4_offered_87 : decode cX4_offered 87 = .ok (.ireturn, 1) := by decide +kernel
theorem dX4_reason_0 : decode cX4_reason 0 = .ok (.iconst 0, 1) := by decide +kernel
theorem dX4_reason_1 : decode cX4_reason 1 = .ok (.istore_n 2, 1) := by decide +kernel
theorem dX4_reason_2 : decode cX4_reason 2 = .ok (.iconst 0, 1) := by decide +kernel
theorem dX4_reason_3 : decode cX4_reason 3 = .ok (.istore_n 3, 1) := by decide +kernel
theorem dX4_reason_4 : decode cX4_reason 4 = .ok (.iconst 0, 1) := by decide +kernel
theorem dX4_reason_5 : decode cX4_reason 5 = .ok (.istore 4, 2) := by decide +kernel
theorem dX4_reason_7 : decode cX4_reason 7 = .ok (.iconst 1, 1) := by decide +kernel
theorem dX4_reason_8 : decode cX4_reason 8 = .ok (.istore 5, 2) := by decide +kernel
theorem dX4_reason_10 : decode cX4_reason 10 = .ok (.iconst 0, 1) := by decide +kernel
theorem dX4_reason_11 : decode cX4_reason 11 = .ok (.istore 6, 2) := by decide +kernel
theorem dX4_reason_13 : decode cX4_reason 13 = .ok (.iload 6, 2) := by decide +kernel
theorem dX4_reason_15 : decode cX4_reason 15 = .ok (.bipush 10, 2) := by decide +kernel
theorem dX4_reason_17 : decode cX4_reason 17 = .ok (.if_icmp .ge 97, 3) := by decide +kernel
theorem dX4_reason_20 : decode cX4_reason 20 = .ok (.bipush 10, 2) := by decide +kernel
theorem dX4_reason_22 : decode cX4_reason 22 = .ok (.iload_n 1, 1) := by decide +kernel
theorem dX4_reason_23 : decode cX4_reason 23 = .ok (.imul, 1) := by decide +kernel
theorem dX4_reason_24 : decode cX4_reason 24 = .ok (.iload 6, 2) := by decide +kernel
theorem dX4_reason_26 : decode cX4_reason 26 = .ok (.iadd, 1) := by decide +kernel
theorem dX4_reason_27 : decode cX4_reason 27 = .ok (.istore 7, 2) := by decide +kernel
theorem dX4_reason_29 : decode cX4_reason 29 = .ok (.aload_n 0, 1) := by decide +kernel
theorem dX4_reason_30 : decode cX4_reason 30 = .ok (.getfield 38, 3) := by decide +kernel
theorem dX4_reason_33 : decode cX4_reason 33 = .ok (.iload 7, 2) := by decide +kernel
theorem dX4_reason_35 : decode cX4_reason 35 = .ok (.iaload, 1) := by decide +kernel
theorem dX4_reason_36 : decode cX4_reason 36 = .ok (.ifCond .le 72, 3) := by decide +kernel
theorem dX4_reason_39 : decode cX4_reason 39 = .ok (.iload_n 2, 1) := by decide +kernel
theorem dX4_reason_40 : decode cX4_reason 40 = .ok (.iconst 1, 1) := by decide +kernel
theorem dX4_reason_41 : decode cX4_reason 41 = .ok (.iload 6, 2) := by decide +kernel
theorem dX4_reason_43 : decode cX4_reason 43 = .ok (.ishl, 1) := by decide +kernel
theorem dX4_reason_44 : decode cX4_reason 44 = .ok (.ior, 1) := by decide +kernel
theorem dX4_reason_45 : decode cX4_reason 45 = .ok (.istore_n 2, 1) := by decide +kernel
theorem dX4_reason_46 : decode cX4_reason 46 = .ok (.iload_n 3, 1) := by decide +kernel
theorem dX4_reason_47 : decode cX4_reason 47 = .ok (.aload_n 0, 1) := by decide +kernel
theorem dX4_reason_48 : decode cX4_reason 48 = .ok (.getfield 25, 3) := by decide +kernel
theorem dX4_reason_51 : decode cX4_reason 51 = .ok (.iload 6, 2) := by decide +kernel
theorem dX4_reason_53 : decode cX4_reason 53 = .ok (.iaload, 1) := by decide +kernel
theorem dX4_reason_54 : decode cX4_reason 54 = .ok (.ior, 1) := by decide +kernel
theorem dX4_reason_55 : decode cX4_reason 55 = .ok (.istore_n 3, 1) := by decide +kernel
theorem dX4_reason_56 : decode cX4_reason 56 = .ok (.iload 4, 2) := by decide +kernel
theorem dX4_reason_58 : decode cX4_reason 58 = .ok (.aload_n 0, 1) := by decide +kernel
theorem dX4_reason_59 : decode cX4_reason 59 = .ok (.getfield 28, 3) := by decide +kernel
theorem dX4_reason_62 : decode cX4_reason 62 = .ok (.iload 6, 2) := by decide +kernel
theorem dX4_reason_64 : decode cX4_reason 64 = .ok (.iaload, 1) := by decide +kernel
theorem dX4_reason_65 : decode cX4_reason 65 = .ok (.ior, 1) := by decide +kernel
theorem dX4_reason_66 : decode cX4_reason 66 = .ok (.istore 4, 2) := by decide +kernel
theorem dX4_reason_68 : decode cX4_reason 68 = .ok (.iload 5, 2) := by decide +kernel
theorem dX4_reason_70 : decode cX4_reason 70 = .ok (.ifCond .eq 35, 3) := by decide +kernel
theorem dX4_reason_73 : decode cX4_reason 73 = .ok (.aload_n 0, 1) := by decide +kernel
theorem dX4_reason_74 : decode cX4_reason 74 = .ok (.getfield 41, 3) := by decide +kernel
theorem dX4_reason_77 : decode cX4_reason 77 = .ok (.iconst 2, 1) := by decide +kernel
theorem dX4_reason_78 : decode cX4_reason 78 = .ok (.iload 7, 2) := by decide +kernel
theorem dX4_reason_80 : decode cX4_reason 80 = .ok (.imul, 1) := by decide +kernel
theorem dX4_reason_81 : decode cX4_reason 81 = .ok (.iaload, 1) := by decide +kernel
theorem dX4_reason_82 : decode cX4_reason 82 = .ok (.iconst 1, 1) := by decide +kernel
theorem dX4_reason_83 : decode cX4_reason 83 = .ok (.if_icmp .ne 22, 3) := by decide +kernel
theorem dX4_reason_86 : decode cX4_reason 86 = .ok (.aload_n 0, 1) := by decide +kernel
theorem dX4_reason_87 : decode cX4_reason 87 = .ok (.getfield 41, 3) := by decide +kernel
theorem dX4_reason_90 : decode cX4_reason 90 = .ok (.iconst 2, 1) := by decide +kernel
theorem dX4_reason_91 : decode cX4_reason 91 = .ok (.iload 7, 2) := by decide +kernel
theorem dX4_reason_93 : decode cX4_reason 93 = .ok (.imul, 1) := by decide +kernel
theorem dX4_reason_94 : decode cX4_reason 94 = .ok (.iconst 1, 1) := by decide +kernel
theorem dX4_reason_95 : decode cX4_reason 95 = .ok (.iadd, 1) := by decide +kernel
theorem dX4_reason_96 : decode cX4_reason 96 = .ok (.iaload, 1) := by decide +kernel
theorem dX4_reason_97 : decode cX4_reason 97 = .ok (.iconst 1, 1) := by decide +kernel
theorem dX4_reason_98 : decode cX4_reason 98 = .ok (.if_icmp .ne 7, 3) := by decide +kernel
theorem dX4_reason_101 : decode cX4_reason 101 = .ok (.iconst 1, 1) := by decide +kernel
theorem dX4_reason_102 : decode cX4_reason 102 = .ok (.goto 4, 3) := by decide +kernel
theorem dX4_reason_105 : decode cX4_reason 105 = .ok (.iconst 0, 1) := by decide +kernel
theorem dX4_reason_106 : decode cX4_reason 106 = .ok (.istore 5, 2) := by decide +kernel
theorem dX4_reason_108 : decode cX4_reason 108 = .ok (.iinc 6 1, 3) := by decide +kernel
theorem dX4_reason_111 : decode cX4_reason 111 = .ok (.goto (-98), 3) := by decide +kernel
theorem dX4_reason_114 : decode cX4_reason 114 = .ok (.aload_n 0, 1) := by decide +kernel
theorem dX4_reason_115 : decode cX4_reason 115 = .ok (.getfield 31, 3) := by decide +kernel
theorem dX4_reason_118 : decode cX4_reason 118 = .ok (.iload_n 1, 1) := by decide +kernel
theorem dX4_reason_119 : decode cX4_reason 119 = .ok (.baload, 1) := by decide +kernel
theorem dX4_reason_120 : decode cX4_reason 120 = .ok (.ifCond .eq 7, 3) := by decide +kernel
theorem dX4_reason_123 : decode cX4_reason 123 = .ok (.iconst 1, 1) := by decide +kernel
theorem dX4_reason_124 : decode cX4_reason 124 = .ok (.goto 44, 3) := by decide +kernel
theorem dX4_reason_127 : decode cX4_reason 127 = .ok (.iload_n 2, 1) := by decide +kernel
theorem dX4_reason_128 : decode cX4_reason 128 = .ok (.ifCond .ne 7, 3) := by decide +kernel
theorem dX4_reason_131 : decode cX4_reason 131 = .ok (.iconst 2, 1) := by decide +kernel
theorem dX4_reason_132 : decode cX4_reason 132 = .ok (.goto 36, 3) := by decide +kernel
theorem dX4_reason_135 : decode cX4_reason 135 = .ok (.iload 5, 2) := by decide +kernel
theorem dX4_reason_137 : decode cX4_reason 137 = .ok (.ifCond .ne 7, 3) := by decide +kernel
theorem dX4_reason_140 : decode cX4_reason 140 = .ok (.iconst 3, 1) := by decide +kernel
theorem dX4_reason_141 : decode cX4_reason 141 = .ok (.goto 27, 3) := by decide +kernel
theorem dX4_reason_144 : decode cX4_reason 144 = .ok (.iload_n 3, 1) := by decide +kernel
theorem dX4_reason_145 : decode cX4_reason 145 = .ok (.iload_n 2, 1) := by decide +kernel
theorem dX4_reason_146 : decode cX4_reason 146 = .ok (.iconst (-1), 1) := by decide +kernel
theorem dX4_reason_147 : decode cX4_reason 147 = .ok (.ixor, 1) := by decide +kernel
theorem dX4_reason_148 : decode cX4_reason 148 = .ok (.iand, 1) := by decide +kernel
theorem dX4_reason_149 : decode cX4_reason 149 = .ok (.ifCond .eq 7, 3) := by decide +kernel
theorem dX4_reason_152 : decode cX4_reason 152 = .ok (.iconst 4, 1) := by decide +kernel
theorem dX4_reason_153 : decode cX4_reason 153 = .ok (.goto 15, 3) := by decide +kernel
theorem dX4_reason_156 : decode cX4_reason 156 = .ok (.iload 4, 2) := by decide +kernel
theorem dX4_reason_158 : decode cX4_reason 158 = .ok (.iload_n 2, 1) := by decide +kernel
theorem dX4_reason_159 : decode cX4_reason 159 = .ok (.iand, 1) := by decide +kernel
theorem dX4_reason_160 : decode cX4_reason 160 = .ok (.ifCond .eq 7, 3) := by decide +kernel
theorem dX4_reason_163 : decode cX4_reason 163 = .ok (.iconst 5, 1) := by decide +kernel
theorem dX4_reason_164 : decode cX4_reason 164 = .ok (.goto 4, 3) := by decide +kernel
theorem dX4_reason_167 : decode cX4_reason 167 = .ok (.iconst 0, 1) := by decide +kernel
theorem dX4_reason_168 : decode cX4_reason 168 = .ok (.ireturn, 1) := by decide +kernel
set_option maxRecDepth 20000 in
theorem ggX4_whyNot_X4_isContract : GoodIn wsX4_whyNot wsX4_isContract := goodIn_r _ [6, 7, 8, 9, 5, 10, 20, 21, 22, 23, 24, 25, 26, 27, 28, 29, 30, 31, 32, 33, 34, 35, 36, 37, 38, 39, 40, 41] (by decide +kernel) (by decide +kernel)
set_option maxRecDepth 20000 in
theorem gX4_whyNot_X4_isContract : GoodIn wsX4_whyNot (wsV RX4 86 RX4 yX4_isContract wsX4_isContract) := goodIn_app (goodIn_of _ (by decide +kernel)) ggX4_whyNot_X4_isContract
set_option maxRecDepth 20000 in
theorem ggX4_whyNot_X4_reason : GoodIn wsX4_whyNot wsX4_reason := goodIn_r _ [14, 15, 16, 17, 18, 19, 20, 21, 22, 23, 24, 25, 26, 27, 28, 29, 30, 31, 32, 33, 34, 35, 36, 37, 38, 39, 40, 41] (by decide +kernel) (by decide +kernel)
set_option maxRecDepth 20000 in
theorem gX4_whyNot_X4_reason : GoodIn wsX4_whyNot (wsV RX4 93 RX4 yX4_reason wsX4_reason) := goodIn_app (goodIn_of _ (by decide +kernel)) ggX4_whyNot_X4_reason
theorem dX4_whyNot_0 : decode cX4_whyNot 0 = .ok (.aload_n 0, 1) := by decide +kernel
theorem dX4_whyNot_1 : decode cX4_whyNot 1 = .ok (.aload_n 0, 1) := by decide +kernel
theorem dX4_whyNot_2 : decode cX4_whyNot 2 = .ok (.iload_n 1, 1) := by decide +kernel
theorem dX4_whyNot_3 : decode cX4_whyNot 3 = .ok (.invokevirtual 86, 3) := by decide +kernel
theorem dX4_whyNot_6 : decode cX4_whyNot 6 = .ok (.ifCond .eq 7, 3) := by decide +kernel
theorem dX4_whyNot_9 : decode cX4_whyNot 9 = .ok (.iconst 0, 1) := by decide +kernel
theorem dX4_whyNot_10 : decode cX4_whyNot 10 = .ok (.goto 4, 3) := by decide +kernel
theorem dX4_whyNot_13 : decode cX4_whyNot 13 = .ok (.iconst 1, 1) := by decide +kernel
theorem dX4_whyNot_14 : decode cX4_whyNot 14 = .ok (.putfield 65, 3) := by decide +kernel
theorem dX4_whyNot_17 : decode cX4_whyNot 17 = .ok (.aload_n 0, 1) := by decide +kernel
theorem dX4_whyNot_18 : decode cX4_whyNot 18 = .ok (.getfield 65, 3) := by decide +kernel
theorem dX4_whyNot_21 : decode cX4_whyNot 21 = .ok (.ifCond .le 7, 3) := by decide +kernel
theorem dX4_whyNot_24 : decode cX4_whyNot 24 = .ok (.iconst 0, 1) := by decide +kernel
theorem dX4_whyNot_25 : decode cX4_whyNot 25 = .ok (.goto 8, 3) := by decide +kernel
theorem dX4_whyNot_28 : decode cX4_whyNot 28 = .ok (.aload_n 0, 1) := by decide +kernel
theorem dX4_whyNot_29 : decode cX4_whyNot 29 = .ok (.iload_n 1, 1) := by decide +kernel
theorem dX4_whyNot_30 : decode cX4_whyNot 30 = .ok (.invokevirtual 93, 3) := by decide +kernel
theorem dX4_whyNot_33 : decode cX4_whyNot 33 = .ok (.ireturn, 1) := by decide +kernel
theorem dX4_makesDuties_0 : decode cX4_makesDuties 0 = .ok (.iconst 0, 1) := by decide +kernel
theorem dX4_makesDuties_1 : decode cX4_makesDuties 1 = .ok (.istore_n 2, 1) := by decide +kernel
theorem dX4_makesDuties_2 : decode cX4_makesDuties 2 = .ok (.iconst 0, 1) := by decide +kernel
theorem dX4_makesDuties_3 : decode cX4_makesDuties 3 = .ok (.istore_n 3, 1) := by decide +kernel
theorem dX4_makesDuties_4 : decode cX4_makesDuties 4 = .ok (.iload_n 3, 1) := by decide +kernel
theorem dX4_makesDuties_5 : decode cX4_makesDuties 5 = .ok (.bipush 10, 2) := by decide +kernel
theorem dX4_makesDuties_7 : decode cX4_makesDuties 7 = .ok (.if_icmp .ge 140, 3) := by decide +kernel
theorem dX4_makesDuties_10 : decode cX4_makesDuties 10 = .ok (.aload_n 0, 1) := by decide +kernel
theorem dX4_makesDuties_11 : decode cX4_makesDuties 11 = .ok (.getfield 38, 3) := by decide +kernel
theorem dX4_makesDuties_14 : decode cX4_makesDuties 14 = .ok (.bipush 10, 2) := by decide +kernel

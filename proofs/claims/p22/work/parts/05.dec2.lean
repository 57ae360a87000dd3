theorem dX3_checkClause_2 : decode cX3_checkClause 2 = .ok (.bipush 9, 2) := by decide +kernel
theorem dX3_checkClause_4 : decode cX3_checkClause 4 = .ok (.invokestatic 43, 3) := by decide +kernel
theorem dX3_checkClause_7 : decode cX3_checkClause 7 = .ok (.ifCond .ne 13, 3) := by decide +kernel
theorem dX3_checkClause_10 : decode cX3_checkClause 10 = .ok (.new 47, 3) := by decide +kernel
theorem dX3_checkClause_13 : decode cX3_checkClause 13 = .ok (.dup, 1) := by decide +kernel
theorem dX3_checkClause_14 : decode cX3_checkClause 14 = .ok (.ldc 196, 2) := by decide +kernel
theorem dX3_checkClause_16 : decode cX3_checkClause 16 = .ok (.invokespecial 51, 3) := by decide +kernel
theorem dX3_checkClause_19 : decode cX3_checkClause 19 = .ok (.athrow, 1) := by decide +kernel
theorem dX3_checkClause_20 : decode cX3_checkClause 20 = .ok (.return_, 1) := by decide +kernel
set_option maxRecDepth 20000 in
theorem ggX3_checkSide_X3_isWithin : GoodIn wsX3_checkSide wsX3_isWithin := goodIn_r _ [6] (by decide +kernel) (by decide +kernel)
set_option maxRecDepth 20000 in
theorem gX3_checkSide_X3_isWithin : GoodIn wsX3_checkSide (va_wsS RX3 43 yX3_isWithin wsX3_isWithin) := goodIn_app (goodIn_of _ (by decide +kernel)) ggX3_checkSide_X3_isWithin
theorem dX3_checkSide_0 : decode cX3_checkSide 0 = .ok (.iload_n 0, 1) := by decide +kernel
theorem dX3_checkSide_1 : decode cX3_checkSide 1 = .ok (.iconst 0, 1) := by decide +kernel
theorem dX3_checkSide_2 : decode cX3_checkSide 2 = .ok (.iconst 1, 1) := by decide +kernel
theorem dX3_checkSide_3 : decode cX3_checkSide 3 = .ok (.invokestatic 43, 3) := by decide +kernel
theorem dX3_checkSide_6 : decode cX3_checkSide 6 = .ok (.ifCond .ne 13, 3) := by decide +kernel
theorem dX3_checkSide_9 : decode cX3_checkSide 9 = .ok (.new 47, 3) := by decide +kernel
theorem dX3_checkSide_12 : decode cX3_checkSide 12 = .ok (.dup, 1) := by decide +kernel
theorem dX3_checkSide_13 : decode cX3_checkSide 13 = .ok (.ldc 198, 2) := by decide +kernel
theorem dX3_checkSide_15 : decode cX3_checkSide 15 = .ok (.invokespecial 51, 3) := by decide +kernel
theorem dX3_checkSide_18 : decode cX3_checkSide 18 = .ok (.athrow, 1) := by decide +kernel
theorem dX3_checkSide_19 : decode cX3_checkSide 19 = .ok (.return_, 1) := by decide +kernel
set_option maxRecDepth 20000 in
theorem ggX3_checkOtherClauses_X3_isWithin : GoodIn wsX3_checkOtherClauses wsX3_isWithin := goodIn_r _ [6] (by decide +kernel) (by decide +kernel)
set_option maxRecDepth 20000 in
theorem gX3_checkOtherClauses_X3_isWithin : GoodIn wsX3_checkOtherClauses (va_wsS RX3 43 yX3_isWithin wsX3_isWithin) := goodIn_app (goodIn_of _ (by decide +kernel)) ggX3_checkOtherClauses_X3_isWithin
theorem dX3_checkOtherClauses_0 : decode cX3_checkOtherClauses 0 = .ok (.iload_n 1, 1) := by decide +kernel
theorem dX3_checkOtherClauses_1 : decode cX3_checkOtherClauses 1 = .ok (.iconst 0, 1) := by decide +kernel
theorem dX3_checkOtherClauses_2 : decode cX3_checkOtherClauses 2 = .ok (.sipush 1023, 3) := by decide +kernel
theorem dX3_checkOtherClauses_5 : decode cX3_checkOtherClauses 5 = .ok (.invokestatic 43, 3) := by decide +kernel
theorem dX3_checkOtherClauses_8 : decode cX3_checkOtherClauses 8 = .ok (.ifCond .eq 11, 3) := by decide +kernel
theorem dX3_checkOtherClauses_11 : decode cX3_checkOtherClauses 11 = .ok (.iload_n 1, 1) := by decide +kernel
theorem dX3_checkOtherClauses_12 : decode cX3_checkOtherClauses 12 = .ok (.iconst 1, 1) := by decide +kernel
theorem dX3_checkOtherClauses_13 : decode cX3_checkOtherClauses 13 = .ok (.iload_n 0, 1) := by decide +kernel
theorem dX3_checkOtherClauses_14 : decode cX3_checkOtherClauses 14 = .ok (.ishl, 1) := by decide +kernel
theorem dX3_checkOtherClauses_15 : decode cX3_checkOtherClauses 15 = .ok (.iand, 1) := by decide +kernel
theorem dX3_checkOtherClauses_16 : decode cX3_checkOtherClauses 16 = .ok (.ifCond .eq 13, 3) := by decide +kernel
theorem dX3_checkOtherClauses_19 : decode cX3_checkOtherClauses 19 = .ok (.new 47, 3) := by decide +kernel
theorem dX3_checkOtherClauses_22 : decode cX3_checkOtherClauses 22 = .ok (.dup, 1) := by decide +kernel
theorem dX3_checkOtherClauses_23 : decode cX3_checkOtherClauses 23 = .ok (.ldc 200, 2) := by decide +kernel
theorem dX3_checkOtherClauses_25 : decode cX3_checkOtherClauses 25 = .ok (.invokespecial 51, 3) := by decide +kernel
theorem dX3_checkOtherClauses_28 : decode cX3_checkOtherClauses 28 = .ok (.athrow, 1) := by decide +kernel
theorem dX3_checkOtherClauses_29 : decode cX3_checkOtherClauses 29 = .ok (.return_, 1) := by decide +kernel
set_option maxRecDepth 20000 in
theorem ggX3_checkDraft_X0_isDraft : GoodIn wsX3_checkDraft wsX0_isDraft := goodIn_r _ [7, 8, 9, 10, 11, 12, 13] (by decide +kernel) (by decide +kernel)
set_option maxRecDepth 20000 in
theorem gX3_checkDraft_X0_isDraft : GoodIn wsX3_checkDraft (wsV RX3 120 RX0 yX0_isDraft wsX0_isDraft) := goodIn_app (goodIn_of _ (by decide +kernel)) ggX3_checkDraft_X0_isDraft
theorem dX3_checkDraft_0 : decode cX3_checkDraft 0 = .ok (.aload_n 0, 1) := by decide +kernel
theorem dX3_checkDraft_1 : decode cX3_checkDraft 1 = .ok (.invokevirtual 120, 3) := by decide +kernel
theorem dX3_checkDraft_4 : decode cX3_checkDraft 4 = .ok (.ifCond .ne 13, 3) := by decide +kernel
theorem dX3_checkDraft_7 : decode cX3_checkDraft 7 = .ok (.new 58, 3) := by decide +kernel
theorem dX3_checkDraft_10 : decode cX3_checkDraft 10 = .ok (.dup, 1) := by decide +kernel
theorem dX3_checkDraft_11 : decode cX3_checkDraft 11 = .ok (.ldc 202, 2) := by decide +kernel
theorem dX3_checkDraft_13 : decode cX3_checkDraft 13 = .ok (.invokespecial 62, 3) := by decide +kernel
theorem dX3_checkDraft_16 : decode cX3_checkDraft 16 = .ok (.athrow, 1) := by decide +kernel
theorem dX3_checkDraft_17 : decode cX3_checkDraft 17 = .ok (.return_, 1) := by decide +kernel
set_option maxRecDepth 20000 in
theorem ggX3_contractAt_Jx4a65c_size_8abf5 : GoodIn wsX3_contractAt wsJx4a65c_size_8abf5 := goodIn_r _ [9, 10, 38, 39, 40] (by decide +kernel) (by decide +kernel)
set_option maxRecDepth 20000 in
theorem gX3_contractAt_Jx4a65c_size_8abf5 : GoodIn wsX3_contractAt (wsV RX3 70 RJx4a65c yJx4a65c_size_8abf5 wsJx4a65c_size_8abf5) := goodIn_app (goodIn_of _ (by decide +kernel)) ggX3_contractAt_Jx4a65c_size_8abf5
set_option maxRecDepth 20000 in
theorem ggX3_contractAt_X3_isWithin : GoodIn wsX3_contractAt wsX3_isWithin := goodIn_r _ [14] (by decide +kernel) (by decide +kernel)
set_option maxRecDepth 20000 in
theorem gX3_contractAt_X3_isWithin : GoodIn wsX3_contractAt (va_wsS RX3 43 yX3_isWithin wsX3_isWithin) := goodIn_app (goodIn_of _ (by decide +kernel)) ggX3_contractAt_X3_isWithin
set_option maxRecDepth 20000 in
theorem ggX3_contractAt_Jx4a65c_get_915e3 : GoodIn wsX3_contractAt wsJx4a65c_get_915e3 := goodIn_r _ [18, 10, 19, 20, 21, 22, 23, 24, 25, 26, 27, 28, 29, 8, 30, 31, 38, 39, 40] (by decide +kernel) (by decide +kernel)
set_option maxRecDepth 20000 in
theorem gX3_contractAt_Jx4a65c_get_915e3 : GoodIn wsX3_contractAt (wsV RX3 209 RJx4a65c yJx4a65c_get_915e3 wsJx4a65c_get_915e3) := goodIn_app (goodIn_of _ (by decide +kernel)) ggX3_contractAt_Jx4a65c_get_915e3
theorem dX3_contractAt_0 : decode cX3_contractAt 0 = .ok (.iload_n 1, 1) := by decide +kernel
theorem dX3_contractAt_1 : decode cX3_contractAt 1 = .ok (.iconst 0, 1) := by decide +kernel
theorem dX3_contractAt_2 : decode cX3_contractAt 2 = .ok (.aload_n 0, 1) := by decide +kernel
theorem dX3_contractAt_3 : decode cX3_contractAt 3 = .ok (.getfield 25, 3) := by decide +kernel
theorem dX3_contractAt_6 : decode cX3_contractAt 6 = .ok (.invokevirtual 70, 3) := by decide +kernel
theorem dX3_contractAt_9 : decode cX3_contractAt 9 = .ok (.iconst 1, 1) := by decide +kernel
theorem dX3_contractAt_10 : decode cX3_contractAt 10 = .ok (.isub, 1) := by decide +kernel
theorem dX3_contractAt_11 : decode cX3_contractAt 11 = .ok (.invokestatic 43, 3) := by decide +kernel
theorem dX3_contractAt_14 : decode cX3_contractAt 14 = .ok (.ifCond .ne 13, 3) := by decide +kernel
theorem dX3_contractAt_17 : decode cX3_contractAt 17 = .ok (.new 204, 3) := by decide +kernel
theorem dX3_contractAt_20 : decode cX3_contractAt 20 = .ok (.dup, 1) := by decide +kernel
theorem dX3_contractAt_21 : decode cX3_contractAt 21 = .ok (.ldc 206, 2) := by decide +kernel
theorem dX3_contractAt_23 : decode cX3_contractAt 23 = .ok (.invokespecial 208, 3) := by decide +kernel
theorem dX3_contractAt_26 : decode cX3_contractAt 26 = .ok (.athrow, 1) := by decide +kernel
theorem dX3_contractAt_27 : decode cX3_contractAt 27 = .ok (.aload_n 0, 1) := by decide +kernel
theorem dX3_contractAt_28 : decode cX3_contractAt 28 = .ok (.getfield 25, 3) := by decide +kernel
theorem dX3_contractAt_31 : decode cX3_contractAt 31 = .ok (.iload_n 1, 1) := by decide +kernel
theorem dX3_contractAt_32 : decode cX3_contractAt 32 = .ok (.invokevirtual 209, 3) := by decide +kernel
theorem dX3_contractAt_35 : decode cX3_contractAt 35 = .ok (.checkcast 76, 3) := by decide +kernel
theorem dX3_contractAt_38 : decode cX3_contractAt 38 = .ok (.areturn, 1) := by decide +kernel
set_option maxRecDepth 20000 in
theorem ggX3_dutyAt_Jx4a65c_size_8abf5 : GoodIn wsX3_dutyAt wsJx4a65c_size_8abf5 := goodIn_r _ [9, 10, 38, 39, 40] (by decide +kernel) (by decide +kernel)
set_option maxRecDepth 20000 in
theorem gX3_dutyAt_Jx4a65c_size_8abf5 : GoodIn wsX3_dutyAt (wsV RX3 70 RJx4a65c yJx4a65c_size_8abf5 wsJx4a65c_size_8abf5) := goodIn_app (goodIn_of _ (by decide +kernel)) ggX3_dutyAt_Jx4a65c_size_8abf5
set_option maxRecDepth 20000 in
theorem ggX3_dutyAt_X3_isWithin : GoodIn wsX3_dutyAt wsX3_isWithin := goodIn_r _ [14] (by decide +kernel) (by decide +kernel)
set_option maxRecDepth 20000 in
theorem gX3_dutyAt_X3_isWithin : GoodIn wsX3_dutyAt (va_wsS RX3 43 yX3_isWithin wsX3_isWithin) := goodIn_app (goodIn_of _ (by decide +kernel)) ggX3_dutyAt_X3_isWithin
set_option maxRecDepth 20000 in
theorem ggX3_dutyAt_Jx4a65c_get_915e3 : GoodIn wsX3_dutyAt wsJx4a65c_get_915e3 := goodIn_r _ [18, 10, 19, 20, 21, 22, 23, 24, 25, 26, 27, 28, 29, 8, 30, 31, 38, 39, 40] (by decide +kernel) (by decide +kernel)
set_option maxRecDepth 20000 in
theorem gX3_dutyAt_Jx4a65c_get_915e3 : GoodIn wsX3_dutyAt (wsV RX3 209 RJx4a65c yJx4a65c_get_915e3 wsJx4a65c_get_915e3) := goodIn_app (goodIn_of _ (by decide +kernel)) ggX3_dutyAt_Jx4a65c_get_915e3
theorem dX3_dutyAt_0 : decode cX3_dutyAt 0 = .ok (.iload_n 1, 1) := by decide +kernel
theorem dX3_dutyAt_1 : decode cX3_dutyAt 1 = .ok (.iconst 0, 1) := by decide +kernel
theorem dX3_dutyAt_2 : decode cX3_dutyAt 2 = .ok (.aload_n 0, 1) := by decide +kernel
theorem dX3_dutyAt_3 : decode cX3_dutyAt 3 = .ok (.getfield 29, 3) := by decide +kernel
theorem dX3_dutyAt_6 : decode cX3_dutyAt 6 = .ok (.invokevirtual 70, 3) := by decide +kernel
theorem dX3_dutyAt_9 : decode cX3_dutyAt 9 = .ok (.iconst 1, 1) := by decide +kernel
theorem dX3_dutyAt_10 : decode cX3_dutyAt 10 = .ok (.isub, 1) := by decide +kernel
theorem dX3_dutyAt_11 : decode cX3_dutyAt 11 = .ok (.invokestatic 43, 3) := by decide +kernel
theorem dX3_dutyAt_14 : decode cX3_dutyAt 14 = .ok (.ifCond .ne 13, 3) := by decide +kernel
theorem dX3_dutyAt_17 : decode cX3_dutyAt 17 = .ok (.new 204, 3) := by decide +kernel
theorem dX3_dutyAt_20 : decode cX3_dutyAt 20 = .ok (.dup, 1) := by decide +kernel
theorem dX3_dutyAt_21 : decode cX3_dutyAt 21 = .ok (.ldc 213, 2) := by decide +kernel
theorem dX3_dutyAt_23 : decode cX3_dutyAt 23 = .ok (.invokespecial 208, 3) := by decide +kernel
theorem dX3_dutyAt_26 : decode cX3_dutyAt 26 = .ok (.athrow, 1) := by decide +kernel
theorem dX3_dutyAt_27 : decode cX3_dutyAt 27 = .ok (.aload_n 0, 1) := by decide +kernel
theorem dX3_dutyAt_28 : decode cX3_dutyAt 28 = .ok (.getfield 29, 3) := by decide +kernel
theorem dX3_dutyAt_31 : decode cX3_dutyAt 31 = .ok (.iload_n 1, 1) := by decide +kernel
theorem dX3_dutyAt_32 : decode cX3_dutyAt 32 = .ok (.invokevirtual 209, 3) := by decide +kernel
theorem dX3_dutyAt_35 : decode cX3_dutyAt 35 = .ok (.checkcast 152, 3) := by decide +kernel
theorem dX3_dutyAt_38 : decode cX3_dutyAt 38 = .ok (.areturn, 1) := by decide +kernel
theorem dX3_numberOf_0 : decode cX3_numberOf 0 = .ok (.aload_n 0, 1) := by decide +kernel
theorem dX3_numberOf_1 : decode cX3_numberOf 1 = .ok (.ifnonnull 7, 3) := by decide +kernel
theorem dX3_numberOf_4 : decode cX3_numberOf 4 = .ok (.iconst 0, 1) := by decide +kernel
theorem dX3_numberOf_5 : decode cX3_numberOf 5 = .ok (.goto 7, 3) := by decide +kernel
theorem dX3_numberOf_8 : decode cX3_numberOf 8 = .ok (.aload_n 0, 1) := by decide +kernel
theorem dX3_numberOf_9 : decode cX3_numberOf 9 = .ok (.getfield 215, 3) := by decide +kernel
theorem dX3_numberOf_12 : decode cX3_numberOf 12 = .ok (.ireturn, 1) := by decide +kernel
set_option maxRecDepth 20000 in
theorem ggX3_newestNumber_X3_numberOf : GoodIn wsX3_newestNumber wsX3_numberOf := goodIn_r _ [5, 6, 13, 14, 15, 16, 17] (by decide +kernel) (by decide +kernel)
set_option maxRecDepth 20000 in
theorem gX3_newestNumber_X3_numberOf : GoodIn wsX3_newestNumber (va_wsS RX3 218 yX3_numberOf wsX3_numberOf) := goodIn_app (goodIn_of _ (by decide +kernel)) ggX3_newestNumber_X3_numberOf
theorem dX3_newestNumber_0 : decode cX3_newestNumber 0 = .ok (.aload_n 0, 1) := by decide +kernel
theorem dX3_newestNumber_1 : decode cX3_newestNumber 1 = .ok (.getfield 11, 3) := by decide +kernel
theorem dX3_newestNumber_4 : decode cX3_newestNumber 4 = .ok (.iload_n 1, 1) := by decide +kernel
theorem dX3_newestNumber_5 : decode cX3_newestNumber 5 = .ok (.aaload, 1) := by decide +kernel
theorem dX3_newestNumber_6 : decode cX3_newestNumber 6 = .ok (.invokestatic 218, 3) := by decide +kernel
theorem dX3_newestNumber_9 : decode cX3_newestNumber 9 = .ok (.ireturn, 1) := by decide +kernel
set_option maxRecDepth 20000 in
theorem ggX3_itemNumber_X3_numberOf : GoodIn wsX3_itemNumber wsX3_numberOf := goodIn_r _ [5, 6, 12, 13, 14, 15, 16] (by decide +kernel) (by decide +kernel)
set_option maxRecDepth 20000 in
theorem gX3_itemNumber_X3_numberOf : GoodIn wsX3_itemNumber (va_wsS RX3 218 yX3_numberOf wsX3_numberOf) := goodIn_app (goodIn_of _ (by decide +kernel)) ggX3_itemNumber_X3_numberOf
theorem dX3_itemNumber_0 : decode cX3_itemNumber 0 = .ok (.aload_n 0, 1) := by decide +kernel
theorem dX3_itemNumber_1 : decode cX3_itemNumber 1 = .ok (.getfield 93, 3) := by decide +kernel
theorem dX3_itemNumber_4 : decode cX3_itemNumber 4 = .ok (.iload_n 1, 1) := by decide +kernel
theorem dX3_itemNumber_5 : decode cX3_itemNumber 5 = .ok (.aaload, 1) := by decide +kernel
theorem dX3_itemNumber_6 : decode cX3_itemNumber 6 = .ok (.invokestatic 218, 3) := by decide +kernel
theorem dX3_itemNumber_9 : decode cX3_itemNumber 9 = .ok (.ireturn, 1) := by decide +kernel
set_option maxRecDepth 20000 in
theorem ggX3_hasLaterVersion_X3_itemNumber : GoodIn wsX3_hasLaterVersion wsX3_itemNumber := goodIn_r _ [5, 1, 6, 7, 4, 8, 9, 15, 16, 17, 18, 19, 20, 21, 22, 23, 24] (by decide +kernel) (by decide +kernel)
set_option maxRecDepth 20000 in
theorem gX3_hasLaterVersion_X3_itemNumber : GoodIn wsX3_hasLaterVersion (va_wsS RX3 116 yX3_itemNumber wsX3_itemNumber) := goodIn_app (goodIn_of _ (by decide +kernel)) ggX3_hasLaterVersion_X3_itemNumber
set_option maxRecDepth 20000 in
theorem ggX3_hasLaterVersion_X3_newestNumber : GoodIn wsX3_hasLaterVersion wsX3_newestNumber := goodIn_r _ [13, 14, 6, 7, 4, 8, 9, 25, 26, 27, 28, 29, 30, 20, 21, 22, 23, 24] (by decide +kernel) (by decide +kernel)
set_option maxRecDepth 20000 in
theorem gX3_hasLaterVersion_X3_newestNumber : GoodIn wsX3_hasLaterVersion (wsV RX3 54 RX3 yX3_newestNumber wsX3_newestNumber) := goodIn_app (goodIn_of _ (by decide +kernel)) ggX3_hasLaterVersion_X3_newestNumber
theorem dX3_hasLaterVersion_0 : decode cX3_hasLaterVersion 0 = .ok (.aload_n 1, 1) := by decide +kernel
theorem dX3_hasLaterVersion_1 : decode cX3_hasLaterVersion 1 = .ok (.getfield 93, 3) := by decide +kernel
theorem dX3_hasLaterVersion_4 : decode cX3_hasLaterVersion 4 = .ok (.iload_n 2, 1) := by decide +kernel
theorem dX3_hasLaterVersion_5 : decode cX3_hasLaterVersion 5 = .ok (.aaload, 1) := by decide +kernel
theorem dX3_hasLaterVersion_6 : decode cX3_hasLaterVersion 6 = .ok (.ifnull 20, 3) := by decide +kernel
theorem dX3_hasLaterVersion_9 : decode cX3_hasLaterVersion 9 = .ok (.aload_n 1, 1) := by decide +kernel
theorem dX3_hasLaterVersion_10 : decode cX3_hasLaterVersion 10 = .ok (.iload_n 2, 1) := by decide +kernel
theorem dX3_hasLaterVersion_11 : decode cX3_hasLaterVersion 11 = .ok (.invokestatic 116, 3) := by decide +kernel
theorem dX3_hasLaterVersion_14 : decode cX3_hasLaterVersion 14 = .ok (.aload_n 0, 1) := by decide +kernel
theorem dX3_hasLaterVersion_15 : decode cX3_hasLaterVersion 15 = .ok (.iload_n 2, 1) := by decide +kernel
theorem dX3_hasLaterVersion_16 : decode cX3_hasLaterVersion 16 = .ok (.invokevirtual 54, 3) := by decide +kernel
theorem dX3_hasLaterVersion_19 : decode cX3_hasLaterVersion 19 = .ok (.if_icmp .ge 7, 3) := by decide +kernel
theorem dX3_hasLaterVersion_22 : decode cX3_hasLaterVersion 22 = .ok (.iconst 1, 1) := by decide +kernel
theorem dX3_hasLaterVersion_23 : decode cX3_hasLaterVersion 23 = .ok (.goto 4, 3) := by decide +kernel
theorem dX3_hasLaterVersion_26 : decode cX3_hasLaterVersion 26 = .ok (.iconst 0, 1) := by decide +kernel
theorem dX3_hasLaterVersion_27 : decode cX3_hasLaterVersion 27 = .ok (.ireturn, 1) := by decide +kernel
set_option maxRecDepth 20000 in
theorem ggX3_obstacle_X0_clauseSet : GoodIn wsX3_obstacle wsX0_clauseSet := goodIn_r _ [7, 8, 29, 30, 31, 32, 33] (by decide +kernel) (by decide +kernel)
set_option maxRecDepth 20000 in
theorem gX3_obstacle_X0_clauseSet : GoodIn wsX3_obstacle (wsV RX3 222 RX0 yX0_clauseSet wsX0_clauseSet) := goodIn_app (goodIn_of _ (by decide +kernel)) ggX3_obstacle_X0_clauseSet
set_option maxRecDepth 20000 in
theorem ggX3_obstacle_X0_isDraft : GoodIn wsX3_obstacle wsX0_isDraft := goodIn_r _ [12, 13, 29, 30, 31, 32, 33] (by decide +kernel) (by decide +kernel)
set_option maxRecDepth 20000 in
theorem gX3_obstacle_X0_isDraft : GoodIn wsX3_obstacle (wsV RX3 120 RX0 yX0_isDraft wsX0_isDraft) := goodIn_app (goodIn_of _ (by decide +kernel)) ggX3_obstacle_X0_isDraft
set_option maxRecDepth 20000 in
theorem ggX3_obstacle_X0_isAgreed : GoodIn wsX3_obstacle wsX0_isAgreed := goodIn_r _ [17, 8, 18, 29, 30, 31, 32, 33] (by decide +kernel) (by decide +kernel)
set_option maxRecDepth 20000 in
theorem gX3_obstacle_X0_isAgreed : GoodIn wsX3_obstacle (wsV RX3 225 RX0 yX0_isAgreed wsX0_isAgreed) := goodIn_app (goodIn_of _ (by decide +kernel)) ggX3_obstacle_X0_isAgreed
set_option maxRecDepth 20000 in
theorem ggX3_obstacle_X3_unionOver : GoodIn wsX3_obstacle wsX3_unionOver := goodIn_r _ [22] (by decide +kernel) (by decide +kernel)
set_option maxRecDepth 20000 in
theorem gX3_obstacle_X3_unionOver : GoodIn wsX3_obstacle (va_wsS RX3 228 yX3_unionOver wsX3_unionOver) := goodIn_app (goodIn_of _ (by decide +kernel)) ggX3_obstacle_X3_unionOver
theorem dX3_obstacle_0 : decode cX3_obstacle 0 = .ok (.aload_n 1, 1) := by decide +kernel
theorem dX3_obstacle_1 : decode cX3_obstacle 1 = .ok (.invokevirtual 222, 3) := by decide +kernel
theorem dX3_obstacle_4 : decode cX3_obstacle 4 = .ok (.istore_n 2, 1) := by decide +kernel
theorem dX3_obstacle_5 : decode cX3_obstacle 5 = .ok (.aload_n 1, 1) := by decide +kernel
theorem dX3_obstacle_6 : decode cX3_obstacle 6 = .ok (.invokevirtual 120, 3) := by decide +kernel
theorem dX3_obstacle_9 : decode cX3_obstacle 9 = .ok (.ifCond .ne 5, 3) := by decide +kernel
theorem dX3_obstacle_12 : decode cX3_obstacle 12 = .ok (.iconst 1, 1) := by decide +kernel
theorem dX3_obstacle_13 : decode cX3_obstacle 13 = .ok (.ireturn, 1) := by decide +kernel
theorem dX3_obstacle_14 : decode cX3_obstacle 14 = .ok (.iload_n 2, 1) := by decide +kernel
theorem dX3_obstacle_15 : decode cX3_obstacle 15 = .ok (.ifCond .ne 5, 3) := by decide +kernel
theorem dX3_obstacle_18 : decode cX3_obstacle 18 = .ok (.iconst 2, 1) := by decide +kernel
theorem dX3_obstacle_19 : decode cX3_obstacle 19 = .ok (.ireturn, 1) := by decide +kernel
theorem dX3_obstacle_20 : decode cX3_obstacle 20 = .ok (.aload_n 1, 1) := by decide +kernel
theorem dX3_obstacle_21 : decode cX3_obstacle 21 = .ok (.invokevirtual 225, 3) := by decide +kernel
theorem dX3_obstacle_24 : decode cX3_obstacle 24 = .ok (.ifCond .ne 5, 3) := by decide +kernel
theorem dX3_obstacle_27 : decode cX3_obstacle 27 = .ok (.iconst 3, 1) := by decide +kernel
theorem dX3_obstacle_28 : decode cX3_obstacle 28 = .ok (.ireturn, 1) := by decide +kernel
theorem dX3_obstacle_29 : decode cX3_obstacle 29 = .ok (.iload_n 2, 1) := by decide +kernel
theorem dX3_obstacle_30 : decode cX3_obstacle 30 = .ok (.aload_n 0, 1) := by decide +kernel
theorem dX3_obstacle_31 : decode cX3_obstacle 31 = .ok (.getfield 15, 3) := by decide +kernel
theorem dX3_obstacle_34 : decode cX3_obstacle 34 = .ok (.invokestatic 228, 3) := by decide +kernel
theorem dX3_obstacle_37 : decode cX3_obstacle 37 = .ok (.iload_n 2, 1) := by decide +kernel
theorem dX3_obstacle_38 : decode cX3_obstacle 38 = .ok (.iconst (-1), 1) := by decide +kernel
theorem dX3_obstacle_39 : decode cX3_obstacle 39 = .ok (.ixor, 1) := by decide +kernel
theorem dX3_obstacle_40 : decode cX3_obstacle 40 = .ok (.iand, 1) := by decide +kernel
theorem dX3_obstacle_41 : decode cX3_obstacle 41 = .ok (.ifCond .eq 5, 3) := by decide +kernel
theorem dX3_obstacle_44 : decode cX3_obstacle 44 = .ok (.iconst 4, 1) := by decide +kernel
theorem dX3_obstacle_45 : decode cX3_obstacle 45 = .ok (.ireturn, 1) := by decide +kernel
theorem dX3_obstacle_46 : decode cX3_obstacle 46 = .ok (.iload_n 2, 1) := by decide +kernel
theorem dX3_obstacle_47 : decode cX3_obstacle 47 = .ok (.aload_n 0, 1) := by decide +kernel
theorem dX3_obstacle_48 : decode cX3_obstacle 48 = .ok (.getfield 19, 3) := by decide +kernel
theorem dX3_obstacle_51 : decode cX3_obstacle 51 = .ok (.invokestatic 228, 3) := by decide +kernel
theorem dX3_obstacle_54 : decode cX3_obstacle 54 = .ok (.iload_n 2, 1) := by decide +kernel
theorem dX3_obstacle_55 : decode cX3_obstacle 55 = .ok (.iand, 1) := by decide +kernel
theorem dX3_obstacle_56 : decode cX3_obstacle 56 = .ok (.ifCond .eq 7, 3) := by decide +kernel
theorem dX3_obstacle_59 : decode cX3_obstacle 59 = .ok (.iconst 5, 1) := by decide +kernel
theorem dX3_obstacle_60 : decode cX3_obstacle 60 = .ok (.goto 4, 3) := by decide +kernel
theorem dX3_obstacle_63 : decode cX3_obstacle 63 = .ok (.iconst 0, 1) := by decide +kernel
theorem dX3_obstacle_64 : decode cX3_obstacle 64 = .ok (.ireturn, 1) := by decide +kernel
theorem dX3_unionOver_0 : decode cX3_unionOver 0 = .ok (.iconst 0, 1) := by decide +kernel
theorem dX3_unionOver_1 : decode cX3_unionOver 1 = .ok (.istore_n 2, 1) := by decide +kernel
theorem dX3_unionOver_2 : decode cX3_unionOver 2 = .ok (.iconst 0, 1) := by decide +kernel
theorem dX3_unionOver_3 : decode cX3_unionOver 3 = .ok (.istore_n 3, 1) := by decide +kernel
theorem dX3_unionOver_4 : decode cX3_unionOver 4 = .ok (.iload_n 3, 1) := by decide +kernel
theorem dX3_unionOver_5 : decode cX3_unionOver 5 = .ok (.bipush 10, 2) := by decide +kernel
theorem dX3_unionOver_7 : decode cX3_unionOver 7 = .ok (.if_icmp .ge 23, 3) := by decide +kernel
theorem dX3_unionOver_10 : decode cX3_unionOver 10 = .ok (.iload_n 0, 1) := by decide +kernel
theorem dX3_unionOver_11 : decode cX3_unionOver 11 = .ok (.iconst 1, 1) := by decide +kernel
theorem dX3_unionOver_12 : decode cX3_unionOver 12 = .ok (.iload_n 3, 1) := by decide +kernel
theorem dX3_unionOver_13 : decode cX3_unionOver 13 = .ok (.ishl, 1) := by decide +kernel
theorem dX3_unionOver_14 : decode cX3_unionOver 14 = .ok (.iand, 1) := by decide +kernel
theorem dX3_unionOver_15 : decode cX3_unionOver 15 = .ok (.ifCond .eq 9, 3) := by decide +kernel
theorem dX3_unionOver_18 : decode cX3_unionOver 18 = .ok (.iload_n 2, 1) := by decide +kernel
theorem dX3_unionOver_19 : decode cX3_unionOver 19 = .ok (.aload_n 1, 1) := by decide +kernel
theorem dX3_unionOver_20 : decode cX3_unionOver 20 = .ok (.iload_n 3, 1) := by decide +kernel
theorem dX3_unionOver_21 : decode cX3_unionOver 21 = .ok (.iaload, 1) := by decide +kernel
theorem dX3_unionOver_22 : decode cX3_unionOver 22 = .ok (.ior, 1) := by decide +kernel
theorem dX3_unionOver_23 : decode cX3_unionOver 23 = .ok (.istore_n 2, 1) := by decide +kernel
theorem dX3_unionOver_24 : decode cX3_unionOver 24 = .ok (.iinc 3 1, 3) := by decide +kernel
theorem dX3_unionOver_27 : decode cX3_unionOver 27 = .ok (.goto (-23), 3) := by decide +kernel
theorem dX3_unionOver_30 : decode cX3_unionOver 30 = .ok (.iload_n 2, 1) := by decide +kernel
theorem dX3_unionOver_31 : decode cX3_unionOver 31 = .ok (.ireturn, 1) := by decide +kernel
set_option maxRecDepth 20000 in
theorem ggX3_makeDuties_X1_init : GoodIn wsX3_makeDuties wsX1_init := goodIn_r _ [10, 11, 12, 13, 14, 15, 16, 17, 85, 86, 87, 88] (by decide +kernel) (by decide +kernel)
set_option maxRecDepth 20000 in
theorem gX3_makeDuties_X1_init : GoodIn wsX3_makeDuties (wsX1_init) := ggX3_makeDuties_X1_init
set_option maxRecDepth 20000 in
theorem ggX3_makeDuties_Jx4a65c_add_9ea2d : GoodIn wsX3_makeDuties wsJx4a65c_add_9ea2d := goodIn_r _ [22, 23, 24, 25, 26, 27, 28, 29, 21, 30, 31, 32, 33, 34, 35, 36, 37, 38, 39, 40, 41, 42, 43, 44, 45, 46, 47, 48, 49, 50, 51, 52, 53, 54, 55, 56, 57, 58, 59, 60, 61, 62, 63, 64, 65, 66, 67, 68, 69, 70, 71, 72, 73, 94, 95, 96] (by decide +kernel) (by decide +kernel)
set_option maxRecDepth 20000 in
theorem gX3_makeDuties_Jx4a65c_add_9ea2d : GoodIn wsX3_makeDuties (wsV RX3 79 RJx4a65c yJx4a65c_add_9ea2d wsJx4a65c_add_9ea2d) := goodIn_app (goodIn_of _ (by decide +kernel)) ggX3_makeDuties_Jx4a65c_add_9ea2d
theorem dX3_makeDuties_0 : decode cX3_makeDuties 0 = .ok (.iconst 0, 1) := by decide +kernel
theorem dX3_makeDuties_1 : decode cX3_makeDuties 1 = .ok (.istore_n 2, 1) := by decide +kernel
theorem dX3_makeDuties_2 : decode cX3_makeDuties 2 = .ok (.iconst 0, 1) := by decide +kernel
theorem dX3_makeDuties_3 : decode cX3_makeDuties 3 = .ok (.istore_n 3, 1) := by decide +kernel
theorem dX3_makeDuties_4 : decode cX3_makeDuties 4 = .ok (.iload_n 3, 1) := by decide +kernel
theorem dX3_makeDuties_5 : decode cX3_makeDuties 5 = .ok (.bipush 10, 2) := by decide +kernel
theorem dX3_makeDuties_7 : decode cX3_makeDuties 7 = .ok (.if_icmp .ge 53, 3) := by decide +kernel
theorem dX3_makeDuties_10 : decode cX3_makeDuties 10 = .ok (.aload_n 1, 1) := by decide +kernel
theorem dX3_makeDuties_11 : decode cX3_makeDuties 11 = .ok (.getfield 93, 3) := by decide +kernel
theorem dX3_makeDuties_14 : decode cX3_makeDuties 14 = .ok (.iload_n 3, 1) := by decide +kernel
theorem dX3_makeDuties_15 : decode cX3_makeDuties 15 = .ok (.aaload, 1) := by decide +kernel
theorem dX3_makeDuties_16 : decode cX3_makeDuties 16 = .ok (.astore 4, 2) := by decide +kernel
theorem dX3_makeDuties_18 : decode cX3_makeDuties 18 = .ok (.aload 4, 2) := by decide +kernel
theorem dX3_makeDuties_20 : decode cX3_makeDuties 20 = .ok (.ifnull 34, 3) := by decide +kernel
theorem dX3_makeDuties_23 : decode cX3_makeDuties 23 = .ok (.aload_n 0, 1) := by decide +kernel
theorem dX3_makeDuties_24 : decode cX3_makeDuties 24 = .ok (.getfield 29, 3) := by decide +kernel
theorem dX3_makeDuties_27 : decode cX3_makeDuties 27 = .ok (.new 152, 3) := by decide +kernel
theorem dX3_makeDuties_30 : decode cX3_makeDuties 30 = .ok (.dup, 1) := by decide +kernel
theorem dX3_makeDuties_31 : decode cX3_makeDuties 31 = .ok (.aload_n 1, 1) := by decide +kernel
theorem dX3_makeDuties_32 : decode cX3_makeDuties 32 = .ok (.aload 4, 2) := by decide +kernel
theorem dX3_makeDuties_34 : decode cX3_makeDuties 34 = .ok (.aload_n 0, 1) := by decide +kernel
theorem dX3_makeDuties_35 : decode cX3_makeDuties 35 = .ok (.getfield 32, 3) := by decide +kernel
theorem dX3_makeDuties_38 : decode cX3_makeDuties 38 = .ok (.aload 4, 2) := by decide +kernel
theorem dX3_makeDuties_40 : decode cX3_makeDuties 40 = .ok (.getfield 232, 3) := by decide +kernel
theorem dX3_makeDuties_43 : decode cX3_makeDuties 43 = .ok (.iadd, 1) := by decide +kernel
theorem dX3_makeDuties_44 : decode cX3_makeDuties 44 = .ok (.invokespecial 235, 3) := by decide +kernel
theorem dX3_makeDuties_47 : decode cX3_makeDuties 47 = .ok (.invokevirtual 79, 3) := by decide +kernel
theorem dX3_makeDuties_50 : decode cX3_makeDuties 50 = .ok (.pop, 1) := by decide +kernel
theorem dX3_makeDuties_51 : decode cX3_makeDuties 51 = .ok (.iinc 2 1, 3) := by decide +kernel
theorem dX3_makeDuties_54 : decode cX3_makeDuties 54 = .ok (.iinc 3 1, 3) := by decide +kernel
theorem dX3_makeDuties_57 : decode cX3_makeDuties 57 = .ok (.goto (-53), 3) := by decide +kernel
theorem dX3_makeDuties_60 : decode cX3_makeDuties 60 = .ok (.iload_n 2, 1) := by decide +kernel
theorem dX3_makeDuties_61 : decode cX3_makeDuties 61 = .ok (.ireturn, 1) := by decide +kernel
set_option maxRecDepth 20000 in
theorem ggX3_putOffHeldUpDuties_Jx4a65c_size_8abf5 : GoodIn wsX3_putOffHeldUpDuties wsJx4a65c_size_8abf5 := goodIn_r _ [8, 9, 51, 52, 53] (by decide +kernel) (by decide +kernel)
set_option maxRecDepth 20000 in
theorem gX3_putOffHeldUpDuties_Jx4a65c_size_8abf5 : GoodIn wsX3_putOffHeldUpDuties (wsV RX3 70 RJx4a65c yJx4a65c_size_8abf5 wsJx4a65c_size_8abf5) := goodIn_app (goodIn_of _ (by decide +kernel)) ggX3_putOffHeldUpDuties_Jx4a65c_size_8abf5
set_option maxRecDepth 20000 in
theorem ggX3_putOffHeldUpDuties_Jx4a65c_get_915e3 : GoodIn wsX3_putOffHeldUpDuties wsJx4a65c_get_915e3 := goodIn_r _ [13, 9, 14, 15, 16, 17, 18, 19, 20, 21, 22, 23, 24, 7, 25, 26, 51, 52, 53] (by decide +kernel) (by decide +kernel)
set_option maxRecDepth 20000 in
theorem gX3_putOffHeldUpDuties_Jx4a65c_get_915e3 : GoodIn wsX3_putOffHeldUpDuties (wsV RX3 209 RJx4a65c yJx4a65c_get_915e3 wsJx4a65c_get_915e3) := goodIn_app (goodIn_of _ (by decide +kernel)) ggX3_putOffHeldUpDuties_Jx4a65c_get_915e3
set_option maxRecDepth 20000 in
theorem ggX3_putOffHeldUpDuties_X1_isHeldUp : GoodIn wsX3_putOffHeldUpDuties wsX1_isHeldUp := goodIn_r _ [31, 32, 33, 34, 35, 36, 37, 38, 30, 39, 40, 47, 48, 49, 50, 54, 55, 56, 57, 58, 59, 60, 61, 62, 63] (by decide +kernel) (by decide +kernel)
set_option maxRecDepth 20000 in
theorem gX3_putOffHeldUpDuties_X1_isHeldUp : GoodIn wsX3_putOffHeldUpDuties (wsV RX3 159 RX1 yX1_isHeldUp wsX1_isHeldUp) := goodIn_app (goodIn_of _ (by decide +kernel)) ggX3_putOffHeldUpDuties_X1_isHeldUp
theorem dX3_putOffHeldUpDuties_0 : decode cX3_putOffHeldUpDuties 0 = .ok (.iconst 0, 1) := by decide +kernel
theorem dX3_putOffHeldUpDuties_1 : decode cX3_putOffHeldUpDuties 1 = .ok (.istore_n 1, 1) := by decide +kernel
theorem dX3_putOffHeldUpDuties_2 : decode cX3_putOffHeldUpDuties 2 = .ok (.iload_n 1, 1) := by decide +kernel
theorem dX3_putOffHeldUpDuties_3 : decode cX3_putOffHeldUpDuties 3 = .ok (.aload_n 0, 1) := by decide +kernel
theorem dX3_putOffHeldUpDuties_4 : decode cX3_putOffHeldUpDuties 4 = .ok (.getfield 29, 3) := by decide +kernel
theorem dX3_putOffHeldUpDuties_7 : decode cX3_putOffHeldUpDuties 7 = .ok (.invokevirtual 70, 3) := by decide +kernel
theorem dX3_putOffHeldUpDuties_10 : decode cX3_putOffHeldUpDuties 10 = .ok (.if_icmp .ge 38, 3) := by decide +kernel
theorem dX3_putOffHeldUpDuties_13 : decode cX3_putOffHeldUpDuties 13 = .ok (.aload_n 0, 1) := by decide +kernel
theorem dX3_putOffHeldUpDuties_14 : decode cX3_putOffHeldUpDuties 14 = .ok (.getfield 29, 3) := by decide +kernel
theorem dX3_putOffHeldUpDuties_17 : decode cX3_putOffHeldUpDuties 17 = .ok (.iload_n 1, 1) := by decide +kernel
theorem dX3_putOffHeldUpDuties_18 : decode cX3_putOffHeldUpDuties 18 = .ok (.invokevirtual 209, 3) := by decide +kernel
theorem dX3_putOffHeldUpDuties_21 : decode cX3_putOffHeldUpDuties 21 = .ok (.checkcast 152, 3) := by decide +kernel
theorem dX3_putOffHeldUpDuties_24 : decode cX3_putOffHeldUpDuties 24 = .ok (.astore_n 2, 1) := by decide +kernel
theorem dX3_putOffHeldUpDuties_25 : decode cX3_putOffHeldUpDuties 25 = .ok (.aload_n 2, 1) := by decide +kernel
theorem dX3_putOffHeldUpDuties_26 : decode cX3_putOffHeldUpDuties 26 = .ok (.invokevirtual 159, 3) := by decide +kernel
theorem dX3_putOffHeldUpDuties_29 : decode cX3_putOffHeldUpDuties 29 = .ok (.ifCond .eq 13, 3) := by decide +kernel
theorem dX3_putOffHeldUpDuties_32 : decode cX3_putOffHeldUpDuties 32 = .ok (.aload_n 2, 1) := by decide +kernel
theorem dX3_putOffHeldUpDuties_33 : decode cX3_putOffHeldUpDuties 33 = .ok (.dup, 1) := by decide +kernel
theorem dX3_putOffHeldUpDuties_34 : decode cX3_putOffHeldUpDuties 34 = .ok (.getfield 156, 3) := by decide +kernel
theorem dX3_putOffHeldUpDuties_37 : decode cX3_putOffHeldUpDuties 37 = .ok (.iconst 1, 1) := by decide +kernel
theorem dX3_putOffHeldUpDuties_38 : decode cX3_putOffHeldUpDuties 38 = .ok (.iadd, 1) := by decide +kernel
theorem dX3_putOffHeldUpDuties_39 : decode cX3_putOffHeldUpDuties 39 = .ok (.putfield 156, 3) := by decide +kernel
theorem dX3_putOffHeldUpDuties_42 : decode cX3_putOffHeldUpDuties 42 = .ok (.iinc 1 1, 3) := by decide +kernel
theorem dX3_putOffHeldUpDuties_45 : decode cX3_putOffHeldUpDuties 45 = .ok (.goto (-43), 3) := by decide +kernel
theorem dX3_putOffHeldUpDuties_48 : decode cX3_putOffHeldUpDuties 48 = .ok (.return_, 1) := by decide +kernel
set_option maxRecDepth 20000 in
theorem ggX3_breachUncuredDuties_Jx4a65c_size_8abf5 : GoodIn wsX3_breachUncuredDuties wsJx4a65c_size_8abf5 := goodIn_r _ [10, 11, 56, 57, 58] (by decide +kernel) (by decide +kernel)
set_option maxRecDepth 20000 in
theorem gX3_breachUncuredDuties_Jx4a65c_size_8abf5 : GoodIn wsX3_breachUncuredDuties (wsV RX3 70 RJx4a65c yJx4a65c_size_8abf5 wsJx4a65c_size_8abf5) := goodIn_app (goodIn_of _ (by decide +kernel)) ggX3_breachUncuredDuties_Jx4a65c_size_8abf5
set_option maxRecDepth 20000 in
theorem ggX3_breachUncuredDuties_Jx4a65c_get_915e3 : GoodIn wsX3_breachUncuredDuties wsJx4a65c_get_915e3 := goodIn_r _ [15, 11, 16, 17, 18, 19, 20, 21, 22, 23, 24, 25, 26, 9, 27, 28, 56, 57, 58] (by decide +kernel) (by decide +kernel)
set_option maxRecDepth 20000 in
theorem gX3_breachUncuredDuties_Jx4a65c_get_915e3 : GoodIn wsX3_breachUncuredDuties (wsV RX3 209 RJx4a65c yJx4a65c_get_915e3 wsJx4a65c_get_915e3) := goodIn_app (goodIn_of _ (by decide +kernel)) ggX3_breachUncuredDuties_Jx4a65c_get_915e3
set_option maxRecDepth 20000 in
theorem ggX3_breachUncuredDuties_X1_move : GoodIn wsX3_breachUncuredDuties wsX1_move := goodIn_r _ [33, 34, 35, 52, 53, 54, 55] (by decide +kernel) (by decide +kernel)
set_option maxRecDepth 20000 in
theorem gX3_breachUncuredDuties_X1_move : GoodIn wsX3_breachUncuredDuties (wsV RX3 167 RX1 yX1_move wsX1_move) := goodIn_app (goodIn_of _ (by decide +kernel)) ggX3_breachUncuredDuties_X1_move
set_option maxRecDepth 20000 in
theorem ggX3_breachUncuredDuties_X1_countBreach : GoodIn wsX3_breachUncuredDuties wsX1_countBreach := goodIn_r _ [39, 40, 41, 42, 43, 44, 45, 52, 53, 54, 55, 59, 60, 61, 62, 63, 64, 65, 66, 67, 68] (by decide +kernel) (by decide +kernel)
set_option maxRecDepth 20000 in
theorem gX3_breachUncuredDuties_X1_countBreach : GoodIn wsX3_breachUncuredDuties (wsV RX3 181 RX1 yX1_countBreach wsX1_countBreach) := goodIn_app (goodIn_of _ (by decide +kernel)) ggX3_breachUncuredDuties_X1_countBreach
theorem dX3_breachUncuredDuties_0 : decode cX3_breachUncuredDuties 0 = .ok (.iconst 0, 1) := by decide +kernel
theorem dX3_breachUncuredDuties_1 : decode cX3_breachUncuredDuties 1 = .ok (.istore_n 1, 1) := by decide +kernel
theorem dX3_breachUncuredDuties_2 : decode cX3_breachUncuredDuties 2 = .ok (.iconst 0, 1) := by decide +kernel
theorem dX3_breachUncuredDuties_3 : decode cX3_breachUncuredDuties 3 = .ok (.istore_n 2, 1) := by decide +kernel
theorem dX3_breachUncuredDuties_4 : decode cX3_breachUncuredDuties 4 = .ok (.iload_n 2, 1) := by decide +kernel
theorem dX3_breachUncuredDuties_5 : decode cX3_breachUncuredDuties 5 = .ok (.aload_n 0, 1) := by decide +kernel
theorem dX3_breachUncuredDuties_6 : decode cX3_breachUncuredDuties 6 = .ok (.getfield 29, 3) := by decide +kernel
theorem dX3_breachUncuredDuties_9 : decode cX3_breachUncuredDuties 9 = .ok (.invokevirtual 70, 3) := by decide +kernel
theorem dX3_breachUncuredDuties_12 : decode cX3_breachUncuredDuties 12 = .ok (.if_icmp .ge 57, 3) := by decide +kernel
theorem dX3_breachUncuredDuties_15 : decode cX3_breachUncuredDuties 15 = .ok (.aload_n 0, 1) := by decide +kernel
theorem dX3_breachUncuredDuties_16 : decode cX3_breachUncuredDuties 16 = .ok (.getfield 29, 3) := by decide +kernel
theorem dX3_breachUncuredDuties_19 : decode cX3_breachUncuredDuties 19 = .ok (.iload_n 2, 1) := by decide +kernel
theorem dX3_breachUncuredDuties_20 : decode cX3_breachUncuredDuties 20 = .ok (.invokevirtual 209, 3) := by decide +kernel
theorem dX3_breachUncuredDuties_23 : decode cX3_breachUncuredDuties 23 = .ok (.checkcast 152, 3) := by decide +kernel
theorem dX3_breachUncuredDuties_26 : decode cX3_breachUncuredDuties 26 = .ok (.astore_n 3, 1) := by decide +kernel
theorem dX3_breachUncuredDuties_27 : decode cX3_breachUncuredDuties 27 = .ok (.aload_n 3, 1) := by decide +kernel
theorem dX3_breachUncuredDuties_28 : decode cX3_breachUncuredDuties 28 = .ok (.getfield 151, 3) := by decide +kernel
theorem dX3_breachUncuredDuties_31 : decode cX3_breachUncuredDuties 31 = .ok (.iconst 2, 1) := by decide +kernel
theorem dX3_breachUncuredDuties_32 : decode cX3_breachUncuredDuties 32 = .ok (.if_icmp .ne 31, 3) := by decide +kernel
theorem dX3_breachUncuredDuties_35 : decode cX3_breachUncuredDuties 35 = .ok (.aload_n 0, 1) := by decide +kernel
theorem dX3_breachUncuredDuties_36 : decode cX3_breachUncuredDuties 36 = .ok (.getfield 32, 3) := by decide +kernel
theorem dX3_breachUncuredDuties_39 : decode cX3_breachUncuredDuties 39 = .ok (.aload_n 3, 1) := by decide +kernel
theorem dX3_breachUncuredDuties_40 : decode cX3_breachUncuredDuties 40 = .ok (.getfield 156, 3) := by decide +kernel
theorem dX3_breachUncuredDuties_43 : decode cX3_breachUncuredDuties 43 = .ok (.if_icmp .le 20, 3) := by decide +kernel
theorem dX3_breachUncuredDuties_46 : decode cX3_breachUncuredDuties 46 = .ok (.aload_n 3, 1) := by decide +kernel
theorem dX3_breachUncuredDuties_47 : decode cX3_breachUncuredDuties 47 = .ok (.iconst 3, 1) := by decide +kernel
theorem dX3_breachUncuredDuties_48 : decode cX3_breachUncuredDuties 48 = .ok (.aload_n 0, 1) := by decide +kernel
theorem dX3_breachUncuredDuties_49 : decode cX3_breachUncuredDuties 49 = .ok (.getfield 32, 3) := by decide +kernel
theorem dX3_breachUncuredDuties_52 : decode cX3_breachUncuredDuties 52 = .ok (.invokevirtual 167, 3) := by decide +kernel
theorem dX3_breachUncuredDuties_55 : decode cX3_breachUncuredDuties 55 = .ok (.aload_n 3, 1) := by decide +kernel
theorem dX3_breachUncuredDuties_56 : decode cX3_breachUncuredDuties 56 = .ok (.iconst 1, 1) := by decide +kernel
theorem dX3_breachUncuredDuties_57 : decode cX3_breachUncuredDuties 57 = .ok (.invokevirtual 181, 3) := by decide +kernel
theorem dX3_breachUncuredDuties_60 : decode cX3_breachUncuredDuties 60 = .ok (.iinc 1 1, 3) := by decide +kernel
theorem dX3_breachUncuredDuties_63 : decode cX3_breachUncuredDuties 63 = .ok (.iinc 2 1, 3) := by decide +kernel
theorem dX3_breachUncuredDuties_66 : decode cX3_breachUncuredDuties 66 = .ok (.goto (-62), 3) := by decide +kernel
theorem dX3_breachUncuredDuties_69 : decode cX3_breachUncuredDuties 69 = .ok (.iload_n 1, 1) := by decide +kernel
theorem dX3_breachUncuredDuties_70 : decode cX3_breachUncuredDuties 70 = .ok (.ireturn, 1) := by decide +kernel
theorem dJ9_max_7cf53_0 : decode cJ9_max_7cf53 0 = .ok (.iload_n 0, 1) := by decide +kernel
theorem dJ9_max_7cf53_1 : decode cJ9_max_7cf53 1 = .ok (.iload_n 1, 1) := by decide +kernel
theorem dJ9_max_7cf53_2 : decode cJ9_max_7cf53 2 = .ok (.if_icmp .lt 7, 3) := by decide +kernel
theorem dJ9_max_7cf53_5 : decode cJ9_max_7cf53 5 = .ok (.iload_n 0, 1) := by decide +kernel
theorem dJ9_max_7cf53_6 : decode cJ9_max_7cf53 6 = .ok (.goto 4, 3) := by decide +kernel
theorem dJ9_max_7cf53_9 : decode cJ9_max_7cf53 9 = .ok (.iload_n 1, 1) := by decide +kernel
theorem dJ9_max_7cf53_10 : decode cJ9_max_7cf53 10 = .ok (.ireturn, 1) := by decide +kernel
theorem dJ9_min_7cf53_0 : decode cJ9_min_7cf53 0 = .ok (.iload_n 0, 1) := by decide +kernel
theorem dJ9_min_7cf53_1 : decode cJ9_min_7cf53 1 = .ok (.iload_n 1, 1) := by decide +kernel
theorem dJ9_min_7cf53_2 : decode cJ9_min_7cf53 2 = .ok (.if_icmp .gt 7, 3) := by decide +kernel
theorem dJ9_min_7cf53_5 : decode cJ9_min_7cf53 5 = .ok (.iload_n 0, 1) := by decide +kernel
theorem dJ9_min_7cf53_6 : decode cJ9_min_7cf53 6 = .ok (.goto 4, 3) := by decide +kernel
theorem dJ9_min_7cf53_9 : decode cJ9_min_7cf53 9 = .ok (.iload_n 1, 1) := by decide +kernel
theorem dJ9_min_7cf53_10 : decode cJ9_min_7cf53 10 = .ok (.ireturn, 1) := by decide +kernel
theorem dJxa1e45_init_da8c8_0 : decode cJxa1e45_init_da8c8 0 = .ok (.aload_n 0, 1) := by decide +kernel
theorem dJxa1e45_init_da8c8_1 : decode cJxa1e45_init_da8c8 1 = .ok (.invokespecial 1, 3) := by decide +kernel
theorem dJxa1e45_init_da8c8_4 : decode cJxa1e45_init_da8c8 4 = .ok (.return_, 1) := by decide +kernel
set_option maxRecDepth 20000 in
theorem ggJxc12de_init_da8c8_Jxa1e45_init_da8c8 : GoodIn wsJxc12de_init_da8c8 wsJxa1e45_init_da8c8 := goodIn_r _ [5, 6, 7, 8] (by decide +kernel) (by decide +kernel)
set_option maxRecDepth 20000 in
theorem gJxc12de_init_da8c8_Jxa1e45_init_da8c8 : GoodIn wsJxc12de_init_da8c8 (wsJxa1e45_init_da8c8) := ggJxc12de_init_da8c8_Jxa1e45_init_da8c8
theorem dJxc12de_init_da8c8_0 : decode cJxc12de_init_da8c8 0 = .ok (.aload_n 0, 1) := by decide +kernel
theorem dJxc12de_init_da8c8_1 : decode cJxc12de_init_da8c8 1 = .ok (.invokespecial 1, 3) := by decide +kernel
theorem dJxc12de_init_da8c8_4 : decode cJxc12de_init_da8c8 4 = .ok (.aload_n 0, 1) := by decide +kernel
theorem dJxc12de_init_da8c8_5 : decode cJxc12de_init_da8c8 5 = .ok (.iconst 0, 1) := by decide +kernel
theorem dJxc12de_init_da8c8_6 : decode cJxc12de_init_da8c8 6 = .ok (.putfield 7, 3) := by decide +kernel
theorem dJxc12de_init_da8c8_9 : decode cJxc12de_init_da8c8 9 = .ok (.return_, 1) := by decide +kernel
set_option maxRecDepth 20000 in
theorem ggJx4a65c_init_da8c8_Jxc12de_init_da8c8 : GoodIn wsJx4a65c_init_da8c8 wsJxc12de_init_da8c8 := goodIn_r _ [6, 7, 8, 9, 10, 11, 12, 13, 14, 15, 16, 17] (by decide +kernel) (by decide +kernel)
set_option maxRecDepth 20000 in
theorem gJx4a65c_init_da8c8_Jxc12de_init_da8c8 : GoodIn wsJx4a65c_init_da8c8 (wsJxc12de_init_da8c8) := ggJx4a65c_init_da8c8_Jxc12de_init_da8c8
theorem dJx4a65c_init_da8c8_0 : decode cJx4a65c_init_da8c8 0 = .ok (.aload_n 0, 1) := by decide +kernel
theorem dJx4a65c_init_da8c8_1 : decode cJx4a65c_init_da8c8 1 = .ok (.invokespecial 1, 3) := by decide +kernel
theorem dJx4a65c_init_da8c8_4 : decode cJx4a65c_init_da8c8 4 = .ok (.aload_n 0, 1) := by decide +kernel
theorem dJx4a65c_init_da8c8_5 : decode cJx4a65c_init_da8c8 5 = .ok (.getstatic 39, 3) := by decide +kernel
theorem dJx4a65c_init_da8c8_8 : decode cJx4a65c_init_da8c8 8 = .ok (.putfield 9, 3) := by decide +kernel
theorem dJx4a65c_init_da8c8_11 : decode cJx4a65c_init_da8c8 11 = .ok (.return_, 1) := by decide +kernel
set_option maxRecDepth 20000 in
theorem ggJx4a65c_grow_92f84_J8_newLength_cabcc : GoodIn wsJx4a65c_grow_92f84 wsJ8_newLength_cabcc := goodIn_r _ [11, 12, 4, 5, 6, 13, 14, 15, 10, 16] (by decide +kernel) (by decide +kernel)
set_option maxRecDepth 20000 in
theorem gJx4a65c_grow_92f84_J8_newLength_cabcc : GoodIn wsJx4a65c_grow_92f84 (va_wsS RJx4a65c 73 yJ8_newLength_cabcc wsJ8_newLength_cabcc) := goodIn_app (goodIn_of _ (by decide +kernel)) ggJx4a65c_grow_92f84_J8_newLength_cabcc
set_option maxRecDepth 20000 in
theorem ggJx4a65c_grow_92f84_J7_copyOf_1904c : GoodIn wsJx4a65c_grow_92f84 wsJ7_copyOf_1904c := goodIn_r _ [20, 21, 22, 23, 24, 25, 26, 19, 27, 28, 29, 30, 31, 5, 32, 33, 34, 35, 36] (by decide +kernel) (by decide +kernel)
set_option maxRecDepth 20000 in
theorem gJx4a65c_grow_92f84_J7_copyOf_1904c : GoodIn wsJx4a65c_grow_92f84 (va_wsS RJx4a65c 66 yJ7_copyOf_1904c wsJ7_copyOf_1904c) := goodIn_app (goodIn_of _ (by decide +kernel)) ggJx4a65c_grow_92f84_J7_copyOf_1904c
theorem dJx4a65c_grow_92f84_0 : decode cJx4a65c_grow_92f84 0 = .ok (.aload_n 0, 1) := by decide +kernel
theorem dJx4a65c_grow_92f84_1 : decode cJx4a65c_grow_92f84 1 = .ok (.getfield 9, 3) := by decide +kernel
theorem dJx4a65c_grow_92f84_4 : decode cJx4a65c_grow_92f84 4 = .ok (.arraylength, 1) := by decide +kernel
theorem dJx4a65c_grow_92f84_5 : decode cJx4a65c_grow_92f84 5 = .ok (.istore_n 2, 1) := by decide +kernel
theorem dJx4a65c_grow_92f84_6 : decode cJx4a65c_grow_92f84 6 = .ok (.iload_n 2, 1) := by decide +kernel
theorem dJx4a65c_grow_92f84_7 : decode cJx4a65c_grow_92f84 7 = .ok (.ifCond .gt 13, 3) := by decide +kernel
theorem dJx4a65c_grow_92f84_10 : decode cJx4a65c_grow_92f84 10 = .ok (.aload_n 0, 1) := by decide +kernel
theorem dJx4a65c_grow_92f84_11 : decode cJx4a65c_grow_92f84 11 = .ok (.getfield 9, 3) := by decide +kernel
theorem dJx4a65c_grow_92f84_14 : decode cJx4a65c_grow_92f84 14 = .ok (.getstatic 39, 3) := by decide +kernel
theorem dJx4a65c_grow_92f84_17 : decode cJx4a65c_grow_92f84 17 = .ok (.if_acmp .eq 28, 3) := by decide +kernel
theorem dJx4a65c_grow_92f84_20 : decode cJx4a65c_grow_92f84 20 = .ok (.iload_n 2, 1) := by decide +kernel
theorem dJx4a65c_grow_92f84_21 : decode cJx4a65c_grow_92f84 21 = .ok (.iload_n 1, 1) := by decide +kernel
theorem dJx4a65c_grow_92f84_22 : decode cJx4a65c_grow_92f84 22 = .ok (.iload_n 2, 1) := by decide +kernel
theorem dJx4a65c_grow_92f84_23 : decode cJx4a65c_grow_92f84 23 = .ok (.isub, 1) := by decide +kernel
theorem dJx4a65c_grow_92f84_24 : decode cJx4a65c_grow_92f84 24 = .ok (.iload_n 2, 1) := by decide +kernel
theorem dJx4a65c_grow_92f84_25 : decode cJx4a65c_grow_92f84 25 = .ok (.iconst 1, 1) := by decide +kernel
theorem dJx4a65c_grow_92f84_26 : decode cJx4a65c_grow_92f84 26 = .ok (.ishr, 1) := by decide +kernel
theorem dJx4a65c_grow_92f84_27 : decode cJx4a65c_grow_92f84 27 = .ok (.invokestatic 73, 3) := by decide +kernel
theorem dJx4a65c_grow_92f84_30 : decode cJx4a65c_grow_92f84 30 = .ok (.istore_n 3, 1) := by decide +kernel
theorem dJx4a65c_grow_92f84_31 : decode cJx4a65c_grow_92f84 31 = .ok (.aload_n 0, 1) := by decide +kernel
theorem dJx4a65c_grow_92f84_32 : decode cJx4a65c_grow_92f84 32 = .ok (.aload_n 0, 1) := by decide +kernel
theorem dJx4a65c_grow_92f84_33 : decode cJx4a65c_grow_92f84 33 = .ok (.getfield 9, 3) := by decide +kernel
theorem dJx4a65c_grow_92f84_36 : decode cJx4a65c_grow_92f84 36 = .ok (.iload_n 3, 1) := by decide +kernel
theorem dJx4a65c_grow_92f84_37 : decode cJx4a65c_grow_92f84 37 = .ok (.invokestatic 66, 3) := by decide +kernel
theorem dJx4a65c_grow_92f84_40 : decode cJx4a65c_grow_92f84 40 = .ok (.dup_x1, 1) := by decide +kernel
theorem dJx4a65c_grow_92f84_41 : decode cJx4a65c_grow_92f84 41 = .ok (.putfield 9, 3) := by decide +kernel
theorem dJx4a65c_grow_92f84_44 : decode cJx4a65c_grow_92f84 44 = .ok (.areturn, 1) := by decide +kernel
theorem dJx4a65c_grow_92f84_45 : decode cJx4a65c_grow_92f84 45 = .ok (.aload_n 0, 1) := by decide +kernel
theorem dJx4a65c_grow_92f84_46 : decode cJx4a65c_grow_92f84 46 = .ok (.bipush 10, 2) := by decide +kernel
theorem dJx4a65c_grow_92f84_48 : decode cJx4a65c_grow_92f84 48 = .ok (.iload_n 1, 1) := by decide +kernel
theorem dJx4a65c_grow_92f84_49 : decode cJx4a65c_grow_92f84 49 = .ok (.invokestatic 79, 3) := by decide +kernel
theorem dJx4a65c_grow_92f84_52 : decode cJx4a65c_grow_92f84 52 = .ok (.anewarray 7, 3) := by decide +kernel
theorem dJx4a65c_grow_92f84_55 : decode cJx4a65c_grow_92f84 55 = .ok (.dup_x1, 1) := by decide +kernel
theorem dJx4a65c_grow_92f84_56 : decode cJx4a65c_grow_92f84 56 = .ok (.putfield 9, 3) := by decide +kernel
theorem dJx4a65c_grow_92f84_59 : decode cJx4a65c_grow_92f84 59 = .ok (.areturn, 1) := by decide +kernel
set_option maxRecDepth 20000 in
theorem ggJx4a65c_grow_d5877_Jx4a65c_grow_92f84 : GoodIn wsJx4a65c_grow_d5877 wsJx4a65c_grow_92f84 := goodIn_r _ [6, 7, 8, 9, 10, 11, 12, 13, 14, 15, 16, 17, 18, 19, 20, 21, 22, 23, 24, 25, 26, 27, 28, 29, 30, 31, 32, 33, 34, 35, 36, 37, 38, 39, 40, 41, 42, 43, 44, 45] (by decide +kernel) (by decide +kernel)
set_option maxRecDepth 20000 in
theorem gJx4a65c_grow_d5877_Jx4a65c_grow_92f84 : GoodIn wsJx4a65c_grow_d5877 (wsV RJx4a65c 69 RJx4a65c yJx4a65c_grow_92f84 wsJx4a65c_grow_92f84) := goodIn_app (goodIn_of _ (by decide +kernel)) ggJx4a65c_grow_d5877_Jx4a65c_grow_92f84
theorem dJx4a65c_grow_d5877_0 : decode cJx4a65c_grow_d5877 0 = .ok (.aload_n 0, 1) := by decide +kernel
theorem dJx4a65c_grow_d5877_1 : decode cJx4a65c_grow_d5877 1 = .ok (.aload_n 0, 1) := by decide +kernel
theorem dJx4a65c_grow_d5877_2 : decode cJx4a65c_grow_d5877 2 = .ok (.getfield 48, 3) := by decide +kernel
theorem dJx4a65c_grow_d5877_5 : decode cJx4a65c_grow_d5877 5 = .ok (.iconst 1, 1) := by decide +kernel
theorem dJx4a65c_grow_d5877_6 : decode cJx4a65c_grow_d5877 6 = .ok (.iadd, 1) := by decide +kernel
theorem dJx4a65c_grow_d5877_7 : decode cJx4a65c_grow_d5877 7 = .ok (.invokevirtual 69, 3) := by decide +kernel
theorem dJx4a65c_grow_d5877_10 : decode cJx4a65c_grow_d5877 10 = .ok (.areturn, 1) := by decide +kernel
theorem dJx4a65c_size_8abf5_0 : decode cJx4a65c_size_8abf5 0 = .ok (.aload_n 0, 1) := by decide +kernel
theorem dJx4a65c_size_8abf5_1 : decode cJx4a65c_size_8abf5 1 = .ok (.getfield 48, 3) := by decide +kernel
theorem dJx4a65c_size_8abf5_4 : decode cJx4a65c_size_8abf5 4 = .ok (.ireturn, 1) := by decide +kernel
theorem dJx4a65c_elementData_915e3_0 : decode cJx4a65c_elementData_915e3 0 = .ok (.aload_n 0, 1) := by decide +kernel
theorem dJx4a65c_elementData_915e3_1 : decode cJx4a65c_elementData_915e3 1 = .ok (.getfield 9, 3) := by decide +kernel
theorem dJx4a65c_elementData_915e3_4 : decode cJx4a65c_elementData_915e3 4 = .ok (.iload_n 1, 1) := by decide +kernel
theorem dJx4a65c_elementData_915e3_5 : decode cJx4a65c_elementData_915e3 5 = .ok (.aaload, 1) := by decide +kernel
theorem dJx4a65c_elementData_915e3_6 : decode cJx4a65c_elementData_915e3 6 = .ok (.areturn, 1) := by decide +kernel
set_option maxRecDepth 20000 in
theorem ggJx4a65c_get_915e3_J15_checkIndex_7cf53 : GoodIn wsJx4a65c_get_915e3 wsJ15_checkIndex_7cf53 := goodIn_r _ [5, 6, 7, 8, 9] (by decide +kernel) (by decide +kernel)
set_option maxRecDepth 20000 in
theorem gJx4a65c_get_915e3_J15_checkIndex_7cf53 : GoodIn wsJx4a65c_get_915e3 (va_wsS RJx4a65c 118 yJ15_checkIndex_7cf53 wsJ15_checkIndex_7cf53) := goodIn_app (goodIn_of _ (by decide +kernel)) ggJx4a65c_get_915e3_J15_checkIndex_7cf53
set_option maxRecDepth 20000 in
theorem ggJx4a65c_get_915e3_Jx4a65c_elementData_915e3 : GoodIn wsJx4a65c_get_915e3 wsJx4a65c_elementData_915e3 := goodIn_r _ [14, 15, 16, 17, 18] (by decide +kernel) (by decide +kernel)
set_option maxRecDepth 20000 in
theorem gJx4a65c_get_915e3_Jx4a65c_elementData_915e3 : GoodIn wsJx4a65c_get_915e3 (wsV RJx4a65c 123 RJx4a65c yJx4a65c_elementData_915e3 wsJx4a65c_elementData_915e3) := goodIn_app (goodIn_of _ (by decide +kernel)) ggJx4a65c_get_915e3_Jx4a65c_elementData_915e3
theorem dJx4a65c_get_915e3_0 : decode cJx4a65c_get_915e3 0 = .ok (.iload_n 1, 1) := by decide +kernel
theorem dJx4a65c_get_915e3_1 : decode cJx4a65c_get_915e3 1 = .ok (.aload_n 0, 1) := by decide +kernel
theorem dJx4a65c_get_915e3_2 : decode cJx4a65c_get_915e3 2 = .ok (.getfield 48, 3) := by decide +kernel
theorem dJx4a65c_get_915e3_5 : decode cJx4a65c_get_915e3 5 = .ok (.invokestatic 118, 3) := by decide +kernel
theorem dJx4a65c_get_915e3_8 : decode cJx4a65c_get_915e3 8 = .ok (.pop, 1) := by decide +kernel
theorem dJx4a65c_get_915e3_9 : decode cJx4a65c_get_915e3 9 = .ok (.aload_n 0, 1) := by decide +kernel
theorem dJx4a65c_get_915e3_10 : decode cJx4a65c_get_915e3 10 = .ok (.iload_n 1, 1) := by decide +kernel
theorem dJx4a65c_get_915e3_11 : decode cJx4a65c_get_915e3 11 = .ok (.invokevirtual 123, 3) := by decide +kernel
theorem dJx4a65c_get_915e3_14 : decode cJx4a65c_get_915e3 14 = .ok (.areturn, 1) := by decide +kernel
set_option maxRecDepth 20000 in
theorem ggJx4a65c_add_72be8_Jx4a65c_grow_d5877 : GoodIn wsJx4a65c_add_72be8 wsJx4a65c_grow_d5877 := goodIn_r _ [6, 1, 7, 8, 9, 5, 10, 11, 12, 13, 14, 15, 16, 17, 18, 19, 20, 21, 22, 23, 24, 25, 26, 27, 28, 29, 30, 31, 32, 33, 34, 35, 36, 37, 38, 39, 40, 41, 42, 43, 44, 45, 46, 47, 48, 49] (by decide +kernel) (by decide +kernel)
set_option maxRecDepth 20000 in
theorem gJx4a65c_add_72be8_Jx4a65c_grow_d5877 : GoodIn wsJx4a65c_add_72be8 (wsV RJx4a65c 129 RJx4a65c yJx4a65c_grow_d5877 wsJx4a65c_grow_d5877) := goodIn_app (goodIn_of _ (by decide +kernel)) ggJx4a65c_add_72be8_Jx4a65c_grow_d5877
theorem dJx4a65c_add_72be8_0 : decode cJx4a65c_add_72be8 0 = .ok (.iload_n 3, 1) := by decide +kernel
theorem dJx4a65c_add_72be8_1 : decode cJx4a65c_add_72be8 1 = .ok (.aload_n 2, 1) := by decide +kernel
theorem dJx4a65c_add_72be8_2 : decode cJx4a65c_add_72be8 2 = .ok (.arraylength, 1) := by decide +kernel
theorem dJx4a65c_add_72be8_3 : decode cJx4a65c_add_72be8 3 = .ok (.if_icmp .ne 8, 3) := by decide +kernel
theorem dJx4a65c_add_72be8_6 : decode cJx4a65c_add_72be8 6 = .ok (.aload_n 0, 1) := by decide +kernel
theorem dJx4a65c_add_72be8_7 : decode cJx4a65c_add_72be8 7 = .ok (.invokevirtual 129, 3) := by decide +kernel
theorem dJx4a65c_add_72be8_10 : decode cJx4a65c_add_72be8 10 = .ok (.astore_n 2, 1) := by decide +kernel
theorem dJx4a65c_add_72be8_11 : decode cJx4a65c_add_72be8 11 = .ok (.aload_n 2, 1) := by decide +kernel
theorem dJx4a65c_add_72be8_12 : decode cJx4a65c_add_72be8 12 = .ok (.iload_n 3, 1) := by decide +kernel
theorem dJx4a65c_add_72be8_13 : decode cJx4a65c_add_72be8 13 = .ok (.aload_n 1, 1) := by decide +kernel
theorem dJx4a65c_add_72be8_14 : decode cJx4a65c_add_72be8 14 = .ok (.aastore, 1) := by decide +kernel
theorem dJx4a65c_add_72be8_15 : decode cJx4a65c_add_72be8 15 = .ok (.aload_n 0, 1) := by decide +kernel
theorem dJx4a65c_add_72be8_16 : decode cJx4a65c_add_72be8 16 = .ok (.iload_n 3, 1) := by decide +kernel
theorem dJx4a65c_add_72be8_17 : decode cJx4a65c_add_72be8 17 = .ok (.iconst 1, 1) := by decide +kernel
theorem dJx4a65c_add_72be8_18 : decode cJx4a65c_add_72be8 18 = .ok (.iadd, 1) := by decide +kernel
theorem dJx4a65c_add_72be8_19 : decode cJx4a65c_add_72be8 19 = .ok (.putfield 48, 3) := by decide +kernel
theorem dJx4a65c_add_72be8_22 : decode cJx4a65c_add_72be8 22 = .ok (.return_, 1) := by decide +kernel
set_option maxRecDepth 20000 in
theorem ggJx4a65c_add_9ea2d_Jx4a65c_add_72be8 : GoodIn wsJx4a65c_add_9ea2d wsJx4a65c_add_72be8 := goodIn_r _ [9, 4, 10, 11, 12, 8, 13, 14, 15, 16, 17, 3, 18, 19, 20, 21, 22, 23, 24, 25, 26, 27, 28, 29, 30, 31, 32, 33, 34, 35, 36, 37, 38, 39, 40, 41, 42, 43, 44, 45, 46, 47, 48, 49, 50, 51, 52, 53, 54, 55] (by decide +kernel) (by decide +kernel)
set_option maxRecDepth 20000 in
theorem gJx4a65c_add_9ea2d_Jx4a65c_add_72be8 : GoodIn wsJx4a65c_add_9ea2d (wsV RJx4a65c 131 RJx4a65c yJx4a65c_add_72be8 wsJx4a65c_add_72be8) := goodIn_app (goodIn_of _ (by decide +kernel)) ggJx4a65c_add_9ea2d_Jx4a65c_add_72be8
theorem dJx4a65c_add_9ea2d_0 : decode cJx4a65c_add_9ea2d 0 = .ok (.aload_n 0, 1) := by decide +kernel
theorem dJx4a65c_add_9ea2d_1 : decode cJx4a65c_add_9ea2d 1 = .ok (.dup, 1) := by decide +kernel
theorem dJx4a65c_add_9ea2d_2 : decode cJx4a65c_add_9ea2d 2 = .ok (.getfield 63, 3) := by decide +kernel
theorem dJx4a65c_add_9ea2d_5 : decode cJx4a65c_add_9ea2d 5 = .ok (.iconst 1, 1) := by decide +kernel
theorem dJx4a65c_add_9ea2d_6 : decode cJx4a65c_add_9ea2d 6 = .ok (.iadd, 1) := by decide +kernel
theorem dJx4a65c_add_9ea2d_7 : decode cJx4a65c_add_9ea2d 7 = .ok (.putfield 63, 3) := by decide +kernel
theorem dJx4a65c_add_9ea2d_10 : decode cJx4a65c_add_9ea2d 10 = .ok (.aload_n 0, 1) := by decide +kernel
theorem dJx4a65c_add_9ea2d_11 : decode cJx4a65c_add_9ea2d 11 = .ok (.aload_n 1, 1) := by decide +kernel
theorem dJx4a65c_add_9ea2d_12 : decode cJx4a65c_add_9ea2d 12 = .ok (.aload_n 0, 1) := by decide +kernel
theorem dJx4a65c_add_9ea2d_13 : decode cJx4a65c_add_9ea2d 13 = .ok (.getfield 9, 3) := by decide +kernel
theorem dJx4a65c_add_9ea2d_16 : decode cJx4a65c_add_9ea2d 16 = .ok (.aload_n 0, 1) := by decide +kernel
theorem dJx4a65c_add_9ea2d_17 : decode cJx4a65c_add_9ea2d 17 = .ok (.getfield 48, 3) := by decide +kernel
theorem dJx4a65c_add_9ea2d_20 : decode cJx4a65c_add_9ea2d 20 = .ok (.invokevirtual 131, 3) := by decide +kernel
theorem dJx4a65c_add_9ea2d_23 : decode cJx4a65c_add_9ea2d 23 = .ok (.iconst 1, 1) := by decide +kernel
theorem dJx4a65c_add_9ea2d_24 : decode cJx4a65c_add_9ea2d 24 = .ok (.ireturn, 1) := by decide +kernel
set_option maxRecDepth 20000 in
theorem ggJ7_copyOf_1904c_J7_copyOf_6403c : GoodIn wsJ7_copyOf_1904c wsJ7_copyOf_6403c := goodIn_r _ [8, 9, 10, 11, 12, 13, 14, 15, 16, 17, 18] (by decide +kernel) (by decide +kernel)
set_option maxRecDepth 20000 in
theorem gJ7_copyOf_1904c_J7_copyOf_6403c : GoodIn wsJ7_copyOf_1904c (va_wsS RJ7 300 yJ7_copyOf_6403c wsJ7_copyOf_6403c) := goodIn_app (goodIn_of _ (by decide +kernel)) ggJ7_copyOf_1904c_J7_copyOf_6403c
theorem dJ7_copyOf_1904c_0 : decode cJ7_copyOf_1904c 0 = .ok (.aload_n 0, 1) := by decide +kernel
theorem dJ7_copyOf_1904c_1 : decode cJ7_copyOf_1904c 1 = .ok (.iload_n 1, 1) := by decide +kernel
theorem dJ7_copyOf_1904c_2 : decode cJ7_copyOf_1904c 2 = .ok (.aload_n 0, 1) := by decide +kernel
theorem dJ7_copyOf_1904c_3 : decode cJ7_copyOf_1904c 3 = .ok (.invokevirtual 86, 3) := by decide +kernel
theorem dJ7_copyOf_1904c_6 : decode cJ7_copyOf_1904c 6 = .ok (.invokestatic 300, 3) := by decide +kernel
theorem dJ7_copyOf_1904c_9 : decode cJ7_copyOf_1904c 9 = .ok (.areturn, 1) := by decide +kernel
theorem dJ7_copyOf_6403c_0 : decode cJ7_copyOf_6403c 0 = .ok (.aload_n 2, 1) := by decide +kernel
theorem dJ7_copyOf_6403c_1 : decode cJ7_copyOf_6403c 1 = .ok (.ldc 110, 2) := by decide +kernel
theorem dJ7_copyOf_6403c_3 : decode cJ7_copyOf_6403c 3 = .ok (.if_acmp .ne 10, 3) := by decide +kernel
theorem dJ7_copyOf_6403c_6 : decode cJ7_copyOf_6403c 6 = .ok (.iload_n 1, 1) := by decide +kernel
theorem dJ7_copyOf_6403c_7 : decode cJ7_copyOf_6403c 7 = .ok (.anewarray 2, 3) := by decide +kernel
theorem dJ7_copyOf_6403c_10 : decode cJ7_copyOf_6403c 10 = .ok (.goto 14, 3) := by decide +kernel
theorem dJ7_copyOf_6403c_13 : decode cJ7_copyOf_6403c 13 = .ok (.aload_n 2, 1) := by decide +kernel
theorem dJ7_copyOf_6403c_14 : decode cJ7_copyOf_6403c 14 = .ok (.invokevirtual 90, 3) := by decide +kernel
theorem dJ7_copyOf_6403c_17 : decode cJ7_copyOf_6403c 17 = .ok (.iload_n 1, 1) := by decide +kernel
theorem dJ7_copyOf_6403c_18 : decode cJ7_copyOf_6403c 18 = .ok (.invokestatic 95, 3) := by decide +kernel
theorem dJ7_copyOf_6403c_21 : decode cJ7_copyOf_6403c 21 = .ok (.checkcast 110, 3) := by decide +kernel
theorem dJ7_copyOf_6403c_24 : decode cJ7_copyOf_6403c 24 = .ok (.astore_n 3, 1) := by decide +kernel
theorem dJ7_copyOf_6403c_25 : decode cJ7_copyOf_6403c 25 = .ok (.aload_n 0, 1) := by decide +kernel
theorem dJ7_copyOf_6403c_26 : decode cJ7_copyOf_6403c 26 = .ok (.iconst 0, 1) := by decide +kernel
theorem dJ7_copyOf_6403c_27 : decode cJ7_copyOf_6403c 27 = .ok (.aload_n 3, 1) := by decide +kernel
theorem dJ7_copyOf_6403c_28 : decode cJ7_copyOf_6403c 28 = .ok (.iconst 0, 1) := by decide +kernel
theorem dJ7_copyOf_6403c_29 : decode cJ7_copyOf_6403c 29 = .ok (.aload_n 0, 1) := by decide +kernel
theorem dJ7_copyOf_6403c_30 : decode cJ7_copyOf_6403c 30 = .ok (.arraylength, 1) := by decide +kernel
theorem dJ7_copyOf_6403c_31 : decode cJ7_copyOf_6403c 31 = .ok (.iload_n 1, 1) := by decide +kernel
theorem dJ7_copyOf_6403c_32 : decode cJ7_copyOf_6403c 32 = .ok (.invokestatic 304, 3) := by decide +kernel
theorem dJ7_copyOf_6403c_35 : decode cJ7_copyOf_6403c 35 = .ok (.invokestatic 150, 3) := by decide +kernel
theorem dJ7_copyOf_6403c_38 : decode cJ7_copyOf_6403c 38 = .ok (.aload_n 3, 1) := by decide +kernel
theorem dJ7_copyOf_6403c_39 : decode cJ7_copyOf_6403c 39 = .ok (.areturn, 1) := by decide +kernel
set_option maxRecDepth 20000 in
theorem ggJ15_checkIndex_7cf53_J3_checkIndex_8e157 : GoodIn wsJ15_checkIndex_7cf53 wsJ3_checkIndex_8e157 := goodIn_r _ [4] (by decide +kernel) (by decide +kernel)
set_option maxRecDepth 20000 in
theorem gJ15_checkIndex_7cf53_J3_checkIndex_8e157 : GoodIn wsJ15_checkIndex_7cf53 (va_wsS RJ15 105 yJ3_checkIndex_8e157 wsJ3_checkIndex_8e157) := goodIn_app (goodIn_of _ (by decide +kernel)) ggJ15_checkIndex_7cf53_J3_checkIndex_8e157
theorem dJ15_checkIndex_7cf53_0 : decode cJ15_checkIndex_7cf53 0 = .ok (.iload_n 0, 1) := by decide +kernel
theorem dJ15_checkIndex_7cf53_1 : decode cJ15_checkIndex_7cf53 1 = .ok (.iload_n 1, 1) := by decide +kernel
theorem dJ15_checkIndex_7cf53_2 : decode cJ15_checkIndex_7cf53 2 = .ok (.aconst_null, 1) := by decide +kernel
theorem dJ15_checkIndex_7cf53_3 : decode cJ15_checkIndex_7cf53 3 = .ok (.invokestatic 105, 3) := by decide +kernel
theorem dJ15_checkIndex_7cf53_6 : decode cJ15_checkIndex_7cf53 6 = .ok (.ireturn, 1) := by decide +kernel
set_option maxRecDepth 20000 in
theorem ggJ8_newLength_cabcc_J8_hugeLength_7cf53 : GoodIn wsJ8_newLength_cabcc wsJ8_hugeLength_7cf53 := goodIn_r _ [9, 5] (by decide +kernel) (by decide +kernel)
set_option maxRecDepth 20000 in
theorem gJ8_newLength_cabcc_J8_hugeLength_7cf53 : GoodIn wsJ8_newLength_cabcc (va_wsS RJ8 201 yJ8_hugeLength_7cf53 wsJ8_hugeLength_7cf53) := goodIn_app (goodIn_of _ (by decide +kernel)) ggJ8_newLength_cabcc_J8_hugeLength_7cf53
theorem dJ8_newLength_cabcc_0 : decode cJ8_newLength_cabcc 0 = .ok (.iload_n 0, 1) := by decide +kernel
theorem dJ8_newLength_cabcc_1 : decode cJ8_newLength_cabcc 1 = .ok (.iload_n 1, 1) := by decide +kernel
theorem dJ8_newLength_cabcc_2 : decode cJ8_newLength_cabcc 2 = .ok (.iload_n 2, 1) := by decide +kernel
theorem dJ8_newLength_cabcc_3 : decode cJ8_newLength_cabcc 3 = .ok (.invokestatic 194, 3) := by decide +kernel
theorem dJ8_newLength_cabcc_6 : decode cJ8_newLength_cabcc 6 = .ok (.iadd, 1) := by decide +kernel
theorem dJ8_newLength_cabcc_7 : decode cJ8_newLength_cabcc 7 = .ok (.istore_n 3, 1) := by decide +kernel
theorem dJ8_newLength_cabcc_8 : decode cJ8_newLength_cabcc 8 = .ok (.iconst 0, 1) := by decide +kernel
theorem dJ8_newLength_cabcc_9 : decode cJ8_newLength_cabcc 9 = .ok (.iload_n 3, 1) := by decide +kernel
theorem dJ8_newLength_cabcc_10 : decode cJ8_newLength_cabcc 10 = .ok (.if_icmp .ge 11, 3) := by decide +kernel
theorem dJ8_newLength_cabcc_13 : decode cJ8_newLength_cabcc 13 = .ok (.iload_n 3, 1) := by decide +kernel
theorem dJ8_newLength_cabcc_14 : decode cJ8_newLength_cabcc 14 = .ok (.ldc 200, 2) := by decide +kernel
theorem dJ8_newLength_cabcc_16 : decode cJ8_newLength_cabcc 16 = .ok (.if_icmp .gt 5, 3) := by decide +kernel
theorem dJ8_newLength_cabcc_19 : decode cJ8_newLength_cabcc 19 = .ok (.iload_n 3, 1) := by decide +kernel
theorem dJ8_newLength_cabcc_20 : decode cJ8_newLength_cabcc 20 = .ok (.ireturn, 1) := by decide +kernel
theorem dJ8_newLength_cabcc_21 : decode cJ8_newLength_cabcc 21 = .ok (.iload_n 0, 1) := by decide +kernel
theorem dJ8_newLength_cabcc_22 : decode cJ8_newLength_cabcc 22 = .ok (.iload_n 1, 1) := by decide +kernel
theorem dJ8_newLength_cabcc_23 : decode cJ8_newLength_cabcc 23 = .ok (.invokestatic 201, 3) := by decide +kernel
theorem dJ8_newLength_cabcc_26 : decode cJ8_newLength_cabcc 26 = .ok (.ireturn, 1) := by decide +kernel
theorem dJ8_hugeLength_7cf53_0 : decode cJ8_hugeLength_7cf53 0 = .ok (.iload_n 0, 1) := by decide +kernel
theorem dJ8_hugeLength_7cf53_1 : decode cJ8_hugeLength_7cf53 1 = .ok (.iload_n 1, 1) := by decide +kernel
theorem dJ8_hugeLength_7cf53_2 : decode cJ8_hugeLength_7cf53 2 = .ok (.iadd, 1) := by decide +kernel
theorem dJ8_hugeLength_7cf53_3 : decode cJ8_hugeLength_7cf53 3 = .ok (.istore_n 2, 1) := by decide +kernel
theorem dJ8_hugeLength_7cf53_4 : decode cJ8_hugeLength_7cf53 4 = .ok (.iload_n 2, 1) := by decide +kernel
theorem dJ8_hugeLength_7cf53_5 : decode cJ8_hugeLength_7cf53 5 = .ok (.ifCond .ge 44, 3) := by decide +kernel
theorem dJ8_hugeLength_7cf53_8 : decode cJ8_hugeLength_7cf53 8 = .ok (.new 204, 3) := by decide +kernel
theorem dJ8_hugeLength_7cf53_11 : decode cJ8_hugeLength_7cf53 11 = .ok (.dup, 1) := by decide +kernel
theorem dJ8_hugeLength_7cf53_12 : decode cJ8_hugeLength_7cf53 12 = .ok (.new 89, 3) := by decide +kernel
theorem dJ8_hugeLength_7cf53_15 : decode cJ8_hugeLength_7cf53 15 = .ok (.dup, 1) := by decide +kernel
theorem dJ8_hugeLength_7cf53_16 : decode cJ8_hugeLength_7cf53 16 = .ok (.invokespecial 91, 3) := by decide +kernel
theorem dJ8_hugeLength_7cf53_19 : decode cJ8_hugeLength_7cf53 19 = .ok (.ldc 206, 2) := by decide +kernel
theorem dJ8_hugeLength_7cf53_21 : decode cJ8_hugeLength_7cf53 21 = .ok (.invokevirtual 94, 3) := by decide +kernel
theorem dJ8_hugeLength_7cf53_24 : decode cJ8_hugeLength_7cf53 24 = .ok (.iload_n 0, 1) := by decide +kernel
theorem dJ8_hugeLength_7cf53_25 : decode cJ8_hugeLength_7cf53 25 = .ok (.invokevirtual 98, 3) := by decide +kernel
theorem dJ8_hugeLength_7cf53_28 : decode cJ8_hugeLength_7cf53 28 = .ok (.ldc 208, 2) := by decide +kernel
theorem dJ8_hugeLength_7cf53_30 : decode cJ8_hugeLength_7cf53 30 = .ok (.invokevirtual 94, 3) := by decide +kernel
theorem dJ8_hugeLength_7cf53_33 : decode cJ8_hugeLength_7cf53 33 = .ok (.iload_n 1, 1) := by decide +kernel
theorem dJ8_hugeLength_7cf53_34 : decode cJ8_hugeLength_7cf53 34 = .ok (.invokevirtual 98, 3) := by decide +kernel
theorem dJ8_hugeLength_7cf53_37 : decode cJ8_hugeLength_7cf53 37 = .ok (.ldc 210, 2) := by decide +kernel
theorem dJ8_hugeLength_7cf53_39 : decode cJ8_hugeLength_7cf53 39 = .ok (.invokevirtual 94, 3) := by decide +kernel
theorem dJ8_hugeLength_7cf53_42 : decode cJ8_hugeLength_7cf53 42 = .ok (.invokevirtual 101, 3) := by decide +kernel
theorem dJ8_hugeLength_7cf53_45 : decode cJ8_hugeLength_7cf53 45 = .ok (.invokespecial 212, 3) := by decide +kernel
theorem dJ8_hugeLength_7cf53_48 : decode cJ8_hugeLength_7cf53 48 = .ok (.athrow, 1) := by decide +kernel
theorem dJ8_hugeLength_7cf53_49 : decode cJ8_hugeLength_7cf53 49 = .ok (.iload_n 2, 1) := by decide +kernel
theorem dJ8_hugeLength_7cf53_50 : decode cJ8_hugeLength_7cf53 50 = .ok (.ldc 200, 2) := by decide +kernel
theorem dJ8_hugeLength_7cf53_52 : decode cJ8_hugeLength_7cf53 52 = .ok (.if_icmp .gt 6, 3) := by decide +kernel
theorem dJ8_hugeLength_7cf53_55 : decode cJ8_hugeLength_7cf53 55 = .ok (.ldc 200, 2) := by decide +kernel
theorem dJ8_hugeLength_7cf53_57 : decode cJ8_hugeLength_7cf53 57 = .ok (.ireturn, 1) := by decide +kernel
theorem dJ8_hugeLength_7cf53_58 : decode cJ8_hugeLength_7cf53 58 = .ok (.iload_n 2, 1) := by decide +kernel
theorem dJ8_hugeLength_7cf53_59 : decode cJ8_hugeLength_7cf53 59 = .ok (.ireturn, 1) := by decide +kernel
theorem dJ3_checkIndex_8e157_0 : decode cJ3_checkIndex_8e157 0 = .ok (.iload_n 0, 1) := by decide +kernel
theorem dJ3_checkIndex_8e157_1 : decode cJ3_checkIndex_8e157 1 = .ok (.ifCond .lt 8, 3) := by decide +kernel
theorem dJ3_checkIndex_8e157_4 : decode cJ3_checkIndex_8e157 4 = .ok (.iload_n 0, 1) := by decide +kernel
theorem dJ3_checkIndex_8e157_5 : decode cJ3_checkIndex_8e157 5 = .ok (.iload_n 1, 1) := by decide +kernel
theorem dJ3_checkIndex_8e157_6 : decode cJ3_checkIndex_8e157 6 = .ok (.if_icmp .lt 10, 3) := by decide +kernel
theorem dJ3_checkIndex_8e157_9 : decode cJ3_checkIndex_8e157 9 = .ok (.aload_n 2, 1) := by decide +kernel
theorem dJ3_checkIndex_8e157_10 : decode cJ3_checkIndex_8e157 10 = .ok (.iload_n 0, 1) := by decide +kernel
theorem dJ3_checkIndex_8e157_11 : decode cJ3_checkIndex_8e157 11 = .ok (.iload_n 1, 1) := by decide +kernel
theorem dJ3_checkIndex_8e157_12 : decode cJ3_checkIndex_8e157 12 = .ok (.invokestatic 95, 3) := by decide +kernel
theorem dJ3_checkIndex_8e157_15 : decode cJ3_checkIndex_8e157 15 = .ok (.athrow, 1) := by decide +kernel
theorem dJ3_checkIndex_8e157_16 : decode cJ3_checkIndex_8e157 16 = .ok (.iload_n 0, 1) := by decide +kernel
theorem dJ3_checkIndex_8e157_17 : decode cJ3_checkIndex_8e157 17 = .ok (.ireturn, 1) := by decide +kernel
theorem dL_cell_0 : decode cL_cell 0 = .ok (.iload_n 1, 1) := by decide +kernel
theorem dL_cell_1 : decode cL_cell 1 = .ok (.aload_n 0, 1) := by decide +kernel
theorem dL_cell_2 : decode cL_cell 2 = .ok (.arraylength, 1) := by decide +kernel
theorem dL_cell_3 : decode cL_cell 3 = .ok (.if_icmp .ge 9, 3) := by decide +kernel
theorem dL_cell_6 : decode cL_cell 6 = .ok (.aload_n 0, 1) := by decide +kernel
theorem dL_cell_7 : decode cL_cell 7 = .ok (.iload_n 1, 1) := by decide +kernel
theorem dL_cell_8 : decode cL_cell 8 = .ok (.iaload, 1) := by decide +kernel
theorem dL_cell_9 : decode cL_cell 9 = .ok (.goto 10, 3) := by decide +kernel
theorem dL_cell_12 : decode cL_cell 12 = .ok (.ldc 7, 2) := by decide +kernel
theorem dL_cell_14 : decode cL_cell 14 = .ok (.iload_n 1, 1) := by decide +kernel
theorem dL_cell_15 : decode cL_cell 15 = .ok (.bipush 6, 2) := by decide +kernel
theorem dL_cell_17 : decode cL_cell 17 = .ok (.iadd, 1) := by decide +kernel
theorem dL_cell_18 : decode cL_cell 18 = .ok (.imul, 1) := by decide +kernel
theorem dL_cell_19 : decode cL_cell 19 = .ok (.ireturn, 1) := by decide +kernel
theorem dL_low_0 : decode cL_low 0 = .ok (.iload_n 0, 1) := by decide +kernel
theorem dL_low_1 : decode cL_low 1 = .ok (.iconst 1, 1) := by decide +kernel
theorem dL_low_2 : decode cL_low 2 = .ok (.iushr, 1) := by decide +kernel
theorem dL_low_3 : decode cL_low 3 = .ok (.iload_n 1, 1) := by decide +kernel
theorem dL_low_4 : decode cL_low 4 = .ok (.irem, 1) := by decide +kernel
theorem dL_low_5 : decode cL_low 5 = .ok (.ireturn, 1) := by decide +kernel
set_option maxRecDepth 20000 in
theorem ggL_issue_X3_issue : GoodIn wsL_issue wsX3_issue := goodIn_ca (goodIn_ca (goodIn_r _ [7, 8, 9, 10, 11, 12, 13, 14, 15, 16, 17, 6, 18, 19, 20, 21, 22, 23, 24, 25, 26, 27, 28, 29, 30, 31, 32, 33, 34, 35, 36, 37, 38, 39, 40, 41, 42, 43, 44, 45, 46, 47, 48, 49, 50, 51, 52, 53, 54] (by decide +kernel) (by decide +kernel)) (goodIn_sub (fun _ h => List.mem_cons_of_mem _ (List.mem_append_left _ (List.mem_append_right _ h))) (by decide +kernel))) (goodIn_sub (fun _ h => List.mem_cons_of_mem _ (List.mem_append_right _ h)) (by decide +kernel))
set_option maxRecDepth 20000 in
theorem gL_issue_X3_issue : GoodIn wsL_issue (wsV RL 8 RX3 yX3_issue wsX3_issue) := goodIn_app (goodIn_of _ (by decide +kernel)) ggL_issue_X3_issue
theorem dL_issue_0 : decode cL_issue 0 = .ok (.aload_n 0, 1) := by decide +kernel
theorem dL_issue_1 : decode cL_issue 1 = .ok (.iload_n 1, 1) := by decide +kernel
theorem dL_issue_2 : decode cL_issue 2 = .ok (.iload_n 2, 1) := by decide +kernel
theorem dL_issue_3 : decode cL_issue 3 = .ok (.iload_n 3, 1) := by decide +kernel
theorem dL_issue_4 : decode cL_issue 4 = .ok (.iload 4, 2) := by decide +kernel
theorem dL_issue_6 : decode cL_issue 6 = .ok (.iload 5, 2) := by decide +kernel
theorem dL_issue_8 : decode cL_issue 8 = .ok (.invokevirtual 8, 3) := by decide +kernel
theorem dL_issue_11 : decode cL_issue 11 = .ok (.istore 6, 2) := by decide +kernel
theorem dL_issue_13 : decode cL_issue 13 = .ok (.goto 13, 3) := by decide +kernel
theorem dL_issue_16 : decode cL_issue 16 = .ok (.astore 7, 2) := by decide +kernel
theorem dL_issue_18 : decode cL_issue 18 = .ok (.bipush (-72), 2) := by decide +kernel
theorem dL_issue_20 : decode cL_issue 20 = .ok (.ireturn, 1) := by decide +kernel
theorem dL_issue_21 : decode cL_issue 21 = .ok (.astore 7, 2) := by decide +kernel
theorem dL_issue_23 : decode cL_issue 23 = .ok (.bipush (-73), 2) := by decide +kernel
theorem dL_issue_25 : decode cL_issue 25 = .ok (.ireturn, 1) := by decide +kernel
theorem dL_issue_26 : decode cL_issue 26 = .ok (.iload 6, 2) := by decide +kernel
theorem dL_issue_28 : decode cL_issue 28 = .ok (.ireturn, 1) := by decide +kernel
set_option maxRecDepth 20000 in
theorem ggL_relate_X3_relate : GoodIn wsL_relate wsX3_relate := goodIn_ca (goodIn_r _ [6, 7, 8, 9, 10, 5, 11, 12, 13, 14, 15, 16, 17, 18, 19, 20, 21, 22, 23, 24, 25] (by decide +kernel) (by decide +kernel)) (goodIn_sub (fun _ h => List.mem_cons_of_mem _ (List.mem_append_right _ h)) (by decide +kernel))
set_option maxRecDepth 20000 in
theorem gL_relate_X3_relate : GoodIn wsL_relate (wsV RL 18 RX3 yX3_relate wsX3_relate) := goodIn_app (goodIn_of _ (by decide +kernel)) ggL_relate_X3_relate
theorem dL_relate_0 : decode cL_relate 0 = .ok (.aload_n 0, 1) := by decide +kernel
theorem dL_relate_1 : decode cL_relate 1 = .ok (.iload_n 1, 1) := by decide +kernel
theorem dL_relate_2 : decode cL_relate 2 = .ok (.iload_n 2, 1) := by decide +kernel
theorem dL_relate_3 : decode cL_relate 3 = .ok (.iload_n 3, 1) := by decide +kernel
theorem dL_relate_4 : decode cL_relate 4 = .ok (.invokevirtual 18, 3) := by decide +kernel
theorem dL_relate_7 : decode cL_relate 7 = .ok (.goto 8, 3) := by decide +kernel
theorem dL_relate_10 : decode cL_relate 10 = .ok (.astore 4, 2) := by decide +kernel
theorem dL_relate_12 : decode cL_relate 12 = .ok (.bipush (-72), 2) := by decide +kernel
theorem dL_relate_14 : decode cL_relate 14 = .ok (.ireturn, 1) := by decide +kernel
theorem dL_relate_15 : decode cL_relate 15 = .ok (.iconst 0, 1) := by decide +kernel
theorem dL_relate_16 : decode cL_relate 16 = .ok (.ireturn, 1) := by decide +kernel
set_option maxRecDepth 20000 in
theorem ggL_latest_X3_latest : GoodIn wsL_latest wsX3_latest := goodIn_ca (goodIn_r _ [6, 7, 8, 5, 9, 10, 11, 12, 13, 14, 15, 16, 17, 18, 19, 20, 21, 22, 23, 24, 25, 26, 27, 28, 29, 30, 31, 32, 33, 34] (by decide +kernel) (by decide +kernel)) (goodIn_sub (fun _ h => List.mem_cons_of_mem _ (List.mem_append_right _ h)) (by decide +kernel))
set_option maxRecDepth 20000 in
theorem gL_latest_X3_latest : GoodIn wsL_latest (wsV RL 22 RX3 yX3_latest wsX3_latest) := goodIn_app (goodIn_of _ (by decide +kernel)) ggL_latest_X3_latest
theorem dL_latest_0 : decode cL_latest 0 = .ok (.aload_n 0, 1) := by decide +kernel
theorem dL_latest_1 : decode cL_latest 1 = .ok (.iload_n 1, 1) := by decide +kernel
theorem dL_latest_2 : decode cL_latest 2 = .ok (.invokevirtual 22, 3) := by decide +kernel
theorem dL_latest_5 : decode cL_latest 5 = .ok (.istore_n 2, 1) := by decide +kernel
theorem dL_latest_6 : decode cL_latest 6 = .ok (.goto 7, 3) := by decide +kernel
theorem dL_latest_9 : decode cL_latest 9 = .ok (.astore_n 3, 1) := by decide +kernel
theorem dL_latest_10 : decode cL_latest 10 = .ok (.bipush (-72), 2) := by decide +kernel
theorem dL_latest_12 : decode cL_latest 12 = .ok (.ireturn, 1) := by decide +kernel
theorem dL_latest_13 : decode cL_latest 13 = .ok (.iload_n 2, 1) := by decide +kernel
theorem dL_latest_14 : decode cL_latest 14 = .ok (.ireturn, 1) := by decide +kernel
set_option maxRecDepth 20000 in
theorem ggL_begin_X3_begin : GoodIn wsL_begin wsX3_begin := goodIn_ca (goodIn_r _ [6, 7, 8, 9, 10, 11, 12, 13, 14, 15, 16, 17, 18, 19, 20, 21, 22, 23, 24, 25, 26, 27, 28, 29, 30, 31, 32, 33, 34, 35, 36, 37, 38, 39, 40, 41, 42, 43, 44, 45, 46, 47, 48, 49, 50, 51, 52, 53, 54, 55, 56, 57, 58, 59, 60, 61, 62, 63, 64, 65, 66, 67, 68, 69, 70, 71, 72, 73, 74, 75, 76, 77, 78, 79, 80, 81, 82, 83, 84, 85, 86, 87, 88, 89, 90, 91, 92, 93, 94, 95, 96, 97, 98, 99, 100] (by decide +kernel) (by decide +kernel)) (goodIn_sub (fun _ h => List.mem_cons_of_mem _ (List.mem_append_right _ h)) (by decide +kernel))
set_option maxRecDepth 20000 in
theorem gL_begin_X3_begin : GoodIn wsL_begin (wsV RL 26 RX3 yX3_begin wsX3_begin) := goodIn_app (goodIn_of _ (by decide +kernel)) ggL_begin_X3_begin
theorem dL_begin_0 : decode cL_begin 0 = .ok (.aload_n 0, 1) := by decide +kernel
theorem dL_begin_1 : decode cL_begin 1 = .ok (.invokevirtual 26, 3) := by decide +kernel
theorem dL_begin_4 : decode cL_begin 4 = .ok (.istore_n 1, 1) := by decide +kernel
theorem dL_begin_5 : decode cL_begin 5 = .ok (.goto 7, 3) := by decide +kernel
theorem dL_begin_8 : decode cL_begin 8 = .ok (.astore_n 2, 1) := by decide +kernel
theorem dL_begin_9 : decode cL_begin 9 = .ok (.bipush (-73), 2) := by decide +kernel
theorem dL_begin_11 : decode cL_begin 11 = .ok (.ireturn, 1) := by decide +kernel
theorem dL_begin_12 : decode cL_begin 12 = .ok (.iload_n 1, 1) := by decide +kernel
theorem dL_begin_13 : decode cL_begin 13 = .ok (.ireturn, 1) := by decide +kernel
set_option maxRecDepth 20000 in
theorem ggL_mark_X3_mark : GoodIn wsL_mark wsX3_mark := goodIn_ca (goodIn_ca (goodIn_ca (goodIn_r _ [8, 9, 10, 11, 12, 13, 14, 15, 16, 17, 18, 7, 19, 20, 21, 22, 23, 24, 25, 26, 27, 28, 29, 30, 31, 32, 33, 34, 35, 36, 37, 38, 39, 40, 41, 42, 43, 44, 45, 46, 47, 48, 49, 50, 51, 52, 53, 54, 55, 56, 57, 58, 59, 60, 61, 62, 63, 64, 65, 66, 67, 68, 69, 70, 71, 72, 73, 74, 75, 76, 77, 78, 79, 80, 81, 82, 83, 84, 85, 86, 87, 88, 89, 90, 91, 92] (by decide +kernel) (by decide +kernel)) (goodIn_sub (fun _ h => List.mem_cons_of_mem _ (List.mem_append_left _ (List.mem_append_left _ (List.mem_append_right _ h)))) (by decide +kernel))) (goodIn_sub (fun _ h => List.mem_cons_of_mem _ (List.mem_append_left _ (List.mem_append_right _ h))) (by decide +kernel))) (goodIn_sub (fun _ h => List.mem_cons_of_mem _ (List.mem_append_right _ h)) (by decide +kernel))
set_option maxRecDepth 20000 in
theorem gL_mark_X3_mark : GoodIn wsL_mark (wsV RL 30 RX3 yX3_mark wsX3_mark) := goodIn_app (goodIn_of _ (by decide +kernel)) ggL_mark_X3_mark
theorem dL_mark_0 : decode cL_mark 0 = .ok (.aload_n 0, 1) := by decide +kernel
theorem dL_mark_1 : decode cL_mark 1 = .ok (.iload_n 1, 1) := by decide +kernel
theorem dL_mark_2 : decode cL_mark 2 = .ok (.iload_n 2, 1) := by decide +kernel
theorem dL_mark_3 : decode cL_mark 3 = .ok (.iload_n 3, 1) := by decide +kernel
theorem dL_mark_4 : decode cL_mark 4 = .ok (.iload 4, 2) := by decide +kernel
theorem dL_mark_6 : decode cL_mark 6 = .ok (.invokevirtual 30, 3) := by decide +kernel
theorem dL_mark_9 : decode cL_mark 9 = .ok (.istore 5, 2) := by decide +kernel
theorem dL_mark_11 : decode cL_mark 11 = .ok (.goto 18, 3) := by decide +kernel
theorem dL_mark_14 : decode cL_mark 14 = .ok (.astore 6, 2) := by decide +kernel
theorem dL_mark_16 : decode cL_mark 16 = .ok (.bipush (-71), 2) := by decide +kernel
theorem dL_mark_18 : decode cL_mark 18 = .ok (.ireturn, 1) := by decide +kernel
theorem dL_mark_19 : decode cL_mark 19 = .ok (.astore 6, 2) := by decide +kernel
theorem dL_mark_21 : decode cL_mark 21 = .ok (.bipush (-72), 2) := by decide +kernel
theorem dL_mark_23 : decode cL_mark 23 = .ok (.ireturn, 1) := by decide +kernel
theorem dL_mark_24 : decode cL_mark 24 = .ok (.astore 6, 2) := by decide +kernel
theorem dL_mark_26 : decode cL_mark 26 = .ok (.bipush (-73), 2) := by decide +kernel
theorem dL_mark_28 : decode cL_mark 28 = .ok (.ireturn, 1) := by decide +kernel
theorem dL_mark_29 : decode cL_mark 29 = .ok (.iload 5, 2) := by decide +kernel
theorem dL_mark_31 : decode cL_mark 31 = .ok (.ireturn, 1) := by decide +kernel
set_option maxRecDepth 20000 in
theorem ggL_renew_X3_renew : GoodIn wsL_renew wsX3_renew := goodIn_ca (goodIn_ca (goodIn_ca (goodIn_r _ [8, 9, 10, 11, 12, 13, 14, 7, 15, 16, 17, 18, 19, 20, 21, 22, 23, 24, 25, 26, 27, 28, 29, 30, 31, 32, 33, 34, 35, 36, 37, 38, 39, 40, 41, 42, 43, 44, 45, 46, 47, 48, 49, 50, 51, 52, 53, 54, 55, 56, 57, 58, 59, 60, 61, 62, 63, 64, 65, 66, 67, 68, 69, 70, 71, 72, 73, 74, 75, 76, 77, 78, 79, 80, 81, 82, 83, 84, 85, 86, 87, 88, 89, 90, 91, 92, 93, 94, 95, 96, 97, 98, 99, 100, 101, 102, 103, 104, 105, 106, 107] (by decide +kernel) (by decide +kernel)) (goodIn_sub (fun _ h => List.mem_cons_of_mem _ (List.mem_append_left _ (List.mem_append_left _ (List.mem_append_right _ h)))) (by decide +kernel))) (goodIn_sub (fun _ h => List.mem_cons_of_mem _ (List.mem_append_left _ (List.mem_append_right _ h))) (by decide +kernel))) (goodIn_sub (fun _ h => List.mem_cons_of_mem _ (List.mem_append_right _ h)) (by decide +kernel))
set_option maxRecDepth 20000 in
theorem gL_renew_X3_renew : GoodIn wsL_renew (wsV RL 36 RX3 yX3_renew wsX3_renew) := goodIn_app (goodIn_of _ (by decide +kernel)) ggL_renew_X3_renew
theorem dL_renew_0 : decode cL_renew 0 = .ok (.aload_n 0, 1) := by decide +kernel
theorem dL_renew_1 : decode cL_renew 1 = .ok (.iload_n 1, 1) := by decide +kernel
theorem dL_renew_2 : decode cL_renew 2 = .ok (.iload_n 2, 1) := by decide +kernel
theorem dL_renew_3 : decode cL_renew 3 = .ok (.iload_n 3, 1) := by decide +kernel
theorem dL_renew_4 : decode cL_renew 4 = .ok (.invokevirtual 36, 3) := by decide +kernel
theorem dL_renew_7 : decode cL_renew 7 = .ok (.istore 4, 2) := by decide +kernel
theorem dL_renew_9 : decode cL_renew 9 = .ok (.goto 18, 3) := by decide +kernel
theorem dL_renew_12 : decode cL_renew 12 = .ok (.astore 5, 2) := by decide +kernel
theorem dL_renew_14 : decode cL_renew 14 = .ok (.bipush (-71), 2) := by decide +kernel
theorem dL_renew_16 : decode cL_renew 16 = .ok (.ireturn, 1) := by decide +kernel
theorem dL_renew_17 : decode cL_renew 17 = .ok (.astore 5, 2) := by decide +kernel
theorem dL_renew_19 : decode cL_renew 19 = .ok (.bipush (-72), 2) := by decide +kernel
theorem dL_renew_21 : decode cL_renew 21 = .ok (.ireturn, 1) := by decide +kernel
theorem dL_renew_22 : decode cL_renew 22 = .ok (.astore 5, 2) := by decide +kernel
theorem dL_renew_24 : decode cL_renew 24 = .ok (.bipush (-73), 2) := by decide +kernel
theorem dL_renew_26 : decode cL_renew 26 = .ok (.ireturn, 1) := by decide +kernel
theorem dL_renew_27 : decode cL_renew 27 = .ok (.iload 4, 2) := by decide +kernel
theorem dL_renew_29 : decode cL_renew 29 = .ok (.ireturn, 1) := by decide +kernel
set_option maxRecDepth 20000 in
theorem ggL_version_X3_version : GoodIn wsL_version wsX3_version := goodIn_ca (goodIn_ca (goodIn_r _ [7, 8, 9, 10, 6, 11, 12, 13, 14, 15, 16, 17, 18, 19, 20, 21, 22, 23, 24, 25, 26, 27, 28, 29, 30, 31, 32, 33, 34, 35, 36, 37, 38, 39, 40, 41, 42, 43, 44, 45, 46, 47, 48, 49, 50, 51, 52, 53, 54, 55, 56, 57, 58, 59, 60, 61, 62, 63, 64, 65, 66, 67, 68, 69, 70, 71, 72, 73] (by decide +kernel) (by decide +kernel)) (goodIn_sub (fun _ h => List.mem_cons_of_mem _ (List.mem_append_left _ (List.mem_append_right _ h))) (by decide +kernel))) (goodIn_sub (fun _ h => List.mem_cons_of_mem _ (List.mem_append_right _ h)) (by decide +kernel))
set_option maxRecDepth 20000 in
theorem gL_version_X3_version : GoodIn wsL_version (wsV RL 40 RX3 yX3_version wsX3_version) := goodIn_app (goodIn_of _ (by decide +kernel)) ggL_version_X3_version
theorem dL_version_0 : decode cL_version 0 = .ok (.aload_n 0, 1) := by decide +kernel
theorem dL_version_1 : decode cL_version 1 = .ok (.iload_n 1, 1) := by decide +kernel
theorem dL_version_2 : decode cL_version 2 = .ok (.iload_n 2, 1) := by decide +kernel
theorem dL_version_3 : decode cL_version 3 = .ok (.invokevirtual 40, 3) := by decide +kernel
theorem dL_version_6 : decode cL_version 6 = .ok (.istore_n 3, 1) := by decide +kernel
theorem dL_version_7 : decode cL_version 7 = .ok (.goto 13, 3) := by decide +kernel
theorem dL_version_10 : decode cL_version 10 = .ok (.astore 4, 2) := by decide +kernel
theorem dL_version_12 : decode cL_version 12 = .ok (.bipush (-71), 2) := by decide +kernel
theorem dL_version_14 : decode cL_version 14 = .ok (.ireturn, 1) := by decide +kernel
theorem dL_version_15 : decode cL_version 15 = .ok (.astore 4, 2) := by decide +kernel
theorem dL_version_17 : decode cL_version 17 = .ok (.bipush (-72), 2) := by decide +kernel
theorem dL_version_19 : decode cL_version 19 = .ok (.ireturn, 1) := by decide +kernel
theorem dL_version_20 : decode cL_version 20 = .ok (.iload_n 3, 1) := by decide +kernel
theorem dL_version_21 : decode cL_version 21 = .ok (.ireturn, 1) := by decide +kernel
set_option maxRecDepth 20000 in
theorem ggL_offered_X3_offered : GoodIn wsL_offered wsX3_offered := goodIn_ca (goodIn_r _ [6, 7, 8, 9, 5, 10, 11, 12, 13, 14, 15, 16, 17, 18, 19, 20, 21, 22, 23, 24, 25, 26, 27, 28, 29, 30, 31, 32, 33, 34, 35, 36, 37, 38, 39, 40, 41, 42, 43, 44, 45, 46, 47, 48, 49, 50, 51, 52, 53, 54, 55, 56, 57, 58, 59, 60, 61, 62, 63, 64, 65, 66, 67, 68, 69, 70, 71, 72, 73, 74, 75, 76, 77, 78, 79, 80, 81, 82] (by decide +kernel) (by decide +kernel)) (goodIn_sub (fun _ h => List.mem_cons_of_mem _ (List.mem_append_right _ h)) (by decide +kernel))
set_option maxRecDepth 20000 in
theorem gL_offered_X3_offered : GoodIn wsL_offered (wsV RL 44 RX3 yX3_offered wsX3_offered) := goodIn_app (goodIn_of _ (by decide +kernel)) ggL_offered_X3_offered
theorem dL_offered_0 : decode cL_offered 0 = .ok (.aload_n 0, 1) := by decide +kernel
theorem dL_offered_1 : decode cL_offered 1 = .ok (.iload_n 1, 1) := by decide +kernel
theorem dL_offered_2 : decode cL_offered 2 = .ok (.invokevirtual 44, 3) := by decide +kernel
theorem dL_offered_5 : decode cL_offered 5 = .ok (.istore_n 2, 1) := by decide +kernel
theorem dL_offered_6 : decode cL_offered 6 = .ok (.goto 7, 3) := by decide +kernel
theorem dL_offered_9 : decode cL_offered 9 = .ok (.astore_n 3, 1) := by decide +kernel
theorem dL_offered_10 : decode cL_offered 10 = .ok (.bipush (-71), 2) := by decide +kernel
theorem dL_offered_12 : decode cL_offered 12 = .ok (.ireturn, 1) := by decide +kernel
theorem dL_offered_13 : decode cL_offered 13 = .ok (.iload_n 2, 1) := by decide +kernel
theorem dL_offered_14 : decode cL_offered 14 = .ok (.ireturn, 1) := by decide +kernel
set_option maxRecDepth 20000 in
theorem ggL_whyNot_X3_whyNot : GoodIn wsL_whyNot wsX3_whyNot := goodIn_ca (goodIn_r _ [6, 7, 8, 9, 5, 10, 11, 12, 13, 14, 15, 16, 17, 18, 19, 20, 21, 22, 23, 24, 25, 26, 27, 28, 29, 30, 31, 32, 33, 34, 35, 36, 37, 38, 39, 40, 41, 42, 43, 44, 45, 46, 47, 48, 49, 50, 51, 52, 53, 54, 55, 56, 57, 58, 59, 60, 61, 62, 63, 64, 65, 66, 67, 68, 69, 70, 71, 72, 73, 74, 75, 76, 77, 78, 79] (by decide +kernel) (by decide +kernel)) (goodIn_sub (fun _ h => List.mem_cons_of_mem _ (List.mem_append_right _ h)) (by decide +kernel))
set_option maxRecDepth 20000 in
theorem gL_whyNot_X3_whyNot : GoodIn wsL_whyNot (wsV RL 47 RX3 yX3_whyNot wsX3_whyNot) := goodIn_app (goodIn_of _ (by decide +kernel)) ggL_whyNot_X3_whyNot
theorem dL_whyNot_0 : decode cL_whyNot 0 = .ok (.aload_n 0, 1) := by decide +kernel
theorem dL_whyNot_1 : decode cL_whyNot 1 = .ok (.iload_n 1, 1) := by decide +kernel
theorem dL_whyNot_2 : decode cL_whyNot 2 = .ok (.invokevirtual 47, 3) := by decide +kernel
theorem dL_whyNot_5 : decode cL_whyNot 5 = .ok (.istore_n 2, 1) := by decide +kernel
theorem dL_whyNot_6 : decode cL_whyNot 6 = .ok (.goto 7, 3) := by decide +kernel
theorem dL_whyNot_9 : decode cL_whyNot 9 = .ok (.astore_n 3, 1) := by decide +kernel
theorem dL_whyNot_10 : decode cL_whyNot 10 = .ok (.bipush (-71), 2) := by decide +kernel
theorem dL_whyNot_12 : decode cL_whyNot 12 = .ok (.ireturn, 1) := by decide +kernel
theorem dL_whyNot_13 : decode cL_whyNot 13 = .ok (.iload_n 2, 1) := by decide +kernel
theorem dL_whyNot_14 : decode cL_whyNot 14 = .ok (.ireturn, 1) := by decide +kernel
set_option maxRecDepth 20000 in
theorem ggL_sign_X3_sign : GoodIn wsL_sign wsX3_sign := goodIn_ca (goodIn_ca (goodIn_ca (goodIn_r _ [8, 9, 10, 11, 12, 13, 14, 7, 15, 16, 17, 18, 19, 20, 21, 22, 23, 24, 25, 26, 27, 28, 29, 30, 31, 32, 33, 34, 35, 36, 37, 38, 39, 40, 41, 42, 43, 44, 45, 46, 47, 48, 49, 50, 51, 52, 53, 54, 55, 56, 57, 58, 59, 60, 61, 62, 63, 64, 65, 66, 67, 68, 69, 70, 71, 72, 73, 74, 75, 76, 77, 78, 79, 80, 81, 82, 83, 84, 85, 86, 87, 88, 89, 90, 91, 92, 93, 94, 95, 96, 97, 98, 99, 100, 101, 102, 103, 104, 105, 106, 107, 108, 109, 110, 111, 112, 113, 114, 115, 116, 117, 118, 119, 120, 121, 122, 123, 124, 125, 126, 127, 128, 129, 130, 131, 132, 133, 134, 135, 136, 137, 138, 139, 140, 141, 142, 143, 144, 145, 146, 147, 148, 149, 150, 151, 152, 153, 154, 155, 156, 157, 158, 159, 160, 161, 162, 163, 164, 165, 166, 167, 168, 169, 170, 171, 172] (by decide +kernel) (by decide +kernel)) (goodIn_sub (fun _ h => List.mem_cons_of_mem _ (List.mem_append_left _ (List.mem_append_left _ (List.mem_append_right _ h)))) (by decide +kernel))) (goodIn_sub (fun _ h => List.mem_cons_of_mem _ (List.mem_append_left _ (List.mem_append_right _ h))) (by decide +kernel))) (goodIn_sub (fun _ h => List.mem_cons_of_mem _ (List.mem_append_right _ h)) (by decide +kernel))
set_option maxRecDepth 20000 in
theorem gL_sign_X3_sign : GoodIn wsL_sign (wsV RL 50 RX3 yX3_sign wsX3_sign) := goodIn_app (goodIn_of _ (by decide +kernel)) ggL_sign_X3_sign
theorem dL_sign_0 : decode cL_sign 0 = .ok (.aload_n 0, 1) := by decide +kernel
theorem dL_sign_1 : decode cL_sign 1 = .ok (.iload_n 1, 1) := by decide +kernel
theorem dL_sign_2 : decode cL_sign 2 = .ok (.iload_n 2, 1) := by decide +kernel
theorem dL_sign_3 : decode cL_sign 3 = .ok (.invokevirtual 50, 3) := by decide +kernel
theorem dL_sign_6 : decode cL_sign 6 = .ok (.istore_n 3, 1) := by decide +kernel
theorem dL_sign_7 : decode cL_sign 7 = .ok (.goto 18, 3) := by decide +kernel
theorem dL_sign_10 : decode cL_sign 10 = .ok (.astore 4, 2) := by decide +kernel
theorem dL_sign_12 : decode cL_sign 12 = .ok (.bipush (-71), 2) := by decide +kernel
theorem dL_sign_14 : decode cL_sign 14 = .ok (.ireturn, 1) := by decide +kernel
theorem dL_sign_15 : decode cL_sign 15 = .ok (.astore 4, 2) := by decide +kernel
theorem dL_sign_17 : decode cL_sign 17 = .ok (.bipush (-72), 2) := by decide +kernel
theorem dL_sign_19 : decode cL_sign 19 = .ok (.ireturn, 1) := by decide +kernel
theorem dL_sign_20 : decode cL_sign 20 = .ok (.astore 4, 2) := by decide +kernel
theorem dL_sign_22 : decode cL_sign 22 = .ok (.bipush (-73), 2) := by decide +kernel
theorem dL_sign_24 : decode cL_sign 24 = .ok (.ireturn, 1) := by decide +kernel
theorem dL_sign_25 : decode cL_sign 25 = .ok (.iload_n 3, 1) := by decide +kernel
theorem dL_sign_26 : decode cL_sign 26 = .ok (.ireturn, 1) := by decide +kernel
set_option maxRecDepth 20000 in
theorem ggL_pass_X3_pass : GoodIn wsL_pass wsX3_pass := goodIn_ca (goodIn_ca (goodIn_r _ [7, 8, 9, 10, 11, 12, 13, 14, 6, 15, 16, 17, 18, 19, 20, 21, 22, 23, 24, 25, 26, 27, 28, 29, 30, 31, 32, 33, 34, 35, 36, 37, 38, 39, 40, 41, 42, 43, 44, 45, 46, 47, 48, 49, 50, 51, 52, 53, 54, 55, 56, 57, 58, 59, 60, 61, 62, 63, 64, 65, 66, 67, 68, 69, 70, 71, 72, 73, 74, 75, 76, 77, 78, 79, 80, 81, 82, 83, 84, 85, 86, 87, 88, 89, 90, 91, 92, 93, 94, 95, 96, 97, 98] (by decide +kernel) (by decide +kernel)) (goodIn_sub (fun _ h => List.mem_cons_of_mem _ (List.mem_append_left _ (List.mem_append_right _ h))) (by decide +kernel))) (goodIn_sub (fun _ h => List.mem_cons_of_mem _ (List.mem_append_right _ h)) (by decide +kernel))
set_option maxRecDepth 20000 in
theorem gL_pass_X3_pass : GoodIn wsL_pass (wsV RL 53 RX3 yX3_pass wsX3_pass) := goodIn_app (goodIn_of _ (by decide +kernel)) ggL_pass_X3_pass
theorem dL_pass_0 : decode cL_pass 0 = .ok (.aload_n 0, 1) := by decide +kernel
theorem dL_pass_1 : decode cL_pass 1 = .ok (.iload_n 1, 1) := by decide +kernel
theorem dL_pass_2 : decode cL_pass 2 = .ok (.invokevirtual 53, 3) := by decide +kernel
theorem dL_pass_5 : decode cL_pass 5 = .ok (.istore_n 2, 1) := by decide +kernel
theorem dL_pass_6 : decode cL_pass 6 = .ok (.goto 11, 3) := by decide +kernel
theorem dL_pass_9 : decode cL_pass 9 = .ok (.astore_n 3, 1) := by decide +kernel
theorem dL_pass_10 : decode cL_pass 10 = .ok (.bipush (-72), 2) := by decide +kernel
theorem dL_pass_12 : decode cL_pass 12 = .ok (.ireturn, 1) := by decide +kernel
theorem dL_pass_13 : decode cL_pass 13 = .ok (.astore_n 3, 1) := by decide +kernel
theorem dL_pass_14 : decode cL_pass 14 = .ok (.bipush (-73), 2) := by decide +kernel
theorem dL_pass_16 : decode cL_pass 16 = .ok (.ireturn, 1) := by decide +kernel
theorem dL_pass_17 : decode cL_pass 17 = .ok (.iload_n 2, 1) := by decide +kernel
theorem dL_pass_18 : decode cL_pass 18 = .ok (.ireturn, 1) := by decide +kernel
set_option maxRecDepth 20000 in
theorem ggL_state_X3_state : GoodIn wsL_state wsX3_state := goodIn_ca (goodIn_r _ [6, 7, 8, 9, 10, 5, 11, 12, 13, 14, 15, 16, 17, 18, 19, 20, 21, 22, 23, 24, 25, 26, 27, 28, 29, 30, 31, 32, 33, 34, 35, 36, 37, 38, 39, 40, 41, 42, 43, 44, 45, 46, 47, 48, 49, 50, 51, 52, 53, 54] (by decide +kernel) (by decide +kernel)) (goodIn_sub (fun _ h => List.mem_cons_of_mem _ (List.mem_append_right _ h)) (by decide +kernel))
set_option maxRecDepth 20000 in
theorem gL_state_X3_state : GoodIn wsL_state (wsV RL 56 RX3 yX3_state wsX3_state) := goodIn_app (goodIn_of _ (by decide +kernel)) ggL_state_X3_state
theorem dL_state_0 : decode cL_state 0 = .ok (.aload_n 0, 1) := by decide +kernel
theorem dL_state_1 : decode cL_state 1 = .ok (.iload_n 1, 1) := by decide +kernel
theorem dL_state_2 : decode cL_state 2 = .ok (.invokevirtual 56, 3) := by decide +kernel
theorem dL_state_5 : decode cL_state 5 = .ok (.istore_n 2, 1) := by decide +kernel
theorem dL_state_6 : decode cL_state 6 = .ok (.goto 7, 3) := by decide +kernel
theorem dL_state_9 : decode cL_state 9 = .ok (.astore_n 3, 1) := by decide +kernel
theorem dL_state_10 : decode cL_state 10 = .ok (.bipush (-71), 2) := by decide +kernel
theorem dL_state_12 : decode cL_state 12 = .ok (.ireturn, 1) := by decide +kernel
theorem dL_state_13 : decode cL_state 13 = .ok (.iload_n 2, 1) := by decide +kernel
theorem dL_state_14 : decode cL_state 14 = .ok (.ireturn, 1) := by decide +kernel
set_option maxRecDepth 20000 in
theorem ggL_day_X3_day : GoodIn wsL_day wsX3_day := goodIn_ca (goodIn_r _ [6, 7, 8, 9, 10, 5, 11, 12, 13, 14, 15, 16, 17, 18, 19, 20, 21, 22, 23, 24, 25, 26, 27, 28, 29, 30, 31, 32, 33, 34, 35, 36, 37, 38, 39, 40, 41, 42, 43, 44, 45, 46, 47, 48, 49, 50, 51, 52, 53, 54] (by decide +kernel) (by decide +kernel)) (goodIn_sub (fun _ h => List.mem_cons_of_mem _ (List.mem_append_right _ h)) (by decide +kernel))
set_option maxRecDepth 20000 in
theorem gL_day_X3_day : GoodIn wsL_day (wsV RL 59 RX3 yX3_day wsX3_day) := goodIn_app (goodIn_of _ (by decide +kernel)) ggL_day_X3_day
theorem dL_day_0 : decode cL_day 0 = .ok (.aload_n 0, 1) := by decide +kernel
theorem dL_day_1 : decode cL_day 1 = .ok (.iload_n 1, 1) := by decide +kernel
theorem dL_day_2 : decode cL_day 2 = .ok (.invokevirtual 59, 3) := by decide +kernel
theorem dL_day_5 : decode cL_day 5 = .ok (.istore_n 2, 1) := by decide +kernel
theorem dL_day_6 : decode cL_day 6 = .ok (.goto 7, 3) := by decide +kernel
theorem dL_day_9 : decode cL_day 9 = .ok (.astore_n 3, 1) := by decide +kernel
theorem dL_day_10 : decode cL_day 10 = .ok (.bipush (-71), 2) := by decide +kernel
theorem dL_day_12 : decode cL_day 12 = .ok (.ireturn, 1) := by decide +kernel
theorem dL_day_13 : decode cL_day 13 = .ok (.iload_n 2, 1) := by decide +kernel
theorem dL_day_14 : decode cL_day 14 = .ok (.ireturn, 1) := by decide +kernel
set_option maxRecDepth 20000 in
theorem ggL_perform_X3_perform : GoodIn wsL_perform wsX3_perform := goodIn_ca (goodIn_ca (goodIn_r _ [7, 8, 9, 10, 11, 12, 13, 14, 15, 6, 16, 17, 18, 19, 20, 21, 22, 23, 24, 25, 26, 27, 28, 29, 30, 31, 32, 33, 34, 35, 36, 37, 38, 39, 40, 41, 42, 43, 44, 45, 46, 47, 48, 49, 50, 51, 52, 53, 54, 55, 56, 57, 58, 59, 60, 61, 62, 63, 64, 65, 66, 67, 68, 69, 70] (by decide +kernel) (by decide +kernel)) (goodIn_sub (fun _ h => List.mem_cons_of_mem _ (List.mem_append_left _ (List.mem_append_right _ h))) (by decide +kernel))) (goodIn_sub (fun _ h => List.mem_cons_of_mem _ (List.mem_append_right _ h)) (by decide +kernel))
set_option maxRecDepth 20000 in
theorem gL_perform_X3_perform : GoodIn wsL_perform (wsV RL 62 RX3 yX3_perform wsX3_perform) := goodIn_app (goodIn_of _ (by decide +kernel)) ggL_perform_X3_perform
theorem dL_perform_0 : decode cL_perform 0 = .ok (.aload_n 0, 1) := by decide +kernel
theorem dL_perform_1 : decode cL_perform 1 = .ok (.iload_n 1, 1) := by decide +kernel
theorem dL_perform_2 : decode cL_perform 2 = .ok (.invokevirtual 62, 3) := by decide +kernel
theorem dL_perform_5 : decode cL_perform 5 = .ok (.istore_n 2, 1) := by decide +kernel
theorem dL_perform_6 : decode cL_perform 6 = .ok (.goto 11, 3) := by decide +kernel
theorem dL_perform_9 : decode cL_perform 9 = .ok (.astore_n 3, 1) := by decide +kernel
theorem dL_perform_10 : decode cL_perform 10 = .ok (.bipush (-71), 2) := by decide +kernel
theorem dL_perform_12 : decode cL_perform 12 = .ok (.ireturn, 1) := by decide +kernel
theorem dL_perform_13 : decode cL_perform 13 = .ok (.astore_n 3, 1) := by decide +kernel
theorem dL_perform_14 : decode cL_perform 14 = .ok (.bipush (-73), 2) := by decide +kernel
theorem dL_perform_16 : decode cL_perform 16 = .ok (.ireturn, 1) := by decide +kernel
theorem dL_perform_17 : decode cL_perform 17 = .ok (.iload_n 2, 1) := by decide +kernel
theorem dL_perform_18 : decode cL_perform 18 = .ok (.ifCond .eq 7, 3) := by decide +kernel
theorem dL_perform_21 : decode cL_perform 21 = .ok (.iconst 1, 1) := by decide +kernel
theorem dL_perform_22 : decode cL_perform 22 = .ok (.goto 4, 3) := by decide +kernel
theorem dL_perform_25 : decode cL_perform 25 = .ok (.iconst 0, 1) := by decide +kernel
theorem dL_perform_26 : decode cL_perform 26 = .ok (.ireturn, 1) := by decide +kernel
set_option maxRecDepth 20000 in
theorem ggL_notice_X3_notice : GoodIn wsL_notice wsX3_notice := goodIn_ca (goodIn_ca (goodIn_r _ [7, 8, 9, 10, 11, 12, 13, 14, 15, 16, 17, 6, 18, 19, 20, 21, 22, 23, 24, 25, 26, 27, 28, 29, 30, 31, 32, 33, 34, 35, 36, 37, 38, 39, 40, 41, 42, 43, 44, 45, 46, 47, 48, 49, 50, 51, 52, 53, 54, 55, 56, 57, 58, 59, 60, 61, 62, 63, 64, 65, 66, 67, 68, 69, 70, 71, 72, 73] (by decide +kernel) (by decide +kernel)) (goodIn_sub (fun _ h => List.mem_cons_of_mem _ (List.mem_append_left _ (List.mem_append_right _ h))) (by decide +kernel))) (goodIn_sub (fun _ h => List.mem_cons_of_mem _ (List.mem_append_right _ h)) (by decide +kernel))
set_option maxRecDepth 20000 in
theorem gL_notice_X3_notice : GoodIn wsL_notice (wsV RL 66 RX3 yX3_notice wsX3_notice) := goodIn_app (goodIn_of _ (by decide +kernel)) ggL_notice_X3_notice
theorem dL_notice_0 : decode cL_notice 0 = .ok (.aload_n 0, 1) := by decide +kernel
theorem dL_notice_1 : decode cL_notice 1 = .ok (.iload_n 1, 1) := by decide +kernel
theorem dL_notice_2 : decode cL_notice 2 = .ok (.invokevirtual 66, 3) := by decide +kernel
theorem dL_notice_5 : decode cL_notice 5 = .ok (.istore_n 2, 1) := by decide +kernel
theorem dL_notice_6 : decode cL_notice 6 = .ok (.goto 11, 3) := by decide +kernel
theorem dL_notice_9 : decode cL_notice 9 = .ok (.astore_n 3, 1) := by decide +kernel
theorem dL_notice_10 : decode cL_notice 10 = .ok (.bipush (-71), 2) := by decide +kernel
theorem dL_notice_12 : decode cL_notice 12 = .ok (.ireturn, 1) := by decide +kernel
theorem dL_notice_13 : decode cL_notice 13 = .ok (.astore_n 3, 1) := by decide +kernel
theorem dL_notice_14 : decode cL_notice 14 = .ok (.bipush (-73), 2) := by decide +kernel
theorem dL_notice_16 : decode cL_notice 16 = .ok (.ireturn, 1) := by decide +kernel
theorem dL_notice_17 : decode cL_notice 17 = .ok (.iload_n 2, 1) := by decide +kernel
theorem dL_notice_18 : decode cL_notice 18 = .ok (.ireturn, 1) := by decide +kernel
set_option maxRecDepth 20000 in
theorem ggL_settle_X3_settle : GoodIn wsL_settle wsX3_settle := goodIn_ca (goodIn_ca (goodIn_r _ [7, 8, 9, 10, 11, 12, 13, 14, 15, 16, 6, 17, 18, 19, 20, 21, 22, 23, 24, 25, 26, 27, 28, 29, 30, 31, 32, 33, 34, 35, 36, 37, 38, 39, 40, 41, 42, 43, 44, 45, 46, 47, 48, 49, 50, 51, 52, 53, 54, 55, 56, 57, 58, 59, 60, 61, 62, 63, 64, 65, 66, 67, 68, 69, 70, 71, 72, 73, 74, 75, 76, 77, 78, 79, 80, 81, 82, 83, 84, 85, 86, 87] (by decide +kernel) (by decide +kernel)) (goodIn_sub (fun _ h => List.mem_cons_of_mem _ (List.mem_append_left _ (List.mem_append_right _ h))) (by decide +kernel))) (goodIn_sub (fun _ h => List.mem_cons_of_mem _ (List.mem_append_right _ h)) (by decide +kernel))
set_option maxRecDepth 20000 in
theorem gL_settle_X3_settle : GoodIn wsL_settle (wsV RL 69 RX3 yX3_settle wsX3_settle) := goodIn_app (goodIn_of _ (by decide +kernel)) ggL_settle_X3_settle
theorem dL_settle_0 : decode cL_settle 0 = .ok (.aload_n 0, 1) := by decide +kernel
theorem dL_settle_1 : decode cL_settle 1 = .ok (.iload_n 1, 1) := by decide +kernel
theorem dL_settle_2 : decode cL_settle 2 = .ok (.invokevirtual 69, 3) := by decide +kernel
theorem dL_settle_5 : decode cL_settle 5 = .ok (.istore_n 2, 1) := by decide +kernel
theorem dL_settle_6 : decode cL_settle 6 = .ok (.goto 11, 3) := by decide +kernel
theorem dL_settle_9 : decode cL_settle 9 = .ok (.astore_n 3, 1) := by decide +kernel
theorem dL_settle_10 : decode cL_settle 10 = .ok (.bipush (-71), 2) := by decide +kernel
theorem dL_settle_12 : decode cL_settle 12 = .ok (.ireturn, 1) := by decide +kernel
theorem dL_settle_13 : decode cL_settle 13 = .ok (.astore_n 3, 1) := by decide +kernel
theorem dL_settle_14 : decode cL_settle 14 = .ok (.bipush (-73), 2) := by decide +kernel
theorem dL_settle_16 : decode cL_settle 16 = .ok (.ireturn, 1) := by decide +kernel
theorem dL_settle_17 : decode cL_settle 17 = .ok (.iload_n 2, 1) := by decide +kernel
theorem dL_settle_18 : decode cL_settle 18 = .ok (.ireturn, 1) := by decide +kernel
set_option maxRecDepth 20000 in
theorem ggL_owes_X3_owes : GoodIn wsL_owes wsX3_owes := goodIn_ca (goodIn_ca (goodIn_r _ [7, 8, 9, 10, 11, 12, 13, 14, 15, 6, 16, 17, 18, 19, 20, 21, 22, 23, 24, 25, 26, 27, 28, 29, 30, 31, 32, 33, 34, 35, 36, 37, 38, 39, 40, 41, 42, 43, 44, 45, 46, 47, 48, 49, 50, 51, 52, 53, 54, 55, 56, 57, 58, 59, 60, 61, 62, 63, 64, 65] (by decide +kernel) (by decide +kernel)) (goodIn_sub (fun _ h => List.mem_cons_of_mem _ (List.mem_append_left _ (List.mem_append_right _ h))) (by decide +kernel))) (goodIn_sub (fun _ h => List.mem_cons_of_mem _ (List.mem_append_right _ h)) (by decide +kernel))
set_option maxRecDepth 20000 in
theorem gL_owes_X3_owes : GoodIn wsL_owes (wsV RL 72 RX3 yX3_owes wsX3_owes) := goodIn_app (goodIn_of _ (by decide +kernel)) ggL_owes_X3_owes
theorem dL_owes_0 : decode cL_owes 0 = .ok (.aload_n 0, 1) := by decide +kernel
theorem dL_owes_1 : decode cL_owes 1 = .ok (.iload_n 1, 1) := by decide +kernel
theorem dL_owes_2 : decode cL_owes 2 = .ok (.iload_n 2, 1) := by decide +kernel
theorem dL_owes_3 : decode cL_owes 3 = .ok (.invokevirtual 72, 3) := by decide +kernel
theorem dL_owes_6 : decode cL_owes 6 = .ok (.istore_n 3, 1) := by decide +kernel
theorem dL_owes_7 : decode cL_owes 7 = .ok (.goto 13, 3) := by decide +kernel
theorem dL_owes_10 : decode cL_owes 10 = .ok (.astore 4, 2) := by decide +kernel
theorem dL_owes_12 : decode cL_owes 12 = .ok (.bipush (-71), 2) := by decide +kernel
theorem dL_owes_14 : decode cL_owes 14 = .ok (.ireturn, 1) := by decide +kernel
theorem dL_owes_15 : decode cL_owes 15 = .ok (.astore 4, 2) := by decide +kernel
theorem dL_owes_17 : decode cL_owes 17 = .ok (.bipush (-72), 2) := by decide +kernel
theorem dL_owes_19 : decode cL_owes 19 = .ok (.ireturn, 1) := by decide +kernel
theorem dL_owes_20 : decode cL_owes 20 = .ok (.iload_n 3, 1) := by decide +kernel
theorem dL_owes_21 : decode cL_owes 21 = .ok (.ireturn, 1) := by decide +kernel
set_option maxRecDepth 20000 in
theorem ggL_writes_L_low : GoodIn wsL_writes wsL_low := goodIn_r _ [6] (by decide +kernel) (by decide +kernel)
set_option maxRecDepth 20000 in
theorem gL_writes_L_low : GoodIn wsL_writes (va_wsS RL 75 yL_low wsL_low) := goodIn_app (goodIn_of _ (by decide +kernel)) ggL_writes_L_low
set_option maxRecDepth 20000 in
theorem ggL_writes_L_issue : GoodIn wsL_writes wsL_issue := goodIn_ca (goodIn_ca (goodIn_r _ [9, 10, 11, 12, 13, 14, 15, 16, 17, 18, 19, 20, 21, 22, 23, 24, 25, 26, 27, 28, 29, 30, 31, 32, 33, 34, 35, 36, 37, 38, 39, 40, 41, 42, 43, 44, 45, 46, 47, 48, 49, 50, 51, 52, 65, 66, 67, 68, 69, 70, 71, 72, 73, 74, 75] (by decide +kernel) (by decide +kernel)) (goodIn_sub (fun _ h => List.mem_cons_of_mem _ (List.mem_append_left _ (List.mem_append_right _ h))) (by decide +kernel))) (goodIn_sub (fun _ h => List.mem_cons_of_mem _ (List.mem_append_right _ h)) (by decide +kernel))
set_option maxRecDepth 20000 in
theorem gL_writes_L_issue : GoodIn wsL_writes (va_wsS RL 81 yL_issue wsL_issue) := goodIn_app (goodIn_of _ (by decide +kernel)) ggL_writes_L_issue
set_option maxRecDepth 20000 in
theorem ggL_writes_L_relate : GoodIn wsL_writes wsL_relate := goodIn_ca (goodIn_r _ [55, 10, 56, 57, 58, 15, 59, 60, 61, 25, 26, 27, 17, 18, 28, 29, 30, 62, 63, 64, 65, 66, 67, 68, 69, 70] (by decide +kernel) (by decide +kernel)) (goodIn_sub (fun _ h => List.mem_cons_of_mem _ (List.mem_append_left _ (List.mem_append_right _ h))) (by decide +kernel))
set_option maxRecDepth 20000 in
theorem gL_writes_L_relate : GoodIn wsL_writes (va_wsS RL 85 yL_relate wsL_relate) := goodIn_app (goodIn_of _ (by decide +kernel)) ggL_writes_L_relate
theorem dL_writes_0 : decode cL_writes 0 = .ok (.iload_n 2, 1) := by decide +kernel
theorem dL_writes_1 : decode cL_writes 1 = .ok (.bipush 6, 2) := by decide +kernel
theorem dL_writes_3 : decode cL_writes 3 = .ok (.invokestatic 75, 3) := by decide +kernel
theorem dL_writes_6 : decode cL_writes 6 = .ok (.istore 7, 2) := by decide +kernel
theorem dL_writes_8 : decode cL_writes 8 = .ok (.iload_n 1, 1) := by decide +kernel
theorem dL_writes_9 : decode cL_writes 9 = .ok (.iconst 4, 1) := by decide +kernel
theorem dL_writes_10 : decode cL_writes 10 = .ok (.if_icmp .ge 304, 3) := by decide +kernel
theorem dL_writes_13 : decode cL_writes 13 = .ok (.iload_n 3, 1) := by decide +kernel
theorem dL_writes_14 : decode cL_writes 14 = .ok (.iconst 1, 1) := by decide +kernel
theorem dL_writes_15 : decode cL_writes 15 = .ok (.iand, 1) := by decide +kernel
theorem dL_writes_16 : decode cL_writes 16 = .ok (.istore 8, 2) := by decide +kernel
theorem dL_writes_18 : decode cL_writes 18 = .ok (.iload_n 3, 1) := by decide +kernel
theorem dL_writes_19 : decode cL_writes 19 = .ok (.iconst 1, 1) := by decide +kernel
theorem dL_writes_20 : decode cL_writes 20 = .ok (.ishr, 1) := by decide +kernel
theorem dL_writes_21 : decode cL_writes 21 = .ok (.iload_n 3, 1) := by decide +kernel
theorem dL_writes_22 : decode cL_writes 22 = .ok (.ldc 80, 2) := by decide +kernel
theorem dL_writes_24 : decode cL_writes 24 = .ok (.iand, 1) := by decide +kernel
theorem dL_writes_25 : decode cL_writes 25 = .ok (.ifCond .ne 8, 3) := by decide +kernel
theorem dL_writes_28 : decode cL_writes 28 = .ok (.bipush 101, 2) := by decide +kernel
theorem dL_writes_30 : decode cL_writes 30 = .ok (.goto 5, 3) := by decide +kernel

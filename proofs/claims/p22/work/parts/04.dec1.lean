theorem dX0_init_0 : decode cX0_init 0 = .ok (.aload_n 0, 1) := by decide +kernel
theorem dX0_init_1 : decode cX0_init 1 = .ok (.invokespecial 3, 3) := by decide +kernel
theorem dX0_init_4 : decode cX0_init 4 = .ok (.aload_n 0, 1) := by decide +kernel
theorem dX0_init_5 : decode cX0_init 5 = .ok (.bipush 10, 2) := by decide +kernel
theorem dX0_init_7 : decode cX0_init 7 = .ok (.anewarray 9, 3) := by decide +kernel
theorem dX0_init_10 : decode cX0_init 10 = .ok (.putfield 11, 3) := by decide +kernel
theorem dX0_init_13 : decode cX0_init 13 = .ok (.aload_n 0, 1) := by decide +kernel
theorem dX0_init_14 : decode cX0_init 14 = .ok (.iconst 2, 1) := by decide +kernel
theorem dX0_init_15 : decode cX0_init 15 = .ok (.bipush 10, 2) := by decide +kernel
theorem dX0_init_17 : decode cX0_init 17 = .ok (.multianewarray 17 2, 4) := by decide +kernel
theorem dX0_init_21 : decode cX0_init 21 = .ok (.putfield 19, 3) := by decide +kernel
theorem dX0_init_24 : decode cX0_init 24 = .ok (.aload_n 0, 1) := by decide +kernel
theorem dX0_init_25 : decode cX0_init 25 = .ok (.iconst 2, 1) := by decide +kernel
theorem dX0_init_26 : decode cX0_init 26 = .ok (.newarray .boolean, 2) := by decide +kernel
theorem dX0_init_28 : decode cX0_init 28 = .ok (.putfield 22, 3) := by decide +kernel
theorem dX0_init_31 : decode cX0_init 31 = .ok (.aload_n 0, 1) := by decide +kernel
theorem dX0_init_32 : decode cX0_init 32 = .ok (.iconst 2, 1) := by decide +kernel
theorem dX0_init_33 : decode cX0_init 33 = .ok (.newarray .int, 2) := by decide +kernel
theorem dX0_init_35 : decode cX0_init 35 = .ok (.putfield 26, 3) := by decide +kernel
theorem dX0_init_38 : decode cX0_init 38 = .ok (.aload_n 0, 1) := by decide +kernel
theorem dX0_init_39 : decode cX0_init 39 = .ok (.iconst 2, 1) := by decide +kernel
theorem dX0_init_40 : decode cX0_init 40 = .ok (.newarray .int, 2) := by decide +kernel
theorem dX0_init_42 : decode cX0_init 42 = .ok (.putfield 30, 3) := by decide +kernel
theorem dX0_init_45 : decode cX0_init 45 = .ok (.return_, 1) := by decide +kernel
theorem dX0_isDraft_0 : decode cX0_isDraft 0 = .ok (.aload_n 0, 1) := by decide +kernel
theorem dX0_isDraft_1 : decode cX0_isDraft 1 = .ok (.getfield 22, 3) := by decide +kernel
theorem dX0_isDraft_4 : decode cX0_isDraft 4 = .ok (.iconst 0, 1) := by decide +kernel
theorem dX0_isDraft_5 : decode cX0_isDraft 5 = .ok (.baload, 1) := by decide +kernel
theorem dX0_isDraft_6 : decode cX0_isDraft 6 = .ok (.ifCond .eq 12, 3) := by decide +kernel
theorem dX0_isDraft_9 : decode cX0_isDraft 9 = .ok (.aload_n 0, 1) := by decide +kernel
theorem dX0_isDraft_10 : decode cX0_isDraft 10 = .ok (.getfield 22, 3) := by decide +kernel
theorem dX0_isDraft_13 : decode cX0_isDraft 13 = .ok (.iconst 1, 1) := by decide +kernel
theorem dX0_isDraft_14 : decode cX0_isDraft 14 = .ok (.baload, 1) := by decide +kernel
theorem dX0_isDraft_15 : decode cX0_isDraft 15 = .ok (.ifCond .ne 7, 3) := by decide +kernel
theorem dX0_isDraft_18 : decode cX0_isDraft 18 = .ok (.iconst 1, 1) := by decide +kernel
theorem dX0_isDraft_19 : decode cX0_isDraft 19 = .ok (.goto 4, 3) := by decide +kernel
theorem dX0_isDraft_22 : decode cX0_isDraft 22 = .ok (.iconst 0, 1) := by decide +kernel
theorem dX0_isDraft_23 : decode cX0_isDraft 23 = .ok (.ireturn, 1) := by decide +kernel
theorem dX0_loseSignatures_0 : decode cX0_loseSignatures 0 = .ok (.aload_n 0, 1) := by decide +kernel
theorem dX0_loseSignatures_1 : decode cX0_loseSignatures 1 = .ok (.getfield 22, 3) := by decide +kernel
theorem dX0_loseSignatures_4 : decode cX0_loseSignatures 4 = .ok (.iconst 0, 1) := by decide +kernel
theorem dX0_loseSignatures_5 : decode cX0_loseSignatures 5 = .ok (.iconst 0, 1) := by decide +kernel
theorem dX0_loseSignatures_6 : decode cX0_loseSignatures 6 = .ok (.bastore, 1) := by decide +kernel
theorem dX0_loseSignatures_7 : decode cX0_loseSignatures 7 = .ok (.aload_n 0, 1) := by decide +kernel
theorem dX0_loseSignatures_8 : decode cX0_loseSignatures 8 = .ok (.getfield 22, 3) := by decide +kernel
theorem dX0_loseSignatures_11 : decode cX0_loseSignatures 11 = .ok (.iconst 1, 1) := by decide +kernel
theorem dX0_loseSignatures_12 : decode cX0_loseSignatures 12 = .ok (.iconst 0, 1) := by decide +kernel
theorem dX0_loseSignatures_13 : decode cX0_loseSignatures 13 = .ok (.bastore, 1) := by decide +kernel
theorem dX0_loseSignatures_14 : decode cX0_loseSignatures 14 = .ok (.return_, 1) := by decide +kernel
set_option maxRecDepth 20000 in
theorem ggX0_bringIn_X0_loseSignatures : GoodIn wsX0_bringIn wsX0_loseSignatures := goodIn_r _ [7, 8, 9, 10, 11, 12, 13] (by decide +kernel) (by decide +kernel)
set_option maxRecDepth 20000 in
theorem gX0_bringIn_X0_loseSignatures : GoodIn wsX0_bringIn (wsV RX0 33 RX0 yX0_loseSignatures wsX0_loseSignatures) := goodIn_app (goodIn_of _ (by decide +kernel)) ggX0_bringIn_X0_loseSignatures
theorem dX0_bringIn_0 : decode cX0_bringIn 0 = .ok (.aload_n 0, 1) := by decide +kernel
theorem dX0_bringIn_1 : decode cX0_bringIn 1 = .ok (.getfield 11, 3) := by decide +kernel
theorem dX0_bringIn_4 : decode cX0_bringIn 4 = .ok (.iload_n 2, 1) := by decide +kernel
theorem dX0_bringIn_5 : decode cX0_bringIn 5 = .ok (.aload_n 1, 1) := by decide +kernel
theorem dX0_bringIn_6 : decode cX0_bringIn 6 = .ok (.aastore, 1) := by decide +kernel
theorem dX0_bringIn_7 : decode cX0_bringIn 7 = .ok (.aload_n 0, 1) := by decide +kernel
theorem dX0_bringIn_8 : decode cX0_bringIn 8 = .ok (.getfield 19, 3) := by decide +kernel
theorem dX0_bringIn_11 : decode cX0_bringIn 11 = .ok (.iload_n 3, 1) := by decide +kernel
theorem dX0_bringIn_12 : decode cX0_bringIn 12 = .ok (.aaload, 1) := by decide +kernel
theorem dX0_bringIn_13 : decode cX0_bringIn 13 = .ok (.iload_n 2, 1) := by decide +kernel
theorem dX0_bringIn_14 : decode cX0_bringIn 14 = .ok (.iconst 1, 1) := by decide +kernel
theorem dX0_bringIn_15 : decode cX0_bringIn 15 = .ok (.iastore, 1) := by decide +kernel
theorem dX0_bringIn_16 : decode cX0_bringIn 16 = .ok (.aload_n 0, 1) := by decide +kernel
theorem dX0_bringIn_17 : decode cX0_bringIn 17 = .ok (.getfield 19, 3) := by decide +kernel
theorem dX0_bringIn_20 : decode cX0_bringIn 20 = .ok (.iconst 1, 1) := by decide +kernel
theorem dX0_bringIn_21 : decode cX0_bringIn 21 = .ok (.iload_n 3, 1) := by decide +kernel
theorem dX0_bringIn_22 : decode cX0_bringIn 22 = .ok (.isub, 1) := by decide +kernel
theorem dX0_bringIn_23 : decode cX0_bringIn 23 = .ok (.aaload, 1) := by decide +kernel
theorem dX0_bringIn_24 : decode cX0_bringIn 24 = .ok (.iload_n 2, 1) := by decide +kernel
theorem dX0_bringIn_25 : decode cX0_bringIn 25 = .ok (.iconst 0, 1) := by decide +kernel
theorem dX0_bringIn_26 : decode cX0_bringIn 26 = .ok (.iastore, 1) := by decide +kernel
theorem dX0_bringIn_27 : decode cX0_bringIn 27 = .ok (.aload_n 0, 1) := by decide +kernel
theorem dX0_bringIn_28 : decode cX0_bringIn 28 = .ok (.invokevirtual 33, 3) := by decide +kernel
theorem dX0_bringIn_31 : decode cX0_bringIn 31 = .ok (.return_, 1) := by decide +kernel
set_option maxRecDepth 20000 in
theorem ggX0_changeMark_X0_loseSignatures : GoodIn wsX0_changeMark wsX0_loseSignatures := goodIn_r _ [7, 8, 9, 10, 11, 12, 13] (by decide +kernel) (by decide +kernel)
set_option maxRecDepth 20000 in
theorem gX0_changeMark_X0_loseSignatures : GoodIn wsX0_changeMark (wsV RX0 33 RX0 yX0_loseSignatures wsX0_loseSignatures) := goodIn_app (goodIn_of _ (by decide +kernel)) ggX0_changeMark_X0_loseSignatures
theorem dX0_changeMark_0 : decode cX0_changeMark 0 = .ok (.aload_n 0, 1) := by decide +kernel
theorem dX0_changeMark_1 : decode cX0_changeMark 1 = .ok (.getfield 19, 3) := by decide +kernel
theorem dX0_changeMark_4 : decode cX0_changeMark 4 = .ok (.iload_n 1, 1) := by decide +kernel
theorem dX0_changeMark_5 : decode cX0_changeMark 5 = .ok (.aaload, 1) := by decide +kernel
theorem dX0_changeMark_6 : decode cX0_changeMark 6 = .ok (.iload_n 2, 1) := by decide +kernel
theorem dX0_changeMark_7 : decode cX0_changeMark 7 = .ok (.iaload, 1) := by decide +kernel
theorem dX0_changeMark_8 : decode cX0_changeMark 8 = .ok (.iload_n 3, 1) := by decide +kernel
theorem dX0_changeMark_9 : decode cX0_changeMark 9 = .ok (.if_icmp .ne 4, 3) := by decide +kernel
theorem dX0_changeMark_12 : decode cX0_changeMark 12 = .ok (.return_, 1) := by decide +kernel
theorem dX0_changeMark_13 : decode cX0_changeMark 13 = .ok (.aload_n 0, 1) := by decide +kernel
theorem dX0_changeMark_14 : decode cX0_changeMark 14 = .ok (.getfield 19, 3) := by decide +kernel
theorem dX0_changeMark_17 : decode cX0_changeMark 17 = .ok (.iload_n 1, 1) := by decide +kernel
theorem dX0_changeMark_18 : decode cX0_changeMark 18 = .ok (.aaload, 1) := by decide +kernel
theorem dX0_changeMark_19 : decode cX0_changeMark 19 = .ok (.iload_n 2, 1) := by decide +kernel
theorem dX0_changeMark_20 : decode cX0_changeMark 20 = .ok (.iload_n 3, 1) := by decide +kernel
theorem dX0_changeMark_21 : decode cX0_changeMark 21 = .ok (.iastore, 1) := by decide +kernel
theorem dX0_changeMark_22 : decode cX0_changeMark 22 = .ok (.aload_n 0, 1) := by decide +kernel
theorem dX0_changeMark_23 : decode cX0_changeMark 23 = .ok (.invokevirtual 33, 3) := by decide +kernel
theorem dX0_changeMark_26 : decode cX0_changeMark 26 = .ok (.aload_n 0, 1) := by decide +kernel
theorem dX0_changeMark_27 : decode cX0_changeMark 27 = .ok (.getfield 19, 3) := by decide +kernel
theorem dX0_changeMark_30 : decode cX0_changeMark 30 = .ok (.iconst 0, 1) := by decide +kernel
theorem dX0_changeMark_31 : decode cX0_changeMark 31 = .ok (.aaload, 1) := by decide +kernel
theorem dX0_changeMark_32 : decode cX0_changeMark 32 = .ok (.iload_n 2, 1) := by decide +kernel
theorem dX0_changeMark_33 : decode cX0_changeMark 33 = .ok (.iaload, 1) := by decide +kernel
theorem dX0_changeMark_34 : decode cX0_changeMark 34 = .ok (.iconst 1, 1) := by decide +kernel
theorem dX0_changeMark_35 : decode cX0_changeMark 35 = .ok (.if_icmp .eq 22, 3) := by decide +kernel
theorem dX0_changeMark_38 : decode cX0_changeMark 38 = .ok (.aload_n 0, 1) := by decide +kernel
theorem dX0_changeMark_39 : decode cX0_changeMark 39 = .ok (.getfield 19, 3) := by decide +kernel
theorem dX0_changeMark_42 : decode cX0_changeMark 42 = .ok (.iconst 1, 1) := by decide +kernel
theorem dX0_changeMark_43 : decode cX0_changeMark 43 = .ok (.aaload, 1) := by decide +kernel
theorem dX0_changeMark_44 : decode cX0_changeMark 44 = .ok (.iload_n 2, 1) := by decide +kernel
theorem dX0_changeMark_45 : decode cX0_changeMark 45 = .ok (.iaload, 1) := by decide +kernel
theorem dX0_changeMark_46 : decode cX0_changeMark 46 = .ok (.iconst 1, 1) := by decide +kernel
theorem dX0_changeMark_47 : decode cX0_changeMark 47 = .ok (.if_icmp .eq 10, 3) := by decide +kernel
theorem dX0_changeMark_50 : decode cX0_changeMark 50 = .ok (.aload_n 0, 1) := by decide +kernel
theorem dX0_changeMark_51 : decode cX0_changeMark 51 = .ok (.getfield 11, 3) := by decide +kernel
theorem dX0_changeMark_54 : decode cX0_changeMark 54 = .ok (.iload_n 2, 1) := by decide +kernel
theorem dX0_changeMark_55 : decode cX0_changeMark 55 = .ok (.aconst_null, 1) := by decide +kernel
theorem dX0_changeMark_56 : decode cX0_changeMark 56 = .ok (.aastore, 1) := by decide +kernel
theorem dX0_changeMark_57 : decode cX0_changeMark 57 = .ok (.return_, 1) := by decide +kernel
theorem dX0_clauseSet_0 : decode cX0_clauseSet 0 = .ok (.iconst 0, 1) := by decide +kernel
theorem dX0_clauseSet_1 : decode cX0_clauseSet 1 = .ok (.istore_n 1, 1) := by decide +kernel
theorem dX0_clauseSet_2 : decode cX0_clauseSet 2 = .ok (.iconst 0, 1) := by decide +kernel
theorem dX0_clauseSet_3 : decode cX0_clauseSet 3 = .ok (.istore_n 2, 1) := by decide +kernel
theorem dX0_clauseSet_4 : decode cX0_clauseSet 4 = .ok (.iload_n 2, 1) := by decide +kernel
theorem dX0_clauseSet_5 : decode cX0_clauseSet 5 = .ok (.bipush 10, 2) := by decide +kernel
theorem dX0_clauseSet_7 : decode cX0_clauseSet 7 = .ok (.if_icmp .ge 24, 3) := by decide +kernel
theorem dX0_clauseSet_10 : decode cX0_clauseSet 10 = .ok (.aload_n 0, 1) := by decide +kernel
theorem dX0_clauseSet_11 : decode cX0_clauseSet 11 = .ok (.getfield 11, 3) := by decide +kernel
theorem dX0_clauseSet_14 : decode cX0_clauseSet 14 = .ok (.iload_n 2, 1) := by decide +kernel
theorem dX0_clauseSet_15 : decode cX0_clauseSet 15 = .ok (.aaload, 1) := by decide +kernel
theorem dX0_clauseSet_16 : decode cX0_clauseSet 16 = .ok (.ifnull 9, 3) := by decide +kernel
theorem dX0_clauseSet_19 : decode cX0_clauseSet 19 = .ok (.iload_n 1, 1) := by decide +kernel
theorem dX0_clauseSet_20 : decode cX0_clauseSet 20 = .ok (.iconst 1, 1) := by decide +kernel
theorem dX0_clauseSet_21 : decode cX0_clauseSet 21 = .ok (.iload_n 2, 1) := by decide +kernel
theorem dX0_clauseSet_22 : decode cX0_clauseSet 22 = .ok (.ishl, 1) := by decide +kernel
theorem dX0_clauseSet_23 : decode cX0_clauseSet 23 = .ok (.ior, 1) := by decide +kernel
theorem dX0_clauseSet_24 : decode cX0_clauseSet 24 = .ok (.istore_n 1, 1) := by decide +kernel
theorem dX0_clauseSet_25 : decode cX0_clauseSet 25 = .ok (.iinc 2 1, 3) := by decide +kernel
theorem dX0_clauseSet_28 : decode cX0_clauseSet 28 = .ok (.goto (-24), 3) := by decide +kernel
theorem dX0_clauseSet_31 : decode cX0_clauseSet 31 = .ok (.iload_n 1, 1) := by decide +kernel
theorem dX0_clauseSet_32 : decode cX0_clauseSet 32 = .ok (.ireturn, 1) := by decide +kernel
theorem dX0_isAgreed_0 : decode cX0_isAgreed 0 = .ok (.iconst 0, 1) := by decide +kernel
theorem dX0_isAgreed_1 : decode cX0_isAgreed 1 = .ok (.istore_n 1, 1) := by decide +kernel
theorem dX0_isAgreed_2 : decode cX0_isAgreed 2 = .ok (.iload_n 1, 1) := by decide +kernel
theorem dX0_isAgreed_3 : decode cX0_isAgreed 3 = .ok (.bipush 10, 2) := by decide +kernel
theorem dX0_isAgreed_5 : decode cX0_isAgreed 5 = .ok (.if_icmp .ge 44, 3) := by decide +kernel
theorem dX0_isAgreed_8 : decode cX0_isAgreed 8 = .ok (.aload_n 0, 1) := by decide +kernel
theorem dX0_isAgreed_9 : decode cX0_isAgreed 9 = .ok (.getfield 11, 3) := by decide +kernel
theorem dX0_isAgreed_12 : decode cX0_isAgreed 12 = .ok (.iload_n 1, 1) := by decide +kernel
theorem dX0_isAgreed_13 : decode cX0_isAgreed 13 = .ok (.aaload, 1) := by decide +kernel
theorem dX0_isAgreed_14 : decode cX0_isAgreed 14 = .ok (.ifnull 29, 3) := by decide +kernel
theorem dX0_isAgreed_17 : decode cX0_isAgreed 17 = .ok (.aload_n 0, 1) := by decide +kernel
theorem dX0_isAgreed_18 : decode cX0_isAgreed 18 = .ok (.getfield 19, 3) := by decide +kernel
theorem dX0_isAgreed_21 : decode cX0_isAgreed 21 = .ok (.iconst 0, 1) := by decide +kernel
theorem dX0_isAgreed_22 : decode cX0_isAgreed 22 = .ok (.aaload, 1) := by decide +kernel
theorem dX0_isAgreed_23 : decode cX0_isAgreed 23 = .ok (.iload_n 1, 1) := by decide +kernel
theorem dX0_isAgreed_24 : decode cX0_isAgreed 24 = .ok (.iaload, 1) := by decide +kernel
theorem dX0_isAgreed_25 : decode cX0_isAgreed 25 = .ok (.iconst 1, 1) := by decide +kernel
theorem dX0_isAgreed_26 : decode cX0_isAgreed 26 = .ok (.if_icmp .ne 15, 3) := by decide +kernel
theorem dX0_isAgreed_29 : decode cX0_isAgreed 29 = .ok (.aload_n 0, 1) := by decide +kernel
theorem dX0_isAgreed_30 : decode cX0_isAgreed 30 = .ok (.getfield 19, 3) := by decide +kernel
theorem dX0_isAgreed_33 : decode cX0_isAgreed 33 = .ok (.iconst 1, 1) := by decide +kernel
theorem dX0_isAgreed_34 : decode cX0_isAgreed 34 = .ok (.aaload, 1) := by decide +kernel
theorem dX0_isAgreed_35 : decode cX0_isAgreed 35 = .ok (.iload_n 1, 1) := by decide +kernel
theorem dX0_isAgreed_36 : decode cX0_isAgreed 36 = .ok (.iaload, 1) := by decide +kernel
theorem dX0_isAgreed_37 : decode cX0_isAgreed 37 = .ok (.iconst 1, 1) := by decide +kernel
theorem dX0_isAgreed_38 : decode cX0_isAgreed 38 = .ok (.if_icmp .eq 5, 3) := by decide +kernel
theorem dX0_isAgreed_41 : decode cX0_isAgreed 41 = .ok (.iconst 0, 1) := by decide +kernel
theorem dX0_isAgreed_42 : decode cX0_isAgreed 42 = .ok (.ireturn, 1) := by decide +kernel
theorem dX0_isAgreed_43 : decode cX0_isAgreed 43 = .ok (.iinc 1 1, 3) := by decide +kernel
theorem dX0_isAgreed_46 : decode cX0_isAgreed 46 = .ok (.goto (-44), 3) := by decide +kernel
theorem dX0_isAgreed_49 : decode cX0_isAgreed 49 = .ok (.iconst 1, 1) := by decide +kernel
theorem dX0_isAgreed_50 : decode cX0_isAgreed 50 = .ok (.ireturn, 1) := by decide +kernel
theorem dX1_init_0 : decode cX1_init 0 = .ok (.aload_n 0, 1) := by decide +kernel
theorem dX1_init_1 : decode cX1_init 1 = .ok (.invokespecial 3, 3) := by decide +kernel
theorem dX1_init_4 : decode cX1_init 4 = .ok (.aload_n 0, 1) := by decide +kernel
theorem dX1_init_5 : decode cX1_init 5 = .ok (.iconst 0, 1) := by decide +kernel
theorem dX1_init_6 : decode cX1_init 6 = .ok (.putfield 9, 3) := by decide +kernel
theorem dX1_init_9 : decode cX1_init 9 = .ok (.aload_n 0, 1) := by decide +kernel
theorem dX1_init_10 : decode cX1_init 10 = .ok (.aload_n 1, 1) := by decide +kernel
theorem dX1_init_11 : decode cX1_init 11 = .ok (.putfield 15, 3) := by decide +kernel
theorem dX1_init_14 : decode cX1_init 14 = .ok (.aload_n 0, 1) := by decide +kernel
theorem dX1_init_15 : decode cX1_init 15 = .ok (.aload_n 2, 1) := by decide +kernel
theorem dX1_init_16 : decode cX1_init 16 = .ok (.putfield 19, 3) := by decide +kernel
theorem dX1_init_19 : decode cX1_init 19 = .ok (.aload_n 0, 1) := by decide +kernel
theorem dX1_init_20 : decode cX1_init 20 = .ok (.iload_n 3, 1) := by decide +kernel
theorem dX1_init_21 : decode cX1_init 21 = .ok (.putfield 23, 3) := by decide +kernel
theorem dX1_init_24 : decode cX1_init 24 = .ok (.return_, 1) := by decide +kernel
theorem dX1_canBeDone_0 : decode cX1_canBeDone 0 = .ok (.aload_n 0, 1) := by decide +kernel
theorem dX1_canBeDone_1 : decode cX1_canBeDone 1 = .ok (.getfield 9, 3) := by decide +kernel
theorem dX1_canBeDone_4 : decode cX1_canBeDone 4 = .ok (.ifCond .eq 11, 3) := by decide +kernel
theorem dX1_canBeDone_7 : decode cX1_canBeDone 7 = .ok (.aload_n 0, 1) := by decide +kernel
theorem dX1_canBeDone_8 : decode cX1_canBeDone 8 = .ok (.getfield 9, 3) := by decide +kernel
theorem dX1_canBeDone_11 : decode cX1_canBeDone 11 = .ok (.iconst 2, 1) := by decide +kernel
theorem dX1_canBeDone_12 : decode cX1_canBeDone 12 = .ok (.if_icmp .ne 7, 3) := by decide +kernel
theorem dX1_canBeDone_15 : decode cX1_canBeDone 15 = .ok (.iconst 1, 1) := by decide +kernel
theorem dX1_canBeDone_16 : decode cX1_canBeDone 16 = .ok (.goto 4, 3) := by decide +kernel
theorem dX1_canBeDone_19 : decode cX1_canBeDone 19 = .ok (.iconst 0, 1) := by decide +kernel
theorem dX1_canBeDone_20 : decode cX1_canBeDone 20 = .ok (.ireturn, 1) := by decide +kernel
set_option maxRecDepth 20000 in
theorem ggX1_isHeldUp_X1_canBeDone : GoodIn wsX1_isHeldUp wsX1_canBeDone := goodIn_r _ [9, 10, 11, 12, 13, 14] (by decide +kernel) (by decide +kernel)
set_option maxRecDepth 20000 in
theorem gX1_isHeldUp_X1_canBeDone : GoodIn wsX1_isHeldUp (wsV RX1 26 RX1 yX1_canBeDone wsX1_canBeDone) := goodIn_app (goodIn_of _ (by decide +kernel)) ggX1_isHeldUp_X1_canBeDone
theorem dX1_isHeldUp_0 : decode cX1_isHeldUp 0 = .ok (.aload_n 0, 1) := by decide +kernel
theorem dX1_isHeldUp_1 : decode cX1_isHeldUp 1 = .ok (.invokevirtual 26, 3) := by decide +kernel
theorem dX1_isHeldUp_4 : decode cX1_isHeldUp 4 = .ok (.ifCond .eq 27, 3) := by decide +kernel
theorem dX1_isHeldUp_7 : decode cX1_isHeldUp 7 = .ok (.aload_n 0, 1) := by decide +kernel
theorem dX1_isHeldUp_8 : decode cX1_isHeldUp 8 = .ok (.getfield 15, 3) := by decide +kernel
theorem dX1_isHeldUp_11 : decode cX1_isHeldUp 11 = .ok (.getfield 30, 3) := by decide +kernel
theorem dX1_isHeldUp_14 : decode cX1_isHeldUp 14 = .ok (.iconst 1, 1) := by decide +kernel
theorem dX1_isHeldUp_15 : decode cX1_isHeldUp 15 = .ok (.aload_n 0, 1) := by decide +kernel
theorem dX1_isHeldUp_16 : decode cX1_isHeldUp 16 = .ok (.getfield 19, 3) := by decide +kernel
theorem dX1_isHeldUp_19 : decode cX1_isHeldUp 19 = .ok (.getfield 36, 3) := by decide +kernel
theorem dX1_isHeldUp_22 : decode cX1_isHeldUp 22 = .ok (.isub, 1) := by decide +kernel
theorem dX1_isHeldUp_23 : decode cX1_isHeldUp 23 = .ok (.iaload, 1) := by decide +kernel
theorem dX1_isHeldUp_24 : decode cX1_isHeldUp 24 = .ok (.ifCond .le 7, 3) := by decide +kernel
theorem dX1_isHeldUp_27 : decode cX1_isHeldUp 27 = .ok (.iconst 1, 1) := by decide +kernel
theorem dX1_isHeldUp_28 : decode cX1_isHeldUp 28 = .ok (.goto 4, 3) := by decide +kernel
theorem dX1_isHeldUp_31 : decode cX1_isHeldUp 31 = .ok (.iconst 0, 1) := by decide +kernel
theorem dX1_isHeldUp_32 : decode cX1_isHeldUp 32 = .ok (.ireturn, 1) := by decide +kernel
theorem dX1_move_0 : decode cX1_move 0 = .ok (.aload_n 0, 1) := by decide +kernel
theorem dX1_move_1 : decode cX1_move 1 = .ok (.iload_n 1, 1) := by decide +kernel
theorem dX1_move_2 : decode cX1_move 2 = .ok (.putfield 9, 3) := by decide +kernel
theorem dX1_move_5 : decode cX1_move 5 = .ok (.aload_n 0, 1) := by decide +kernel
theorem dX1_move_6 : decode cX1_move 6 = .ok (.iload_n 2, 1) := by decide +kernel
theorem dX1_move_7 : decode cX1_move 7 = .ok (.putfield 23, 3) := by decide +kernel
theorem dX1_move_10 : decode cX1_move 10 = .ok (.return_, 1) := by decide +kernel
theorem dX1_countBreach_0 : decode cX1_countBreach 0 = .ok (.aload_n 0, 1) := by decide +kernel
theorem dX1_countBreach_1 : decode cX1_countBreach 1 = .ok (.getfield 15, 3) := by decide +kernel
theorem dX1_countBreach_4 : decode cX1_countBreach 4 = .ok (.getfield 30, 3) := by decide +kernel
theorem dX1_countBreach_7 : decode cX1_countBreach 7 = .ok (.aload_n 0, 1) := by decide +kernel
theorem dX1_countBreach_8 : decode cX1_countBreach 8 = .ok (.getfield 19, 3) := by decide +kernel
theorem dX1_countBreach_11 : decode cX1_countBreach 11 = .ok (.getfield 36, 3) := by decide +kernel
theorem dX1_countBreach_14 : decode cX1_countBreach 14 = .ok (.dup2, 1) := by decide +kernel
theorem dX1_countBreach_15 : decode cX1_countBreach 15 = .ok (.iaload, 1) := by decide +kernel
theorem dX1_countBreach_16 : decode cX1_countBreach 16 = .ok (.iload_n 1, 1) := by decide +kernel
theorem dX1_countBreach_17 : decode cX1_countBreach 17 = .ok (.iadd, 1) := by decide +kernel
theorem dX1_countBreach_18 : decode cX1_countBreach 18 = .ok (.iastore, 1) := by decide +kernel
theorem dX1_countBreach_19 : decode cX1_countBreach 19 = .ok (.aload_n 0, 1) := by decide +kernel
theorem dX1_countBreach_20 : decode cX1_countBreach 20 = .ok (.getfield 15, 3) := by decide +kernel
theorem dX1_countBreach_23 : decode cX1_countBreach 23 = .ok (.getfield 41, 3) := by decide +kernel
theorem dX1_countBreach_26 : decode cX1_countBreach 26 = .ok (.aload_n 0, 1) := by decide +kernel
theorem dX1_countBreach_27 : decode cX1_countBreach 27 = .ok (.getfield 19, 3) := by decide +kernel
theorem dX1_countBreach_30 : decode cX1_countBreach 30 = .ok (.getfield 36, 3) := by decide +kernel
theorem dX1_countBreach_33 : decode cX1_countBreach 33 = .ok (.dup2, 1) := by decide +kernel
theorem dX1_countBreach_34 : decode cX1_countBreach 34 = .ok (.iaload, 1) := by decide +kernel
theorem dX1_countBreach_35 : decode cX1_countBreach 35 = .ok (.iload_n 1, 1) := by decide +kernel
theorem dX1_countBreach_36 : decode cX1_countBreach 36 = .ok (.aload_n 0, 1) := by decide +kernel
theorem dX1_countBreach_37 : decode cX1_countBreach 37 = .ok (.getfield 19, 3) := by decide +kernel
theorem dX1_countBreach_40 : decode cX1_countBreach 40 = .ok (.getfield 44, 3) := by decide +kernel
theorem dX1_countBreach_43 : decode cX1_countBreach 43 = .ok (.imul, 1) := by decide +kernel
theorem dX1_countBreach_44 : decode cX1_countBreach 44 = .ok (.iadd, 1) := by decide +kernel
theorem dX1_countBreach_45 : decode cX1_countBreach 45 = .ok (.iastore, 1) := by decide +kernel
theorem dX1_countBreach_46 : decode cX1_countBreach 46 = .ok (.return_, 1) := by decide +kernel
theorem dX2_init_0 : decode cX2_init 0 = .ok (.aload_n 0, 1) := by decide +kernel
theorem dX2_init_1 : decode cX2_init 1 = .ok (.invokespecial 1, 3) := by decide +kernel
theorem dX2_init_4 : decode cX2_init 4 = .ok (.aload_n 0, 1) := by decide +kernel
theorem dX2_init_5 : decode cX2_init 5 = .ok (.iload_n 1, 1) := by decide +kernel
theorem dX2_init_6 : decode cX2_init 6 = .ok (.putfield 7, 3) := by decide +kernel
theorem dX2_init_9 : decode cX2_init 9 = .ok (.aload_n 0, 1) := by decide +kernel
theorem dX2_init_10 : decode cX2_init 10 = .ok (.iload_n 2, 1) := by decide +kernel
theorem dX2_init_11 : decode cX2_init 11 = .ok (.putfield 13, 3) := by decide +kernel
theorem dX2_init_14 : decode cX2_init 14 = .ok (.aload_n 0, 1) := by decide +kernel
theorem dX2_init_15 : decode cX2_init 15 = .ok (.iload_n 3, 1) := by decide +kernel
theorem dX2_init_16 : decode cX2_init 16 = .ok (.putfield 16, 3) := by decide +kernel
theorem dX2_init_19 : decode cX2_init 19 = .ok (.aload_n 0, 1) := by decide +kernel
theorem dX2_init_20 : decode cX2_init 20 = .ok (.iload 4, 2) := by decide +kernel
theorem dX2_init_22 : decode cX2_init 22 = .ok (.putfield 19, 3) := by decide +kernel
theorem dX2_init_25 : decode cX2_init 25 = .ok (.aload_n 0, 1) := by decide +kernel
theorem dX2_init_26 : decode cX2_init 26 = .ok (.iload 5, 2) := by decide +kernel
theorem dX2_init_28 : decode cX2_init 28 = .ok (.putfield 22, 3) := by decide +kernel
theorem dX2_init_31 : decode cX2_init 31 = .ok (.return_, 1) := by decide +kernel
set_option maxRecDepth 20000 in
theorem ggX3_init_Jx4a65c_init_da8c8 : GoodIn wsX3_init wsJx4a65c_init_da8c8 := goodIn_r _ [17, 18, 19, 20, 21, 22, 23, 24, 25, 26, 27, 28, 29, 2, 3, 36, 37, 38] (by decide +kernel) (by decide +kernel)
set_option maxRecDepth 20000 in
theorem gX3_init_Jx4a65c_init_da8c8 : GoodIn wsX3_init (wsJx4a65c_init_da8c8) := ggX3_init_Jx4a65c_init_da8c8
theorem dX3_init_0 : decode cX3_init 0 = .ok (.aload_n 0, 1) := by decide +kernel
theorem dX3_init_1 : decode cX3_init 1 = .ok (.invokespecial 3, 3) := by decide +kernel
theorem dX3_init_4 : decode cX3_init 4 = .ok (.aload_n 0, 1) := by decide +kernel
theorem dX3_init_5 : decode cX3_init 5 = .ok (.bipush 10, 2) := by decide +kernel
theorem dX3_init_7 : decode cX3_init 7 = .ok (.anewarray 9, 3) := by decide +kernel
theorem dX3_init_10 : decode cX3_init 10 = .ok (.putfield 11, 3) := by decide +kernel
theorem dX3_init_13 : decode cX3_init 13 = .ok (.aload_n 0, 1) := by decide +kernel
theorem dX3_init_14 : decode cX3_init 14 = .ok (.bipush 10, 2) := by decide +kernel
theorem dX3_init_16 : decode cX3_init 16 = .ok (.newarray .int, 2) := by decide +kernel
theorem dX3_init_18 : decode cX3_init 18 = .ok (.putfield 15, 3) := by decide +kernel
theorem dX3_init_21 : decode cX3_init 21 = .ok (.aload_n 0, 1) := by decide +kernel
theorem dX3_init_22 : decode cX3_init 22 = .ok (.bipush 10, 2) := by decide +kernel
theorem dX3_init_24 : decode cX3_init 24 = .ok (.newarray .int, 2) := by decide +kernel
theorem dX3_init_26 : decode cX3_init 26 = .ok (.putfield 19, 3) := by decide +kernel
theorem dX3_init_29 : decode cX3_init 29 = .ok (.aload_n 0, 1) := by decide +kernel
theorem dX3_init_30 : decode cX3_init 30 = .ok (.new 22, 3) := by decide +kernel
theorem dX3_init_33 : decode cX3_init 33 = .ok (.dup, 1) := by decide +kernel
theorem dX3_init_34 : decode cX3_init 34 = .ok (.invokespecial 24, 3) := by decide +kernel
theorem dX3_init_37 : decode cX3_init 37 = .ok (.putfield 25, 3) := by decide +kernel
theorem dX3_init_40 : decode cX3_init 40 = .ok (.aload_n 0, 1) := by decide +kernel
theorem dX3_init_41 : decode cX3_init 41 = .ok (.new 22, 3) := by decide +kernel
theorem dX3_init_44 : decode cX3_init 44 = .ok (.dup, 1) := by decide +kernel
theorem dX3_init_45 : decode cX3_init 45 = .ok (.invokespecial 24, 3) := by decide +kernel
theorem dX3_init_48 : decode cX3_init 48 = .ok (.putfield 29, 3) := by decide +kernel
theorem dX3_init_51 : decode cX3_init 51 = .ok (.aload_n 0, 1) := by decide +kernel
theorem dX3_init_52 : decode cX3_init 52 = .ok (.iconst 0, 1) := by decide +kernel
theorem dX3_init_53 : decode cX3_init 53 = .ok (.putfield 32, 3) := by decide +kernel
theorem dX3_init_56 : decode cX3_init 56 = .ok (.return_, 1) := by decide +kernel
set_option maxRecDepth 20000 in
theorem ggX3_issue_X3_checkClause : GoodIn wsX3_issue wsX3_checkClause := goodIn_ca (goodIn_r _ [12, 1, 2, 13, 14, 11, 15] (by decide +kernel) (by decide +kernel)) (goodIn_sub (fun _ h => List.mem_cons_of_mem _ (List.mem_append_left _ (List.mem_append_right _ h))) (by decide +kernel))
set_option maxRecDepth 20000 in
theorem gX3_issue_X3_checkClause : GoodIn wsX3_issue (va_wsS RX3 36 yX3_checkClause wsX3_checkClause) := goodIn_app (goodIn_of _ (by decide +kernel)) ggX3_issue_X3_checkClause
set_option maxRecDepth 20000 in
theorem ggX3_issue_X3_checkSide : GoodIn wsX3_issue wsX3_checkSide := goodIn_ca (goodIn_r _ [18, 1, 2, 13, 14, 11, 15] (by decide +kernel) (by decide +kernel)) (goodIn_sub (fun _ h => List.mem_cons_of_mem _ (List.mem_append_left _ (List.mem_append_right _ h))) (by decide +kernel))
set_option maxRecDepth 20000 in
theorem gX3_issue_X3_checkSide : GoodIn wsX3_issue (va_wsS RX3 40 yX3_checkSide wsX3_checkSide) := goodIn_app (goodIn_of _ (by decide +kernel)) ggX3_issue_X3_checkSide
set_option maxRecDepth 20000 in
theorem ggX3_issue_X3_isWithin : GoodIn wsX3_issue wsX3_isWithin := goodIn_r _ [15] (by decide +kernel) (by decide +kernel)
set_option maxRecDepth 20000 in
theorem gX3_issue_X3_isWithin : GoodIn wsX3_issue (va_wsS RX3 43 yX3_isWithin wsX3_isWithin) := goodIn_app (goodIn_of _ (by decide +kernel)) ggX3_issue_X3_isWithin
set_option maxRecDepth 20000 in
theorem ggX3_issue_X3_newestNumber : GoodIn wsX3_issue wsX3_newestNumber := goodIn_r _ [22, 5, 23, 24, 11, 25, 26, 38, 39, 40, 41, 42, 43, 44, 45, 46, 47, 48] (by decide +kernel) (by decide +kernel)
set_option maxRecDepth 20000 in
theorem gX3_issue_X3_newestNumber : GoodIn wsX3_issue (wsV RX3 54 RX3 yX3_newestNumber wsX3_newestNumber) := goodIn_app (goodIn_of _ (by decide +kernel)) ggX3_issue_X3_newestNumber
set_option maxRecDepth 20000 in
theorem ggX3_issue_X2_init : GoodIn wsX3_issue wsX2_init := goodIn_r _ [29, 30, 31, 32, 33, 34, 35, 36, 37, 44, 45, 46, 47, 48] (by decide +kernel) (by decide +kernel)
set_option maxRecDepth 20000 in
theorem gX3_issue_X2_init : GoodIn wsX3_issue (wsX2_init) := ggX3_issue_X2_init
theorem dX3_issue_0 : decode cX3_issue 0 = .ok (.iload_n 1, 1) := by decide +kernel
theorem dX3_issue_1 : decode cX3_issue 1 = .ok (.invokestatic 36, 3) := by decide +kernel
theorem dX3_issue_4 : decode cX3_issue 4 = .ok (.iload_n 2, 1) := by decide +kernel
theorem dX3_issue_5 : decode cX3_issue 5 = .ok (.invokestatic 40, 3) := by decide +kernel
theorem dX3_issue_8 : decode cX3_issue 8 = .ok (.iload_n 3, 1) := by decide +kernel
theorem dX3_issue_9 : decode cX3_issue 9 = .ok (.iconst 0, 1) := by decide +kernel
theorem dX3_issue_10 : decode cX3_issue 10 = .ok (.bipush 100, 2) := by decide +kernel
theorem dX3_issue_12 : decode cX3_issue 12 = .ok (.invokestatic 43, 3) := by decide +kernel
theorem dX3_issue_15 : decode cX3_issue 15 = .ok (.ifCond .eq 26, 3) := by decide +kernel
theorem dX3_issue_18 : decode cX3_issue 18 = .ok (.iload 4, 2) := by decide +kernel
theorem dX3_issue_20 : decode cX3_issue 20 = .ok (.iconst 0, 1) := by decide +kernel
theorem dX3_issue_21 : decode cX3_issue 21 = .ok (.bipush 50, 2) := by decide +kernel
theorem dX3_issue_23 : decode cX3_issue 23 = .ok (.invokestatic 43, 3) := by decide +kernel
theorem dX3_issue_26 : decode cX3_issue 26 = .ok (.ifCond .eq 15, 3) := by decide +kernel
theorem dX3_issue_29 : decode cX3_issue 29 = .ok (.iload 5, 2) := by decide +kernel
theorem dX3_issue_31 : decode cX3_issue 31 = .ok (.iconst 0, 1) := by decide +kernel
theorem dX3_issue_32 : decode cX3_issue 32 = .ok (.sipush 1000, 3) := by decide +kernel
theorem dX3_issue_35 : decode cX3_issue 35 = .ok (.invokestatic 43, 3) := by decide +kernel
theorem dX3_issue_38 : decode cX3_issue 38 = .ok (.ifCond .ne 13, 3) := by decide +kernel
theorem dX3_issue_41 : decode cX3_issue 41 = .ok (.new 47, 3) := by decide +kernel
theorem dX3_issue_44 : decode cX3_issue 44 = .ok (.dup, 1) := by decide +kernel
theorem dX3_issue_45 : decode cX3_issue 45 = .ok (.ldc 49, 2) := by decide +kernel
theorem dX3_issue_47 : decode cX3_issue 47 = .ok (.invokespecial 51, 3) := by decide +kernel
theorem dX3_issue_50 : decode cX3_issue 50 = .ok (.athrow, 1) := by decide +kernel
theorem dX3_issue_51 : decode cX3_issue 51 = .ok (.aload_n 0, 1) := by decide +kernel
theorem dX3_issue_52 : decode cX3_issue 52 = .ok (.iload_n 1, 1) := by decide +kernel
theorem dX3_issue_53 : decode cX3_issue 53 = .ok (.invokevirtual 54, 3) := by decide +kernel
theorem dX3_issue_56 : decode cX3_issue 56 = .ok (.iconst 1, 1) := by decide +kernel
theorem dX3_issue_57 : decode cX3_issue 57 = .ok (.iadd, 1) := by decide +kernel
theorem dX3_issue_58 : decode cX3_issue 58 = .ok (.istore 6, 2) := by decide +kernel
theorem dX3_issue_60 : decode cX3_issue 60 = .ok (.iload 6, 2) := by decide +kernel
theorem dX3_issue_62 : decode cX3_issue 62 = .ok (.bipush 9, 2) := by decide +kernel
theorem dX3_issue_64 : decode cX3_issue 64 = .ok (.if_icmp .le 13, 3) := by decide +kernel
theorem dX3_issue_67 : decode cX3_issue 67 = .ok (.new 58, 3) := by decide +kernel
theorem dX3_issue_70 : decode cX3_issue 70 = .ok (.dup, 1) := by decide +kernel
theorem dX3_issue_71 : decode cX3_issue 71 = .ok (.ldc 60, 2) := by decide +kernel
theorem dX3_issue_73 : decode cX3_issue 73 = .ok (.invokespecial 62, 3) := by decide +kernel
theorem dX3_issue_76 : decode cX3_issue 76 = .ok (.athrow, 1) := by decide +kernel
theorem dX3_issue_77 : decode cX3_issue 77 = .ok (.aload_n 0, 1) := by decide +kernel
theorem dX3_issue_78 : decode cX3_issue 78 = .ok (.getfield 11, 3) := by decide +kernel
theorem dX3_issue_81 : decode cX3_issue 81 = .ok (.iload_n 1, 1) := by decide +kernel
theorem dX3_issue_82 : decode cX3_issue 82 = .ok (.new 9, 3) := by decide +kernel
theorem dX3_issue_85 : decode cX3_issue 85 = .ok (.dup, 1) := by decide +kernel
theorem dX3_issue_86 : decode cX3_issue 86 = .ok (.iload 6, 2) := by decide +kernel
theorem dX3_issue_88 : decode cX3_issue 88 = .ok (.iload_n 2, 1) := by decide +kernel
theorem dX3_issue_89 : decode cX3_issue 89 = .ok (.iload_n 3, 1) := by decide +kernel
theorem dX3_issue_90 : decode cX3_issue 90 = .ok (.iload 4, 2) := by decide +kernel
theorem dX3_issue_92 : decode cX3_issue 92 = .ok (.iload 5, 2) := by decide +kernel
theorem dX3_issue_94 : decode cX3_issue 94 = .ok (.invokespecial 63, 3) := by decide +kernel
theorem dX3_issue_97 : decode cX3_issue 97 = .ok (.aastore, 1) := by decide +kernel
theorem dX3_issue_98 : decode cX3_issue 98 = .ok (.iload 6, 2) := by decide +kernel
theorem dX3_issue_100 : decode cX3_issue 100 = .ok (.ireturn, 1) := by decide +kernel
set_option maxRecDepth 20000 in
theorem ggX3_relate_X3_checkClause : GoodIn wsX3_relate wsX3_checkClause := goodIn_ca (goodIn_r _ [6, 7, 8, 9, 10, 5, 11] (by decide +kernel) (by decide +kernel)) (goodIn_sub (fun _ h => List.mem_cons_of_mem _ (List.mem_append_right _ h)) (by decide +kernel))
set_option maxRecDepth 20000 in
theorem gX3_relate_X3_checkClause : GoodIn wsX3_relate (va_wsS RX3 36 yX3_checkClause wsX3_checkClause) := goodIn_app (goodIn_of _ (by decide +kernel)) ggX3_relate_X3_checkClause
set_option maxRecDepth 20000 in
theorem ggX3_relate_X3_checkOtherClauses : GoodIn wsX3_relate wsX3_checkOtherClauses := goodIn_ca (goodIn_r _ [14, 7, 8, 9, 10, 5, 11] (by decide +kernel) (by decide +kernel)) (goodIn_sub (fun _ h => List.mem_cons_of_mem _ (List.mem_append_right _ h)) (by decide +kernel))
set_option maxRecDepth 20000 in
theorem gX3_relate_X3_checkOtherClauses : GoodIn wsX3_relate (va_wsS RX3 66 yX3_checkOtherClauses wsX3_checkOtherClauses) := goodIn_app (goodIn_of _ (by decide +kernel)) ggX3_relate_X3_checkOtherClauses
theorem dX3_relate_0 : decode cX3_relate 0 = .ok (.iload_n 1, 1) := by decide +kernel
theorem dX3_relate_1 : decode cX3_relate 1 = .ok (.invokestatic 36, 3) := by decide +kernel
theorem dX3_relate_4 : decode cX3_relate 4 = .ok (.iload_n 1, 1) := by decide +kernel
theorem dX3_relate_5 : decode cX3_relate 5 = .ok (.iload_n 2, 1) := by decide +kernel
theorem dX3_relate_6 : decode cX3_relate 6 = .ok (.invokestatic 66, 3) := by decide +kernel
theorem dX3_relate_9 : decode cX3_relate 9 = .ok (.iload_n 1, 1) := by decide +kernel
theorem dX3_relate_10 : decode cX3_relate 10 = .ok (.iload_n 3, 1) := by decide +kernel
theorem dX3_relate_11 : decode cX3_relate 11 = .ok (.invokestatic 66, 3) := by decide +kernel
theorem dX3_relate_14 : decode cX3_relate 14 = .ok (.aload_n 0, 1) := by decide +kernel
theorem dX3_relate_15 : decode cX3_relate 15 = .ok (.getfield 15, 3) := by decide +kernel
theorem dX3_relate_18 : decode cX3_relate 18 = .ok (.iload_n 1, 1) := by decide +kernel
theorem dX3_relate_19 : decode cX3_relate 19 = .ok (.iload_n 2, 1) := by decide +kernel
theorem dX3_relate_20 : decode cX3_relate 20 = .ok (.iastore, 1) := by decide +kernel
theorem dX3_relate_21 : decode cX3_relate 21 = .ok (.aload_n 0, 1) := by decide +kernel
theorem dX3_relate_22 : decode cX3_relate 22 = .ok (.getfield 19, 3) := by decide +kernel
theorem dX3_relate_25 : decode cX3_relate 25 = .ok (.iload_n 1, 1) := by decide +kernel
theorem dX3_relate_26 : decode cX3_relate 26 = .ok (.iload_n 3, 1) := by decide +kernel
theorem dX3_relate_27 : decode cX3_relate 27 = .ok (.iastore, 1) := by decide +kernel
theorem dX3_relate_28 : decode cX3_relate 28 = .ok (.return_, 1) := by decide +kernel
set_option maxRecDepth 20000 in
theorem ggX3_latest_X3_checkClause : GoodIn wsX3_latest wsX3_checkClause := goodIn_ca (goodIn_r _ [4, 5, 6, 7, 8, 3, 9] (by decide +kernel) (by decide +kernel)) (goodIn_sub (fun _ h => List.mem_cons_of_mem _ (List.mem_append_right _ h)) (by decide +kernel))
set_option maxRecDepth 20000 in
theorem gX3_latest_X3_checkClause : GoodIn wsX3_latest (va_wsS RX3 36 yX3_checkClause wsX3_checkClause) := goodIn_app (goodIn_of _ (by decide +kernel)) ggX3_latest_X3_checkClause
set_option maxRecDepth 20000 in
theorem ggX3_latest_X3_newestNumber : GoodIn wsX3_latest wsX3_newestNumber := goodIn_r _ [13, 14, 15, 16, 3, 17, 18, 19, 20, 21, 22, 23, 24, 25, 26, 27, 28, 29] (by decide +kernel) (by decide +kernel)
set_option maxRecDepth 20000 in
theorem gX3_latest_X3_newestNumber : GoodIn wsX3_latest (wsV RX3 54 RX3 yX3_newestNumber wsX3_newestNumber) := goodIn_app (goodIn_of _ (by decide +kernel)) ggX3_latest_X3_newestNumber
theorem dX3_latest_0 : decode cX3_latest 0 = .ok (.iload_n 1, 1) := by decide +kernel
theorem dX3_latest_1 : decode cX3_latest 1 = .ok (.invokestatic 36, 3) := by decide +kernel
theorem dX3_latest_4 : decode cX3_latest 4 = .ok (.aload_n 0, 1) := by decide +kernel
theorem dX3_latest_5 : decode cX3_latest 5 = .ok (.iload_n 1, 1) := by decide +kernel
theorem dX3_latest_6 : decode cX3_latest 6 = .ok (.invokevirtual 54, 3) := by decide +kernel
theorem dX3_latest_9 : decode cX3_latest 9 = .ok (.ireturn, 1) := by decide +kernel
set_option maxRecDepth 20000 in
theorem ggX3_begin_Jx4a65c_size_8abf5 : GoodIn wsX3_begin wsJx4a65c_size_8abf5 := goodIn_r _ [11, 12, 92, 93, 94] (by decide +kernel) (by decide +kernel)
set_option maxRecDepth 20000 in
theorem gX3_begin_Jx4a65c_size_8abf5 : GoodIn wsX3_begin (wsV RX3 70 RJx4a65c yJx4a65c_size_8abf5 wsJx4a65c_size_8abf5) := goodIn_app (goodIn_of _ (by decide +kernel)) ggX3_begin_Jx4a65c_size_8abf5
set_option maxRecDepth 20000 in
theorem ggX3_begin_X0_init : GoodIn wsX3_begin wsX0_init := goodIn_r _ [14, 15, 16, 17, 18, 19, 20, 21, 22, 23, 24, 25, 26, 87, 88, 89, 90, 91] (by decide +kernel) (by decide +kernel)
set_option maxRecDepth 20000 in
theorem gX3_begin_X0_init_n78 : GoodIn wsX3_begin (wsX0_init) := ggX3_begin_X0_init
set_option maxRecDepth 20000 in
theorem ggX3_begin_Jx4a65c_add_9ea2d : GoodIn wsX3_begin wsJx4a65c_add_9ea2d := goodIn_r _ [30, 31, 32, 33, 12, 34, 35, 36, 10, 37, 38, 39, 40, 41, 42, 43, 44, 45, 46, 47, 48, 49, 50, 51, 52, 53, 54, 55, 56, 57, 58, 59, 60, 61, 62, 63, 64, 65, 66, 67, 68, 69, 70, 71, 72, 73, 74, 75, 76, 77, 78, 79, 80, 92, 93, 94] (by decide +kernel) (by decide +kernel)
set_option maxRecDepth 20000 in
theorem gX3_begin_Jx4a65c_add_9ea2d : GoodIn wsX3_begin (wsV RX3 79 RJx4a65c yJx4a65c_add_9ea2d wsJx4a65c_add_9ea2d) := goodIn_app (goodIn_of _ (by decide +kernel)) ggX3_begin_Jx4a65c_add_9ea2d
theorem dX3_begin_0 : decode cX3_begin 0 = .ok (.aload_n 0, 1) := by decide +kernel
theorem dX3_begin_1 : decode cX3_begin 1 = .ok (.getfield 25, 3) := by decide +kernel
theorem dX3_begin_4 : decode cX3_begin 4 = .ok (.invokevirtual 70, 3) := by decide +kernel
theorem dX3_begin_7 : decode cX3_begin 7 = .ok (.istore_n 1, 1) := by decide +kernel
theorem dX3_begin_8 : decode cX3_begin 8 = .ok (.iload_n 1, 1) := by decide +kernel
theorem dX3_begin_9 : decode cX3_begin 9 = .ok (.bipush 10, 2) := by decide +kernel
theorem dX3_begin_11 : decode cX3_begin 11 = .ok (.if_icmp .lt 13, 3) := by decide +kernel
theorem dX3_begin_14 : decode cX3_begin 14 = .ok (.new 58, 3) := by decide +kernel
theorem dX3_begin_17 : decode cX3_begin 17 = .ok (.dup, 1) := by decide +kernel
theorem dX3_begin_18 : decode cX3_begin 18 = .ok (.ldc 74, 2) := by decide +kernel
theorem dX3_begin_20 : decode cX3_begin 20 = .ok (.invokespecial 62, 3) := by decide +kernel
theorem dX3_begin_23 : decode cX3_begin 23 = .ok (.athrow, 1) := by decide +kernel
theorem dX3_begin_24 : decode cX3_begin 24 = .ok (.aload_n 0, 1) := by decide +kernel
theorem dX3_begin_25 : decode cX3_begin 25 = .ok (.getfield 25, 3) := by decide +kernel
theorem dX3_begin_28 : decode cX3_begin 28 = .ok (.new 76, 3) := by decide +kernel
theorem dX3_begin_31 : decode cX3_begin 31 = .ok (.dup, 1) := by decide +kernel
theorem dX3_begin_32 : decode cX3_begin 32 = .ok (.invokespecial 78, 3) := by decide +kernel
theorem dX3_begin_35 : decode cX3_begin 35 = .ok (.invokevirtual 79, 3) := by decide +kernel
theorem dX3_begin_38 : decode cX3_begin 38 = .ok (.pop, 1) := by decide +kernel
theorem dX3_begin_39 : decode cX3_begin 39 = .ok (.iload_n 1, 1) := by decide +kernel
theorem dX3_begin_40 : decode cX3_begin 40 = .ok (.ireturn, 1) := by decide +kernel
set_option maxRecDepth 20000 in
theorem ggX3_mark_X3_contractAt : GoodIn wsX3_mark wsX3_contractAt := goodIn_ca (goodIn_r _ [12, 13, 14, 15, 16, 17, 18, 19, 20, 21, 22, 23, 24, 11, 25, 26, 27, 28, 29, 30, 31, 32, 33, 34, 35, 36, 37, 38, 39, 40, 41, 42, 77, 78, 79, 80, 81, 82, 83, 84, 85] (by decide +kernel) (by decide +kernel)) (goodIn_sub (fun _ h => List.mem_cons_of_mem _ (List.mem_append_right _ h)) (by decide +kernel))
set_option maxRecDepth 20000 in
theorem gX3_mark_X3_contractAt : GoodIn wsX3_mark (wsV RX3 83 RX3 yX3_contractAt wsX3_contractAt) := goodIn_app (goodIn_of _ (by decide +kernel)) ggX3_mark_X3_contractAt
set_option maxRecDepth 20000 in
theorem ggX3_mark_X3_checkSide : GoodIn wsX3_mark wsX3_checkSide := goodIn_ca (goodIn_r _ [45, 1, 2, 23, 24, 11, 25] (by decide +kernel) (by decide +kernel)) (goodIn_sub (fun _ h => List.mem_cons_of_mem _ (List.mem_append_left _ (List.mem_append_left _ (List.mem_append_right _ h)))) (by decide +kernel))
set_option maxRecDepth 20000 in
theorem gX3_mark_X3_checkSide : GoodIn wsX3_mark (va_wsS RX3 40 yX3_checkSide wsX3_checkSide) := goodIn_app (goodIn_of _ (by decide +kernel)) ggX3_mark_X3_checkSide
set_option maxRecDepth 20000 in
theorem ggX3_mark_X3_checkClause : GoodIn wsX3_mark wsX3_checkClause := goodIn_ca (goodIn_r _ [48, 1, 2, 23, 24, 11, 25] (by decide +kernel) (by decide +kernel)) (goodIn_sub (fun _ h => List.mem_cons_of_mem _ (List.mem_append_left _ (List.mem_append_left _ (List.mem_append_right _ h)))) (by decide +kernel))
set_option maxRecDepth 20000 in
theorem gX3_mark_X3_checkClause : GoodIn wsX3_mark (va_wsS RX3 36 yX3_checkClause wsX3_checkClause) := goodIn_app (goodIn_of _ (by decide +kernel)) ggX3_mark_X3_checkClause
set_option maxRecDepth 20000 in
theorem ggX3_mark_X3_isWithin : GoodIn wsX3_mark wsX3_isWithin := goodIn_r _ [25] (by decide +kernel) (by decide +kernel)
set_option maxRecDepth 20000 in
theorem gX3_mark_X3_isWithin : GoodIn wsX3_mark (va_wsS RX3 43 yX3_isWithin wsX3_isWithin) := goodIn_app (goodIn_of _ (by decide +kernel)) ggX3_mark_X3_isWithin
set_option maxRecDepth 20000 in
theorem ggX3_mark_X3_checkDraft : GoodIn wsX3_mark wsX3_checkDraft := goodIn_ca (goodIn_r _ [51, 3, 4, 52, 53, 54, 55, 56, 57, 72, 73, 74, 75, 76] (by decide +kernel) (by decide +kernel)) (goodIn_sub (fun _ h => List.mem_cons_of_mem _ (List.mem_append_left _ (List.mem_append_right _ h))) (by decide +kernel))
set_option maxRecDepth 20000 in
theorem gX3_mark_X3_checkDraft : GoodIn wsX3_mark (va_wsS RX3 89 yX3_checkDraft wsX3_checkDraft) := goodIn_app (goodIn_of _ (by decide +kernel)) ggX3_mark_X3_checkDraft
set_option maxRecDepth 20000 in
theorem ggX3_mark_X0_bringIn : GoodIn wsX3_mark wsX0_bringIn := goodIn_r _ [61, 62, 63, 64, 65, 66, 55, 67, 57, 72, 73, 74, 75, 76] (by decide +kernel) (by decide +kernel)
set_option maxRecDepth 20000 in
theorem gX3_mark_X0_bringIn : GoodIn wsX3_mark (wsV RX3 98 RX0 yX0_bringIn wsX0_bringIn) := goodIn_app (goodIn_of _ (by decide +kernel)) ggX3_mark_X0_bringIn
set_option maxRecDepth 20000 in
theorem ggX3_mark_X0_changeMark : GoodIn wsX3_mark wsX0_changeMark := goodIn_r _ [71, 63, 62, 64, 65, 66, 55, 67, 57, 72, 73, 74, 75, 76] (by decide +kernel) (by decide +kernel)
set_option maxRecDepth 20000 in
theorem gX3_mark_X0_changeMark : GoodIn wsX3_mark (wsV RX3 106 RX0 yX0_changeMark wsX0_changeMark) := goodIn_app (goodIn_of _ (by decide +kernel)) ggX3_mark_X0_changeMark
theorem dX3_mark_0 : decode cX3_mark 0 = .ok (.aload_n 0, 1) := by decide +kernel
theorem dX3_mark_1 : decode cX3_mark 1 = .ok (.iload_n 1, 1) := by decide +kernel
theorem dX3_mark_2 : decode cX3_mark 2 = .ok (.invokevirtual 83, 3) := by decide +kernel
theorem dX3_mark_5 : decode cX3_mark 5 = .ok (.astore 5, 2) := by decide +kernel
theorem dX3_mark_7 : decode cX3_mark 7 = .ok (.iload_n 2, 1) := by decide +kernel
theorem dX3_mark_8 : decode cX3_mark 8 = .ok (.invokestatic 40, 3) := by decide +kernel
theorem dX3_mark_11 : decode cX3_mark 11 = .ok (.iload_n 3, 1) := by decide +kernel
theorem dX3_mark_12 : decode cX3_mark 12 = .ok (.invokestatic 36, 3) := by decide +kernel
theorem dX3_mark_15 : decode cX3_mark 15 = .ok (.iload 4, 2) := by decide +kernel
theorem dX3_mark_17 : decode cX3_mark 17 = .ok (.iconst 1, 1) := by decide +kernel
theorem dX3_mark_18 : decode cX3_mark 18 = .ok (.iconst 2, 1) := by decide +kernel
theorem dX3_mark_19 : decode cX3_mark 19 = .ok (.invokestatic 43, 3) := by decide +kernel
theorem dX3_mark_22 : decode cX3_mark 22 = .ok (.ifCond .ne 13, 3) := by decide +kernel
theorem dX3_mark_25 : decode cX3_mark 25 = .ok (.new 47, 3) := by decide +kernel
theorem dX3_mark_28 : decode cX3_mark 28 = .ok (.dup, 1) := by decide +kernel
theorem dX3_mark_29 : decode cX3_mark 29 = .ok (.ldc 87, 2) := by decide +kernel
theorem dX3_mark_31 : decode cX3_mark 31 = .ok (.invokespecial 51, 3) := by decide +kernel
theorem dX3_mark_34 : decode cX3_mark 34 = .ok (.athrow, 1) := by decide +kernel
theorem dX3_mark_35 : decode cX3_mark 35 = .ok (.aload 5, 2) := by decide +kernel
theorem dX3_mark_37 : decode cX3_mark 37 = .ok (.invokestatic 89, 3) := by decide +kernel
theorem dX3_mark_40 : decode cX3_mark 40 = .ok (.aload 5, 2) := by decide +kernel
theorem dX3_mark_42 : decode cX3_mark 42 = .ok (.getfield 93, 3) := by decide +kernel
theorem dX3_mark_45 : decode cX3_mark 45 = .ok (.iload_n 3, 1) := by decide +kernel
theorem dX3_mark_46 : decode cX3_mark 46 = .ok (.aaload, 1) := by decide +kernel
theorem dX3_mark_47 : decode cX3_mark 47 = .ok (.ifnonnull 43, 3) := by decide +kernel
theorem dX3_mark_50 : decode cX3_mark 50 = .ok (.iload 4, 2) := by decide +kernel
theorem dX3_mark_52 : decode cX3_mark 52 = .ok (.iconst 2, 1) := by decide +kernel
theorem dX3_mark_53 : decode cX3_mark 53 = .ok (.if_icmp .eq 12, 3) := by decide +kernel
theorem dX3_mark_56 : decode cX3_mark 56 = .ok (.aload_n 0, 1) := by decide +kernel
theorem dX3_mark_57 : decode cX3_mark 57 = .ok (.getfield 11, 3) := by decide +kernel
theorem dX3_mark_60 : decode cX3_mark 60 = .ok (.iload_n 3, 1) := by decide +kernel
theorem dX3_mark_61 : decode cX3_mark 61 = .ok (.aaload, 1) := by decide +kernel
theorem dX3_mark_62 : decode cX3_mark 62 = .ok (.ifnonnull 13, 3) := by decide +kernel
theorem dX3_mark_65 : decode cX3_mark 65 = .ok (.new 58, 3) := by decide +kernel
theorem dX3_mark_68 : decode cX3_mark 68 = .ok (.dup, 1) := by decide +kernel
theorem dX3_mark_69 : decode cX3_mark 69 = .ok (.ldc 96, 2) := by decide +kernel
theorem dX3_mark_71 : decode cX3_mark 71 = .ok (.invokespecial 62, 3) := by decide +kernel
theorem dX3_mark_74 : decode cX3_mark 74 = .ok (.athrow, 1) := by decide +kernel
theorem dX3_mark_75 : decode cX3_mark 75 = .ok (.aload 5, 2) := by decide +kernel
theorem dX3_mark_77 : decode cX3_mark 77 = .ok (.aload_n 0, 1) := by decide +kernel
theorem dX3_mark_78 : decode cX3_mark 78 = .ok (.getfield 11, 3) := by decide +kernel
theorem dX3_mark_81 : decode cX3_mark 81 = .ok (.iload_n 3, 1) := by decide +kernel
theorem dX3_mark_82 : decode cX3_mark 82 = .ok (.aaload, 1) := by decide +kernel
theorem dX3_mark_83 : decode cX3_mark 83 = .ok (.iload_n 3, 1) := by decide +kernel
theorem dX3_mark_84 : decode cX3_mark 84 = .ok (.iload_n 2, 1) := by decide +kernel
theorem dX3_mark_85 : decode cX3_mark 85 = .ok (.invokevirtual 98, 3) := by decide +kernel
theorem dX3_mark_88 : decode cX3_mark 88 = .ok (.iconst 0, 1) := by decide +kernel
theorem dX3_mark_89 : decode cX3_mark 89 = .ok (.ireturn, 1) := by decide +kernel
theorem dX3_mark_90 : decode cX3_mark 90 = .ok (.aload 5, 2) := by decide +kernel
theorem dX3_mark_92 : decode cX3_mark 92 = .ok (.getfield 102, 3) := by decide +kernel
theorem dX3_mark_95 : decode cX3_mark 95 = .ok (.iload_n 2, 1) := by decide +kernel
theorem dX3_mark_96 : decode cX3_mark 96 = .ok (.aaload, 1) := by decide +kernel
theorem dX3_mark_97 : decode cX3_mark 97 = .ok (.iload_n 3, 1) := by decide +kernel
theorem dX3_mark_98 : decode cX3_mark 98 = .ok (.iaload, 1) := by decide +kernel
theorem dX3_mark_99 : decode cX3_mark 99 = .ok (.istore 6, 2) := by decide +kernel
theorem dX3_mark_101 : decode cX3_mark 101 = .ok (.aload 5, 2) := by decide +kernel
theorem dX3_mark_103 : decode cX3_mark 103 = .ok (.iload_n 2, 1) := by decide +kernel
theorem dX3_mark_104 : decode cX3_mark 104 = .ok (.iload_n 3, 1) := by decide +kernel
theorem dX3_mark_105 : decode cX3_mark 105 = .ok (.iload 4, 2) := by decide +kernel
theorem dX3_mark_107 : decode cX3_mark 107 = .ok (.invokevirtual 106, 3) := by decide +kernel
theorem dX3_mark_110 : decode cX3_mark 110 = .ok (.iload 6, 2) := by decide +kernel
theorem dX3_mark_112 : decode cX3_mark 112 = .ok (.ireturn, 1) := by decide +kernel
set_option maxRecDepth 20000 in
theorem ggX3_renew_X3_contractAt : GoodIn wsX3_renew wsX3_contractAt := goodIn_ca (goodIn_r _ [8, 9, 10, 11, 12, 13, 14, 15, 16, 17, 18, 19, 20, 7, 21, 22, 23, 24, 25, 26, 27, 28, 29, 30, 31, 32, 33, 34, 35, 36, 37, 38, 82, 83, 84, 85, 86, 87, 88, 89, 90] (by decide +kernel) (by decide +kernel)) (goodIn_sub (fun _ h => List.mem_cons_of_mem _ (List.mem_append_left _ (List.mem_append_right _ h))) (by decide +kernel))
set_option maxRecDepth 20000 in
theorem gX3_renew_X3_contractAt : GoodIn wsX3_renew (wsV RX3 83 RX3 yX3_contractAt wsX3_contractAt) := goodIn_app (goodIn_of _ (by decide +kernel)) ggX3_renew_X3_contractAt
set_option maxRecDepth 20000 in
theorem ggX3_renew_X3_checkSide : GoodIn wsX3_renew wsX3_checkSide := goodIn_ca (goodIn_r _ [41, 42, 43, 19, 20, 7, 21] (by decide +kernel) (by decide +kernel)) (goodIn_sub (fun _ h => List.mem_cons_of_mem _ (List.mem_append_right _ h)) (by decide +kernel))
set_option maxRecDepth 20000 in
theorem gX3_renew_X3_checkSide : GoodIn wsX3_renew (va_wsS RX3 40 yX3_checkSide wsX3_checkSide) := goodIn_app (goodIn_of _ (by decide +kernel)) ggX3_renew_X3_checkSide
set_option maxRecDepth 20000 in
theorem ggX3_renew_X3_checkClause : GoodIn wsX3_renew wsX3_checkClause := goodIn_ca (goodIn_r _ [46, 42, 43, 19, 20, 7, 21] (by decide +kernel) (by decide +kernel)) (goodIn_sub (fun _ h => List.mem_cons_of_mem _ (List.mem_append_right _ h)) (by decide +kernel))
set_option maxRecDepth 20000 in
theorem gX3_renew_X3_checkClause : GoodIn wsX3_renew (va_wsS RX3 36 yX3_checkClause wsX3_checkClause) := goodIn_app (goodIn_of _ (by decide +kernel)) ggX3_renew_X3_checkClause
set_option maxRecDepth 20000 in
theorem ggX3_renew_X3_checkDraft : GoodIn wsX3_renew wsX3_checkDraft := goodIn_ca (goodIn_r _ [49, 1, 2, 50, 51, 52, 53, 54, 55, 91, 92, 93, 94, 95] (by decide +kernel) (by decide +kernel)) (goodIn_sub (fun _ h => List.mem_cons_of_mem _ (List.mem_append_left _ (List.mem_append_left _ (List.mem_append_right _ h)))) (by decide +kernel))
set_option maxRecDepth 20000 in
theorem gX3_renew_X3_checkDraft : GoodIn wsX3_renew (va_wsS RX3 89 yX3_checkDraft wsX3_checkDraft) := goodIn_app (goodIn_of _ (by decide +kernel)) ggX3_renew_X3_checkDraft
set_option maxRecDepth 20000 in
theorem ggX3_renew_X3_hasLaterVersion : GoodIn wsX3_renew wsX3_hasLaterVersion := goodIn_r _ [59, 60, 61, 62, 7, 63, 64, 65, 66, 67, 68, 69, 70, 71, 3, 91, 92, 93, 94, 95, 96, 97, 98, 99, 100, 82, 83, 84, 85, 86, 87] (by decide +kernel) (by decide +kernel)
set_option maxRecDepth 20000 in
theorem gX3_renew_X3_hasLaterVersion : GoodIn wsX3_renew (wsV RX3 110 RX3 yX3_hasLaterVersion wsX3_hasLaterVersion) := goodIn_app (goodIn_of _ (by decide +kernel)) ggX3_renew_X3_hasLaterVersion
set_option maxRecDepth 20000 in
theorem ggX3_renew_X3_itemNumber : GoodIn wsX3_renew wsX3_itemNumber := goodIn_r _ [63, 60, 64, 65, 7, 66, 67, 91, 92, 93, 94, 95, 96, 97, 98, 99, 100] (by decide +kernel) (by decide +kernel)
set_option maxRecDepth 20000 in
theorem gX3_renew_X3_itemNumber : GoodIn wsX3_renew (va_wsS RX3 116 yX3_itemNumber wsX3_itemNumber) := goodIn_app (goodIn_of _ (by decide +kernel)) ggX3_renew_X3_itemNumber
set_option maxRecDepth 20000 in
theorem ggX3_renew_X0_bringIn : GoodIn wsX3_renew wsX0_bringIn := goodIn_r _ [75, 76, 77, 78, 79, 80, 53, 81, 55, 91, 92, 93, 94, 95] (by decide +kernel) (by decide +kernel)
set_option maxRecDepth 20000 in
theorem gX3_renew_X0_bringIn : GoodIn wsX3_renew (wsV RX3 98 RX0 yX0_bringIn wsX0_bringIn) := goodIn_app (goodIn_of _ (by decide +kernel)) ggX3_renew_X0_bringIn
theorem dX3_renew_0 : decode cX3_renew 0 = .ok (.aload_n 0, 1) := by decide +kernel
theorem dX3_renew_1 : decode cX3_renew 1 = .ok (.iload_n 1, 1) := by decide +kernel
theorem dX3_renew_2 : decode cX3_renew 2 = .ok (.invokevirtual 83, 3) := by decide +kernel
theorem dX3_renew_5 : decode cX3_renew 5 = .ok (.astore 4, 2) := by decide +kernel
theorem dX3_renew_7 : decode cX3_renew 7 = .ok (.iload_n 2, 1) := by decide +kernel
theorem dX3_renew_8 : decode cX3_renew 8 = .ok (.invokestatic 40, 3) := by decide +kernel
theorem dX3_renew_11 : decode cX3_renew 11 = .ok (.iload_n 3, 1) := by decide +kernel
theorem dX3_renew_12 : decode cX3_renew 12 = .ok (.invokestatic 36, 3) := by decide +kernel
theorem dX3_renew_15 : decode cX3_renew 15 = .ok (.aload 4, 2) := by decide +kernel
theorem dX3_renew_17 : decode cX3_renew 17 = .ok (.invokestatic 89, 3) := by decide +kernel
theorem dX3_renew_20 : decode cX3_renew 20 = .ok (.aload_n 0, 1) := by decide +kernel
theorem dX3_renew_21 : decode cX3_renew 21 = .ok (.aload 4, 2) := by decide +kernel
theorem dX3_renew_23 : decode cX3_renew 23 = .ok (.iload_n 3, 1) := by decide +kernel
theorem dX3_renew_24 : decode cX3_renew 24 = .ok (.invokevirtual 110, 3) := by decide +kernel
theorem dX3_renew_27 : decode cX3_renew 27 = .ok (.ifCond .ne 13, 3) := by decide +kernel
theorem dX3_renew_30 : decode cX3_renew 30 = .ok (.new 58, 3) := by decide +kernel
theorem dX3_renew_33 : decode cX3_renew 33 = .ok (.dup, 1) := by decide +kernel
theorem dX3_renew_34 : decode cX3_renew 34 = .ok (.ldc 114, 2) := by decide +kernel
theorem dX3_renew_36 : decode cX3_renew 36 = .ok (.invokespecial 62, 3) := by decide +kernel
theorem dX3_renew_39 : decode cX3_renew 39 = .ok (.athrow, 1) := by decide +kernel
theorem dX3_renew_40 : decode cX3_renew 40 = .ok (.aload 4, 2) := by decide +kernel
theorem dX3_renew_42 : decode cX3_renew 42 = .ok (.iload_n 3, 1) := by decide +kernel
theorem dX3_renew_43 : decode cX3_renew 43 = .ok (.invokestatic 116, 3) := by decide +kernel
theorem dX3_renew_46 : decode cX3_renew 46 = .ok (.istore 5, 2) := by decide +kernel
theorem dX3_renew_48 : decode cX3_renew 48 = .ok (.aload 4, 2) := by decide +kernel
theorem dX3_renew_50 : decode cX3_renew 50 = .ok (.aload_n 0, 1) := by decide +kernel
theorem dX3_renew_51 : decode cX3_renew 51 = .ok (.getfield 11, 3) := by decide +kernel
theorem dX3_renew_54 : decode cX3_renew 54 = .ok (.iload_n 3, 1) := by decide +kernel
theorem dX3_renew_55 : decode cX3_renew 55 = .ok (.aaload, 1) := by decide +kernel
theorem dX3_renew_56 : decode cX3_renew 56 = .ok (.iload_n 3, 1) := by decide +kernel
theorem dX3_renew_57 : decode cX3_renew 57 = .ok (.iload_n 2, 1) := by decide +kernel
theorem dX3_renew_58 : decode cX3_renew 58 = .ok (.invokevirtual 98, 3) := by decide +kernel
theorem dX3_renew_61 : decode cX3_renew 61 = .ok (.iload 5, 2) := by decide +kernel
theorem dX3_renew_63 : decode cX3_renew 63 = .ok (.ireturn, 1) := by decide +kernel
set_option maxRecDepth 20000 in
theorem ggX3_version_X3_contractAt : GoodIn wsX3_version wsX3_contractAt := goodIn_ca (goodIn_r _ [5, 6, 7, 8, 9, 10, 11, 12, 13, 14, 15, 16, 17, 4, 18, 19, 20, 21, 22, 23, 24, 25, 26, 27, 28, 29, 30, 31, 32, 33, 34, 35, 49, 50, 51, 52, 53, 54, 55, 56, 57] (by decide +kernel) (by decide +kernel)) (goodIn_sub (fun _ h => List.mem_cons_of_mem _ (List.mem_append_left _ (List.mem_append_right _ h))) (by decide +kernel))
set_option maxRecDepth 20000 in
theorem gX3_version_X3_contractAt : GoodIn wsX3_version (wsV RX3 83 RX3 yX3_contractAt wsX3_contractAt) := goodIn_app (goodIn_of _ (by decide +kernel)) ggX3_version_X3_contractAt
set_option maxRecDepth 20000 in
theorem ggX3_version_X3_checkClause : GoodIn wsX3_version wsX3_checkClause := goodIn_ca (goodIn_r _ [38, 39, 40, 16, 17, 4, 18] (by decide +kernel) (by decide +kernel)) (goodIn_sub (fun _ h => List.mem_cons_of_mem _ (List.mem_append_right _ h)) (by decide +kernel))
set_option maxRecDepth 20000 in
theorem gX3_version_X3_checkClause : GoodIn wsX3_version (va_wsS RX3 36 yX3_checkClause wsX3_checkClause) := goodIn_app (goodIn_of _ (by decide +kernel)) ggX3_version_X3_checkClause
set_option maxRecDepth 20000 in
theorem ggX3_version_X3_itemNumber : GoodIn wsX3_version wsX3_itemNumber := goodIn_r _ [43, 44, 45, 46, 4, 47, 48, 58, 59, 60, 61, 62, 63, 64, 65, 66, 67] (by decide +kernel) (by decide +kernel)
set_option maxRecDepth 20000 in
theorem gX3_version_X3_itemNumber : GoodIn wsX3_version (va_wsS RX3 116 yX3_itemNumber wsX3_itemNumber) := goodIn_app (goodIn_of _ (by decide +kernel)) ggX3_version_X3_itemNumber
theorem dX3_version_0 : decode cX3_version 0 = .ok (.aload_n 0, 1) := by decide +kernel
theorem dX3_version_1 : decode cX3_version 1 = .ok (.iload_n 1, 1) := by decide +kernel
theorem dX3_version_2 : decode cX3_version 2 = .ok (.invokevirtual 83, 3) := by decide +kernel
theorem dX3_version_5 : decode cX3_version 5 = .ok (.astore_n 3, 1) := by decide +kernel
theorem dX3_version_6 : decode cX3_version 6 = .ok (.iload_n 2, 1) := by decide +kernel
theorem dX3_version_7 : decode cX3_version 7 = .ok (.invokestatic 36, 3) := by decide +kernel
theorem dX3_version_10 : decode cX3_version 10 = .ok (.aload_n 3, 1) := by decide +kernel
theorem dX3_version_11 : decode cX3_version 11 = .ok (.iload_n 2, 1) := by decide +kernel
theorem dX3_version_12 : decode cX3_version 12 = .ok (.invokestatic 116, 3) := by decide +kernel
theorem dX3_version_15 : decode cX3_version 15 = .ok (.ireturn, 1) := by decide +kernel
set_option maxRecDepth 20000 in
theorem ggX3_offered_X3_contractAt : GoodIn wsX3_offered wsX3_contractAt := goodIn_ca (goodIn_r _ [5, 6, 7, 8, 9, 10, 11, 12, 13, 14, 15, 16, 17, 4, 18, 19, 20, 21, 22, 23, 24, 25, 26, 27, 28, 29, 30, 31, 32, 33, 34, 35, 59, 60, 61, 62, 63, 64, 65, 66, 67] (by decide +kernel) (by decide +kernel)) (goodIn_sub (fun _ h => List.mem_cons_of_mem _ (List.mem_append_right _ h)) (by decide +kernel))
set_option maxRecDepth 20000 in
theorem gX3_offered_X3_contractAt : GoodIn wsX3_offered (wsV RX3 83 RX3 yX3_contractAt wsX3_contractAt) := goodIn_app (goodIn_of _ (by decide +kernel)) ggX3_offered_X3_contractAt
set_option maxRecDepth 20000 in
theorem ggX3_offered_X0_isDraft : GoodIn wsX3_offered wsX0_isDraft := goodIn_r _ [40, 41, 68, 69, 70, 71, 72] (by decide +kernel) (by decide +kernel)
set_option maxRecDepth 20000 in
theorem gX3_offered_X0_isDraft : GoodIn wsX3_offered (wsV RX3 120 RX0 yX0_isDraft wsX0_isDraft) := goodIn_app (goodIn_of _ (by decide +kernel)) ggX3_offered_X0_isDraft
set_option maxRecDepth 20000 in
theorem ggX3_offered_X3_hasLaterVersion : GoodIn wsX3_offered wsX3_hasLaterVersion := goodIn_r _ [45, 46, 47, 48, 4, 49, 50, 51, 52, 53, 54, 55, 56, 57, 58, 68, 69, 70, 71, 72, 73, 74, 75, 76, 77, 59, 60, 61, 62, 63, 64] (by decide +kernel) (by decide +kernel)
set_option maxRecDepth 20000 in
theorem gX3_offered_X3_hasLaterVersion : GoodIn wsX3_offered (wsV RX3 110 RX3 yX3_hasLaterVersion wsX3_hasLaterVersion) := goodIn_app (goodIn_of _ (by decide +kernel)) ggX3_offered_X3_hasLaterVersion
theorem dX3_offered_0 : decode cX3_offered 0 = .ok (.aload_n 0, 1) := by decide +kernel
theorem dX3_offered_1 : decode cX3_offered 1 = .ok (.iload_n 1, 1) := by decide +kernel
theorem dX3_offered_2 : decode cX3_offered 2 = .ok (.invokevirtual 83, 3) := by decide +kernel
theorem dX3_offered_5 : decode cX3_offered 5 = .ok (.astore_n 2, 1) := by decide +kernel
theorem dX3_offered_6 : decode cX3_offered 6 = .ok (.aload_n 2, 1) := by decide +kernel
theorem dX3_offered_7 : decode cX3_offered 7 = .ok (.invokevirtual 120, 3) := by decide +kernel
theorem dX3_offered_10 : decode cX3_offered 10 = .ok (.ifCond .ne 5, 3) := by decide +kernel
theorem dX3_offered_13 : decode cX3_offered 13 = .ok (.iconst 0, 1) := by decide +kernel
theorem dX3_offered_14 : decode cX3_offered 14 = .ok (.ireturn, 1) := by decide +kernel
theorem dX3_offered_15 : decode cX3_offered 15 = .ok (.iconst 0, 1) := by decide +kernel
theorem dX3_offered_16 : decode cX3_offered 16 = .ok (.istore_n 3, 1) := by decide +kernel
theorem dX3_offered_17 : decode cX3_offered 17 = .ok (.iconst 0, 1) := by decide +kernel
theorem dX3_offered_18 : decode cX3_offered 18 = .ok (.istore 4, 2) := by decide +kernel
theorem dX3_offered_20 : decode cX3_offered 20 = .ok (.iload 4, 2) := by decide +kernel
theorem dX3_offered_22 : decode cX3_offered 22 = .ok (.bipush 10, 2) := by decide +kernel
theorem dX3_offered_24 : decode cX3_offered 24 = .ok (.if_icmp .ge 22, 3) := by decide +kernel
theorem dX3_offered_27 : decode cX3_offered 27 = .ok (.aload_n 0, 1) := by decide +kernel
theorem dX3_offered_28 : decode cX3_offered 28 = .ok (.aload_n 2, 1) := by decide +kernel
theorem dX3_offered_29 : decode cX3_offered 29 = .ok (.iload 4, 2) := by decide +kernel
theorem dX3_offered_31 : decode cX3_offered 31 = .ok (.invokevirtual 110, 3) := by decide +kernel
theorem dX3_offered_34 : decode cX3_offered 34 = .ok (.ifCond .eq 6, 3) := by decide +kernel
theorem dX3_offered_37 : decode cX3_offered 37 = .ok (.iinc 3 1, 3) := by decide +kernel
theorem dX3_offered_40 : decode cX3_offered 40 = .ok (.iinc 4 1, 3) := by decide +kernel
theorem dX3_offered_43 : decode cX3_offered 43 = .ok (.goto (-23), 3) := by decide +kernel
theorem dX3_offered_46 : decode cX3_offered 46 = .ok (.iload_n 3, 1) := by decide +kernel
theorem dX3_offered_47 : decode cX3_offered 47 = .ok (.ireturn, 1) := by decide +kernel
set_option maxRecDepth 20000 in
theorem ggX3_whyNot_X3_contractAt : GoodIn wsX3_whyNot wsX3_contractAt := goodIn_ca (goodIn_r _ [5, 6, 7, 8, 9, 10, 11, 12, 13, 14, 15, 16, 17, 4, 18, 19, 20, 21, 22, 23, 24, 25, 26, 27, 28, 29, 30, 31, 32, 33, 34, 35, 61, 62, 63, 64, 65, 66, 67, 68, 69] (by decide +kernel) (by decide +kernel)) (goodIn_sub (fun _ h => List.mem_cons_of_mem _ (List.mem_append_right _ h)) (by decide +kernel))
set_option maxRecDepth 20000 in
theorem gX3_whyNot_X3_contractAt : GoodIn wsX3_whyNot (wsV RX3 83 RX3 yX3_contractAt wsX3_contractAt) := goodIn_app (goodIn_of _ (by decide +kernel)) ggX3_whyNot_X3_contractAt
set_option maxRecDepth 20000 in
theorem ggX3_whyNot_X3_obstacle : GoodIn wsX3_whyNot wsX3_obstacle := goodIn_r _ [39, 40, 41, 42, 43, 44, 45, 46, 47, 48, 49, 50, 51, 52, 53, 54, 55, 56, 57, 58, 59, 4, 60, 61, 62, 63, 64, 65, 66, 70, 71, 72, 73, 74] (by decide +kernel) (by decide +kernel)
set_option maxRecDepth 20000 in
theorem gX3_whyNot_X3_obstacle : GoodIn wsX3_whyNot (wsV RX3 124 RX3 yX3_obstacle wsX3_obstacle) := goodIn_app (goodIn_of _ (by decide +kernel)) ggX3_whyNot_X3_obstacle
theorem dX3_whyNot_0 : decode cX3_whyNot 0 = .ok (.aload_n 0, 1) := by decide +kernel
theorem dX3_whyNot_1 : decode cX3_whyNot 1 = .ok (.aload_n 0, 1) := by decide +kernel
theorem dX3_whyNot_2 : decode cX3_whyNot 2 = .ok (.iload_n 1, 1) := by decide +kernel
theorem dX3_whyNot_3 : decode cX3_whyNot 3 = .ok (.invokevirtual 83, 3) := by decide +kernel
theorem dX3_whyNot_6 : decode cX3_whyNot 6 = .ok (.invokevirtual 124, 3) := by decide +kernel
theorem dX3_whyNot_9 : decode cX3_whyNot 9 = .ok (.ireturn, 1) := by decide +kernel
set_option maxRecDepth 20000 in
theorem ggX3_sign_X3_contractAt : GoodIn wsX3_sign wsX3_contractAt := goodIn_ca (goodIn_r _ [8, 9, 10, 11, 12, 13, 14, 15, 16, 17, 18, 19, 20, 7, 21, 22, 23, 24, 25, 26, 27, 28, 29, 30, 31, 32, 33, 34, 35, 36, 37, 38, 148, 149, 150, 151, 152, 153, 154, 155, 156] (by decide +kernel) (by decide +kernel)) (goodIn_sub (fun _ h => List.mem_cons_of_mem _ (List.mem_append_left _ (List.mem_append_right _ h))) (by decide +kernel))
set_option maxRecDepth 20000 in
theorem gX3_sign_X3_contractAt : GoodIn wsX3_sign (wsV RX3 83 RX3 yX3_contractAt wsX3_contractAt) := goodIn_app (goodIn_of _ (by decide +kernel)) ggX3_sign_X3_contractAt
set_option maxRecDepth 20000 in
theorem ggX3_sign_X3_checkSide : GoodIn wsX3_sign wsX3_checkSide := goodIn_ca (goodIn_r _ [41, 42, 43, 19, 20, 7, 21] (by decide +kernel) (by decide +kernel)) (goodIn_sub (fun _ h => List.mem_cons_of_mem _ (List.mem_append_right _ h)) (by decide +kernel))
set_option maxRecDepth 20000 in
theorem gX3_sign_X3_checkSide : GoodIn wsX3_sign (va_wsS RX3 40 yX3_checkSide wsX3_checkSide) := goodIn_app (goodIn_of _ (by decide +kernel)) ggX3_sign_X3_checkSide
set_option maxRecDepth 20000 in
theorem ggX3_sign_X3_obstacle : GoodIn wsX3_sign wsX3_obstacle := goodIn_r _ [47, 48, 49, 50, 51, 52, 53, 54, 55, 56, 57, 58, 59, 60, 61, 62, 63, 64, 65, 66, 67, 7, 68, 148, 149, 150, 151, 152, 153, 143, 144, 145, 146, 147] (by decide +kernel) (by decide +kernel)
set_option maxRecDepth 20000 in
theorem gX3_sign_X3_obstacle : GoodIn wsX3_sign (wsV RX3 124 RX3 yX3_obstacle wsX3_obstacle) := goodIn_app (goodIn_of _ (by decide +kernel)) ggX3_sign_X3_obstacle
set_option maxRecDepth 20000 in
theorem ggX3_sign_X0_isDraft : GoodIn wsX3_sign wsX0_isDraft := goodIn_r _ [59, 60, 143, 144, 145, 146, 147] (by decide +kernel) (by decide +kernel)
set_option maxRecDepth 20000 in
theorem gX3_sign_X0_isDraft : GoodIn wsX3_sign (wsV RX3 120 RX0 yX0_isDraft wsX0_isDraft) := goodIn_app (goodIn_of _ (by decide +kernel)) ggX3_sign_X0_isDraft
set_option maxRecDepth 20000 in
theorem ggX3_sign_X3_makeDuties : GoodIn wsX3_sign wsX3_makeDuties := goodIn_r _ [72, 73, 74, 75, 76, 77, 78, 79, 80, 81, 82, 83, 84, 85, 86, 87, 88, 89, 90, 91, 92, 16, 93, 94, 95, 38, 18, 96, 97, 98, 99, 100, 101, 102, 103, 104, 105, 106, 107, 108, 109, 110, 111, 112, 113, 114, 115, 116, 117, 118, 119, 120, 121, 122, 123, 124, 125, 126, 127, 128, 129, 130, 131, 132, 133, 134, 135, 136, 137, 138, 139, 140, 141, 142, 143, 144, 145, 146, 147, 148, 149, 150, 151, 152, 153, 157, 158, 159, 160, 161, 162, 163, 164, 165, 154, 155, 156] (by decide +kernel) (by decide +kernel)
set_option maxRecDepth 20000 in
theorem gX3_sign_X3_makeDuties : GoodIn wsX3_sign (wsV RX3 134 RX3 yX3_makeDuties wsX3_makeDuties) := goodIn_app (goodIn_of _ (by decide +kernel)) ggX3_sign_X3_makeDuties
theorem dX3_sign_0 : decode cX3_sign 0 = .ok (.aload_n 0, 1) := by decide +kernel
theorem dX3_sign_1 : decode cX3_sign 1 = .ok (.iload_n 1, 1) := by decide +kernel
theorem dX3_sign_2 : decode cX3_sign 2 = .ok (.invokevirtual 83, 3) := by decide +kernel
theorem dX3_sign_5 : decode cX3_sign 5 = .ok (.astore_n 3, 1) := by decide +kernel
theorem dX3_sign_6 : decode cX3_sign 6 = .ok (.iload_n 2, 1) := by decide +kernel
theorem dX3_sign_7 : decode cX3_sign 7 = .ok (.invokestatic 40, 3) := by decide +kernel
theorem dX3_sign_10 : decode cX3_sign 10 = .ok (.aload_n 0, 1) := by decide +kernel
theorem dX3_sign_11 : decode cX3_sign 11 = .ok (.aload_n 3, 1) := by decide +kernel
theorem dX3_sign_12 : decode cX3_sign 12 = .ok (.invokevirtual 124, 3) := by decide +kernel
theorem dX3_sign_15 : decode cX3_sign 15 = .ok (.ifCond .ne 12, 3) := by decide +kernel
theorem dX3_sign_18 : decode cX3_sign 18 = .ok (.aload_n 3, 1) := by decide +kernel
theorem dX3_sign_19 : decode cX3_sign 19 = .ok (.getfield 128, 3) := by decide +kernel
theorem dX3_sign_22 : decode cX3_sign 22 = .ok (.iload_n 2, 1) := by decide +kernel
theorem dX3_sign_23 : decode cX3_sign 23 = .ok (.baload, 1) := by decide +kernel
theorem dX3_sign_24 : decode cX3_sign 24 = .ok (.ifCond .eq 13, 3) := by decide +kernel
theorem dX3_sign_27 : decode cX3_sign 27 = .ok (.new 58, 3) := by decide +kernel
theorem dX3_sign_30 : decode cX3_sign 30 = .ok (.dup, 1) := by decide +kernel
theorem dX3_sign_31 : decode cX3_sign 31 = .ok (.ldc 132, 2) := by decide +kernel
theorem dX3_sign_33 : decode cX3_sign 33 = .ok (.invokespecial 62, 3) := by decide +kernel
theorem dX3_sign_36 : decode cX3_sign 36 = .ok (.athrow, 1) := by decide +kernel
theorem dX3_sign_37 : decode cX3_sign 37 = .ok (.aload_n 3, 1) := by decide +kernel
theorem dX3_sign_38 : decode cX3_sign 38 = .ok (.getfield 128, 3) := by decide +kernel
theorem dX3_sign_41 : decode cX3_sign 41 = .ok (.iload_n 2, 1) := by decide +kernel
theorem dX3_sign_42 : decode cX3_sign 42 = .ok (.iconst 1, 1) := by decide +kernel
theorem dX3_sign_43 : decode cX3_sign 43 = .ok (.bastore, 1) := by decide +kernel
theorem dX3_sign_44 : decode cX3_sign 44 = .ok (.aload_n 3, 1) := by decide +kernel
theorem dX3_sign_45 : decode cX3_sign 45 = .ok (.invokevirtual 120, 3) := by decide +kernel
theorem dX3_sign_48 : decode cX3_sign 48 = .ok (.ifCond .eq 7, 3) := by decide +kernel
theorem dX3_sign_51 : decode cX3_sign 51 = .ok (.iconst 0, 1) := by decide +kernel
theorem dX3_sign_52 : decode cX3_sign 52 = .ok (.goto 8, 3) := by decide +kernel
theorem dX3_sign_55 : decode cX3_sign 55 = .ok (.aload_n 0, 1) := by decide +kernel
theorem dX3_sign_56 : decode cX3_sign 56 = .ok (.aload_n 3, 1) := by decide +kernel
theorem dX3_sign_57 : decode cX3_sign 57 = .ok (.invokevirtual 134, 3) := by decide +kernel
theorem dX3_sign_60 : decode cX3_sign 60 = .ok (.ireturn, 1) := by decide +kernel
set_option maxRecDepth 20000 in
theorem ggX3_pass_X3_isWithin : GoodIn wsX3_pass wsX3_isWithin := goodIn_r _ [9] (by decide +kernel) (by decide +kernel)
set_option maxRecDepth 20000 in
theorem gX3_pass_X3_isWithin : GoodIn wsX3_pass (va_wsS RX3 43 yX3_isWithin wsX3_isWithin) := goodIn_app (goodIn_of _ (by decide +kernel)) ggX3_pass_X3_isWithin
set_option maxRecDepth 20000 in
theorem ggX3_pass_X3_putOffHeldUpDuties : GoodIn wsX3_pass wsX3_putOffHeldUpDuties := goodIn_r _ [13, 14, 15, 16, 17, 18, 19, 20, 21, 22, 23, 24, 25, 26, 27, 28, 29, 30, 31, 32, 33, 34, 35, 36, 37, 38, 39, 40, 41, 42, 43, 44, 45, 46, 47, 48, 49, 50, 51, 52, 53, 70, 71, 72, 73, 74, 75, 76, 77, 78, 79, 80, 81, 82, 83, 84, 85, 86, 87, 88, 89, 90, 91, 92] (by decide +kernel) (by decide +kernel)
set_option maxRecDepth 20000 in
theorem gX3_pass_X3_putOffHeldUpDuties : GoodIn wsX3_pass (wsV RX3 141 RX3 yX3_putOffHeldUpDuties wsX3_putOffHeldUpDuties) := goodIn_app (goodIn_of _ (by decide +kernel)) ggX3_pass_X3_putOffHeldUpDuties
set_option maxRecDepth 20000 in
theorem ggX3_pass_X3_breachUncuredDuties : GoodIn wsX3_pass wsX3_breachUncuredDuties := goodIn_r _ [57, 14, 15, 58, 5, 16, 17, 18, 19, 20, 21, 22, 23, 24, 25, 26, 27, 28, 29, 30, 31, 32, 33, 34, 35, 36, 37, 38, 39, 59, 60, 61, 43, 62, 53, 63, 64, 65, 66, 67, 45, 46, 47, 48, 68, 69, 70, 71, 72, 73, 74, 75, 76, 77, 78, 79, 80, 81, 82, 83, 84, 85, 86, 87, 88, 89, 90, 91, 92] (by decide +kernel) (by decide +kernel)
set_option maxRecDepth 20000 in
theorem gX3_pass_X3_breachUncuredDuties : GoodIn wsX3_pass (wsV RX3 144 RX3 yX3_breachUncuredDuties wsX3_breachUncuredDuties) := goodIn_app (goodIn_of _ (by decide +kernel)) ggX3_pass_X3_breachUncuredDuties
theorem dX3_pass_0 : decode cX3_pass 0 = .ok (.iload_n 1, 1) := by decide +kernel
theorem dX3_pass_1 : decode cX3_pass 1 = .ok (.iconst 1, 1) := by decide +kernel
theorem dX3_pass_2 : decode cX3_pass 2 = .ok (.bipush 100, 2) := by decide +kernel
theorem dX3_pass_4 : decode cX3_pass 4 = .ok (.invokestatic 43, 3) := by decide +kernel
theorem dX3_pass_7 : decode cX3_pass 7 = .ok (.ifCond .ne 13, 3) := by decide +kernel
theorem dX3_pass_10 : decode cX3_pass 10 = .ok (.new 47, 3) := by decide +kernel
theorem dX3_pass_13 : decode cX3_pass 13 = .ok (.dup, 1) := by decide +kernel
theorem dX3_pass_14 : decode cX3_pass 14 = .ok (.ldc 137, 2) := by decide +kernel
theorem dX3_pass_16 : decode cX3_pass 16 = .ok (.invokespecial 51, 3) := by decide +kernel
theorem dX3_pass_19 : decode cX3_pass 19 = .ok (.athrow, 1) := by decide +kernel
theorem dX3_pass_20 : decode cX3_pass 20 = .ok (.aload_n 0, 1) := by decide +kernel
theorem dX3_pass_21 : decode cX3_pass 21 = .ok (.getfield 32, 3) := by decide +kernel
theorem dX3_pass_24 : decode cX3_pass 24 = .ok (.iload_n 1, 1) := by decide +kernel
theorem dX3_pass_25 : decode cX3_pass 25 = .ok (.iadd, 1) := by decide +kernel
theorem dX3_pass_26 : decode cX3_pass 26 = .ok (.sipush 9999, 3) := by decide +kernel
theorem dX3_pass_29 : decode cX3_pass 29 = .ok (.if_icmp .le 13, 3) := by decide +kernel
theorem dX3_pass_32 : decode cX3_pass 32 = .ok (.new 58, 3) := by decide +kernel
theorem dX3_pass_35 : decode cX3_pass 35 = .ok (.dup, 1) := by decide +kernel
theorem dX3_pass_36 : decode cX3_pass 36 = .ok (.ldc 139, 2) := by decide +kernel
theorem dX3_pass_38 : decode cX3_pass 38 = .ok (.invokespecial 62, 3) := by decide +kernel
theorem dX3_pass_41 : decode cX3_pass 41 = .ok (.athrow, 1) := by decide +kernel
theorem dX3_pass_42 : decode cX3_pass 42 = .ok (.iconst 0, 1) := by decide +kernel
theorem dX3_pass_43 : decode cX3_pass 43 = .ok (.istore_n 2, 1) := by decide +kernel
theorem dX3_pass_44 : decode cX3_pass 44 = .ok (.iconst 0, 1) := by decide +kernel
theorem dX3_pass_45 : decode cX3_pass 45 = .ok (.istore_n 3, 1) := by decide +kernel
theorem dX3_pass_46 : decode cX3_pass 46 = .ok (.iload_n 3, 1) := by decide +kernel
theorem dX3_pass_47 : decode cX3_pass 47 = .ok (.iload_n 1, 1) := by decide +kernel
theorem dX3_pass_48 : decode cX3_pass 48 = .ok (.if_icmp .ge 30, 3) := by decide +kernel
theorem dX3_pass_51 : decode cX3_pass 51 = .ok (.aload_n 0, 1) := by decide +kernel
theorem dX3_pass_52 : decode cX3_pass 52 = .ok (.dup, 1) := by decide +kernel
theorem dX3_pass_53 : decode cX3_pass 53 = .ok (.getfield 32, 3) := by decide +kernel
theorem dX3_pass_56 : decode cX3_pass 56 = .ok (.iconst 1, 1) := by decide +kernel
theorem dX3_pass_57 : decode cX3_pass 57 = .ok (.iadd, 1) := by decide +kernel
theorem dX3_pass_58 : decode cX3_pass 58 = .ok (.putfield 32, 3) := by decide +kernel
theorem dX3_pass_61 : decode cX3_pass 61 = .ok (.aload_n 0, 1) := by decide +kernel
theorem dX3_pass_62 : decode cX3_pass 62 = .ok (.invokevirtual 141, 3) := by decide +kernel
theorem dX3_pass_65 : decode cX3_pass 65 = .ok (.iload_n 2, 1) := by decide +kernel
theorem dX3_pass_66 : decode cX3_pass 66 = .ok (.aload_n 0, 1) := by decide +kernel
theorem dX3_pass_67 : decode cX3_pass 67 = .ok (.invokevirtual 144, 3) := by decide +kernel
theorem dX3_pass_70 : decode cX3_pass 70 = .ok (.iadd, 1) := by decide +kernel
theorem dX3_pass_71 : decode cX3_pass 71 = .ok (.istore_n 2, 1) := by decide +kernel
theorem dX3_pass_72 : decode cX3_pass 72 = .ok (.iinc 3 1, 3) := by decide +kernel
theorem dX3_pass_75 : decode cX3_pass 75 = .ok (.goto (-29), 3) := by decide +kernel
theorem dX3_pass_78 : decode cX3_pass 78 = .ok (.iload_n 2, 1) := by decide +kernel
theorem dX3_pass_79 : decode cX3_pass 79 = .ok (.ireturn, 1) := by decide +kernel
set_option maxRecDepth 20000 in
theorem ggX3_duties_Jx4a65c_size_8abf5 : GoodIn wsX3_duties wsJx4a65c_size_8abf5 := goodIn_r _ [6, 7, 14, 15, 16] (by decide +kernel) (by decide +kernel)
set_option maxRecDepth 20000 in
theorem gX3_duties_Jx4a65c_size_8abf5 : GoodIn wsX3_duties (wsV RX3 70 RJx4a65c yJx4a65c_size_8abf5 wsJx4a65c_size_8abf5) := goodIn_app (goodIn_of _ (by decide +kernel)) ggX3_duties_Jx4a65c_size_8abf5
theorem dX3_duties_0 : decode cX3_duties 0 = .ok (.aload_n 0, 1) := by decide +kernel
theorem dX3_duties_1 : decode cX3_duties 1 = .ok (.getfield 29, 3) := by decide +kernel
theorem dX3_duties_4 : decode cX3_duties 4 = .ok (.invokevirtual 70, 3) := by decide +kernel
theorem dX3_duties_7 : decode cX3_duties 7 = .ok (.ireturn, 1) := by decide +kernel
set_option maxRecDepth 20000 in
theorem ggX3_state_X3_dutyAt : GoodIn wsX3_state wsX3_dutyAt := goodIn_ca (goodIn_r _ [6, 7, 8, 9, 10, 11, 12, 13, 14, 15, 16, 17, 18, 5, 19, 20, 21, 22, 23, 24, 25, 26, 27, 28, 29, 30, 31, 32, 33, 34, 35, 36, 41, 42, 43, 44, 45, 46, 47, 48, 49] (by decide +kernel) (by decide +kernel)) (goodIn_sub (fun _ h => List.mem_cons_of_mem _ (List.mem_append_right _ h)) (by decide +kernel))
set_option maxRecDepth 20000 in
theorem gX3_state_X3_dutyAt : GoodIn wsX3_state (wsV RX3 147 RX3 yX3_dutyAt wsX3_dutyAt) := goodIn_app (goodIn_of _ (by decide +kernel)) ggX3_state_X3_dutyAt
theorem dX3_state_0 : decode cX3_state 0 = .ok (.aload_n 0, 1) := by decide +kernel
theorem dX3_state_1 : decode cX3_state 1 = .ok (.iload_n 1, 1) := by decide +kernel
theorem dX3_state_2 : decode cX3_state 2 = .ok (.invokevirtual 147, 3) := by decide +kernel
theorem dX3_state_5 : decode cX3_state 5 = .ok (.getfield 151, 3) := by decide +kernel
theorem dX3_state_8 : decode cX3_state 8 = .ok (.ireturn, 1) := by decide +kernel
set_option maxRecDepth 20000 in
theorem ggX3_day_X3_dutyAt : GoodIn wsX3_day wsX3_dutyAt := goodIn_ca (goodIn_r _ [6, 7, 8, 9, 10, 11, 12, 13, 14, 15, 16, 17, 18, 5, 19, 20, 21, 22, 23, 24, 25, 26, 27, 28, 29, 30, 31, 32, 33, 34, 35, 36, 41, 42, 43, 44, 45, 46, 47, 48, 49] (by decide +kernel) (by decide +kernel)) (goodIn_sub (fun _ h => List.mem_cons_of_mem _ (List.mem_append_right _ h)) (by decide +kernel))
set_option maxRecDepth 20000 in
theorem gX3_day_X3_dutyAt : GoodIn wsX3_day (wsV RX3 147 RX3 yX3_dutyAt wsX3_dutyAt) := goodIn_app (goodIn_of _ (by decide +kernel)) ggX3_day_X3_dutyAt
theorem dX3_day_0 : decode cX3_day 0 = .ok (.aload_n 0, 1) := by decide +kernel
theorem dX3_day_1 : decode cX3_day 1 = .ok (.iload_n 1, 1) := by decide +kernel
theorem dX3_day_2 : decode cX3_day 2 = .ok (.invokevirtual 147, 3) := by decide +kernel
theorem dX3_day_5 : decode cX3_day 5 = .ok (.getfield 156, 3) := by decide +kernel
theorem dX3_day_8 : decode cX3_day 8 = .ok (.ireturn, 1) := by decide +kernel
set_option maxRecDepth 20000 in
theorem ggX3_isSuspended_X3_dutyAt : GoodIn wsX3_isSuspended wsX3_dutyAt := goodIn_ca (goodIn_r _ [5, 6, 7, 8, 9, 10, 11, 12, 13, 14, 15, 16, 17, 4, 18, 19, 20, 21, 22, 23, 24, 25, 26, 27, 28, 29, 30, 31, 32, 33, 34, 35, 50, 51, 52, 53, 54, 55, 56, 57, 58] (by decide +kernel) (by decide +kernel)) (goodIn_sub (fun _ h => List.mem_cons_of_mem _ (List.mem_append_right _ h)) (by decide +kernel))
set_option maxRecDepth 20000 in
theorem gX3_isSuspended_X3_dutyAt : GoodIn wsX3_isSuspended (wsV RX3 147 RX3 yX3_dutyAt wsX3_dutyAt) := goodIn_app (goodIn_of _ (by decide +kernel)) ggX3_isSuspended_X3_dutyAt
set_option maxRecDepth 20000 in
theorem ggX3_isSuspended_X1_isHeldUp : GoodIn wsX3_isSuspended wsX1_isHeldUp := goodIn_r _ [40, 41, 42, 43, 44, 45, 46, 47, 39, 48, 49, 59, 60, 61, 62, 63, 64, 65, 66, 67, 68, 69, 70, 71, 72] (by decide +kernel) (by decide +kernel)
set_option maxRecDepth 20000 in
theorem gX3_isSuspended_X1_isHeldUp : GoodIn wsX3_isSuspended (wsV RX3 159 RX1 yX1_isHeldUp wsX1_isHeldUp) := goodIn_app (goodIn_of _ (by decide +kernel)) ggX3_isSuspended_X1_isHeldUp
theorem dX3_isSuspended_0 : decode cX3_isSuspended 0 = .ok (.aload_n 0, 1) := by decide +kernel
theorem dX3_isSuspended_1 : decode cX3_isSuspended 1 = .ok (.iload_n 1, 1) := by decide +kernel
theorem dX3_isSuspended_2 : decode cX3_isSuspended 2 = .ok (.invokevirtual 147, 3) := by decide +kernel
theorem dX3_isSuspended_5 : decode cX3_isSuspended 5 = .ok (.invokevirtual 159, 3) := by decide +kernel
theorem dX3_isSuspended_8 : decode cX3_isSuspended 8 = .ok (.ireturn, 1) := by decide +kernel
set_option maxRecDepth 20000 in
theorem ggX3_perform_X3_dutyAt : GoodIn wsX3_perform wsX3_dutyAt := goodIn_ca (goodIn_r _ [10, 11, 12, 13, 14, 15, 16, 17, 18, 19, 20, 21, 22, 9, 23, 24, 25, 26, 27, 28, 29, 30, 31, 32, 33, 34, 35, 36, 37, 38, 39, 40, 56, 57, 58, 59, 60, 61, 62, 63, 64] (by decide +kernel) (by decide +kernel)) (goodIn_sub (fun _ h => List.mem_cons_of_mem _ (List.mem_append_right _ h)) (by decide +kernel))
set_option maxRecDepth 20000 in
theorem gX3_perform_X3_dutyAt : GoodIn wsX3_perform (wsV RX3 147 RX3 yX3_dutyAt wsX3_dutyAt) := goodIn_app (goodIn_of _ (by decide +kernel)) ggX3_perform_X3_dutyAt
set_option maxRecDepth 20000 in
theorem ggX3_perform_X1_canBeDone : GoodIn wsX3_perform wsX1_canBeDone := goodIn_r _ [45, 46, 52, 53, 54, 55] (by decide +kernel) (by decide +kernel)
set_option maxRecDepth 20000 in
theorem gX3_perform_X1_canBeDone : GoodIn wsX3_perform (wsV RX3 162 RX1 yX1_canBeDone wsX1_canBeDone) := goodIn_app (goodIn_of _ (by decide +kernel)) ggX3_perform_X1_canBeDone
set_option maxRecDepth 20000 in
theorem ggX3_perform_X1_move : GoodIn wsX3_perform wsX1_move := goodIn_r _ [50, 46, 51, 52, 53, 54, 55] (by decide +kernel) (by decide +kernel)
set_option maxRecDepth 20000 in
theorem gX3_perform_X1_move : GoodIn wsX3_perform (wsV RX3 167 RX1 yX1_move wsX1_move) := goodIn_app (goodIn_of _ (by decide +kernel)) ggX3_perform_X1_move
theorem dX3_perform_0 : decode cX3_perform 0 = .ok (.aload_n 0, 1) := by decide +kernel
theorem dX3_perform_1 : decode cX3_perform 1 = .ok (.iload_n 1, 1) := by decide +kernel
theorem dX3_perform_2 : decode cX3_perform 2 = .ok (.invokevirtual 147, 3) := by decide +kernel
theorem dX3_perform_5 : decode cX3_perform 5 = .ok (.astore_n 2, 1) := by decide +kernel
theorem dX3_perform_6 : decode cX3_perform 6 = .ok (.aload_n 2, 1) := by decide +kernel
theorem dX3_perform_7 : decode cX3_perform 7 = .ok (.invokevirtual 162, 3) := by decide +kernel
theorem dX3_perform_10 : decode cX3_perform 10 = .ok (.ifCond .ne 13, 3) := by decide +kernel
theorem dX3_perform_13 : decode cX3_perform 13 = .ok (.new 58, 3) := by decide +kernel
theorem dX3_perform_16 : decode cX3_perform 16 = .ok (.dup, 1) := by decide +kernel
theorem dX3_perform_17 : decode cX3_perform 17 = .ok (.ldc 165, 2) := by decide +kernel
theorem dX3_perform_19 : decode cX3_perform 19 = .ok (.invokespecial 62, 3) := by decide +kernel
theorem dX3_perform_22 : decode cX3_perform 22 = .ok (.athrow, 1) := by decide +kernel
theorem dX3_perform_23 : decode cX3_perform 23 = .ok (.aload_n 2, 1) := by decide +kernel
theorem dX3_perform_24 : decode cX3_perform 24 = .ok (.getfield 151, 3) := by decide +kernel
theorem dX3_perform_27 : decode cX3_perform 27 = .ok (.iconst 2, 1) := by decide +kernel
theorem dX3_perform_28 : decode cX3_perform 28 = .ok (.if_icmp .eq 14, 3) := by decide +kernel
theorem dX3_perform_31 : decode cX3_perform 31 = .ok (.aload_n 0, 1) := by decide +kernel
theorem dX3_perform_32 : decode cX3_perform 32 = .ok (.getfield 32, 3) := by decide +kernel
theorem dX3_perform_35 : decode cX3_perform 35 = .ok (.aload_n 2, 1) := by decide +kernel
theorem dX3_perform_36 : decode cX3_perform 36 = .ok (.getfield 156, 3) := by decide +kernel
theorem dX3_perform_39 : decode cX3_perform 39 = .ok (.if_icmp .le 7, 3) := by decide +kernel
theorem dX3_perform_42 : decode cX3_perform 42 = .ok (.iconst 1, 1) := by decide +kernel
theorem dX3_perform_43 : decode cX3_perform 43 = .ok (.goto 4, 3) := by decide +kernel
theorem dX3_perform_46 : decode cX3_perform 46 = .ok (.iconst 0, 1) := by decide +kernel
theorem dX3_perform_47 : decode cX3_perform 47 = .ok (.istore_n 3, 1) := by decide +kernel
theorem dX3_perform_48 : decode cX3_perform 48 = .ok (.aload_n 2, 1) := by decide +kernel
theorem dX3_perform_49 : decode cX3_perform 49 = .ok (.iconst 1, 1) := by decide +kernel
theorem dX3_perform_50 : decode cX3_perform 50 = .ok (.aload_n 0, 1) := by decide +kernel
theorem dX3_perform_51 : decode cX3_perform 51 = .ok (.getfield 32, 3) := by decide +kernel
theorem dX3_perform_54 : decode cX3_perform 54 = .ok (.invokevirtual 167, 3) := by decide +kernel
theorem dX3_perform_57 : decode cX3_perform 57 = .ok (.iload_n 3, 1) := by decide +kernel
theorem dX3_perform_58 : decode cX3_perform 58 = .ok (.ireturn, 1) := by decide +kernel
set_option maxRecDepth 20000 in
theorem ggX3_notice_X3_dutyAt : GoodIn wsX3_notice wsX3_dutyAt := goodIn_ca (goodIn_r _ [12, 13, 14, 15, 16, 17, 18, 19, 20, 21, 22, 23, 24, 11, 25, 26, 27, 28, 29, 30, 31, 32, 33, 34, 35, 36, 37, 38, 39, 40, 41, 42, 54, 55, 56, 57, 58, 59, 65, 66, 67] (by decide +kernel) (by decide +kernel)) (goodIn_sub (fun _ h => List.mem_cons_of_mem _ (List.mem_append_right _ h)) (by decide +kernel))
set_option maxRecDepth 20000 in
theorem gX3_notice_X3_dutyAt : GoodIn wsX3_notice (wsV RX3 147 RX3 yX3_dutyAt wsX3_dutyAt) := goodIn_app (goodIn_of _ (by decide +kernel)) ggX3_notice_X3_dutyAt
set_option maxRecDepth 20000 in
theorem ggX3_notice_X1_move : GoodIn wsX3_notice wsX1_move := goodIn_r _ [47, 48, 49, 50, 51, 52, 53] (by decide +kernel) (by decide +kernel)
set_option maxRecDepth 20000 in
theorem gX3_notice_X1_move : GoodIn wsX3_notice (wsV RX3 167 RX1 yX1_move wsX1_move) := goodIn_app (goodIn_of _ (by decide +kernel)) ggX3_notice_X1_move
theorem dX3_notice_0 : decode cX3_notice 0 = .ok (.aload_n 0, 1) := by decide +kernel
theorem dX3_notice_1 : decode cX3_notice 1 = .ok (.iload_n 1, 1) := by decide +kernel
theorem dX3_notice_2 : decode cX3_notice 2 = .ok (.invokevirtual 147, 3) := by decide +kernel
theorem dX3_notice_5 : decode cX3_notice 5 = .ok (.astore_n 2, 1) := by decide +kernel
theorem dX3_notice_6 : decode cX3_notice 6 = .ok (.aload_n 2, 1) := by decide +kernel
theorem dX3_notice_7 : decode cX3_notice 7 = .ok (.getfield 151, 3) := by decide +kernel
theorem dX3_notice_10 : decode cX3_notice 10 = .ok (.ifCond .ne 14, 3) := by decide +kernel
theorem dX3_notice_13 : decode cX3_notice 13 = .ok (.aload_n 0, 1) := by decide +kernel
theorem dX3_notice_14 : decode cX3_notice 14 = .ok (.getfield 32, 3) := by decide +kernel
theorem dX3_notice_17 : decode cX3_notice 17 = .ok (.aload_n 2, 1) := by decide +kernel
theorem dX3_notice_18 : decode cX3_notice 18 = .ok (.getfield 156, 3) := by decide +kernel
theorem dX3_notice_21 : decode cX3_notice 21 = .ok (.if_icmp .gt 13, 3) := by decide +kernel
theorem dX3_notice_24 : decode cX3_notice 24 = .ok (.new 58, 3) := by decide +kernel
theorem dX3_notice_27 : decode cX3_notice 27 = .ok (.dup, 1) := by decide +kernel
theorem dX3_notice_28 : decode cX3_notice 28 = .ok (.ldc 170, 2) := by decide +kernel
theorem dX3_notice_30 : decode cX3_notice 30 = .ok (.invokespecial 62, 3) := by decide +kernel
theorem dX3_notice_33 : decode cX3_notice 33 = .ok (.athrow, 1) := by decide +kernel
theorem dX3_notice_34 : decode cX3_notice 34 = .ok (.aload_n 2, 1) := by decide +kernel
theorem dX3_notice_35 : decode cX3_notice 35 = .ok (.iconst 2, 1) := by decide +kernel
theorem dX3_notice_36 : decode cX3_notice 36 = .ok (.aload_n 0, 1) := by decide +kernel
theorem dX3_notice_37 : decode cX3_notice 37 = .ok (.getfield 32, 3) := by decide +kernel
theorem dX3_notice_40 : decode cX3_notice 40 = .ok (.aload_n 2, 1) := by decide +kernel
theorem dX3_notice_41 : decode cX3_notice 41 = .ok (.getfield 172, 3) := by decide +kernel
theorem dX3_notice_44 : decode cX3_notice 44 = .ok (.getfield 176, 3) := by decide +kernel
theorem dX3_notice_47 : decode cX3_notice 47 = .ok (.iadd, 1) := by decide +kernel
theorem dX3_notice_48 : decode cX3_notice 48 = .ok (.invokevirtual 167, 3) := by decide +kernel
theorem dX3_notice_51 : decode cX3_notice 51 = .ok (.aload_n 2, 1) := by decide +kernel
theorem dX3_notice_52 : decode cX3_notice 52 = .ok (.getfield 156, 3) := by decide +kernel
theorem dX3_notice_55 : decode cX3_notice 55 = .ok (.ireturn, 1) := by decide +kernel
set_option maxRecDepth 20000 in
theorem ggX3_settle_X3_dutyAt : GoodIn wsX3_settle wsX3_dutyAt := goodIn_ca (goodIn_r _ [11, 12, 13, 14, 15, 16, 17, 18, 19, 20, 21, 22, 23, 10, 24, 25, 26, 27, 28, 29, 30, 31, 32, 33, 34, 35, 36, 37, 38, 39, 40, 41, 63, 64, 65, 66, 67, 68, 74, 75, 76] (by decide +kernel) (by decide +kernel)) (goodIn_sub (fun _ h => List.mem_cons_of_mem _ (List.mem_append_right _ h)) (by decide +kernel))
set_option maxRecDepth 20000 in
theorem gX3_settle_X3_dutyAt : GoodIn wsX3_settle (wsV RX3 147 RX3 yX3_dutyAt wsX3_dutyAt) := goodIn_app (goodIn_of _ (by decide +kernel)) ggX3_settle_X3_dutyAt
set_option maxRecDepth 20000 in
theorem ggX3_settle_X1_move : GoodIn wsX3_settle wsX1_move := goodIn_r _ [46, 47, 48, 59, 60, 61, 62] (by decide +kernel) (by decide +kernel)
set_option maxRecDepth 20000 in
theorem gX3_settle_X1_move : GoodIn wsX3_settle (wsV RX3 167 RX1 yX1_move wsX1_move) := goodIn_app (goodIn_of _ (by decide +kernel)) ggX3_settle_X1_move
set_option maxRecDepth 20000 in
theorem ggX3_settle_X1_countBreach : GoodIn wsX3_settle wsX1_countBreach := goodIn_r _ [52, 53, 54, 55, 56, 57, 58, 59, 60, 61, 62, 77, 78, 79, 80, 81, 69, 70, 71, 72, 73] (by decide +kernel) (by decide +kernel)
set_option maxRecDepth 20000 in
theorem gX3_settle_X1_countBreach : GoodIn wsX3_settle (wsV RX3 181 RX1 yX1_countBreach wsX1_countBreach) := goodIn_app (goodIn_of _ (by decide +kernel)) ggX3_settle_X1_countBreach
theorem dX3_settle_0 : decode cX3_settle 0 = .ok (.aload_n 0, 1) := by decide +kernel
theorem dX3_settle_1 : decode cX3_settle 1 = .ok (.iload_n 1, 1) := by decide +kernel
theorem dX3_settle_2 : decode cX3_settle 2 = .ok (.invokevirtual 147, 3) := by decide +kernel
theorem dX3_settle_5 : decode cX3_settle 5 = .ok (.astore_n 2, 1) := by decide +kernel
theorem dX3_settle_6 : decode cX3_settle 6 = .ok (.aload_n 2, 1) := by decide +kernel
theorem dX3_settle_7 : decode cX3_settle 7 = .ok (.getfield 151, 3) := by decide +kernel
theorem dX3_settle_10 : decode cX3_settle 10 = .ok (.iconst 3, 1) := by decide +kernel
theorem dX3_settle_11 : decode cX3_settle 11 = .ok (.if_icmp .eq 13, 3) := by decide +kernel
theorem dX3_settle_14 : decode cX3_settle 14 = .ok (.new 58, 3) := by decide +kernel
theorem dX3_settle_17 : decode cX3_settle 17 = .ok (.dup, 1) := by decide +kernel
theorem dX3_settle_18 : decode cX3_settle 18 = .ok (.ldc 179, 2) := by decide +kernel
theorem dX3_settle_20 : decode cX3_settle 20 = .ok (.invokespecial 62, 3) := by decide +kernel
theorem dX3_settle_23 : decode cX3_settle 23 = .ok (.athrow, 1) := by decide +kernel
theorem dX3_settle_24 : decode cX3_settle 24 = .ok (.aload_n 2, 1) := by decide +kernel
theorem dX3_settle_25 : decode cX3_settle 25 = .ok (.iconst 4, 1) := by decide +kernel
theorem dX3_settle_26 : decode cX3_settle 26 = .ok (.aload_n 0, 1) := by decide +kernel
theorem dX3_settle_27 : decode cX3_settle 27 = .ok (.getfield 32, 3) := by decide +kernel
theorem dX3_settle_30 : decode cX3_settle 30 = .ok (.invokevirtual 167, 3) := by decide +kernel
theorem dX3_settle_33 : decode cX3_settle 33 = .ok (.aload_n 2, 1) := by decide +kernel
theorem dX3_settle_34 : decode cX3_settle 34 = .ok (.iconst (-1), 1) := by decide +kernel
theorem dX3_settle_35 : decode cX3_settle 35 = .ok (.invokevirtual 181, 3) := by decide +kernel
theorem dX3_settle_38 : decode cX3_settle 38 = .ok (.aload_n 2, 1) := by decide +kernel
theorem dX3_settle_39 : decode cX3_settle 39 = .ok (.getfield 172, 3) := by decide +kernel
theorem dX3_settle_42 : decode cX3_settle 42 = .ok (.getfield 184, 3) := by decide +kernel
theorem dX3_settle_45 : decode cX3_settle 45 = .ok (.ireturn, 1) := by decide +kernel
set_option maxRecDepth 20000 in
theorem ggX3_owes_X3_contractAt : GoodIn wsX3_owes wsX3_contractAt := goodIn_ca (goodIn_r _ [10, 11, 12, 13, 14, 15, 16, 17, 18, 19, 20, 21, 22, 9, 23, 24, 25, 26, 27, 28, 29, 30, 31, 32, 33, 34, 35, 36, 37, 38, 39, 40, 51, 52, 53, 54, 55, 56, 57, 58, 59] (by decide +kernel) (by decide +kernel)) (goodIn_sub (fun _ h => List.mem_cons_of_mem _ (List.mem_append_left _ (List.mem_append_right _ h))) (by decide +kernel))
set_option maxRecDepth 20000 in
theorem gX3_owes_X3_contractAt : GoodIn wsX3_owes (wsV RX3 83 RX3 yX3_contractAt wsX3_contractAt) := goodIn_app (goodIn_of _ (by decide +kernel)) ggX3_owes_X3_contractAt
set_option maxRecDepth 20000 in
theorem ggX3_owes_X3_checkSide : GoodIn wsX3_owes wsX3_checkSide := goodIn_ca (goodIn_r _ [43, 44, 45, 21, 22, 9, 23] (by decide +kernel) (by decide +kernel)) (goodIn_sub (fun _ h => List.mem_cons_of_mem _ (List.mem_append_right _ h)) (by decide +kernel))
set_option maxRecDepth 20000 in
theorem gX3_owes_X3_checkSide : GoodIn wsX3_owes (va_wsS RX3 40 yX3_checkSide wsX3_checkSide) := goodIn_app (goodIn_of _ (by decide +kernel)) ggX3_owes_X3_checkSide
theorem dX3_owes_0 : decode cX3_owes 0 = .ok (.aload_n 0, 1) := by decide +kernel
theorem dX3_owes_1 : decode cX3_owes 1 = .ok (.iload_n 1, 1) := by decide +kernel
theorem dX3_owes_2 : decode cX3_owes 2 = .ok (.invokevirtual 83, 3) := by decide +kernel
theorem dX3_owes_5 : decode cX3_owes 5 = .ok (.astore_n 3, 1) := by decide +kernel
theorem dX3_owes_6 : decode cX3_owes 6 = .ok (.iload_n 2, 1) := by decide +kernel
theorem dX3_owes_7 : decode cX3_owes 7 = .ok (.invokestatic 40, 3) := by decide +kernel
theorem dX3_owes_10 : decode cX3_owes 10 = .ok (.iconst 0, 1) := by decide +kernel
theorem dX3_owes_11 : decode cX3_owes 11 = .ok (.aload_n 3, 1) := by decide +kernel
theorem dX3_owes_12 : decode cX3_owes 12 = .ok (.getfield 187, 3) := by decide +kernel
theorem dX3_owes_15 : decode cX3_owes 15 = .ok (.iload_n 2, 1) := by decide +kernel
theorem dX3_owes_16 : decode cX3_owes 16 = .ok (.iaload, 1) := by decide +kernel
theorem dX3_owes_17 : decode cX3_owes 17 = .ok (.aload_n 3, 1) := by decide +kernel
theorem dX3_owes_18 : decode cX3_owes 18 = .ok (.getfield 187, 3) := by decide +kernel
theorem dX3_owes_21 : decode cX3_owes 21 = .ok (.iconst 1, 1) := by decide +kernel
theorem dX3_owes_22 : decode cX3_owes 22 = .ok (.iload_n 2, 1) := by decide +kernel
theorem dX3_owes_23 : decode cX3_owes 23 = .ok (.isub, 1) := by decide +kernel
theorem dX3_owes_24 : decode cX3_owes 24 = .ok (.iaload, 1) := by decide +kernel
theorem dX3_owes_25 : decode cX3_owes 25 = .ok (.isub, 1) := by decide +kernel
theorem dX3_owes_26 : decode cX3_owes 26 = .ok (.invokestatic 190, 3) := by decide +kernel
theorem dX3_owes_29 : decode cX3_owes 29 = .ok (.ireturn, 1) := by decide +kernel
theorem dX3_isWithin_0 : decode cX3_isWithin 0 = .ok (.iload_n 0, 1) := by decide +kernel
theorem dX3_isWithin_1 : decode cX3_isWithin 1 = .ok (.iload_n 1, 1) := by decide +kernel
theorem dX3_isWithin_2 : decode cX3_isWithin 2 = .ok (.if_icmp .lt 12, 3) := by decide +kernel
theorem dX3_isWithin_5 : decode cX3_isWithin 5 = .ok (.iload_n 0, 1) := by decide +kernel
theorem dX3_isWithin_6 : decode cX3_isWithin 6 = .ok (.iload_n 2, 1) := by decide +kernel
theorem dX3_isWithin_7 : decode cX3_isWithin 7 = .ok (.if_icmp .gt 7, 3) := by decide +kernel
theorem dX3_isWithin_10 : decode cX3_isWithin 10 = .ok (.iconst 1, 1) := by decide +kernel
theorem dX3_isWithin_11 : decode cX3_isWithin 11 = .ok (.goto 4, 3) := by decide +kernel
theorem dX3_isWithin_14 : decode cX3_isWithin 14 = .ok (.iconst 0, 1) := by decide +kernel
theorem dX3_isWithin_15 : decode cX3_isWithin 15 = .ok (.ireturn, 1) := by decide +kernel
set_option maxRecDepth 20000 in
theorem ggX3_checkClause_X3_isWithin : GoodIn wsX3_checkClause wsX3_isWithin := goodIn_r _ [6] (by decide +kernel) (by decide +kernel)
set_option maxRecDepth 20000 in
theorem gX3_checkClause_X3_isWithin : GoodIn wsX3_checkClause (va_wsS RX3 43 yX3_isWithin wsX3_isWithin) := goodIn_app (goodIn_of _ (by decide +kernel)) ggX3_checkClause_X3_isWithin
theorem dX3_checkClause_0 : decode cX3_checkClause 0 = .ok (.iload_n 0, 1) := by decide +kernel
theorem dX3_checkClause_1 : decode cX3_checkClause 1 = .ok (.iconst 0, 1) := by decide +kernel

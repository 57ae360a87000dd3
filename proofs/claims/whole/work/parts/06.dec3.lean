theorem dX4_makesDuties_16 : decode cX4_makesDuties 16 = .ok (.iload_n 1, 1) := by decide +kernel
theorem dX4_makesDuties_17 : decode cX4_makesDuties 17 = .ok (.imul, 1) := by decide +kernel
theorem dX4_makesDuties_18 : decode cX4_makesDuties 18 = .ok (.iload_n 3, 1) := by decide +kernel
theorem dX4_makesDuties_19 : decode cX4_makesDuties 19 = .ok (.iadd, 1) := by decide +kernel
theorem dX4_makesDuties_20 : decode cX4_makesDuties 20 = .ok (.iaload, 1) := by decide +kernel
theorem dX4_makesDuties_21 : decode cX4_makesDuties 21 = .ok (.istore 4, 2) := by decide +kernel
theorem dX4_makesDuties_23 : decode cX4_makesDuties 23 = .ok (.iload 4, 2) := by decide +kernel
theorem dX4_makesDuties_25 : decode cX4_makesDuties 25 = .ok (.ifCond .le 116, 3) := by decide +kernel
theorem dX4_makesDuties_28 : decode cX4_makesDuties 28 = .ok (.bipush 9, 2) := by decide +kernel
theorem dX4_makesDuties_30 : decode cX4_makesDuties 30 = .ok (.iload_n 3, 1) := by decide +kernel
theorem dX4_makesDuties_31 : decode cX4_makesDuties 31 = .ok (.imul, 1) := by decide +kernel
theorem dX4_makesDuties_32 : decode cX4_makesDuties 32 = .ok (.iload 4, 2) := by decide +kernel
theorem dX4_makesDuties_34 : decode cX4_makesDuties 34 = .ok (.iadd, 1) := by decide +kernel
theorem dX4_makesDuties_35 : decode cX4_makesDuties 35 = .ok (.iconst 1, 1) := by decide +kernel
theorem dX4_makesDuties_36 : decode cX4_makesDuties 36 = .ok (.isub, 1) := by decide +kernel
theorem dX4_makesDuties_37 : decode cX4_makesDuties 37 = .ok (.istore 5, 2) := by decide +kernel
theorem dX4_makesDuties_39 : decode cX4_makesDuties 39 = .ok (.aload_n 0, 1) := by decide +kernel
theorem dX4_makesDuties_40 : decode cX4_makesDuties 40 = .ok (.getfield 44, 3) := by decide +kernel
theorem dX4_makesDuties_43 : decode cX4_makesDuties 43 = .ok (.aload_n 0, 1) := by decide +kernel
theorem dX4_makesDuties_44 : decode cX4_makesDuties 44 = .ok (.getfield 76, 3) := by decide +kernel
theorem dX4_makesDuties_47 : decode cX4_makesDuties 47 = .ok (.iload_n 1, 1) := by decide +kernel
theorem dX4_makesDuties_48 : decode cX4_makesDuties 48 = .ok (.iastore, 1) := by decide +kernel
theorem dX4_makesDuties_49 : decode cX4_makesDuties 49 = .ok (.aload_n 0, 1) := by decide +kernel
theorem dX4_makesDuties_50 : decode cX4_makesDuties 50 = .ok (.getfield 47, 3) := by decide +kernel
theorem dX4_makesDuties_53 : decode cX4_makesDuties 53 = .ok (.aload_n 0, 1) := by decide +kernel
theorem dX4_makesDuties_54 : decode cX4_makesDuties 54 = .ok (.getfield 76, 3) := by decide +kernel
theorem dX4_makesDuties_57 : decode cX4_makesDuties 57 = .ok (.aload_n 0, 1) := by decide +kernel
theorem dX4_makesDuties_58 : decode cX4_makesDuties 58 = .ok (.getfield 13, 3) := by decide +kernel
theorem dX4_makesDuties_61 : decode cX4_makesDuties 61 = .ok (.iload 5, 2) := by decide +kernel
theorem dX4_makesDuties_63 : decode cX4_makesDuties 63 = .ok (.iaload, 1) := by decide +kernel
theorem dX4_makesDuties_64 : decode cX4_makesDuties 64 = .ok (.iastore, 1) := by decide +kernel
theorem dX4_makesDuties_65 : decode cX4_makesDuties 65 = .ok (.aload_n 0, 1) := by decide +kernel
theorem dX4_makesDuties_66 : decode cX4_makesDuties 66 = .ok (.getfield 50, 3) := by decide +kernel
theorem dX4_makesDuties_69 : decode cX4_makesDuties 69 = .ok (.aload_n 0, 1) := by decide +kernel
theorem dX4_makesDuties_70 : decode cX4_makesDuties 70 = .ok (.getfield 76, 3) := by decide +kernel
theorem dX4_makesDuties_73 : decode cX4_makesDuties 73 = .ok (.aload_n 0, 1) := by decide +kernel
theorem dX4_makesDuties_74 : decode cX4_makesDuties 74 = .ok (.getfield 19, 3) := by decide +kernel
theorem dX4_makesDuties_77 : decode cX4_makesDuties 77 = .ok (.iload 5, 2) := by decide +kernel
theorem dX4_makesDuties_79 : decode cX4_makesDuties 79 = .ok (.iaload, 1) := by decide +kernel
theorem dX4_makesDuties_80 : decode cX4_makesDuties 80 = .ok (.iastore, 1) := by decide +kernel
theorem dX4_makesDuties_81 : decode cX4_makesDuties 81 = .ok (.aload_n 0, 1) := by decide +kernel
theorem dX4_makesDuties_82 : decode cX4_makesDuties 82 = .ok (.getfield 53, 3) := by decide +kernel
theorem dX4_makesDuties_85 : decode cX4_makesDuties 85 = .ok (.aload_n 0, 1) := by decide +kernel
theorem dX4_makesDuties_86 : decode cX4_makesDuties 86 = .ok (.getfield 76, 3) := by decide +kernel
theorem dX4_makesDuties_89 : decode cX4_makesDuties 89 = .ok (.aload_n 0, 1) := by decide +kernel
theorem dX4_makesDuties_90 : decode cX4_makesDuties 90 = .ok (.getfield 22, 3) := by decide +kernel
theorem dX4_makesDuties_93 : decode cX4_makesDuties 93 = .ok (.iload 5, 2) := by decide +kernel
theorem dX4_makesDuties_95 : decode cX4_makesDuties 95 = .ok (.iaload, 1) := by decide +kernel
theorem dX4_makesDuties_96 : decode cX4_makesDuties 96 = .ok (.iastore, 1) := by decide +kernel
theorem dX4_makesDuties_97 : decode cX4_makesDuties 97 = .ok (.aload_n 0, 1) := by decide +kernel
theorem dX4_makesDuties_98 : decode cX4_makesDuties 98 = .ok (.getfield 56, 3) := by decide +kernel
theorem dX4_makesDuties_101 : decode cX4_makesDuties 101 = .ok (.aload_n 0, 1) := by decide +kernel
theorem dX4_makesDuties_102 : decode cX4_makesDuties 102 = .ok (.getfield 76, 3) := by decide +kernel
theorem dX4_makesDuties_105 : decode cX4_makesDuties 105 = .ok (.iconst 0, 1) := by decide +kernel
theorem dX4_makesDuties_106 : decode cX4_makesDuties 106 = .ok (.iastore, 1) := by decide +kernel
theorem dX4_makesDuties_107 : decode cX4_makesDuties 107 = .ok (.aload_n 0, 1) := by decide +kernel
theorem dX4_makesDuties_108 : decode cX4_makesDuties 108 = .ok (.getfield 59, 3) := by decide +kernel
theorem dX4_makesDuties_111 : decode cX4_makesDuties 111 = .ok (.aload_n 0, 1) := by decide +kernel
theorem dX4_makesDuties_112 : decode cX4_makesDuties 112 = .ok (.getfield 76, 3) := by decide +kernel
theorem dX4_makesDuties_115 : decode cX4_makesDuties 115 = .ok (.aload_n 0, 1) := by decide +kernel
theorem dX4_makesDuties_116 : decode cX4_makesDuties 116 = .ok (.getfield 97, 3) := by decide +kernel
theorem dX4_makesDuties_119 : decode cX4_makesDuties 119 = .ok (.aload_n 0, 1) := by decide +kernel
theorem dX4_makesDuties_120 : decode cX4_makesDuties 120 = .ok (.getfield 16, 3) := by decide +kernel
theorem dX4_makesDuties_123 : decode cX4_makesDuties 123 = .ok (.iload 5, 2) := by decide +kernel
theorem dX4_makesDuties_125 : decode cX4_makesDuties 125 = .ok (.iaload, 1) := by decide +kernel
theorem dX4_makesDuties_126 : decode cX4_makesDuties 126 = .ok (.iadd, 1) := by decide +kernel
theorem dX4_makesDuties_127 : decode cX4_makesDuties 127 = .ok (.iastore, 1) := by decide +kernel
theorem dX4_makesDuties_128 : decode cX4_makesDuties 128 = .ok (.aload_n 0, 1) := by decide +kernel
theorem dX4_makesDuties_129 : decode cX4_makesDuties 129 = .ok (.dup, 1) := by decide +kernel
theorem dX4_makesDuties_130 : decode cX4_makesDuties 130 = .ok (.getfield 76, 3) := by decide +kernel
theorem dX4_makesDuties_133 : decode cX4_makesDuties 133 = .ok (.iconst 1, 1) := by decide +kernel
theorem dX4_makesDuties_134 : decode cX4_makesDuties 134 = .ok (.iadd, 1) := by decide +kernel
theorem dX4_makesDuties_135 : decode cX4_makesDuties 135 = .ok (.putfield 76, 3) := by decide +kernel
theorem dX4_makesDuties_138 : decode cX4_makesDuties 138 = .ok (.iinc 2 1, 3) := by decide +kernel
theorem dX4_makesDuties_141 : decode cX4_makesDuties 141 = .ok (.iinc 3 1, 3) := by decide +kernel
theorem dX4_makesDuties_144 : decode cX4_makesDuties 144 = .ok (.goto (-140), 3) := by decide +kernel
theorem dX4_makesDuties_147 : decode cX4_makesDuties 147 = .ok (.iload_n 2, 1) := by decide +kernel
theorem dX4_makesDuties_148 : decode cX4_makesDuties 148 = .ok (.ireturn, 1) := by decide +kernel
set_option maxRecDepth 20000 in
theorem ggX4_sign_X4_isContract : GoodIn wsX4_sign wsX4_isContract := goodIn_r _ [8, 9, 10, 11, 7, 12, 40, 41, 42, 43, 44, 45, 46, 47, 48, 49, 50, 51, 52, 53, 54, 55, 56, 57, 58, 59, 60, 61] (by decide +kernel) (by decide +kernel)
set_option maxRecDepth 20000 in
theorem gX4_sign_X4_isContract : GoodIn wsX4_sign (wsV RX4 86 RX4 yX4_isContract wsX4_isContract) := goodIn_app (goodIn_of _ (by decide +kernel)) ggX4_sign_X4_isContract
set_option maxRecDepth 20000 in
theorem ggX4_sign_X4_isSide : GoodIn wsX4_sign wsX4_isSide := goodIn_r _ [15, 10, 11, 7, 12] (by decide +kernel) (by decide +kernel)
set_option maxRecDepth 20000 in
theorem gX4_sign_X4_isSide : GoodIn wsX4_sign (va_wsS RX4 83 yX4_isSide wsX4_isSide) := goodIn_app (goodIn_of _ (by decide +kernel)) ggX4_sign_X4_isSide
set_option maxRecDepth 20000 in
theorem ggX4_sign_X4_reason : GoodIn wsX4_sign wsX4_reason := goodIn_r _ [19, 20, 21, 22, 23, 3, 40, 41, 42, 43, 44, 45, 46, 47, 48, 49, 50, 51, 52, 53, 54, 55, 56, 57, 58, 59, 60, 61] (by decide +kernel) (by decide +kernel)
set_option maxRecDepth 20000 in
theorem gX4_sign_X4_reason : GoodIn wsX4_sign (wsV RX4 93 RX4 yX4_reason wsX4_reason) := goodIn_app (goodIn_of _ (by decide +kernel)) ggX4_sign_X4_reason
set_option maxRecDepth 20000 in
theorem ggX4_sign_X4_makesDuties : GoodIn wsX4_sign wsX4_makesDuties := goodIn_r _ [27, 20, 28, 29, 30, 31, 32, 33, 34, 35, 36, 37, 38, 39, 40, 41, 42, 43, 44, 45, 46, 47, 48, 49, 50, 51, 52, 53, 54, 55, 56, 57, 58, 59, 60, 61] (by decide +kernel) (by decide +kernel)
set_option maxRecDepth 20000 in
theorem gX4_sign_X4_makesDuties : GoodIn wsX4_sign (wsV RX4 100 RX4 yX4_makesDuties wsX4_makesDuties) := goodIn_app (goodIn_of _ (by decide +kernel)) ggX4_sign_X4_makesDuties
theorem dX4_sign_0 : decode cX4_sign 0 = .ok (.aload_n 0, 1) := by decide +kernel
theorem dX4_sign_1 : decode cX4_sign 1 = .ok (.aload_n 0, 1) := by decide +kernel
theorem dX4_sign_2 : decode cX4_sign 2 = .ok (.iload_n 1, 1) := by decide +kernel
theorem dX4_sign_3 : decode cX4_sign 3 = .ok (.invokevirtual 86, 3) := by decide +kernel
theorem dX4_sign_6 : decode cX4_sign 6 = .ok (.ifCond .ne 7, 3) := by decide +kernel
theorem dX4_sign_9 : decode cX4_sign 9 = .ok (.iconst 1, 1) := by decide +kernel
theorem dX4_sign_10 : decode cX4_sign 10 = .ok (.goto 41, 3) := by decide +kernel
theorem dX4_sign_13 : decode cX4_sign 13 = .ok (.iload_n 2, 1) := by decide +kernel
theorem dX4_sign_14 : decode cX4_sign 14 = .ok (.invokestatic 83, 3) := by decide +kernel
theorem dX4_sign_17 : decode cX4_sign 17 = .ok (.ifCond .ne 7, 3) := by decide +kernel
theorem dX4_sign_20 : decode cX4_sign 20 = .ok (.iconst 2, 1) := by decide +kernel
theorem dX4_sign_21 : decode cX4_sign 21 = .ok (.goto 30, 3) := by decide +kernel
theorem dX4_sign_24 : decode cX4_sign 24 = .ok (.aload_n 0, 1) := by decide +kernel
theorem dX4_sign_25 : decode cX4_sign 25 = .ok (.iload_n 1, 1) := by decide +kernel
theorem dX4_sign_26 : decode cX4_sign 26 = .ok (.invokevirtual 93, 3) := by decide +kernel
theorem dX4_sign_29 : decode cX4_sign 29 = .ok (.ifCond .gt 17, 3) := by decide +kernel
theorem dX4_sign_32 : decode cX4_sign 32 = .ok (.aload_n 0, 1) := by decide +kernel
theorem dX4_sign_33 : decode cX4_sign 33 = .ok (.getfield 35, 3) := by decide +kernel
theorem dX4_sign_36 : decode cX4_sign 36 = .ok (.iload_n 1, 1) := by decide +kernel
theorem dX4_sign_37 : decode cX4_sign 37 = .ok (.iaload, 1) := by decide +kernel
theorem dX4_sign_38 : decode cX4_sign 38 = .ok (.iload_n 2, 1) := by decide +kernel
theorem dX4_sign_39 : decode cX4_sign 39 = .ok (.ishr, 1) := by decide +kernel
theorem dX4_sign_40 : decode cX4_sign 40 = .ok (.iconst 1, 1) := by decide +kernel
theorem dX4_sign_41 : decode cX4_sign 41 = .ok (.iand, 1) := by decide +kernel
theorem dX4_sign_42 : decode cX4_sign 42 = .ok (.iconst 1, 1) := by decide +kernel
theorem dX4_sign_43 : decode cX4_sign 43 = .ok (.if_icmp .ne 7, 3) := by decide +kernel
theorem dX4_sign_46 : decode cX4_sign 46 = .ok (.iconst 3, 1) := by decide +kernel
theorem dX4_sign_47 : decode cX4_sign 47 = .ok (.goto 4, 3) := by decide +kernel
theorem dX4_sign_50 : decode cX4_sign 50 = .ok (.iconst 0, 1) := by decide +kernel
theorem dX4_sign_51 : decode cX4_sign 51 = .ok (.putfield 65, 3) := by decide +kernel
theorem dX4_sign_54 : decode cX4_sign 54 = .ok (.aload_n 0, 1) := by decide +kernel
theorem dX4_sign_55 : decode cX4_sign 55 = .ok (.getfield 65, 3) := by decide +kernel
theorem dX4_sign_58 : decode cX4_sign 58 = .ok (.ifCond .le 5, 3) := by decide +kernel
theorem dX4_sign_61 : decode cX4_sign 61 = .ok (.iconst 0, 1) := by decide +kernel
theorem dX4_sign_62 : decode cX4_sign 62 = .ok (.ireturn, 1) := by decide +kernel
theorem dX4_sign_63 : decode cX4_sign 63 = .ok (.aload_n 0, 1) := by decide +kernel
theorem dX4_sign_64 : decode cX4_sign 64 = .ok (.getfield 35, 3) := by decide +kernel
theorem dX4_sign_67 : decode cX4_sign 67 = .ok (.iload_n 1, 1) := by decide +kernel
theorem dX4_sign_68 : decode cX4_sign 68 = .ok (.dup2, 1) := by decide +kernel
theorem dX4_sign_69 : decode cX4_sign 69 = .ok (.iaload, 1) := by decide +kernel
theorem dX4_sign_70 : decode cX4_sign 70 = .ok (.iconst 1, 1) := by decide +kernel
theorem dX4_sign_71 : decode cX4_sign 71 = .ok (.iload_n 2, 1) := by decide +kernel
theorem dX4_sign_72 : decode cX4_sign 72 = .ok (.ishl, 1) := by decide +kernel
theorem dX4_sign_73 : decode cX4_sign 73 = .ok (.ior, 1) := by decide +kernel
theorem dX4_sign_74 : decode cX4_sign 74 = .ok (.iastore, 1) := by decide +kernel
theorem dX4_sign_75 : decode cX4_sign 75 = .ok (.aload_n 0, 1) := by decide +kernel
theorem dX4_sign_76 : decode cX4_sign 76 = .ok (.getfield 35, 3) := by decide +kernel
theorem dX4_sign_79 : decode cX4_sign 79 = .ok (.iload_n 1, 1) := by decide +kernel
theorem dX4_sign_80 : decode cX4_sign 80 = .ok (.iaload, 1) := by decide +kernel
theorem dX4_sign_81 : decode cX4_sign 81 = .ok (.iconst 3, 1) := by decide +kernel
theorem dX4_sign_82 : decode cX4_sign 82 = .ok (.if_icmp .eq 5, 3) := by decide +kernel
theorem dX4_sign_85 : decode cX4_sign 85 = .ok (.iconst 0, 1) := by decide +kernel
theorem dX4_sign_86 : decode cX4_sign 86 = .ok (.ireturn, 1) := by decide +kernel
theorem dX4_sign_87 : decode cX4_sign 87 = .ok (.aload_n 0, 1) := by decide +kernel
theorem dX4_sign_88 : decode cX4_sign 88 = .ok (.getfield 31, 3) := by decide +kernel
theorem dX4_sign_91 : decode cX4_sign 91 = .ok (.iload_n 1, 1) := by decide +kernel
theorem dX4_sign_92 : decode cX4_sign 92 = .ok (.iconst 1, 1) := by decide +kernel
theorem dX4_sign_93 : decode cX4_sign 93 = .ok (.bastore, 1) := by decide +kernel
theorem dX4_sign_94 : decode cX4_sign 94 = .ok (.aload_n 0, 1) := by decide +kernel
theorem dX4_sign_95 : decode cX4_sign 95 = .ok (.iload_n 1, 1) := by decide +kernel
theorem dX4_sign_96 : decode cX4_sign 96 = .ok (.invokevirtual 100, 3) := by decide +kernel
theorem dX4_sign_99 : decode cX4_sign 99 = .ok (.ireturn, 1) := by decide +kernel
theorem dX4_isSuspendedNow_0 : decode cX4_isSuspendedNow 0 = .ok (.iconst 0, 1) := by decide +kernel
theorem dX4_isSuspendedNow_1 : decode cX4_isSuspendedNow 1 = .ok (.istore_n 2, 1) := by decide +kernel
theorem dX4_isSuspendedNow_2 : decode cX4_isSuspendedNow 2 = .ok (.iconst 0, 1) := by decide +kernel
theorem dX4_isSuspendedNow_3 : decode cX4_isSuspendedNow 3 = .ok (.istore_n 3, 1) := by decide +kernel
theorem dX4_isSuspendedNow_4 : decode cX4_isSuspendedNow 4 = .ok (.iload_n 3, 1) := by decide +kernel
theorem dX4_isSuspendedNow_5 : decode cX4_isSuspendedNow 5 = .ok (.aload_n 0, 1) := by decide +kernel
theorem dX4_isSuspendedNow_6 : decode cX4_isSuspendedNow 6 = .ok (.getfield 76, 3) := by decide +kernel
theorem dX4_isSuspendedNow_9 : decode cX4_isSuspendedNow 9 = .ok (.if_icmp .ge 59, 3) := by decide +kernel
theorem dX4_isSuspendedNow_12 : decode cX4_isSuspendedNow 12 = .ok (.iload_n 2, 1) := by decide +kernel
theorem dX4_isSuspendedNow_13 : decode cX4_isSuspendedNow 13 = .ok (.ifCond .ne 43, 3) := by decide +kernel
theorem dX4_isSuspendedNow_16 : decode cX4_isSuspendedNow 16 = .ok (.aload_n 0, 1) := by decide +kernel
theorem dX4_isSuspendedNow_17 : decode cX4_isSuspendedNow 17 = .ok (.getfield 44, 3) := by decide +kernel
theorem dX4_isSuspendedNow_20 : decode cX4_isSuspendedNow 20 = .ok (.iload_n 3, 1) := by decide +kernel
theorem dX4_isSuspendedNow_21 : decode cX4_isSuspendedNow 21 = .ok (.iaload, 1) := by decide +kernel
theorem dX4_isSuspendedNow_22 : decode cX4_isSuspendedNow 22 = .ok (.aload_n 0, 1) := by decide +kernel
theorem dX4_isSuspendedNow_23 : decode cX4_isSuspendedNow 23 = .ok (.getfield 44, 3) := by decide +kernel
theorem dX4_isSuspendedNow_26 : decode cX4_isSuspendedNow 26 = .ok (.iload_n 1, 1) := by decide +kernel
theorem dX4_isSuspendedNow_27 : decode cX4_isSuspendedNow 27 = .ok (.iaload, 1) := by decide +kernel
theorem dX4_isSuspendedNow_28 : decode cX4_isSuspendedNow 28 = .ok (.if_icmp .ne 32, 3) := by decide +kernel
theorem dX4_isSuspendedNow_31 : decode cX4_isSuspendedNow 31 = .ok (.aload_n 0, 1) := by decide +kernel
theorem dX4_isSuspendedNow_32 : decode cX4_isSuspendedNow 32 = .ok (.getfield 47, 3) := by decide +kernel
theorem dX4_isSuspendedNow_35 : decode cX4_isSuspendedNow 35 = .ok (.iload_n 3, 1) := by decide +kernel
theorem dX4_isSuspendedNow_36 : decode cX4_isSuspendedNow 36 = .ok (.iaload, 1) := by decide +kernel
theorem dX4_isSuspendedNow_37 : decode cX4_isSuspendedNow 37 = .ok (.aload_n 0, 1) := by decide +kernel
theorem dX4_isSuspendedNow_38 : decode cX4_isSuspendedNow 38 = .ok (.getfield 47, 3) := by decide +kernel
theorem dX4_isSuspendedNow_41 : decode cX4_isSuspendedNow 41 = .ok (.iload_n 1, 1) := by decide +kernel
theorem dX4_isSuspendedNow_42 : decode cX4_isSuspendedNow 42 = .ok (.iaload, 1) := by decide +kernel
theorem dX4_isSuspendedNow_43 : decode cX4_isSuspendedNow 43 = .ok (.if_icmp .eq 17, 3) := by decide +kernel
theorem dX4_isSuspendedNow_46 : decode cX4_isSuspendedNow 46 = .ok (.aload_n 0, 1) := by decide +kernel
theorem dX4_isSuspendedNow_47 : decode cX4_isSuspendedNow 47 = .ok (.getfield 56, 3) := by decide +kernel
theorem dX4_isSuspendedNow_50 : decode cX4_isSuspendedNow 50 = .ok (.iload_n 3, 1) := by decide +kernel
theorem dX4_isSuspendedNow_51 : decode cX4_isSuspendedNow 51 = .ok (.iaload, 1) := by decide +kernel
theorem dX4_isSuspendedNow_52 : decode cX4_isSuspendedNow 52 = .ok (.iconst 3, 1) := by decide +kernel
theorem dX4_isSuspendedNow_53 : decode cX4_isSuspendedNow 53 = .ok (.if_icmp .ne 7, 3) := by decide +kernel
theorem dX4_isSuspendedNow_56 : decode cX4_isSuspendedNow 56 = .ok (.iconst 1, 1) := by decide +kernel
theorem dX4_isSuspendedNow_57 : decode cX4_isSuspendedNow 57 = .ok (.goto 4, 3) := by decide +kernel
theorem dX4_isSuspendedNow_60 : decode cX4_isSuspendedNow 60 = .ok (.iconst 0, 1) := by decide +kernel
theorem dX4_isSuspendedNow_61 : decode cX4_isSuspendedNow 61 = .ok (.istore_n 2, 1) := by decide +kernel
theorem dX4_isSuspendedNow_62 : decode cX4_isSuspendedNow 62 = .ok (.iinc 3 1, 3) := by decide +kernel
theorem dX4_isSuspendedNow_65 : decode cX4_isSuspendedNow 65 = .ok (.goto (-61), 3) := by decide +kernel
theorem dX4_isSuspendedNow_68 : decode cX4_isSuspendedNow 68 = .ok (.iload_n 2, 1) := by decide +kernel
theorem dX4_isSuspendedNow_69 : decode cX4_isSuspendedNow 69 = .ok (.ifCond .eq 26, 3) := by decide +kernel
theorem dX4_isSuspendedNow_72 : decode cX4_isSuspendedNow 72 = .ok (.aload_n 0, 1) := by decide +kernel
theorem dX4_isSuspendedNow_73 : decode cX4_isSuspendedNow 73 = .ok (.getfield 56, 3) := by decide +kernel
theorem dX4_isSuspendedNow_76 : decode cX4_isSuspendedNow 76 = .ok (.iload_n 1, 1) := by decide +kernel
theorem dX4_isSuspendedNow_77 : decode cX4_isSuspendedNow 77 = .ok (.iaload, 1) := by decide +kernel
theorem dX4_isSuspendedNow_78 : decode cX4_isSuspendedNow 78 = .ok (.ifCond .eq 13, 3) := by decide +kernel
theorem dX4_isSuspendedNow_81 : decode cX4_isSuspendedNow 81 = .ok (.aload_n 0, 1) := by decide +kernel
theorem dX4_isSuspendedNow_82 : decode cX4_isSuspendedNow 82 = .ok (.getfield 56, 3) := by decide +kernel
theorem dX4_isSuspendedNow_85 : decode cX4_isSuspendedNow 85 = .ok (.iload_n 1, 1) := by decide +kernel
theorem dX4_isSuspendedNow_86 : decode cX4_isSuspendedNow 86 = .ok (.iaload, 1) := by decide +kernel
theorem dX4_isSuspendedNow_87 : decode cX4_isSuspendedNow 87 = .ok (.iconst 2, 1) := by decide +kernel
theorem dX4_isSuspendedNow_88 : decode cX4_isSuspendedNow 88 = .ok (.if_icmp .ne 7, 3) := by decide +kernel
theorem dX4_isSuspendedNow_91 : decode cX4_isSuspendedNow 91 = .ok (.iconst 1, 1) := by decide +kernel
theorem dX4_isSuspendedNow_92 : decode cX4_isSuspendedNow 92 = .ok (.goto 4, 3) := by decide +kernel
theorem dX4_isSuspendedNow_95 : decode cX4_isSuspendedNow 95 = .ok (.iconst 0, 1) := by decide +kernel
theorem dX4_isSuspendedNow_96 : decode cX4_isSuspendedNow 96 = .ok (.ireturn, 1) := by decide +kernel
set_option maxRecDepth 20000 in
theorem ggX4_passes_X4_isSuspendedNow : GoodIn wsX4_passes wsX4_isSuspendedNow := goodIn_r _ [10, 2, 11, 12, 5, 13, 14, 15, 16, 17, 18, 19, 20, 21, 22, 23, 24, 25, 26, 27, 28, 29, 30, 31, 32, 33, 34] (by decide +kernel) (by decide +kernel)
set_option maxRecDepth 20000 in
theorem gX4_passes_X4_isSuspendedNow : GoodIn wsX4_passes (wsV RX4 103 RX4 yX4_isSuspendedNow wsX4_isSuspendedNow) := goodIn_app (goodIn_of _ (by decide +kernel)) ggX4_passes_X4_isSuspendedNow
theorem dX4_passes_0 : decode cX4_passes 0 = .ok (.aload_n 0, 1) := by decide +kernel
theorem dX4_passes_1 : decode cX4_passes 1 = .ok (.dup, 1) := by decide +kernel
theorem dX4_passes_2 : decode cX4_passes 2 = .ok (.getfield 97, 3) := by decide +kernel
theorem dX4_passes_5 : decode cX4_passes 5 = .ok (.iconst 1, 1) := by decide +kernel
theorem dX4_passes_6 : decode cX4_passes 6 = .ok (.iadd, 1) := by decide +kernel
theorem dX4_passes_7 : decode cX4_passes 7 = .ok (.putfield 97, 3) := by decide +kernel
theorem dX4_passes_10 : decode cX4_passes 10 = .ok (.iconst 0, 1) := by decide +kernel
theorem dX4_passes_11 : decode cX4_passes 11 = .ok (.istore_n 1, 1) := by decide +kernel
theorem dX4_passes_12 : decode cX4_passes 12 = .ok (.iload_n 1, 1) := by decide +kernel
theorem dX4_passes_13 : decode cX4_passes 13 = .ok (.aload_n 0, 1) := by decide +kernel
theorem dX4_passes_14 : decode cX4_passes 14 = .ok (.getfield 76, 3) := by decide +kernel
theorem dX4_passes_17 : decode cX4_passes 17 = .ok (.if_icmp .ge 20, 3) := by decide +kernel
theorem dX4_passes_20 : decode cX4_passes 20 = .ok (.aload_n 0, 1) := by decide +kernel
theorem dX4_passes_21 : decode cX4_passes 21 = .ok (.getfield 62, 3) := by decide +kernel
theorem dX4_passes_24 : decode cX4_passes 24 = .ok (.iload_n 1, 1) := by decide +kernel
theorem dX4_passes_25 : decode cX4_passes 25 = .ok (.aload_n 0, 1) := by decide +kernel
theorem dX4_passes_26 : decode cX4_passes 26 = .ok (.iload_n 1, 1) := by decide +kernel
theorem dX4_passes_27 : decode cX4_passes 27 = .ok (.invokevirtual 103, 3) := by decide +kernel
theorem dX4_passes_30 : decode cX4_passes 30 = .ok (.bastore, 1) := by decide +kernel
theorem dX4_passes_31 : decode cX4_passes 31 = .ok (.iinc 1 1, 3) := by decide +kernel
theorem dX4_passes_34 : decode cX4_passes 34 = .ok (.goto (-22), 3) := by decide +kernel
theorem dX4_passes_37 : decode cX4_passes 37 = .ok (.iconst 0, 1) := by decide +kernel
theorem dX4_passes_38 : decode cX4_passes 38 = .ok (.istore_n 1, 1) := by decide +kernel
theorem dX4_passes_39 : decode cX4_passes 39 = .ok (.iconst 0, 1) := by decide +kernel
theorem dX4_passes_40 : decode cX4_passes 40 = .ok (.istore_n 2, 1) := by decide +kernel
theorem dX4_passes_41 : decode cX4_passes 41 = .ok (.iload_n 2, 1) := by decide +kernel
theorem dX4_passes_42 : decode cX4_passes 42 = .ok (.aload_n 0, 1) := by decide +kernel
theorem dX4_passes_43 : decode cX4_passes 43 = .ok (.getfield 76, 3) := by decide +kernel
theorem dX4_passes_46 : decode cX4_passes 46 = .ok (.if_icmp .ge 75, 3) := by decide +kernel
theorem dX4_passes_49 : decode cX4_passes 49 = .ok (.aload_n 0, 1) := by decide +kernel
theorem dX4_passes_50 : decode cX4_passes 50 = .ok (.getfield 59, 3) := by decide +kernel
theorem dX4_passes_53 : decode cX4_passes 53 = .ok (.iload_n 2, 1) := by decide +kernel
theorem dX4_passes_54 : decode cX4_passes 54 = .ok (.dup2, 1) := by decide +kernel
theorem dX4_passes_55 : decode cX4_passes 55 = .ok (.iaload, 1) := by decide +kernel
theorem dX4_passes_56 : decode cX4_passes 56 = .ok (.aload_n 0, 1) := by decide +kernel
theorem dX4_passes_57 : decode cX4_passes 57 = .ok (.getfield 62, 3) := by decide +kernel
theorem dX4_passes_60 : decode cX4_passes 60 = .ok (.iload_n 2, 1) := by decide +kernel
theorem dX4_passes_61 : decode cX4_passes 61 = .ok (.baload, 1) := by decide +kernel
theorem dX4_passes_62 : decode cX4_passes 62 = .ok (.ifCond .eq 7, 3) := by decide +kernel
theorem dX4_passes_65 : decode cX4_passes 65 = .ok (.iconst 1, 1) := by decide +kernel
theorem dX4_passes_66 : decode cX4_passes 66 = .ok (.goto 4, 3) := by decide +kernel
theorem dX4_passes_69 : decode cX4_passes 69 = .ok (.iconst 0, 1) := by decide +kernel
theorem dX4_passes_70 : decode cX4_passes 70 = .ok (.iadd, 1) := by decide +kernel
theorem dX4_passes_71 : decode cX4_passes 71 = .ok (.iastore, 1) := by decide +kernel
theorem dX4_passes_72 : decode cX4_passes 72 = .ok (.aload_n 0, 1) := by decide +kernel
theorem dX4_passes_73 : decode cX4_passes 73 = .ok (.getfield 56, 3) := by decide +kernel
theorem dX4_passes_76 : decode cX4_passes 76 = .ok (.iload_n 2, 1) := by decide +kernel
theorem dX4_passes_77 : decode cX4_passes 77 = .ok (.iaload, 1) := by decide +kernel
theorem dX4_passes_78 : decode cX4_passes 78 = .ok (.iconst 2, 1) := by decide +kernel
theorem dX4_passes_79 : decode cX4_passes 79 = .ok (.if_icmp .ne 36, 3) := by decide +kernel
theorem dX4_passes_82 : decode cX4_passes 82 = .ok (.aload_n 0, 1) := by decide +kernel
theorem dX4_passes_83 : decode cX4_passes 83 = .ok (.getfield 97, 3) := by decide +kernel
theorem dX4_passes_86 : decode cX4_passes 86 = .ok (.aload_n 0, 1) := by decide +kernel
theorem dX4_passes_87 : decode cX4_passes 87 = .ok (.getfield 59, 3) := by decide +kernel
theorem dX4_passes_90 : decode cX4_passes 90 = .ok (.iload_n 2, 1) := by decide +kernel
theorem dX4_passes_91 : decode cX4_passes 91 = .ok (.iaload, 1) := by decide +kernel
theorem dX4_passes_92 : decode cX4_passes 92 = .ok (.if_icmp .le 23, 3) := by decide +kernel
theorem dX4_passes_95 : decode cX4_passes 95 = .ok (.aload_n 0, 1) := by decide +kernel
theorem dX4_passes_96 : decode cX4_passes 96 = .ok (.getfield 56, 3) := by decide +kernel
theorem dX4_passes_99 : decode cX4_passes 99 = .ok (.iload_n 2, 1) := by decide +kernel
theorem dX4_passes_100 : decode cX4_passes 100 = .ok (.iconst 3, 1) := by decide +kernel
theorem dX4_passes_101 : decode cX4_passes 101 = .ok (.iastore, 1) := by decide +kernel
theorem dX4_passes_102 : decode cX4_passes 102 = .ok (.aload_n 0, 1) := by decide +kernel
theorem dX4_passes_103 : decode cX4_passes 103 = .ok (.getfield 59, 3) := by decide +kernel
theorem dX4_passes_106 : decode cX4_passes 106 = .ok (.iload_n 2, 1) := by decide +kernel
theorem dX4_passes_107 : decode cX4_passes 107 = .ok (.aload_n 0, 1) := by decide +kernel
theorem dX4_passes_108 : decode cX4_passes 108 = .ok (.getfield 97, 3) := by decide +kernel
theorem dX4_passes_111 : decode cX4_passes 111 = .ok (.iastore, 1) := by decide +kernel
theorem dX4_passes_112 : decode cX4_passes 112 = .ok (.iinc 1 1, 3) := by decide +kernel
theorem dX4_passes_115 : decode cX4_passes 115 = .ok (.iinc 2 1, 3) := by decide +kernel
theorem dX4_passes_118 : decode cX4_passes 118 = .ok (.goto (-77), 3) := by decide +kernel
theorem dX4_passes_121 : decode cX4_passes 121 = .ok (.iload_n 1, 1) := by decide +kernel
theorem dX4_passes_122 : decode cX4_passes 122 = .ok (.ireturn, 1) := by decide +kernel
set_option maxRecDepth 20000 in
theorem ggX4_pass_X4_in : GoodIn wsX4_pass wsX4_in := goodIn_r _ [6] (by decide +kernel) (by decide +kernel)
set_option maxRecDepth 20000 in
theorem gX4_pass_X4_in : GoodIn wsX4_pass (va_wsS RX4 69 yX4_in wsX4_in) := goodIn_app (goodIn_of _ (by decide +kernel)) ggX4_pass_X4_in
set_option maxRecDepth 20000 in
theorem ggX4_pass_X4_passes : GoodIn wsX4_pass wsX4_passes := goodIn_r _ [10, 1, 11, 12, 13, 14, 15, 16, 17, 5, 18, 19, 20, 21, 22, 23, 24, 25, 26, 27, 28, 29, 30, 31, 32, 33, 34, 35, 36, 37, 38, 39, 40, 41, 42] (by decide +kernel) (by decide +kernel)
set_option maxRecDepth 20000 in
theorem gX4_pass_X4_passes : GoodIn wsX4_pass (wsV RX4 106 RX4 yX4_passes wsX4_passes) := goodIn_app (goodIn_of _ (by decide +kernel)) ggX4_pass_X4_passes
theorem dX4_pass_0 : decode cX4_pass 0 = .ok (.aload_n 0, 1) := by decide +kernel
theorem dX4_pass_1 : decode cX4_pass 1 = .ok (.iload_n 1, 1) := by decide +kernel
theorem dX4_pass_2 : decode cX4_pass 2 = .ok (.iconst 1, 1) := by decide +kernel
theorem dX4_pass_3 : decode cX4_pass 3 = .ok (.bipush 100, 2) := by decide +kernel
theorem dX4_pass_5 : decode cX4_pass 5 = .ok (.invokestatic 69, 3) := by decide +kernel
theorem dX4_pass_8 : decode cX4_pass 8 = .ok (.ifCond .ne 7, 3) := by decide +kernel
theorem dX4_pass_11 : decode cX4_pass 11 = .ok (.iconst 1, 1) := by decide +kernel
theorem dX4_pass_12 : decode cX4_pass 12 = .ok (.goto 20, 3) := by decide +kernel
theorem dX4_pass_15 : decode cX4_pass 15 = .ok (.aload_n 0, 1) := by decide +kernel
theorem dX4_pass_16 : decode cX4_pass 16 = .ok (.getfield 97, 3) := by decide +kernel
theorem dX4_pass_19 : decode cX4_pass 19 = .ok (.iload_n 1, 1) := by decide +kernel
theorem dX4_pass_20 : decode cX4_pass 20 = .ok (.iadd, 1) := by decide +kernel
theorem dX4_pass_21 : decode cX4_pass 21 = .ok (.sipush 9999, 3) := by decide +kernel
theorem dX4_pass_24 : decode cX4_pass 24 = .ok (.if_icmp .le 7, 3) := by decide +kernel
theorem dX4_pass_27 : decode cX4_pass 27 = .ok (.iconst 2, 1) := by decide +kernel
theorem dX4_pass_28 : decode cX4_pass 28 = .ok (.goto 4, 3) := by decide +kernel
theorem dX4_pass_31 : decode cX4_pass 31 = .ok (.iconst 0, 1) := by decide +kernel
theorem dX4_pass_32 : decode cX4_pass 32 = .ok (.putfield 65, 3) := by decide +kernel
theorem dX4_pass_35 : decode cX4_pass 35 = .ok (.iconst 0, 1) := by decide +kernel
theorem dX4_pass_36 : decode cX4_pass 36 = .ok (.istore_n 2, 1) := by decide +kernel
theorem dX4_pass_37 : decode cX4_pass 37 = .ok (.iconst 0, 1) := by decide +kernel
theorem dX4_pass_38 : decode cX4_pass 38 = .ok (.istore_n 3, 1) := by decide +kernel
theorem dX4_pass_39 : decode cX4_pass 39 = .ok (.iload_n 3, 1) := by decide +kernel
theorem dX4_pass_40 : decode cX4_pass 40 = .ok (.iload_n 1, 1) := by decide +kernel
theorem dX4_pass_41 : decode cX4_pass 41 = .ok (.if_icmp .ge 23, 3) := by decide +kernel
theorem dX4_pass_44 : decode cX4_pass 44 = .ok (.aload_n 0, 1) := by decide +kernel
theorem dX4_pass_45 : decode cX4_pass 45 = .ok (.getfield 65, 3) := by decide +kernel
theorem dX4_pass_48 : decode cX4_pass 48 = .ok (.ifCond .ne 16, 3) := by decide +kernel
theorem dX4_pass_51 : decode cX4_pass 51 = .ok (.iload_n 2, 1) := by decide +kernel
theorem dX4_pass_52 : decode cX4_pass 52 = .ok (.aload_n 0, 1) := by decide +kernel
theorem dX4_pass_53 : decode cX4_pass 53 = .ok (.invokevirtual 106, 3) := by decide +kernel
theorem dX4_pass_56 : decode cX4_pass 56 = .ok (.iadd, 1) := by decide +kernel
theorem dX4_pass_57 : decode cX4_pass 57 = .ok (.istore_n 2, 1) := by decide +kernel
theorem dX4_pass_58 : decode cX4_pass 58 = .ok (.iinc 3 1, 3) := by decide +kernel
theorem dX4_pass_61 : decode cX4_pass 61 = .ok (.goto (-22), 3) := by decide +kernel
theorem dX4_pass_64 : decode cX4_pass 64 = .ok (.iload_n 2, 1) := by decide +kernel
theorem dX4_pass_65 : decode cX4_pass 65 = .ok (.ireturn, 1) := by decide +kernel
theorem dX4_duties_0 : decode cX4_duties 0 = .ok (.aload_n 0, 1) := by decide +kernel
theorem dX4_duties_1 : decode cX4_duties 1 = .ok (.iconst 0, 1) := by decide +kernel
theorem dX4_duties_2 : decode cX4_duties 2 = .ok (.putfield 65, 3) := by decide +kernel
theorem dX4_duties_5 : decode cX4_duties 5 = .ok (.aload_n 0, 1) := by decide +kernel
theorem dX4_duties_6 : decode cX4_duties 6 = .ok (.getfield 76, 3) := by decide +kernel
theorem dX4_duties_9 : decode cX4_duties 9 = .ok (.ireturn, 1) := by decide +kernel
set_option maxRecDepth 20000 in
theorem ggX4_state_X4_isDuty : GoodIn wsX4_state wsX4_isDuty := goodIn_r _ [7, 8, 9, 10, 6, 11, 12, 13, 14, 15, 16, 17, 18, 19, 20, 21, 22, 23, 24, 25, 26, 27, 28, 29, 30, 31, 32, 33] (by decide +kernel) (by decide +kernel)
set_option maxRecDepth 20000 in
theorem gX4_state_X4_isDuty : GoodIn wsX4_state (wsV RX4 110 RX4 yX4_isDuty wsX4_isDuty) := goodIn_app (goodIn_of _ (by decide +kernel)) ggX4_state_X4_isDuty
theorem dX4_state_0 : decode cX4_state 0 = .ok (.aload_n 0, 1) := by decide +kernel
theorem dX4_state_1 : decode cX4_state 1 = .ok (.aload_n 0, 1) := by decide +kernel
theorem dX4_state_2 : decode cX4_state 2 = .ok (.iload_n 1, 1) := by decide +kernel
theorem dX4_state_3 : decode cX4_state 3 = .ok (.invokevirtual 110, 3) := by decide +kernel
theorem dX4_state_6 : decode cX4_state 6 = .ok (.ifCond .eq 7, 3) := by decide +kernel
theorem dX4_state_9 : decode cX4_state 9 = .ok (.iconst 0, 1) := by decide +kernel
theorem dX4_state_10 : decode cX4_state 10 = .ok (.goto 4, 3) := by decide +kernel
theorem dX4_state_13 : decode cX4_state 13 = .ok (.iconst 1, 1) := by decide +kernel
theorem dX4_state_14 : decode cX4_state 14 = .ok (.putfield 65, 3) := by decide +kernel
theorem dX4_state_17 : decode cX4_state 17 = .ok (.aload_n 0, 1) := by decide +kernel
theorem dX4_state_18 : decode cX4_state 18 = .ok (.getfield 65, 3) := by decide +kernel
theorem dX4_state_21 : decode cX4_state 21 = .ok (.ifCond .le 7, 3) := by decide +kernel
theorem dX4_state_24 : decode cX4_state 24 = .ok (.iconst 0, 1) := by decide +kernel
theorem dX4_state_25 : decode cX4_state 25 = .ok (.goto 9, 3) := by decide +kernel
theorem dX4_state_28 : decode cX4_state 28 = .ok (.aload_n 0, 1) := by decide +kernel
theorem dX4_state_29 : decode cX4_state 29 = .ok (.getfield 56, 3) := by decide +kernel
theorem dX4_state_32 : decode cX4_state 32 = .ok (.iload_n 1, 1) := by decide +kernel
theorem dX4_state_33 : decode cX4_state 33 = .ok (.iaload, 1) := by decide +kernel
theorem dX4_state_34 : decode cX4_state 34 = .ok (.ireturn, 1) := by decide +kernel
set_option maxRecDepth 20000 in
theorem ggX4_day_X4_isDuty : GoodIn wsX4_day wsX4_isDuty := goodIn_r _ [7, 8, 9, 10, 6, 11, 12, 13, 14, 15, 16, 17, 18, 19, 20, 21, 22, 23, 24, 25, 26, 27, 28, 29, 30, 31, 32, 33] (by decide +kernel) (by decide +kernel)
set_option maxRecDepth 20000 in
theorem gX4_day_X4_isDuty : GoodIn wsX4_day (wsV RX4 110 RX4 yX4_isDuty wsX4_isDuty) := goodIn_app (goodIn_of _ (by decide +kernel)) ggX4_day_X4_isDuty
theorem dX4_day_0 : decode cX4_day 0 = .ok (.aload_n 0, 1) := by decide +kernel
theorem dX4_day_1 : decode cX4_day 1 = .ok (.aload_n 0, 1) := by decide +kernel
theorem dX4_day_2 : decode cX4_day 2 = .ok (.iload_n 1, 1) := by decide +kernel
theorem dX4_day_3 : decode cX4_day 3 = .ok (.invokevirtual 110, 3) := by decide +kernel
theorem dX4_day_6 : decode cX4_day 6 = .ok (.ifCond .eq 7, 3) := by decide +kernel
theorem dX4_day_9 : decode cX4_day 9 = .ok (.iconst 0, 1) := by decide +kernel
theorem dX4_day_10 : decode cX4_day 10 = .ok (.goto 4, 3) := by decide +kernel
theorem dX4_day_13 : decode cX4_day 13 = .ok (.iconst 1, 1) := by decide +kernel
theorem dX4_day_14 : decode cX4_day 14 = .ok (.putfield 65, 3) := by decide +kernel
theorem dX4_day_17 : decode cX4_day 17 = .ok (.aload_n 0, 1) := by decide +kernel
theorem dX4_day_18 : decode cX4_day 18 = .ok (.getfield 65, 3) := by decide +kernel
theorem dX4_day_21 : decode cX4_day 21 = .ok (.ifCond .le 7, 3) := by decide +kernel
theorem dX4_day_24 : decode cX4_day 24 = .ok (.iconst 0, 1) := by decide +kernel
theorem dX4_day_25 : decode cX4_day 25 = .ok (.goto 9, 3) := by decide +kernel
theorem dX4_day_28 : decode cX4_day 28 = .ok (.aload_n 0, 1) := by decide +kernel
theorem dX4_day_29 : decode cX4_day 29 = .ok (.getfield 59, 3) := by decide +kernel
theorem dX4_day_32 : decode cX4_day 32 = .ok (.iload_n 1, 1) := by decide +kernel
theorem dX4_day_33 : decode cX4_day 33 = .ok (.iaload, 1) := by decide +kernel
theorem dX4_day_34 : decode cX4_day 34 = .ok (.ireturn, 1) := by decide +kernel
set_option maxRecDepth 20000 in
theorem ggX4_isSuspended_X4_isDuty : GoodIn wsX4_isSuspended wsX4_isDuty := goodIn_r _ [6, 7, 8, 9, 5, 10, 18, 19, 20, 21, 22, 23, 24, 25, 26, 27, 28, 29, 30, 31, 32, 33, 34, 35, 36, 37, 38, 39] (by decide +kernel) (by decide +kernel)
set_option maxRecDepth 20000 in
theorem gX4_isSuspended_X4_isDuty : GoodIn wsX4_isSuspended (wsV RX4 110 RX4 yX4_isDuty wsX4_isDuty) := goodIn_app (goodIn_of _ (by decide +kernel)) ggX4_isSuspended_X4_isDuty
set_option maxRecDepth 20000 in
theorem ggX4_isSuspended_X4_isSuspendedNow : GoodIn wsX4_isSuspended wsX4_isSuspendedNow := goodIn_r _ [14, 7, 15, 16, 17, 18, 19, 20, 21, 22, 23, 24, 25, 26, 27, 28, 29, 30, 31, 32, 33, 34, 35, 36, 37, 38, 39] (by decide +kernel) (by decide +kernel)
set_option maxRecDepth 20000 in
theorem gX4_isSuspended_X4_isSuspendedNow : GoodIn wsX4_isSuspended (wsV RX4 103 RX4 yX4_isSuspendedNow wsX4_isSuspendedNow) := goodIn_app (goodIn_of _ (by decide +kernel)) ggX4_isSuspended_X4_isSuspendedNow
theorem dX4_isSuspended_0 : decode cX4_isSuspended 0 = .ok (.aload_n 0, 1) := by decide +kernel
theorem dX4_isSuspended_1 : decode cX4_isSuspended 1 = .ok (.aload_n 0, 1) := by decide +kernel
theorem dX4_isSuspended_2 : decode cX4_isSuspended 2 = .ok (.iload_n 1, 1) := by decide +kernel
theorem dX4_isSuspended_3 : decode cX4_isSuspended 3 = .ok (.invokevirtual 110, 3) := by decide +kernel
theorem dX4_isSuspended_6 : decode cX4_isSuspended 6 = .ok (.ifCond .eq 7, 3) := by decide +kernel
theorem dX4_isSuspended_9 : decode cX4_isSuspended 9 = .ok (.iconst 0, 1) := by decide +kernel
theorem dX4_isSuspended_10 : decode cX4_isSuspended 10 = .ok (.goto 4, 3) := by decide +kernel
theorem dX4_isSuspended_13 : decode cX4_isSuspended 13 = .ok (.iconst 1, 1) := by decide +kernel
theorem dX4_isSuspended_14 : decode cX4_isSuspended 14 = .ok (.putfield 65, 3) := by decide +kernel
theorem dX4_isSuspended_17 : decode cX4_isSuspended 17 = .ok (.aload_n 0, 1) := by decide +kernel
theorem dX4_isSuspended_18 : decode cX4_isSuspended 18 = .ok (.getfield 65, 3) := by decide +kernel
theorem dX4_isSuspended_21 : decode cX4_isSuspended 21 = .ok (.ifCond .ne 15, 3) := by decide +kernel
theorem dX4_isSuspended_24 : decode cX4_isSuspended 24 = .ok (.aload_n 0, 1) := by decide +kernel
theorem dX4_isSuspended_25 : decode cX4_isSuspended 25 = .ok (.iload_n 1, 1) := by decide +kernel
theorem dX4_isSuspended_26 : decode cX4_isSuspended 26 = .ok (.invokevirtual 103, 3) := by decide +kernel
theorem dX4_isSuspended_29 : decode cX4_isSuspended 29 = .ok (.ifCond .eq 7, 3) := by decide +kernel
theorem dX4_isSuspended_32 : decode cX4_isSuspended 32 = .ok (.iconst 1, 1) := by decide +kernel
theorem dX4_isSuspended_33 : decode cX4_isSuspended 33 = .ok (.goto 4, 3) := by decide +kernel
theorem dX4_isSuspended_36 : decode cX4_isSuspended 36 = .ok (.iconst 0, 1) := by decide +kernel
theorem dX4_isSuspended_37 : decode cX4_isSuspended 37 = .ok (.ireturn, 1) := by decide +kernel
set_option maxRecDepth 20000 in
theorem ggX4_perform_X4_isDuty : GoodIn wsX4_perform wsX4_isDuty := goodIn_r _ [9, 10, 11, 12, 8, 13, 14, 15, 16, 17, 18, 19, 20, 21, 22, 23, 24, 25, 26, 27, 28, 29, 30, 31, 32, 33, 34, 35] (by decide +kernel) (by decide +kernel)
set_option maxRecDepth 20000 in
theorem gX4_perform_X4_isDuty : GoodIn wsX4_perform (wsV RX4 110 RX4 yX4_isDuty wsX4_isDuty) := goodIn_app (goodIn_of _ (by decide +kernel)) ggX4_perform_X4_isDuty
theorem dX4_perform_0 : decode cX4_perform 0 = .ok (.aload_n 0, 1) := by decide +kernel
theorem dX4_perform_1 : decode cX4_perform 1 = .ok (.aload_n 0, 1) := by decide +kernel
theorem dX4_perform_2 : decode cX4_perform 2 = .ok (.iload_n 1, 1) := by decide +kernel
theorem dX4_perform_3 : decode cX4_perform 3 = .ok (.invokevirtual 110, 3) := by decide +kernel
theorem dX4_perform_6 : decode cX4_perform 6 = .ok (.ifCond .ne 7, 3) := by decide +kernel
theorem dX4_perform_9 : decode cX4_perform 9 = .ok (.iconst 1, 1) := by decide +kernel
theorem dX4_perform_10 : decode cX4_perform 10 = .ok (.goto 27, 3) := by decide +kernel
theorem dX4_perform_13 : decode cX4_perform 13 = .ok (.aload_n 0, 1) := by decide +kernel
theorem dX4_perform_14 : decode cX4_perform 14 = .ok (.getfield 56, 3) := by decide +kernel
theorem dX4_perform_17 : decode cX4_perform 17 = .ok (.iload_n 1, 1) := by decide +kernel
theorem dX4_perform_18 : decode cX4_perform 18 = .ok (.iaload, 1) := by decide +kernel
theorem dX4_perform_19 : decode cX4_perform 19 = .ok (.ifCond .eq 13, 3) := by decide +kernel
theorem dX4_perform_22 : decode cX4_perform 22 = .ok (.aload_n 0, 1) := by decide +kernel
theorem dX4_perform_23 : decode cX4_perform 23 = .ok (.getfield 56, 3) := by decide +kernel
theorem dX4_perform_26 : decode cX4_perform 26 = .ok (.iload_n 1, 1) := by decide +kernel
theorem dX4_perform_27 : decode cX4_perform 27 = .ok (.iaload, 1) := by decide +kernel
theorem dX4_perform_28 : decode cX4_perform 28 = .ok (.iconst 2, 1) := by decide +kernel
theorem dX4_perform_29 : decode cX4_perform 29 = .ok (.if_icmp .ne 7, 3) := by decide +kernel
theorem dX4_perform_32 : decode cX4_perform 32 = .ok (.iconst 0, 1) := by decide +kernel
theorem dX4_perform_33 : decode cX4_perform 33 = .ok (.goto 4, 3) := by decide +kernel
theorem dX4_perform_36 : decode cX4_perform 36 = .ok (.iconst 2, 1) := by decide +kernel
theorem dX4_perform_37 : decode cX4_perform 37 = .ok (.putfield 65, 3) := by decide +kernel
theorem dX4_perform_40 : decode cX4_perform 40 = .ok (.aload_n 0, 1) := by decide +kernel
theorem dX4_perform_41 : decode cX4_perform 41 = .ok (.getfield 65, 3) := by decide +kernel
theorem dX4_perform_44 : decode cX4_perform 44 = .ok (.ifCond .le 5, 3) := by decide +kernel
theorem dX4_perform_47 : decode cX4_perform 47 = .ok (.iconst 0, 1) := by decide +kernel
theorem dX4_perform_48 : decode cX4_perform 48 = .ok (.ireturn, 1) := by decide +kernel
theorem dX4_perform_49 : decode cX4_perform 49 = .ok (.aload_n 0, 1) := by decide +kernel
theorem dX4_perform_50 : decode cX4_perform 50 = .ok (.getfield 56, 3) := by decide +kernel
theorem dX4_perform_53 : decode cX4_perform 53 = .ok (.iload_n 1, 1) := by decide +kernel
theorem dX4_perform_54 : decode cX4_perform 54 = .ok (.iaload, 1) := by decide +kernel
theorem dX4_perform_55 : decode cX4_perform 55 = .ok (.iconst 2, 1) := by decide +kernel
theorem dX4_perform_56 : decode cX4_perform 56 = .ok (.if_icmp .eq 16, 3) := by decide +kernel
theorem dX4_perform_59 : decode cX4_perform 59 = .ok (.aload_n 0, 1) := by decide +kernel
theorem dX4_perform_60 : decode cX4_perform 60 = .ok (.getfield 97, 3) := by decide +kernel
theorem dX4_perform_63 : decode cX4_perform 63 = .ok (.aload_n 0, 1) := by decide +kernel
theorem dX4_perform_64 : decode cX4_perform 64 = .ok (.getfield 59, 3) := by decide +kernel
theorem dX4_perform_67 : decode cX4_perform 67 = .ok (.iload_n 1, 1) := by decide +kernel
theorem dX4_perform_68 : decode cX4_perform 68 = .ok (.iaload, 1) := by decide +kernel
theorem dX4_perform_69 : decode cX4_perform 69 = .ok (.if_icmp .le 7, 3) := by decide +kernel
theorem dX4_perform_72 : decode cX4_perform 72 = .ok (.iconst 1, 1) := by decide +kernel
theorem dX4_perform_73 : decode cX4_perform 73 = .ok (.goto 4, 3) := by decide +kernel
theorem dX4_perform_76 : decode cX4_perform 76 = .ok (.iconst 0, 1) := by decide +kernel
theorem dX4_perform_77 : decode cX4_perform 77 = .ok (.istore_n 2, 1) := by decide +kernel
theorem dX4_perform_78 : decode cX4_perform 78 = .ok (.aload_n 0, 1) := by decide +kernel
theorem dX4_perform_79 : decode cX4_perform 79 = .ok (.getfield 56, 3) := by decide +kernel
theorem dX4_perform_82 : decode cX4_perform 82 = .ok (.iload_n 1, 1) := by decide +kernel
theorem dX4_perform_83 : decode cX4_perform 83 = .ok (.iconst 1, 1) := by decide +kernel
theorem dX4_perform_84 : decode cX4_perform 84 = .ok (.iastore, 1) := by decide +kernel
theorem dX4_perform_85 : decode cX4_perform 85 = .ok (.aload_n 0, 1) := by decide +kernel
theorem dX4_perform_86 : decode cX4_perform 86 = .ok (.getfield 59, 3) := by decide +kernel
theorem dX4_perform_89 : decode cX4_perform 89 = .ok (.iload_n 1, 1) := by decide +kernel
theorem dX4_perform_90 : decode cX4_perform 90 = .ok (.aload_n 0, 1) := by decide +kernel
theorem dX4_perform_91 : decode cX4_perform 91 = .ok (.getfield 97, 3) := by decide +kernel
theorem dX4_perform_94 : decode cX4_perform 94 = .ok (.iastore, 1) := by decide +kernel
theorem dX4_perform_95 : decode cX4_perform 95 = .ok (.iload_n 2, 1) := by decide +kernel
theorem dX4_perform_96 : decode cX4_perform 96 = .ok (.ireturn, 1) := by decide +kernel
set_option maxRecDepth 20000 in
theorem ggX4_notice_X4_isDuty : GoodIn wsX4_notice wsX4_isDuty := goodIn_r _ [10, 11, 12, 13, 9, 14, 15, 16, 17, 18, 19, 20, 21, 22, 23, 24, 25, 26, 27, 28, 29, 30, 31, 32, 33, 34, 35, 36] (by decide +kernel) (by decide +kernel)
set_option maxRecDepth 20000 in
theorem gX4_notice_X4_isDuty : GoodIn wsX4_notice (wsV RX4 110 RX4 yX4_isDuty wsX4_isDuty) := goodIn_app (goodIn_of _ (by decide +kernel)) ggX4_notice_X4_isDuty
theorem dX4_notice_0 : decode cX4_notice 0 = .ok (.aload_n 0, 1) := by decide +kernel
theorem dX4_notice_1 : decode cX4_notice 1 = .ok (.aload_n 0, 1) := by decide +kernel
theorem dX4_notice_2 : decode cX4_notice 2 = .ok (.iload_n 1, 1) := by decide +kernel
theorem dX4_notice_3 : decode cX4_notice 3 = .ok (.invokevirtual 110, 3) := by decide +kernel
theorem dX4_notice_6 : decode cX4_notice 6 = .ok (.ifCond .ne 7, 3) := by decide +kernel
theorem dX4_notice_9 : decode cX4_notice 9 = .ok (.iconst 1, 1) := by decide +kernel
theorem dX4_notice_10 : decode cX4_notice 10 = .ok (.goto 30, 3) := by decide +kernel
theorem dX4_notice_13 : decode cX4_notice 13 = .ok (.aload_n 0, 1) := by decide +kernel
theorem dX4_notice_14 : decode cX4_notice 14 = .ok (.getfield 56, 3) := by decide +kernel
theorem dX4_notice_17 : decode cX4_notice 17 = .ok (.iload_n 1, 1) := by decide +kernel
theorem dX4_notice_18 : decode cX4_notice 18 = .ok (.iaload, 1) := by decide +kernel
theorem dX4_notice_19 : decode cX4_notice 19 = .ok (.ifCond .ne 20, 3) := by decide +kernel
theorem dX4_notice_22 : decode cX4_notice 22 = .ok (.aload_n 0, 1) := by decide +kernel
theorem dX4_notice_23 : decode cX4_notice 23 = .ok (.getfield 97, 3) := by decide +kernel
theorem dX4_notice_26 : decode cX4_notice 26 = .ok (.aload_n 0, 1) := by decide +kernel
theorem dX4_notice_27 : decode cX4_notice 27 = .ok (.getfield 59, 3) := by decide +kernel
theorem dX4_notice_30 : decode cX4_notice 30 = .ok (.iload_n 1, 1) := by decide +kernel
theorem dX4_notice_31 : decode cX4_notice 31 = .ok (.iaload, 1) := by decide +kernel
theorem dX4_notice_32 : decode cX4_notice 32 = .ok (.if_icmp .le 7, 3) := by decide +kernel
theorem dX4_notice_35 : decode cX4_notice 35 = .ok (.iconst 0, 1) := by decide +kernel
theorem dX4_notice_36 : decode cX4_notice 36 = .ok (.goto 4, 3) := by decide +kernel
theorem dX4_notice_39 : decode cX4_notice 39 = .ok (.iconst 2, 1) := by decide +kernel
theorem dX4_notice_40 : decode cX4_notice 40 = .ok (.putfield 65, 3) := by decide +kernel
theorem dX4_notice_43 : decode cX4_notice 43 = .ok (.aload_n 0, 1) := by decide +kernel
theorem dX4_notice_44 : decode cX4_notice 44 = .ok (.getfield 65, 3) := by decide +kernel
theorem dX4_notice_47 : decode cX4_notice 47 = .ok (.ifCond .le 5, 3) := by decide +kernel
theorem dX4_notice_50 : decode cX4_notice 50 = .ok (.iconst 0, 1) := by decide +kernel
theorem dX4_notice_51 : decode cX4_notice 51 = .ok (.ireturn, 1) := by decide +kernel
theorem dX4_notice_52 : decode cX4_notice 52 = .ok (.aload_n 0, 1) := by decide +kernel
theorem dX4_notice_53 : decode cX4_notice 53 = .ok (.getfield 56, 3) := by decide +kernel
theorem dX4_notice_56 : decode cX4_notice 56 = .ok (.iload_n 1, 1) := by decide +kernel
theorem dX4_notice_57 : decode cX4_notice 57 = .ok (.iconst 2, 1) := by decide +kernel
theorem dX4_notice_58 : decode cX4_notice 58 = .ok (.iastore, 1) := by decide +kernel
theorem dX4_notice_59 : decode cX4_notice 59 = .ok (.aload_n 0, 1) := by decide +kernel
theorem dX4_notice_60 : decode cX4_notice 60 = .ok (.getfield 59, 3) := by decide +kernel
theorem dX4_notice_63 : decode cX4_notice 63 = .ok (.iload_n 1, 1) := by decide +kernel
theorem dX4_notice_64 : decode cX4_notice 64 = .ok (.aload_n 0, 1) := by decide +kernel
theorem dX4_notice_65 : decode cX4_notice 65 = .ok (.getfield 97, 3) := by decide +kernel
theorem dX4_notice_68 : decode cX4_notice 68 = .ok (.aload_n 0, 1) := by decide +kernel
theorem dX4_notice_69 : decode cX4_notice 69 = .ok (.getfield 50, 3) := by decide +kernel
theorem dX4_notice_72 : decode cX4_notice 72 = .ok (.iload_n 1, 1) := by decide +kernel
theorem dX4_notice_73 : decode cX4_notice 73 = .ok (.iaload, 1) := by decide +kernel
theorem dX4_notice_74 : decode cX4_notice 74 = .ok (.iadd, 1) := by decide +kernel
theorem dX4_notice_75 : decode cX4_notice 75 = .ok (.iastore, 1) := by decide +kernel
theorem dX4_notice_76 : decode cX4_notice 76 = .ok (.aload_n 0, 1) := by decide +kernel
theorem dX4_notice_77 : decode cX4_notice 77 = .ok (.getfield 59, 3) := by decide +kernel
theorem dX4_notice_80 : decode cX4_notice 80 = .ok (.iload_n 1, 1) := by decide +kernel
theorem dX4_notice_81 : decode cX4_notice 81 = .ok (.iaload, 1) := by decide +kernel
theorem dX4_notice_82 : decode cX4_notice 82 = .ok (.ireturn, 1) := by decide +kernel
set_option maxRecDepth 20000 in
theorem ggX4_settle_X4_isDuty : GoodIn wsX4_settle wsX4_isDuty := goodIn_r _ [10, 11, 12, 13, 9, 14, 15, 16, 17, 18, 19, 20, 21, 22, 23, 24, 25, 26, 27, 28, 29, 30, 31, 32, 33, 34, 35, 36] (by decide +kernel) (by decide +kernel)
set_option maxRecDepth 20000 in
theorem gX4_settle_X4_isDuty : GoodIn wsX4_settle (wsV RX4 110 RX4 yX4_isDuty wsX4_isDuty) := goodIn_app (goodIn_of _ (by decide +kernel)) ggX4_settle_X4_isDuty
theorem dX4_settle_0 : decode cX4_settle 0 = .ok (.aload_n 0, 1) := by decide +kernel
theorem dX4_settle_1 : decode cX4_settle 1 = .ok (.aload_n 0, 1) := by decide +kernel
theorem dX4_settle_2 : decode cX4_settle 2 = .ok (.iload_n 1, 1) := by decide +kernel
theorem dX4_settle_3 : decode cX4_settle 3 = .ok (.invokevirtual 110, 3) := by decide +kernel
theorem dX4_settle_6 : decode cX4_settle 6 = .ok (.ifCond .ne 7, 3) := by decide +kernel
theorem dX4_settle_9 : decode cX4_settle 9 = .ok (.iconst 1, 1) := by decide +kernel
theorem dX4_settle_10 : decode cX4_settle 10 = .ok (.goto 18, 3) := by decide +kernel
theorem dX4_settle_13 : decode cX4_settle 13 = .ok (.aload_n 0, 1) := by decide +kernel
theorem dX4_settle_14 : decode cX4_settle 14 = .ok (.getfield 56, 3) := by decide +kernel
theorem dX4_settle_17 : decode cX4_settle 17 = .ok (.iload_n 1, 1) := by decide +kernel
theorem dX4_settle_18 : decode cX4_settle 18 = .ok (.iaload, 1) := by decide +kernel
theorem dX4_settle_19 : decode cX4_settle 19 = .ok (.iconst 3, 1) := by decide +kernel
theorem dX4_settle_20 : decode cX4_settle 20 = .ok (.if_icmp .ne 7, 3) := by decide +kernel
theorem dX4_settle_23 : decode cX4_settle 23 = .ok (.iconst 0, 1) := by decide +kernel
theorem dX4_settle_24 : decode cX4_settle 24 = .ok (.goto 4, 3) := by decide +kernel
theorem dX4_settle_27 : decode cX4_settle 27 = .ok (.iconst 2, 1) := by decide +kernel
theorem dX4_settle_28 : decode cX4_settle 28 = .ok (.putfield 65, 3) := by decide +kernel
theorem dX4_settle_31 : decode cX4_settle 31 = .ok (.aload_n 0, 1) := by decide +kernel
theorem dX4_settle_32 : decode cX4_settle 32 = .ok (.getfield 65, 3) := by decide +kernel
theorem dX4_settle_35 : decode cX4_settle 35 = .ok (.ifCond .le 5, 3) := by decide +kernel
theorem dX4_settle_38 : decode cX4_settle 38 = .ok (.iconst 0, 1) := by decide +kernel
theorem dX4_settle_39 : decode cX4_settle 39 = .ok (.ireturn, 1) := by decide +kernel
theorem dX4_settle_40 : decode cX4_settle 40 = .ok (.aload_n 0, 1) := by decide +kernel
theorem dX4_settle_41 : decode cX4_settle 41 = .ok (.getfield 56, 3) := by decide +kernel
theorem dX4_settle_44 : decode cX4_settle 44 = .ok (.iload_n 1, 1) := by decide +kernel
theorem dX4_settle_45 : decode cX4_settle 45 = .ok (.iconst 4, 1) := by decide +kernel
theorem dX4_settle_46 : decode cX4_settle 46 = .ok (.iastore, 1) := by decide +kernel
theorem dX4_settle_47 : decode cX4_settle 47 = .ok (.aload_n 0, 1) := by decide +kernel
theorem dX4_settle_48 : decode cX4_settle 48 = .ok (.getfield 59, 3) := by decide +kernel
theorem dX4_settle_51 : decode cX4_settle 51 = .ok (.iload_n 1, 1) := by decide +kernel
theorem dX4_settle_52 : decode cX4_settle 52 = .ok (.aload_n 0, 1) := by decide +kernel
theorem dX4_settle_53 : decode cX4_settle 53 = .ok (.getfield 97, 3) := by decide +kernel
theorem dX4_settle_56 : decode cX4_settle 56 = .ok (.iastore, 1) := by decide +kernel
theorem dX4_settle_57 : decode cX4_settle 57 = .ok (.aload_n 0, 1) := by decide +kernel
theorem dX4_settle_58 : decode cX4_settle 58 = .ok (.getfield 53, 3) := by decide +kernel
theorem dX4_settle_61 : decode cX4_settle 61 = .ok (.iload_n 1, 1) := by decide +kernel
theorem dX4_settle_62 : decode cX4_settle 62 = .ok (.iaload, 1) := by decide +kernel
theorem dX4_settle_63 : decode cX4_settle 63 = .ok (.ireturn, 1) := by decide +kernel
set_option maxRecDepth 20000 in
theorem ggX4_owes_X4_isContract : GoodIn wsX4_owes wsX4_isContract := goodIn_r _ [11, 12, 13, 14, 10, 15, 19, 20, 21, 22, 23, 24, 25, 26, 27, 28, 29, 30, 31, 32, 33, 34, 35, 36, 37, 38, 39, 40] (by decide +kernel) (by decide +kernel)
set_option maxRecDepth 20000 in
theorem gX4_owes_X4_isContract : GoodIn wsX4_owes (wsV RX4 86 RX4 yX4_isContract wsX4_isContract) := goodIn_app (goodIn_of _ (by decide +kernel)) ggX4_owes_X4_isContract
set_option maxRecDepth 20000 in
theorem ggX4_owes_X4_isSide : GoodIn wsX4_owes wsX4_isSide := goodIn_r _ [18, 13, 14, 10, 15] (by decide +kernel) (by decide +kernel)
set_option maxRecDepth 20000 in
theorem gX4_owes_X4_isSide : GoodIn wsX4_owes (va_wsS RX4 83 yX4_isSide wsX4_isSide) := goodIn_app (goodIn_of _ (by decide +kernel)) ggX4_owes_X4_isSide
theorem dX4_owes_0 : decode cX4_owes 0 = .ok (.aload_n 0, 1) := by decide +kernel
theorem dX4_owes_1 : decode cX4_owes 1 = .ok (.aload_n 0, 1) := by decide +kernel
theorem dX4_owes_2 : decode cX4_owes 2 = .ok (.iload_n 1, 1) := by decide +kernel
theorem dX4_owes_3 : decode cX4_owes 3 = .ok (.invokevirtual 86, 3) := by decide +kernel
theorem dX4_owes_6 : decode cX4_owes 6 = .ok (.ifCond .ne 7, 3) := by decide +kernel
theorem dX4_owes_9 : decode cX4_owes 9 = .ok (.iconst 1, 1) := by decide +kernel
theorem dX4_owes_10 : decode cX4_owes 10 = .ok (.goto 15, 3) := by decide +kernel
theorem dX4_owes_13 : decode cX4_owes 13 = .ok (.iload_n 2, 1) := by decide +kernel
theorem dX4_owes_14 : decode cX4_owes 14 = .ok (.invokestatic 83, 3) := by decide +kernel
theorem dX4_owes_17 : decode cX4_owes 17 = .ok (.ifCond .eq 7, 3) := by decide +kernel
theorem dX4_owes_20 : decode cX4_owes 20 = .ok (.iconst 0, 1) := by decide +kernel
theorem dX4_owes_21 : decode cX4_owes 21 = .ok (.goto 4, 3) := by decide +kernel
theorem dX4_owes_24 : decode cX4_owes 24 = .ok (.iconst 2, 1) := by decide +kernel
theorem dX4_owes_25 : decode cX4_owes 25 = .ok (.putfield 65, 3) := by decide +kernel
theorem dX4_owes_28 : decode cX4_owes 28 = .ok (.iconst 0, 1) := by decide +kernel
theorem dX4_owes_29 : decode cX4_owes 29 = .ok (.istore_n 3, 1) := by decide +kernel
theorem dX4_owes_30 : decode cX4_owes 30 = .ok (.iconst 0, 1) := by decide +kernel
theorem dX4_owes_31 : decode cX4_owes 31 = .ok (.istore 4, 2) := by decide +kernel
theorem dX4_owes_33 : decode cX4_owes 33 = .ok (.iload 4, 2) := by decide +kernel
theorem dX4_owes_35 : decode cX4_owes 35 = .ok (.aload_n 0, 1) := by decide +kernel
theorem dX4_owes_36 : decode cX4_owes 36 = .ok (.getfield 76, 3) := by decide +kernel
theorem dX4_owes_39 : decode cX4_owes 39 = .ok (.if_icmp .ge 86, 3) := by decide +kernel
theorem dX4_owes_42 : decode cX4_owes 42 = .ok (.aload_n 0, 1) := by decide +kernel
theorem dX4_owes_43 : decode cX4_owes 43 = .ok (.getfield 65, 3) := by decide +kernel
theorem dX4_owes_46 : decode cX4_owes 46 = .ok (.ifCond .ne 79, 3) := by decide +kernel
theorem dX4_owes_49 : decode cX4_owes 49 = .ok (.aload_n 0, 1) := by decide +kernel
theorem dX4_owes_50 : decode cX4_owes 50 = .ok (.getfield 44, 3) := by decide +kernel
theorem dX4_owes_53 : decode cX4_owes 53 = .ok (.iload 4, 2) := by decide +kernel
theorem dX4_owes_55 : decode cX4_owes 55 = .ok (.iaload, 1) := by decide +kernel
theorem dX4_owes_56 : decode cX4_owes 56 = .ok (.iload_n 1, 1) := by decide +kernel
theorem dX4_owes_57 : decode cX4_owes 57 = .ok (.if_icmp .ne 18, 3) := by decide +kernel
theorem dX4_owes_60 : decode cX4_owes 60 = .ok (.aload_n 0, 1) := by decide +kernel
theorem dX4_owes_61 : decode cX4_owes 61 = .ok (.getfield 56, 3) := by decide +kernel
theorem dX4_owes_64 : decode cX4_owes 64 = .ok (.iload 4, 2) := by decide +kernel
theorem dX4_owes_66 : decode cX4_owes 66 = .ok (.iaload, 1) := by decide +kernel
theorem dX4_owes_67 : decode cX4_owes 67 = .ok (.iconst 3, 1) := by decide +kernel
theorem dX4_owes_68 : decode cX4_owes 68 = .ok (.if_icmp .ne 7, 3) := by decide +kernel
theorem dX4_owes_71 : decode cX4_owes 71 = .ok (.iconst 1, 1) := by decide +kernel
theorem dX4_owes_72 : decode cX4_owes 72 = .ok (.goto 4, 3) := by decide +kernel
theorem dX4_owes_75 : decode cX4_owes 75 = .ok (.iconst 0, 1) := by decide +kernel
theorem dX4_owes_76 : decode cX4_owes 76 = .ok (.istore 5, 2) := by decide +kernel
theorem dX4_owes_78 : decode cX4_owes 78 = .ok (.iload_n 3, 1) := by decide +kernel
theorem dX4_owes_79 : decode cX4_owes 79 = .ok (.iload 5, 2) := by decide +kernel
theorem dX4_owes_81 : decode cX4_owes 81 = .ok (.ifCond .ne 7, 3) := by decide +kernel
theorem dX4_owes_84 : decode cX4_owes 84 = .ok (.iconst 0, 1) := by decide +kernel
theorem dX4_owes_85 : decode cX4_owes 85 = .ok (.goto 32, 3) := by decide +kernel
theorem dX4_owes_88 : decode cX4_owes 88 = .ok (.aload_n 0, 1) := by decide +kernel
theorem dX4_owes_89 : decode cX4_owes 89 = .ok (.getfield 47, 3) := by decide +kernel
theorem dX4_owes_92 : decode cX4_owes 92 = .ok (.iload 4, 2) := by decide +kernel
theorem dX4_owes_94 : decode cX4_owes 94 = .ok (.iaload, 1) := by decide +kernel
theorem dX4_owes_95 : decode cX4_owes 95 = .ok (.iload_n 2, 1) := by decide +kernel
theorem dX4_owes_96 : decode cX4_owes 96 = .ok (.if_icmp .ne 13, 3) := by decide +kernel
theorem dX4_owes_99 : decode cX4_owes 99 = .ok (.aload_n 0, 1) := by decide +kernel
theorem dX4_owes_100 : decode cX4_owes 100 = .ok (.getfield 53, 3) := by decide +kernel
theorem dX4_owes_103 : decode cX4_owes 103 = .ok (.iload 4, 2) := by decide +kernel
theorem dX4_owes_105 : decode cX4_owes 105 = .ok (.iaload, 1) := by decide +kernel
theorem dX4_owes_106 : decode cX4_owes 106 = .ok (.goto 11, 3) := by decide +kernel
theorem dX4_owes_109 : decode cX4_owes 109 = .ok (.aload_n 0, 1) := by decide +kernel
theorem dX4_owes_110 : decode cX4_owes 110 = .ok (.getfield 53, 3) := by decide +kernel
theorem dX4_owes_113 : decode cX4_owes 113 = .ok (.iload 4, 2) := by decide +kernel
theorem dX4_owes_115 : decode cX4_owes 115 = .ok (.iaload, 1) := by decide +kernel
theorem dX4_owes_116 : decode cX4_owes 116 = .ok (.ineg, 1) := by decide +kernel
theorem dX4_owes_117 : decode cX4_owes 117 = .ok (.iadd, 1) := by decide +kernel
theorem dX4_owes_118 : decode cX4_owes 118 = .ok (.istore_n 3, 1) := by decide +kernel
theorem dX4_owes_119 : decode cX4_owes 119 = .ok (.iinc 4 1, 3) := by decide +kernel
theorem dX4_owes_122 : decode cX4_owes 122 = .ok (.goto (-89), 3) := by decide +kernel
theorem dX4_owes_125 : decode cX4_owes 125 = .ok (.iload_n 3, 1) := by decide +kernel
theorem dX4_owes_126 : decode cX4_owes 126 = .ok (.ifCond .ge 7, 3) := by decide +kernel
theorem dX4_owes_129 : decode cX4_owes 129 = .ok (.iconst 0, 1) := by decide +kernel
theorem dX4_owes_130 : decode cX4_owes 130 = .ok (.goto 4, 3) := by decide +kernel
theorem dX4_owes_133 : decode cX4_owes 133 = .ok (.iload_n 3, 1) := by decide +kernel
theorem dX4_owes_134 : decode cX4_owes 134 = .ok (.ireturn, 1) := by decide +kernel
theorem dJ9_max_7cf53_0 : decode cJ9_max_7cf53 0 = .ok (.iload_n 0, 1) := by decide +kernel
theorem dJ9_max_7cf53_1 : decode cJ9_max_7cf53 1 = .ok (.iload_n 1, 1) := by decide +kernel
theorem dJ9_max_7cf53_2 : decode cJ9_max_7cf53 2 = .ok (.if_icmp .lt 7, 3) := by decide +kernel
theorem dJ9_max_7cf53_5 : decode cJ9_max_7cf53 5 = .ok (.iload_n 0, 1) := by decide +kernel
theorem dJ9_max_7cf53_6 : decode cJ9_max_7cf53 6 = .ok (.goto 4, 3) := by decide +kernel
theorem dJ9_max_7cf53_9 : decode cJ9_max_7cf53 9 = .ok (.iload_n 1, 1) := by decide +kernel
theorem dJ9_max_7cf53_10 : decode cJ9_max_7cf53 10 = .ok (.ireturn, 1) := by decide +kernel
theorem dJ9_min_7cf53_0 : decode cJ9_min_7cf53 0 = .ok (.iload_n 0, 1) := by decide +kernel
theorem dJ9_min_7cf53_1 : decode cJ9_min_7cf53 1 = .ok (.iload_n 1, 1) := by decide +kernel
theorem dJ9_min_7cf53_2 : decode cJ9_min_7cf53 2 = .ok (.if_icmp .gt 7, 3) := by decide +kernel
theorem dJ9_min_7cf53_5 : decode cJ9_min_7cf53 5 = .ok (.iload_n 0, 1) := by decide +kernel
theorem dJ9_min_7cf53_6 : decode cJ9_min_7cf53 6 = .ok (.goto 4, 3) := by decide +kernel
theorem dJ9_min_7cf53_9 : decode cJ9_min_7cf53 9 = .ok (.iload_n 1, 1) := by decide +kernel
theorem dJ9_min_7cf53_10 : decode cJ9_min_7cf53 10 = .ok (.ireturn, 1) := by decide +kernel
theorem dJxa1e45_init_da8c8_0 : decode cJxa1e45_init_da8c8 0 = .ok (.aload_n 0, 1) := by decide +kernel
theorem dJxa1e45_init_da8c8_1 : decode cJxa1e45_init_da8c8 1 = .ok (.invokespecial 1, 3) := by decide +kernel
theorem dJxa1e45_init_da8c8_4 : decode cJxa1e45_init_da8c8 4 = .ok (.return_, 1) := by decide +kernel
set_option maxRecDepth 20000 in
theorem ggJxc12de_init_da8c8_Jxa1e45_init_da8c8 : GoodIn wsJxc12de_init_da8c8 wsJxa1e45_init_da8c8 := goodIn_r _ [5, 6, 7, 8] (by decide +kernel) (by decide +kernel)
set_option maxRecDepth 20000 in
theorem gJxc12de_init_da8c8_Jxa1e45_init_da8c8 : GoodIn wsJxc12de_init_da8c8 (wsJxa1e45_init_da8c8) := ggJxc12de_init_da8c8_Jxa1e45_init_da8c8
theorem dJxc12de_init_da8c8_0 : decode cJxc12de_init_da8c8 0 = .ok (.aload_n 0, 1) := by decide +kernel
theorem dJxc12de_init_da8c8_1 : decode cJxc12de_init_da8c8 1 = .ok (.invokespecial 1, 3) := by decide +kernel
theorem dJxc12de_init_da8c8_4 : decode cJxc12de_init_da8c8 4 = .ok (.aload_n 0, 1) := by decide +kernel
theorem dJxc12de_init_da8c8_5 : decode cJxc12de_init_da8c8 5 = .ok (.iconst 0, 1) := by decide +kernel
theorem dJxc12de_init_da8c8_6 : decode cJxc12de_init_da8c8 6 = .ok (.putfield 7, 3) := by decide +kernel
theorem dJxc12de_init_da8c8_9 : decode cJxc12de_init_da8c8 9 = .ok (.return_, 1) := by decide +kernel
set_option maxRecDepth 20000 in
theorem ggJx4a65c_init_da8c8_Jxc12de_init_da8c8 : GoodIn wsJx4a65c_init_da8c8 wsJxc12de_init_da8c8 := goodIn_r _ [6, 7, 8, 9, 10, 11, 12, 13, 14, 15, 16, 17] (by decide +kernel) (by decide +kernel)
set_option maxRecDepth 20000 in
theorem gJx4a65c_init_da8c8_Jxc12de_init_da8c8 : GoodIn wsJx4a65c_init_da8c8 (wsJxc12de_init_da8c8) := ggJx4a65c_init_da8c8_Jxc12de_init_da8c8
theorem dJx4a65c_init_da8c8_0 : decode cJx4a65c_init_da8c8 0 = .ok (.aload_n 0, 1) := by decide +kernel
theorem dJx4a65c_init_da8c8_1 : decode cJx4a65c_init_da8c8 1 = .ok (.invokespecial 1, 3) := by decide +kernel
theorem dJx4a65c_init_da8c8_4 : decode cJx4a65c_init_da8c8 4 = .ok (.aload_n 0, 1) := by decide +kernel
theorem dJx4a65c_init_da8c8_5 : decode cJx4a65c_init_da8c8 5 = .ok (.getstatic 39, 3) := by decide +kernel
theorem dJx4a65c_init_da8c8_8 : decode cJx4a65c_init_da8c8 8 = .ok (.putfield 9, 3) := by decide +kernel
theorem dJx4a65c_init_da8c8_11 : decode cJx4a65c_init_da8c8 11 = .ok (.return_, 1) := by decide +kernel
set_option maxRecDepth 20000 in
theorem ggJx4a65c_grow_92f84_J8_newLength_cabcc : GoodIn wsJx4a65c_grow_92f84 wsJ8_newLength_cabcc := goodIn_r _ [11, 12, 4, 5, 6, 13, 14, 15, 10, 16] (by decide +kernel) (by decide +kernel)
set_option maxRecDepth 20000 in
theorem gJx4a65c_grow_92f84_J8_newLength_cabcc : GoodIn wsJx4a65c_grow_92f84 (va_wsS RJx4a65c 73 yJ8_newLength_cabcc wsJ8_newLength_cabcc) := goodIn_app (goodIn_of _ (by decide +kernel)) ggJx4a65c_grow_92f84_J8_newLength_cabcc
set_option maxRecDepth 20000 in
theorem ggJx4a65c_grow_92f84_J7_copyOf_1904c : GoodIn wsJx4a65c_grow_92f84 wsJ7_copyOf_1904c := goodIn_r _ [20, 21, 22, 23, 24, 25, 26, 19, 27, 28, 29, 30, 31, 5, 32, 33, 34, 35, 36] (by decide +kernel) (by decide +kernel)
set_option maxRecDepth 20000 in
theorem gJx4a65c_grow_92f84_J7_copyOf_1904c : GoodIn wsJx4a65c_grow_92f84 (va_wsS RJx4a65c 66 yJ7_copyOf_1904c wsJ7_copyOf_1904c) := goodIn_app (goodIn_of _ (by decide +kernel)) ggJx4a65c_grow_92f84_J7_copyOf_1904c
theorem dJx4a65c_grow_92f84_0 : decode cJx4a65c_grow_92f84 0 = .ok (.aload_n 0, 1) := by decide +kernel
theorem dJx4a65c_grow_92f84_1 : decode cJx4a65c_grow_92f84 1 = .ok (.getfield 9, 3) := by decide +kernel
theorem dJx4a65c_grow_92f84_4 : decode cJx4a65c_grow_92f84 4 = .ok (.arraylength, 1) := by decide +kernel
theorem dJx4a65c_grow_92f84_5 : decode cJx4a65c_grow_92f84 5 = .ok (.istore_n 2, 1) := by decide +kernel
theorem dJx4a65c_grow_92f84_6 : decode cJx4a65c_grow_92f84 6 = .ok (.iload_n 2, 1) := by decide +kernel
theorem dJx4a65c_grow_92f84_7 : decode cJx4a65c_grow_92f84 7 = .ok (.ifCond .gt 13, 3) := by decide +kernel
theorem dJx4a65c_grow_92f84_10 : decode cJx4a65c_grow_92f84 10 = .ok (.aload_n 0, 1) := by decide +kernel
theorem dJx4a65c_grow_92f84_11 : decode cJx4a65c_grow_92f84 11 = .ok (.getfield 9, 3) := by decide +kernel
theorem dJx4a65c_grow_92f84_14 : decode cJx4a65c_grow_92f84 14 = .ok (.getstatic 39, 3) := by decide +kernel
theorem dJx4a65c_grow_92f84_17 : decode cJx4a65c_grow_92f84 17 = .ok (.if_acmp .eq 28, 3) := by decide +kernel
theorem dJx4a65c_grow_92f84_20 : decode cJx4a65c_grow_92f84 20 = .ok (.iload_n 2, 1) := by decide +kernel
theorem dJx4a65c_grow_92f84_21 : decode cJx4a65c_grow_92f84 21 = .ok (.iload_n 1, 1) := by decide +kernel
theorem dJx4a65c_grow_92f84_22 : decode cJx4a65c_grow_92f84 22 = .ok (.iload_n 2, 1) := by decide +kernel
theorem dJx4a65c_grow_92f84_23 : decode cJx4a65c_grow_92f84 23 = .ok (.isub, 1) := by decide +kernel
theorem dJx4a65c_grow_92f84_24 : decode cJx4a65c_grow_92f84 24 = .ok (.iload_n 2, 1) := by decide +kernel
theorem dJx4a65c_grow_92f84_25 : decode cJx4a65c_grow_92f84 25 = .ok (.iconst 1, 1) := by decide +kernel
theorem dJx4a65c_grow_92f84_26 : decode cJx4a65c_grow_92f84 26 = .ok (.ishr, 1) := by decide +kernel
theorem dJx4a65c_grow_92f84_27 : decode cJx4a65c_grow_92f84 27 = .ok (.invokestatic 73, 3) := by decide +kernel
theorem dJx4a65c_grow_92f84_30 : decode cJx4a65c_grow_92f84 30 = .ok (.istore_n 3, 1) := by decide +kernel
theorem dJx4a65c_grow_92f84_31 : decode cJx4a65c_grow_92f84 31 = .ok (.aload_n 0, 1) := by decide +kernel
theorem dJx4a65c_grow_92f84_32 : decode cJx4a65c_grow_92f84 32 = .ok (.aload_n 0, 1) := by decide +kernel
theorem dJx4a65c_grow_92f84_33 : decode cJx4a65c_grow_92f84 33 = .ok (.getfield 9, 3) := by decide +kernel
theorem dJx4a65c_grow_92f84_36 : decode cJx4a65c_grow_92f84 36 = .ok (.iload_n 3, 1) := by decide +kernel
theorem dJx4a65c_grow_92f84_37 : decode cJx4a65c_grow_92f84 37 = .ok (.invokestatic 66, 3) := by decide +kernel
theorem dJx4a65c_grow_92f84_40 : decode cJx4a65c_grow_92f84 40 = .ok (.dup_x1, 1) := by decide +kernel
theorem dJx4a65c_grow_92f84_41 : decode cJx4a65c_grow_92f84 41 = .ok (.putfield 9, 3) := by decide +kernel
theorem dJx4a65c_grow_92f84_44 : decode cJx4a65c_grow_92f84 44 = .ok (.areturn, 1) := by decide +kernel
theorem dJx4a65c_grow_92f84_45 : decode cJx4a65c_grow_92f84 45 = .ok (.aload_n 0, 1) := by decide +kernel
theorem dJx4a65c_grow_92f84_46 : decode cJx4a65c_grow_92f84 46 = .ok (.bipush 10, 2) := by decide +kernel
theorem dJx4a65c_grow_92f84_48 : decode cJx4a65c_grow_92f84 48 = .ok (.iload_n 1, 1) := by decide +kernel
theorem dJx4a65c_grow_92f84_49 : decode cJx4a65c_grow_92f84 49 = .ok (.invokestatic 79, 3) := by decide +kernel
theorem dJx4a65c_grow_92f84_52 : decode cJx4a65c_grow_92f84 52 = .ok (.anewarray 7, 3) := by decide +kernel
theorem dJx4a65c_grow_92f84_55 : decode cJx4a65c_grow_92f84 55 = .ok (.dup_x1, 1) := by decide +kernel
theorem dJx4a65c_grow_92f84_56 : decode cJx4a65c_grow_92f84 56 = .ok (.putfield 9, 3) := by decide +kernel
theorem dJx4a65c_grow_92f84_59 : decode cJx4a65c_grow_92f84 59 = .ok (.areturn, 1) := by decide +kernel
set_option maxRecDepth 20000 in
theorem ggJx4a65c_grow_d5877_Jx4a65c_grow_92f84 : GoodIn wsJx4a65c_grow_d5877 wsJx4a65c_grow_92f84 := goodIn_r _ [6, 7, 8, 9, 10, 11, 12, 13, 14, 15, 16, 17, 18, 19, 20, 21, 22, 23, 24, 25, 26, 27, 28, 29, 30, 31, 32, 33, 34, 35, 36, 37, 38, 39, 40, 41, 42, 43, 44, 45] (by decide +kernel) (by decide +kernel)
set_option maxRecDepth 20000 in
theorem gJx4a65c_grow_d5877_Jx4a65c_grow_92f84 : GoodIn wsJx4a65c_grow_d5877 (wsV RJx4a65c 69 RJx4a65c yJx4a65c_grow_92f84 wsJx4a65c_grow_92f84) := goodIn_app (goodIn_of _ (by decide +kernel)) ggJx4a65c_grow_d5877_Jx4a65c_grow_92f84
theorem dJx4a65c_grow_d5877_0 : decode cJx4a65c_grow_d5877 0 = .ok (.aload_n 0, 1) := by decide +kernel
theorem dJx4a65c_grow_d5877_1 : decode cJx4a65c_grow_d5877 1 = .ok (.aload_n 0, 1) := by decide +kernel
theorem dJx4a65c_grow_d5877_2 : decode cJx4a65c_grow_d5877 2 = .ok (.getfield 48, 3) := by decide +kernel
theorem dJx4a65c_grow_d5877_5 : decode cJx4a65c_grow_d5877 5 = .ok (.iconst 1, 1) := by decide +kernel
theorem dJx4a65c_grow_d5877_6 : decode cJx4a65c_grow_d5877 6 = .ok (.iadd, 1) := by decide +kernel
theorem dJx4a65c_grow_d5877_7 : decode cJx4a65c_grow_d5877 7 = .ok (.invokevirtual 69, 3) := by decide +kernel
theorem dJx4a65c_grow_d5877_10 : decode cJx4a65c_grow_d5877 10 = .ok (.areturn, 1) := by decide +kernel
theorem dJx4a65c_size_8abf5_0 : decode cJx4a65c_size_8abf5 0 = .ok (.aload_n 0, 1) := by decide +kernel
theorem dJx4a65c_size_8abf5_1 : decode cJx4a65c_size_8abf5 1 = .ok (.getfield 48, 3) := by decide +kernel
theorem dJx4a65c_size_8abf5_4 : decode cJx4a65c_size_8abf5 4 = .ok (.ireturn, 1) := by decide +kernel
theorem dJx4a65c_elementData_915e3_0 : decode cJx4a65c_elementData_915e3 0 = .ok (.aload_n 0, 1) := by decide +kernel
theorem dJx4a65c_elementData_915e3_1 : decode cJx4a65c_elementData_915e3 1 = .ok (.getfield 9, 3) := by decide +kernel
theorem dJx4a65c_elementData_915e3_4 : decode cJx4a65c_elementData_915e3 4 = .ok (.iload_n 1, 1) := by decide +kernel
theorem dJx4a65c_elementData_915e3_5 : decode cJx4a65c_elementData_915e3 5 = .ok (.aaload, 1) := by decide +kernel
theorem dJx4a65c_elementData_915e3_6 : decode cJx4a65c_elementData_915e3 6 = .ok (.areturn, 1) := by decide +kernel
set_option maxRecDepth 20000 in
theorem ggJx4a65c_get_915e3_J15_checkIndex_7cf53 : GoodIn wsJx4a65c_get_915e3 wsJ15_checkIndex_7cf53 := goodIn_r _ [5, 6, 7, 8, 9] (by decide +kernel) (by decide +kernel)
set_option maxRecDepth 20000 in
theorem gJx4a65c_get_915e3_J15_checkIndex_7cf53 : GoodIn wsJx4a65c_get_915e3 (va_wsS RJx4a65c 118 yJ15_checkIndex_7cf53 wsJ15_checkIndex_7cf53) := goodIn_app (goodIn_of _ (by decide +kernel)) ggJx4a65c_get_915e3_J15_checkIndex_7cf53
set_option maxRecDepth 20000 in
theorem ggJx4a65c_get_915e3_Jx4a65c_elementData_915e3 : GoodIn wsJx4a65c_get_915e3 wsJx4a65c_elementData_915e3 := goodIn_r _ [14, 15, 16, 17, 18] (by decide +kernel) (by decide +kernel)
set_option maxRecDepth 20000 in
theorem gJx4a65c_get_915e3_Jx4a65c_elementData_915e3 : GoodIn wsJx4a65c_get_915e3 (wsV RJx4a65c 123 RJx4a65c yJx4a65c_elementData_915e3 wsJx4a65c_elementData_915e3) := goodIn_app (goodIn_of _ (by decide +kernel)) ggJx4a65c_get_915e3_Jx4a65c_elementData_915e3
theorem dJx4a65c_get_915e3_0 : decode cJx4a65c_get_915e3 0 = .ok (.iload_n 1, 1) := by decide +kernel
theorem dJx4a65c_get_915e3_1 : decode cJx4a65c_get_915e3 1 = .ok (.aload_n 0, 1) := by decide +kernel
theorem dJx4a65c_get_915e3_2 : decode cJx4a65c_get_915e3 2 = .ok (.getfield 48, 3) := by decide +kernel
theorem dJx4a65c_get_915e3_5 : decode cJx4a65c_get_915e3 5 = .ok (.invokestatic 118, 3) := by decide +kernel
theorem dJx4a65c_get_915e3_8 : decode cJx4a65c_get_915e3 8 = .ok (.pop, 1) := by decide +kernel
theorem dJx4a65c_get_915e3_9 : decode cJx4a65c_get_915e3 9 = .ok (.aload_n 0, 1) := by decide +kernel
theorem dJx4a65c_get_915e3_10 : decode cJx4a65c_get_915e3 10 = .ok (.iload_n 1, 1) := by decide +kernel
theorem dJx4a65c_get_915e3_11 : decode cJx4a65c_get_915e3 11 = .ok (.invokevirtual 123, 3) := by decide +kernel
theorem dJx4a65c_get_915e3_14 : decode cJx4a65c_get_915e3 14 = .ok (.areturn, 1) := by decide +kernel
set_option maxRecDepth 20000 in
theorem ggJx4a65c_add_72be8_Jx4a65c_grow_d5877 : GoodIn wsJx4a65c_add_72be8 wsJx4a65c_grow_d5877 := goodIn_r _ [6, 1, 7, 8, 9, 5, 10, 11, 12, 13, 14, 15, 16, 17, 18, 19, 20, 21, 22, 23, 24, 25, 26, 27, 28, 29, 30, 31, 32, 33, 34, 35, 36, 37, 38, 39, 40, 41, 42, 43, 44, 45, 46, 47, 48, 49] (by decide +kernel) (by decide +kernel)
set_option maxRecDepth 20000 in
theorem gJx4a65c_add_72be8_Jx4a65c_grow_d5877 : GoodIn wsJx4a65c_add_72be8 (wsV RJx4a65c 129 RJx4a65c yJx4a65c_grow_d5877 wsJx4a65c_grow_d5877) := goodIn_app (goodIn_of _ (by decide +kernel)) ggJx4a65c_add_72be8_Jx4a65c_grow_d5877
theorem dJx4a65c_add_72be8_0 : decode cJx4a65c_add_72be8 0 = .ok (.iload_n 3, 1) := by decide +kernel
theorem dJx4a65c_add_72be8_1 : decode cJx4a65c_add_72be8 1 = .ok (.aload_n 2, 1) := by decide +kernel
theorem dJx4a65c_add_72be8_2 : decode cJx4a65c_add_72be8 2 = .ok (.arraylength, 1) := by decide +kernel
theorem dJx4a65c_add_72be8_3 : decode cJx4a65c_add_72be8 3 = .ok (.if_icmp .ne 8, 3) := by decide +kernel
theorem dJx4a65c_add_72be8_6 : decode cJx4a65c_add_72be8 6 = .ok (.aload_n 0, 1) := by decide +kernel
theorem dJx4a65c_add_72be8_7 : decode cJx4a65c_add_72be8 7 = .ok (.invokevirtual 129, 3) := by decide +kernel
theorem dJx4a65c_add_72be8_10 : decode cJx4a65c_add_72be8 10 = .ok (.astore_n 2, 1) := by decide +kernel
theorem dJx4a65c_add_72be8_11 : decode cJx4a65c_add_72be8 11 = .ok (.aload_n 2, 1) := by decide +kernel
theorem dJx4a65c_add_72be8_12 : decode cJx4a65c_add_72be8 12 = .ok (.iload_n 3, 1) := by decide +kernel
theorem dJx4a65c_add_72be8_13 : decode cJx4a65c_add_72be8 13 = .ok (.aload_n 1, 1) := by decide +kernel
theorem dJx4a65c_add_72be8_14 : decode cJx4a65c_add_72be8 14 = .ok (.aastore, 1) := by decide +kernel
theorem dJx4a65c_add_72be8_15 : decode cJx4a65c_add_72be8 15 = .ok (.aload_n 0, 1) := by decide +kernel
theorem dJx4a65c_add_72be8_16 : decode cJx4a65c_add_72be8 16 = .ok (.iload_n 3, 1) := by decide +kernel
theorem dJx4a65c_add_72be8_17 : decode cJx4a65c_add_72be8 17 = .ok (.iconst 1, 1) := by decide +kernel
theorem dJx4a65c_add_72be8_18 : decode cJx4a65c_add_72be8 18 = .ok (.iadd, 1) := by decide +kernel
theorem dJx4a65c_add_72be8_19 : decode cJx4a65c_add_72be8 19 = .ok (.putfield 48, 3) := by decide +kernel
theorem dJx4a65c_add_72be8_22 : decode cJx4a65c_add_72be8 22 = .ok (.return_, 1) := by decide +kernel
set_option maxRecDepth 20000 in
theorem ggJx4a65c_add_9ea2d_Jx4a65c_add_72be8 : GoodIn wsJx4a65c_add_9ea2d wsJx4a65c_add_72be8 := goodIn_r _ [9, 4, 10, 11, 12, 8, 13, 14, 15, 16, 17, 3, 18, 19, 20, 21, 22, 23, 24, 25, 26, 27, 28, 29, 30, 31, 32, 33, 34, 35, 36, 37, 38, 39, 40, 41, 42, 43, 44, 45, 46, 47, 48, 49, 50, 51, 52, 53, 54, 55] (by decide +kernel) (by decide +kernel)
set_option maxRecDepth 20000 in
theorem gJx4a65c_add_9ea2d_Jx4a65c_add_72be8 : GoodIn wsJx4a65c_add_9ea2d (wsV RJx4a65c 131 RJx4a65c yJx4a65c_add_72be8 wsJx4a65c_add_72be8) := goodIn_app (goodIn_of _ (by decide +kernel)) ggJx4a65c_add_9ea2d_Jx4a65c_add_72be8
theorem dJx4a65c_add_9ea2d_0 : decode cJx4a65c_add_9ea2d 0 = .ok (.aload_n 0, 1) := by decide +kernel
theorem dJx4a65c_add_9ea2d_1 : decode cJx4a65c_add_9ea2d 1 = .ok (.dup, 1) := by decide +kernel
theorem dJx4a65c_add_9ea2d_2 : decode cJx4a65c_add_9ea2d 2 = .ok (.getfield 63, 3) := by decide +kernel
theorem dJx4a65c_add_9ea2d_5 : decode cJx4a65c_add_9ea2d 5 = .ok (.iconst 1, 1) := by decide +kernel
theorem dJx4a65c_add_9ea2d_6 : decode cJx4a65c_add_9ea2d 6 = .ok (.iadd, 1) := by decide +kernel
theorem dJx4a65c_add_9ea2d_7 : decode cJx4a65c_add_9ea2d 7 = .ok (.putfield 63, 3) := by decide +kernel
theorem dJx4a65c_add_9ea2d_10 : decode cJx4a65c_add_9ea2d 10 = .ok (.aload_n 0, 1) := by decide +kernel
theorem dJx4a65c_add_9ea2d_11 : decode cJx4a65c_add_9ea2d 11 = .ok (.aload_n 1, 1) := by decide +kernel
theorem dJx4a65c_add_9ea2d_12 : decode cJx4a65c_add_9ea2d 12 = .ok (.aload_n 0, 1) := by decide +kernel
theorem dJx4a65c_add_9ea2d_13 : decode cJx4a65c_add_9ea2d 13 = .ok (.getfield 9, 3) := by decide +kernel
theorem dJx4a65c_add_9ea2d_16 : decode cJx4a65c_add_9ea2d 16 = .ok (.aload_n 0, 1) := by decide +kernel
theorem dJx4a65c_add_9ea2d_17 : decode cJx4a65c_add_9ea2d 17 = .ok (.getfield 48, 3) := by decide +kernel
theorem dJx4a65c_add_9ea2d_20 : decode cJx4a65c_add_9ea2d 20 = .ok (.invokevirtual 131, 3) := by decide +kernel
theorem dJx4a65c_add_9ea2d_23 : decode cJx4a65c_add_9ea2d 23 = .ok (.iconst 1, 1) := by decide +kernel
theorem dJx4a65c_add_9ea2d_24 : decode cJx4a65c_add_9ea2d 24 = .ok (.ireturn, 1) := by decide +kernel
set_option maxRecDepth 20000 in
theorem ggJ7_copyOf_1904c_J7_copyOf_6403c : GoodIn wsJ7_copyOf_1904c wsJ7_copyOf_6403c := goodIn_r _ [8, 9, 10, 11, 12, 13, 14, 15, 16, 17, 18] (by decide +kernel) (by decide +kernel)
set_option maxRecDepth 20000 in
theorem gJ7_copyOf_1904c_J7_copyOf_6403c : GoodIn wsJ7_copyOf_1904c (va_wsS RJ7 300 yJ7_copyOf_6403c wsJ7_copyOf_6403c) := goodIn_app (goodIn_of _ (by decide +kernel)) ggJ7_copyOf_1904c_J7_copyOf_6403c
theorem dJ7_copyOf_1904c_0 : decode cJ7_copyOf_1904c 0 = .ok (.aload_n 0, 1) := by decide +kernel
theorem dJ7_copyOf_1904c_1 : decode cJ7_copyOf_1904c 1 = .ok (.iload_n 1, 1) := by decide +kernel
theorem dJ7_copyOf_1904c_2 : decode cJ7_copyOf_1904c 2 = .ok (.aload_n 0, 1) := by decide +kernel
theorem dJ7_copyOf_1904c_3 : decode cJ7_copyOf_1904c 3 = .ok (.invokevirtual 86, 3) := by decide +kernel
theorem dJ7_copyOf_1904c_6 : decode cJ7_copyOf_1904c 6 = .ok (.invokestatic 300, 3) := by decide +kernel
theorem dJ7_copyOf_1904c_9 : decode cJ7_copyOf_1904c 9 = .ok (.areturn, 1) := by decide +kernel
theorem dJ7_copyOf_6403c_0 : decode cJ7_copyOf_6403c 0 = .ok (.aload_n 2, 1) := by decide +kernel
theorem dJ7_copyOf_6403c_1 : decode cJ7_copyOf_6403c 1 = .ok (.ldc 110, 2) := by decide +kernel
theorem dJ7_copyOf_6403c_3 : decode cJ7_copyOf_6403c 3 = .ok (.if_acmp .ne 10, 3) := by decide +kernel
theorem dJ7_copyOf_6403c_6 : decode cJ7_copyOf_6403c 6 = .ok (.iload_n 1, 1) := by decide +kernel
theorem dJ7_copyOf_6403c_7 : decode cJ7_copyOf_6403c 7 = .ok (.anewarray 2, 3) := by decide +kernel
theorem dJ7_copyOf_6403c_10 : decode cJ7_copyOf_6403c 10 = .ok (.goto 14, 3) := by decide +kernel
theorem dJ7_copyOf_6403c_13 : decode cJ7_copyOf_6403c 13 = .ok (.aload_n 2, 1) := by decide +kernel
theorem dJ7_copyOf_6403c_14 : decode cJ7_copyOf_6403c 14 = .ok (.invokevirtual 90, 3) := by decide +kernel
theorem dJ7_copyOf_6403c_17 : decode cJ7_copyOf_6403c 17 = .ok (.iload_n 1, 1) := by decide +kernel
theorem dJ7_copyOf_6403c_18 : decode cJ7_copyOf_6403c 18 = .ok (.invokestatic 95, 3) := by decide +kernel
theorem dJ7_copyOf_6403c_21 : decode cJ7_copyOf_6403c 21 = .ok (.checkcast 110, 3) := by decide +kernel
theorem dJ7_copyOf_6403c_24 : decode cJ7_copyOf_6403c 24 = .ok (.astore_n 3, 1) := by decide +kernel
theorem dJ7_copyOf_6403c_25 : decode cJ7_copyOf_6403c 25 = .ok (.aload_n 0, 1) := by decide +kernel
theorem dJ7_copyOf_6403c_26 : decode cJ7_copyOf_6403c 26 = .ok (.iconst 0, 1) := by decide +kernel
theorem dJ7_copyOf_6403c_27 : decode cJ7_copyOf_6403c 27 = .ok (.aload_n 3, 1) := by decide +kernel
theorem dJ7_copyOf_6403c_28 : decode cJ7_copyOf_6403c 28 = .ok (.iconst 0, 1) := by decide +kernel
theorem dJ7_copyOf_6403c_29 : decode cJ7_copyOf_6403c 29 = .ok (.aload_n 0, 1) := by decide +kernel
theorem dJ7_copyOf_6403c_30 : decode cJ7_copyOf_6403c 30 = .ok (.arraylength, 1) := by decide +kernel
theorem dJ7_copyOf_6403c_31 : decode cJ7_copyOf_6403c 31 = .ok (.iload_n 1, 1) := by decide +kernel
theorem dJ7_copyOf_6403c_32 : decode cJ7_copyOf_6403c 32 = .ok (.invokestatic 304, 3) := by decide +kernel
theorem dJ7_copyOf_6403c_35 : decode cJ7_copyOf_6403c 35 = .ok (.invokestatic 150, 3) := by decide +kernel
theorem dJ7_copyOf_6403c_38 : decode cJ7_copyOf_6403c 38 = .ok (.aload_n 3, 1) := by decide +kernel
theorem dJ7_copyOf_6403c_39 : decode cJ7_copyOf_6403c 39 = .ok (.areturn, 1) := by decide +kernel
set_option maxRecDepth 20000 in
theorem ggJ15_checkIndex_7cf53_J3_checkIndex_8e157 : GoodIn wsJ15_checkIndex_7cf53 wsJ3_checkIndex_8e157 := goodIn_r _ [4] (by decide +kernel) (by decide +kernel)
set_option maxRecDepth 20000 in
theorem gJ15_checkIndex_7cf53_J3_checkIndex_8e157 : GoodIn wsJ15_checkIndex_7cf53 (va_wsS RJ15 105 yJ3_checkIndex_8e157 wsJ3_checkIndex_8e157) := goodIn_app (goodIn_of _ (by decide +kernel)) ggJ15_checkIndex_7cf53_J3_checkIndex_8e157
theorem dJ15_checkIndex_7cf53_0 : decode cJ15_checkIndex_7cf53 0 = .ok (.iload_n 0, 1) := by decide +kernel
theorem dJ15_checkIndex_7cf53_1 : decode cJ15_checkIndex_7cf53 1 = .ok (.iload_n 1, 1) := by decide +kernel
theorem dJ15_checkIndex_7cf53_2 : decode cJ15_checkIndex_7cf53 2 = .ok (.aconst_null, 1) := by decide +kernel
theorem dJ15_checkIndex_7cf53_3 : decode cJ15_checkIndex_7cf53 3 = .ok (.invokestatic 105, 3) := by decide +kernel
theorem dJ15_checkIndex_7cf53_6 : decode cJ15_checkIndex_7cf53 6 = .ok (.ireturn, 1) := by decide +kernel
set_option maxRecDepth 20000 in
theorem ggJ8_newLength_cabcc_J8_hugeLength_7cf53 : GoodIn wsJ8_newLength_cabcc wsJ8_hugeLength_7cf53 := goodIn_r _ [9, 5] (by decide +kernel) (by decide +kernel)
set_option maxRecDepth 20000 in
theorem gJ8_newLength_cabcc_J8_hugeLength_7cf53 : GoodIn wsJ8_newLength_cabcc (va_wsS RJ8 201 yJ8_hugeLength_7cf53 wsJ8_hugeLength_7cf53) := goodIn_app (goodIn_of _ (by decide +kernel)) ggJ8_newLength_cabcc_J8_hugeLength_7cf53
theorem dJ8_newLength_cabcc_0 : decode cJ8_newLength_cabcc 0 = .ok (.iload_n 0, 1) := by decide +kernel
theorem dJ8_newLength_cabcc_1 : decode cJ8_newLength_cabcc 1 = .ok (.iload_n 1, 1) := by decide +kernel
theorem dJ8_newLength_cabcc_2 : decode cJ8_newLength_cabcc 2 = .ok (.iload_n 2, 1) := by decide +kernel
theorem dJ8_newLength_cabcc_3 : decode cJ8_newLength_cabcc 3 = .ok (.invokestatic 194, 3) := by decide +kernel
theorem dJ8_newLength_cabcc_6 : decode cJ8_newLength_cabcc 6 = .ok (.iadd, 1) := by decide +kernel
theorem dJ8_newLength_cabcc_7 : decode cJ8_newLength_cabcc 7 = .ok (.istore_n 3, 1) := by decide +kernel
theorem dJ8_newLength_cabcc_8 : decode cJ8_newLength_cabcc 8 = .ok (.iconst 0, 1) := by decide +kernel
theorem dJ8_newLength_cabcc_9 : decode cJ8_newLength_cabcc 9 = .ok (.iload_n 3, 1) := by decide +kernel
theorem dJ8_newLength_cabcc_10 : decode cJ8_newLength_cabcc 10 = .ok (.if_icmp .ge 11, 3) := by decide +kernel
theorem dJ8_newLength_cabcc_13 : decode cJ8_newLength_cabcc 13 = .ok (.iload_n 3, 1) := by decide +kernel
theorem dJ8_newLength_cabcc_14 : decode cJ8_newLength_cabcc 14 = .ok (.ldc 200, 2) := by decide +kernel
theorem dJ8_newLength_cabcc_16 : decode cJ8_newLength_cabcc 16 = .ok (.if_icmp .gt 5, 3) := by decide +kernel
theorem dJ8_newLength_cabcc_19 : decode cJ8_newLength_cabcc 19 = .ok (.iload_n 3, 1) := by decide +kernel
theorem dJ8_newLength_cabcc_20 : decode cJ8_newLength_cabcc 20 = .ok (.ireturn, 1) := by decide +kernel
theorem dJ8_newLength_cabcc_21 : decode cJ8_newLength_cabcc 21 = .ok (.iload_n 0, 1) := by decide +kernel
theorem dJ8_newLength_cabcc_22 : decode cJ8_newLength_cabcc 22 = .ok (.iload_n 1, 1) := by decide +kernel
theorem dJ8_newLength_cabcc_23 : decode cJ8_newLength_cabcc 23 = .ok (.invokestatic 201, 3) := by decide +kernel
theorem dJ8_newLength_cabcc_26 : decode cJ8_newLength_cabcc 26 = .ok (.ireturn, 1) := by decide +kernel
theorem dJ8_hugeLength_7cf53_0 : decode cJ8_hugeLength_7cf53 0 = .ok (.iload_n 0, 1) := by decide +kernel
theorem dJ8_hugeLength_7cf53_1 : decode cJ8_hugeLength_7cf53 1 = .ok (.iload_n 1, 1) := by decide +kernel
theorem dJ8_hugeLength_7cf53_2 : decode cJ8_hugeLength_7cf53 2 = .ok (.iadd, 1) := by decide +kernel
theorem dJ8_hugeLength_7cf53_3 : decode cJ8_hugeLength_7cf53 3 = .ok (.istore_n 2, 1) := by decide +kernel
theorem dJ8_hugeLength_7cf53_4 : decode cJ8_hugeLength_7cf53 4 = .ok (.iload_n 2, 1) := by decide +kernel
theorem dJ8_hugeLength_7cf53_5 : decode cJ8_hugeLength_7cf53 5 = .ok (.ifCond .ge 44, 3) := by decide +kernel
theorem dJ8_hugeLength_7cf53_8 : decode cJ8_hugeLength_7cf53 8 = .ok (.new 204, 3) := by decide +kernel
theorem dJ8_hugeLength_7cf53_11 : decode cJ8_hugeLength_7cf53 11 = .ok (.dup, 1) := by decide +kernel
theorem dJ8_hugeLength_7cf53_12 : decode cJ8_hugeLength_7cf53 12 = .ok (.new 89, 3) := by decide +kernel
theorem dJ8_hugeLength_7cf53_15 : decode cJ8_hugeLength_7cf53 15 = .ok (.dup, 1) := by decide +kernel
theorem dJ8_hugeLength_7cf53_16 : decode cJ8_hugeLength_7cf53 16 = .ok (.invokespecial 91, 3) := by decide +kernel
theorem dJ8_hugeLength_7cf53_19 : decode cJ8_hugeLength_7cf53 19 = .ok (.ldc 206, 2) := by decide +kernel
theorem dJ8_hugeLength_7cf53_21 : decode cJ8_hugeLength_7cf53 21 = .ok (.invokevirtual 94, 3) := by decide +kernel
theorem dJ8_hugeLength_7cf53_24 : decode cJ8_hugeLength_7cf53 24 = .ok (.iload_n 0, 1) := by decide +kernel
theorem dJ8_hugeLength_7cf53_25 : decode cJ8_hugeLength_7cf53 25 = .ok (.invokevirtual 98, 3) := by decide +kernel
theorem dJ8_hugeLength_7cf53_28 : decode cJ8_hugeLength_7cf53 28 = .ok (.ldc 208, 2) := by decide +kernel
theorem dJ8_hugeLength_7cf53_30 : decode cJ8_hugeLength_7cf53 30 = .ok (.invokevirtual 94, 3) := by decide +kernel
theorem dJ8_hugeLength_7cf53_33 : decode cJ8_hugeLength_7cf53 33 = .ok (.iload_n 1, 1) := by decide +kernel
theorem dJ8_hugeLength_7cf53_34 : decode cJ8_hugeLength_7cf53 34 = .ok (.invokevirtual 98, 3) := by decide +kernel
theorem dJ8_hugeLength_7cf53_37 : decode cJ8_hugeLength_7cf53 37 = .ok (.ldc 210, 2) := by decide +kernel
theorem dJ8_hugeLength_7cf53_39 : decode cJ8_hugeLength_7cf53 39 = .ok (.invokevirtual 94, 3) := by decide +kernel
theorem dJ8_hugeLength_7cf53_42 : decode cJ8_hugeLength_7cf53 42 = .ok (.invokevirtual 101, 3) := by decide +kernel
theorem dJ8_hugeLength_7cf53_45 : decode cJ8_hugeLength_7cf53 45 = .ok (.invokespecial 212, 3) := by decide +kernel
theorem dJ8_hugeLength_7cf53_48 : decode cJ8_hugeLength_7cf53 48 = .ok (.athrow, 1) := by decide +kernel
theorem dJ8_hugeLength_7cf53_49 : decode cJ8_hugeLength_7cf53 49 = .ok (.iload_n 2, 1) := by decide +kernel
theorem dJ8_hugeLength_7cf53_50 : decode cJ8_hugeLength_7cf53 50 = .ok (.ldc 200, 2) := by decide +kernel
theorem dJ8_hugeLength_7cf53_52 : decode cJ8_hugeLength_7cf53 52 = .ok (.if_icmp .gt 6, 3) := by decide +kernel
theorem dJ8_hugeLength_7cf53_55 : decode cJ8_hugeLength_7cf53 55 = .ok (.ldc 200, 2) := by decide +kernel
theorem dJ8_hugeLength_7cf53_57 : decode cJ8_hugeLength_7cf53 57 = .ok (.ireturn, 1) := by decide +kernel
theorem dJ8_hugeLength_7cf53_58 : decode cJ8_hugeLength_7cf53 58 = .ok (.iload_n 2, 1) := by decide +kernel
theorem dJ8_hugeLength_7cf53_59 : decode cJ8_hugeLength_7cf53 59 = .ok (.ireturn, 1) := by decide +kernel
theorem dJ3_checkIndex_8e157_0 : decode cJ3_checkIndex_8e157 0 = .ok (.iload_n 0, 1) := by decide +kernel
theorem dJ3_checkIndex_8e157_1 : decode cJ3_checkIndex_8e157 1 = .ok (.ifCond .lt 8, 3) := by decide +kernel
theorem dJ3_checkIndex_8e157_4 : decode cJ3_checkIndex_8e157 4 = .ok (.iload_n 0, 1) := by decide +kernel
theorem dJ3_checkIndex_8e157_5 : decode cJ3_checkIndex_8e157 5 = .ok (.iload_n 1, 1) := by decide +kernel
theorem dJ3_checkIndex_8e157_6 : decode cJ3_checkIndex_8e157 6 = .ok (.if_icmp .lt 10, 3) := by decide +kernel
theorem dJ3_checkIndex_8e157_9 : decode cJ3_checkIndex_8e157 9 = .ok (.aload_n 2, 1) := by decide +kernel
theorem dJ3_checkIndex_8e157_10 : decode cJ3_checkIndex_8e157 10 = .ok (.iload_n 0, 1) := by decide +kernel
theorem dJ3_checkIndex_8e157_11 : decode cJ3_checkIndex_8e157 11 = .ok (.iload_n 1, 1) := by decide +kernel
theorem dJ3_checkIndex_8e157_12 : decode cJ3_checkIndex_8e157 12 = .ok (.invokestatic 95, 3) := by decide +kernel
theorem dJ3_checkIndex_8e157_15 : decode cJ3_checkIndex_8e157 15 = .ok (.athrow, 1) := by decide +kernel
theorem dJ3_checkIndex_8e157_16 : decode cJ3_checkIndex_8e157 16 = .ok (.iload_n 0, 1) := by decide +kernel
theorem dJ3_checkIndex_8e157_17 : decode cJ3_checkIndex_8e157 17 = .ok (.ireturn, 1) := by decide +kernel
set_option maxRecDepth 20000 in
theorem ggL_issue_X3_issue : GoodIn wsL_issue wsX3_issue := goodIn_ca (goodIn_ca (goodIn_r _ [7, 8, 9, 10, 11, 12, 13, 14, 15, 16, 17, 6, 18, 19, 20, 21, 22, 23, 24, 25, 26, 27, 28, 29, 30, 31, 32, 33, 34, 35, 36, 37, 38, 39, 40, 41, 42, 43, 44, 45, 46, 47, 48, 49, 50, 51, 52, 53, 54] (by decide +kernel) (by decide +kernel)) (goodIn_sub (fun _ h => List.mem_cons_of_mem _ (List.mem_append_left _ (List.mem_append_right _ h))) (by decide +kernel))) (goodIn_sub (fun _ h => List.mem_cons_of_mem _ (List.mem_append_right _ h)) (by decide +kernel))
set_option maxRecDepth 20000 in
theorem gL_issue_X3_issue : GoodIn wsL_issue (wsV RL 7 RX3 yX3_issue wsX3_issue) := goodIn_app (goodIn_of _ (by decide +kernel)) ggL_issue_X3_issue
theorem dL_issue_0 : decode cL_issue 0 = .ok (.aload 6, 2) := by decide +kernel
theorem dL_issue_2 : decode cL_issue 2 = .ok (.iconst 0, 1) := by decide +kernel
theorem dL_issue_3 : decode cL_issue 3 = .ok (.aload_n 0, 1) := by decide +kernel
theorem dL_issue_4 : decode cL_issue 4 = .ok (.iload_n 1, 1) := by decide +kernel
theorem dL_issue_5 : decode cL_issue 5 = .ok (.iload_n 2, 1) := by decide +kernel
theorem dL_issue_6 : decode cL_issue 6 = .ok (.iload_n 3, 1) := by decide +kernel
theorem dL_issue_7 : decode cL_issue 7 = .ok (.iload 4, 2) := by decide +kernel
theorem dL_issue_9 : decode cL_issue 9 = .ok (.iload 5, 2) := by decide +kernel
theorem dL_issue_11 : decode cL_issue 11 = .ok (.invokevirtual 7, 3) := by decide +kernel
theorem dL_issue_14 : decode cL_issue 14 = .ok (.i2l, 1) := by decide +kernel
theorem dL_issue_15 : decode cL_issue 15 = .ok (.lastore, 1) := by decide +kernel
theorem dL_issue_16 : decode cL_issue 16 = .ok (.goto 11, 3) := by decide +kernel
theorem dL_issue_19 : decode cL_issue 19 = .ok (.astore 7, 2) := by decide +kernel
theorem dL_issue_21 : decode cL_issue 21 = .ok (.iconst 1, 1) := by decide +kernel
theorem dL_issue_22 : decode cL_issue 22 = .ok (.ireturn, 1) := by decide +kernel
theorem dL_issue_23 : decode cL_issue 23 = .ok (.astore 7, 2) := by decide +kernel
theorem dL_issue_25 : decode cL_issue 25 = .ok (.iconst 2, 1) := by decide +kernel
theorem dL_issue_26 : decode cL_issue 26 = .ok (.ireturn, 1) := by decide +kernel
theorem dL_issue_27 : decode cL_issue 27 = .ok (.iconst 0, 1) := by decide +kernel
theorem dL_issue_28 : decode cL_issue 28 = .ok (.ireturn, 1) := by decide +kernel
set_option maxRecDepth 20000 in
theorem ggL_relate_X3_relate : GoodIn wsL_relate wsX3_relate := goodIn_ca (goodIn_r _ [6, 7, 8, 9, 10, 5, 11, 12, 13, 14, 15, 16, 17, 18, 19, 20, 21, 22, 23, 24, 25] (by decide +kernel) (by decide +kernel)) (goodIn_sub (fun _ h => List.mem_cons_of_mem _ (List.mem_append_right _ h)) (by decide +kernel))
set_option maxRecDepth 20000 in
theorem gL_relate_X3_relate : GoodIn wsL_relate (wsV RL 17 RX3 yX3_relate wsX3_relate) := goodIn_app (goodIn_of _ (by decide +kernel)) ggL_relate_X3_relate
theorem dL_relate_0 : decode cL_relate 0 = .ok (.aload_n 0, 1) := by decide +kernel
theorem dL_relate_1 : decode cL_relate 1 = .ok (.iload_n 1, 1) := by decide +kernel
theorem dL_relate_2 : decode cL_relate 2 = .ok (.iload_n 2, 1) := by decide +kernel
theorem dL_relate_3 : decode cL_relate 3 = .ok (.iload_n 3, 1) := by decide +kernel
theorem dL_relate_4 : decode cL_relate 4 = .ok (.invokevirtual 17, 3) := by decide +kernel
theorem dL_relate_7 : decode cL_relate 7 = .ok (.goto 7, 3) := by decide +kernel
theorem dL_relate_10 : decode cL_relate 10 = .ok (.astore 4, 2) := by decide +kernel
theorem dL_relate_12 : decode cL_relate 12 = .ok (.iconst 1, 1) := by decide +kernel
theorem dL_relate_13 : decode cL_relate 13 = .ok (.ireturn, 1) := by decide +kernel
theorem dL_relate_14 : decode cL_relate 14 = .ok (.iconst 0, 1) := by decide +kernel
theorem dL_relate_15 : decode cL_relate 15 = .ok (.ireturn, 1) := by decide +kernel
set_option maxRecDepth 20000 in
theorem ggL_latest_X3_latest : GoodIn wsL_latest wsX3_latest := goodIn_ca (goodIn_r _ [6, 7, 8, 5, 9, 10, 11, 12, 13, 14, 15, 16, 17, 18, 19, 20, 21, 22, 23, 24, 25, 26, 27, 28, 29, 30, 31, 32, 33, 34] (by decide +kernel) (by decide +kernel)) (goodIn_sub (fun _ h => List.mem_cons_of_mem _ (List.mem_append_right _ h)) (by decide +kernel))
set_option maxRecDepth 20000 in
theorem gL_latest_X3_latest : GoodIn wsL_latest (wsV RL 21 RX3 yX3_latest wsX3_latest) := goodIn_app (goodIn_of _ (by decide +kernel)) ggL_latest_X3_latest
theorem dL_latest_0 : decode cL_latest 0 = .ok (.aload_n 2, 1) := by decide +kernel
theorem dL_latest_1 : decode cL_latest 1 = .ok (.iconst 0, 1) := by decide +kernel
theorem dL_latest_2 : decode cL_latest 2 = .ok (.aload_n 0, 1) := by decide +kernel
theorem dL_latest_3 : decode cL_latest 3 = .ok (.iload_n 1, 1) := by decide +kernel
theorem dL_latest_4 : decode cL_latest 4 = .ok (.invokevirtual 21, 3) := by decide +kernel
theorem dL_latest_7 : decode cL_latest 7 = .ok (.i2l, 1) := by decide +kernel
theorem dL_latest_8 : decode cL_latest 8 = .ok (.lastore, 1) := by decide +kernel
theorem dL_latest_9 : decode cL_latest 9 = .ok (.goto 6, 3) := by decide +kernel
theorem dL_latest_12 : decode cL_latest 12 = .ok (.astore_n 3, 1) := by decide +kernel
theorem dL_latest_13 : decode cL_latest 13 = .ok (.iconst 1, 1) := by decide +kernel
theorem dL_latest_14 : decode cL_latest 14 = .ok (.ireturn, 1) := by decide +kernel
theorem dL_latest_15 : decode cL_latest 15 = .ok (.iconst 0, 1) := by decide +kernel
theorem dL_latest_16 : decode cL_latest 16 = .ok (.ireturn, 1) := by decide +kernel
set_option maxRecDepth 20000 in
theorem ggL_begin_X3_begin : GoodIn wsL_begin wsX3_begin := goodIn_ca (goodIn_r _ [6, 7, 8, 9, 10, 11, 12, 13, 14, 15, 16, 17, 18, 19, 20, 21, 22, 23, 24, 25, 26, 27, 28, 29, 30, 31, 32, 33, 34, 35, 36, 37, 38, 39, 40, 41, 42, 43, 44, 45, 46, 47, 48, 49, 50, 51, 52, 53, 54, 55, 56, 57, 58, 59, 60, 61, 62, 63, 64, 65, 66, 67, 68, 69, 70, 71, 72, 73, 74, 75, 76, 77, 78, 79, 80, 81, 82, 83, 84, 85, 86, 87, 88, 89, 90, 91, 92, 93, 94, 95, 96, 97, 98, 99, 100] (by decide +kernel) (by decide +kernel)) (goodIn_sub (fun _ h => List.mem_cons_of_mem _ (List.mem_append_right _ h)) (by decide +kernel))
set_option maxRecDepth 20000 in
theorem gL_begin_X3_begin : GoodIn wsL_begin (wsV RL 25 RX3 yX3_begin wsX3_begin) := goodIn_app (goodIn_of _ (by decide +kernel)) ggL_begin_X3_begin
theorem dL_begin_0 : decode cL_begin 0 = .ok (.aload_n 1, 1) := by decide +kernel
theorem dL_begin_1 : decode cL_begin 1 = .ok (.iconst 0, 1) := by decide +kernel
theorem dL_begin_2 : decode cL_begin 2 = .ok (.aload_n 0, 1) := by decide +kernel
theorem dL_begin_3 : decode cL_begin 3 = .ok (.invokevirtual 25, 3) := by decide +kernel
theorem dL_begin_6 : decode cL_begin 6 = .ok (.i2l, 1) := by decide +kernel
theorem dL_begin_7 : decode cL_begin 7 = .ok (.lastore, 1) := by decide +kernel
theorem dL_begin_8 : decode cL_begin 8 = .ok (.goto 6, 3) := by decide +kernel
theorem dL_begin_11 : decode cL_begin 11 = .ok (.astore_n 2, 1) := by decide +kernel
theorem dL_begin_12 : decode cL_begin 12 = .ok (.iconst 1, 1) := by decide +kernel
theorem dL_begin_13 : decode cL_begin 13 = .ok (.ireturn, 1) := by decide +kernel
theorem dL_begin_14 : decode cL_begin 14 = .ok (.iconst 0, 1) := by decide +kernel
theorem dL_begin_15 : decode cL_begin 15 = .ok (.ireturn, 1) := by decide +kernel
set_option maxRecDepth 20000 in
theorem ggL_mark_X3_mark : GoodIn wsL_mark wsX3_mark := goodIn_ca (goodIn_ca (goodIn_ca (goodIn_r _ [8, 9, 10, 11, 12, 13, 14, 15, 16, 17, 18, 7, 19, 20, 21, 22, 23, 24, 25, 26, 27, 28, 29, 30, 31, 32, 33, 34, 35, 36, 37, 38, 39, 40, 41, 42, 43, 44, 45, 46, 47, 48, 49, 50, 51, 52, 53, 54, 55, 56, 57, 58, 59, 60, 61, 62, 63, 64, 65, 66, 67, 68, 69, 70, 71, 72, 73, 74, 75, 76, 77, 78, 79, 80, 81, 82, 83, 84, 85, 86, 87, 88, 89, 90, 91, 92] (by decide +kernel) (by decide +kernel)) (goodIn_sub (fun _ h => List.mem_cons_of_mem _ (List.mem_append_left _ (List.mem_append_left _ (List.mem_append_right _ h)))) (by decide +kernel))) (goodIn_sub (fun _ h => List.mem_cons_of_mem _ (List.mem_append_left _ (List.mem_append_right _ h))) (by decide +kernel))) (goodIn_sub (fun _ h => List.mem_cons_of_mem _ (List.mem_append_right _ h)) (by decide +kernel))
set_option maxRecDepth 20000 in
theorem gL_mark_X3_mark : GoodIn wsL_mark (wsV RL 29 RX3 yX3_mark wsX3_mark) := goodIn_app (goodIn_of _ (by decide +kernel)) ggL_mark_X3_mark
theorem dL_mark_0 : decode cL_mark 0 = .ok (.aload 5, 2) := by decide +kernel
theorem dL_mark_2 : decode cL_mark 2 = .ok (.iconst 0, 1) := by decide +kernel
theorem dL_mark_3 : decode cL_mark 3 = .ok (.aload_n 0, 1) := by decide +kernel
theorem dL_mark_4 : decode cL_mark 4 = .ok (.iload_n 1, 1) := by decide +kernel
theorem dL_mark_5 : decode cL_mark 5 = .ok (.iload_n 2, 1) := by decide +kernel
theorem dL_mark_6 : decode cL_mark 6 = .ok (.iload_n 3, 1) := by decide +kernel
theorem dL_mark_7 : decode cL_mark 7 = .ok (.iload 4, 2) := by decide +kernel
theorem dL_mark_9 : decode cL_mark 9 = .ok (.invokevirtual 29, 3) := by decide +kernel
theorem dL_mark_12 : decode cL_mark 12 = .ok (.i2l, 1) := by decide +kernel
theorem dL_mark_13 : decode cL_mark 13 = .ok (.lastore, 1) := by decide +kernel
theorem dL_mark_14 : decode cL_mark 14 = .ok (.goto 15, 3) := by decide +kernel
theorem dL_mark_17 : decode cL_mark 17 = .ok (.astore 6, 2) := by decide +kernel
theorem dL_mark_19 : decode cL_mark 19 = .ok (.iconst 1, 1) := by decide +kernel
theorem dL_mark_20 : decode cL_mark 20 = .ok (.ireturn, 1) := by decide +kernel
theorem dL_mark_21 : decode cL_mark 21 = .ok (.astore 6, 2) := by decide +kernel
theorem dL_mark_23 : decode cL_mark 23 = .ok (.iconst 2, 1) := by decide +kernel
theorem dL_mark_24 : decode cL_mark 24 = .ok (.ireturn, 1) := by decide +kernel
theorem dL_mark_25 : decode cL_mark 25 = .ok (.astore 6, 2) := by decide +kernel
theorem dL_mark_27 : decode cL_mark 27 = .ok (.iconst 3, 1) := by decide +kernel
theorem dL_mark_28 : decode cL_mark 28 = .ok (.ireturn, 1) := by decide +kernel
theorem dL_mark_29 : decode cL_mark 29 = .ok (.iconst 0, 1) := by decide +kernel
theorem dL_mark_30 : decode cL_mark 30 = .ok (.ireturn, 1) := by decide +kernel
set_option maxRecDepth 20000 in
theorem ggL_renew_X3_renew : GoodIn wsL_renew wsX3_renew := goodIn_ca (goodIn_ca (goodIn_ca (goodIn_r _ [8, 9, 10, 11, 12, 13, 14, 7, 15, 16, 17, 18, 19, 20, 21, 22, 23, 24, 25, 26, 27, 28, 29, 30, 31, 32, 33, 34, 35, 36, 37, 38, 39, 40, 41, 42, 43, 44, 45, 46, 47, 48, 49, 50, 51, 52, 53, 54, 55, 56, 57, 58, 59, 60, 61, 62, 63, 64, 65, 66, 67, 68, 69, 70, 71, 72, 73, 74, 75, 76, 77, 78, 79, 80, 81, 82, 83, 84, 85, 86, 87, 88, 89, 90, 91, 92, 93, 94, 95, 96, 97, 98, 99, 100, 101, 102, 103, 104, 105, 106, 107] (by decide +kernel) (by decide +kernel)) (goodIn_sub (fun _ h => List.mem_cons_of_mem _ (List.mem_append_left _ (List.mem_append_left _ (List.mem_append_right _ h)))) (by decide +kernel))) (goodIn_sub (fun _ h => List.mem_cons_of_mem _ (List.mem_append_left _ (List.mem_append_right _ h))) (by decide +kernel))) (goodIn_sub (fun _ h => List.mem_cons_of_mem _ (List.mem_append_right _ h)) (by decide +kernel))
set_option maxRecDepth 20000 in
theorem gL_renew_X3_renew : GoodIn wsL_renew (wsV RL 35 RX3 yX3_renew wsX3_renew) := goodIn_app (goodIn_of _ (by decide +kernel)) ggL_renew_X3_renew
theorem dL_renew_0 : decode cL_renew 0 = .ok (.aload 4, 2) := by decide +kernel
theorem dL_renew_2 : decode cL_renew 2 = .ok (.iconst 0, 1) := by decide +kernel
theorem dL_renew_3 : decode cL_renew 3 = .ok (.aload_n 0, 1) := by decide +kernel
theorem dL_renew_4 : decode cL_renew 4 = .ok (.iload_n 1, 1) := by decide +kernel
theorem dL_renew_5 : decode cL_renew 5 = .ok (.iload_n 2, 1) := by decide +kernel
theorem dL_renew_6 : decode cL_renew 6 = .ok (.iload_n 3, 1) := by decide +kernel
theorem dL_renew_7 : decode cL_renew 7 = .ok (.invokevirtual 35, 3) := by decide +kernel
theorem dL_renew_10 : decode cL_renew 10 = .ok (.i2l, 1) := by decide +kernel
theorem dL_renew_11 : decode cL_renew 11 = .ok (.lastore, 1) := by decide +kernel
theorem dL_renew_12 : decode cL_renew 12 = .ok (.goto 15, 3) := by decide +kernel
theorem dL_renew_15 : decode cL_renew 15 = .ok (.astore 5, 2) := by decide +kernel
theorem dL_renew_17 : decode cL_renew 17 = .ok (.iconst 1, 1) := by decide +kernel
theorem dL_renew_18 : decode cL_renew 18 = .ok (.ireturn, 1) := by decide +kernel
theorem dL_renew_19 : decode cL_renew 19 = .ok (.astore 5, 2) := by decide +kernel
theorem dL_renew_21 : decode cL_renew 21 = .ok (.iconst 2, 1) := by decide +kernel
theorem dL_renew_22 : decode cL_renew 22 = .ok (.ireturn, 1) := by decide +kernel
theorem dL_renew_23 : decode cL_renew 23 = .ok (.astore 5, 2) := by decide +kernel
theorem dL_renew_25 : decode cL_renew 25 = .ok (.iconst 3, 1) := by decide +kernel
theorem dL_renew_26 : decode cL_renew 26 = .ok (.ireturn, 1) := by decide +kernel
theorem dL_renew_27 : decode cL_renew 27 = .ok (.iconst 0, 1) := by decide +kernel
theorem dL_renew_28 : decode cL_renew 28 = .ok (.ireturn, 1) := by decide +kernel
set_option maxRecDepth 20000 in
theorem ggL_version_X3_version : GoodIn wsL_version wsX3_version := goodIn_ca (goodIn_ca (goodIn_r _ [7, 8, 9, 10, 6, 11, 12, 13, 14, 15, 16, 17, 18, 19, 20, 21, 22, 23, 24, 25, 26, 27, 28, 29, 30, 31, 32, 33, 34, 35, 36, 37, 38, 39, 40, 41, 42, 43, 44, 45, 46, 47, 48, 49, 50, 51, 52, 53, 54, 55, 56, 57, 58, 59, 60, 61, 62, 63, 64, 65, 66, 67, 68, 69, 70, 71, 72, 73] (by decide +kernel) (by decide +kernel)) (goodIn_sub (fun _ h => List.mem_cons_of_mem _ (List.mem_append_left _ (List.mem_append_right _ h))) (by decide +kernel))) (goodIn_sub (fun _ h => List.mem_cons_of_mem _ (List.mem_append_right _ h)) (by decide +kernel))
set_option maxRecDepth 20000 in
theorem gL_version_X3_version : GoodIn wsL_version (wsV RL 39 RX3 yX3_version wsX3_version) := goodIn_app (goodIn_of _ (by decide +kernel)) ggL_version_X3_version
theorem dL_version_0 : decode cL_version 0 = .ok (.aload_n 3, 1) := by decide +kernel
theorem dL_version_1 : decode cL_version 1 = .ok (.iconst 0, 1) := by decide +kernel
theorem dL_version_2 : decode cL_version 2 = .ok (.aload_n 0, 1) := by decide +kernel
theorem dL_version_3 : decode cL_version 3 = .ok (.iload_n 1, 1) := by decide +kernel
theorem dL_version_4 : decode cL_version 4 = .ok (.iload_n 2, 1) := by decide +kernel
theorem dL_version_5 : decode cL_version 5 = .ok (.invokevirtual 39, 3) := by decide +kernel
theorem dL_version_8 : decode cL_version 8 = .ok (.i2l, 1) := by decide +kernel
theorem dL_version_9 : decode cL_version 9 = .ok (.lastore, 1) := by decide +kernel
theorem dL_version_10 : decode cL_version 10 = .ok (.goto 11, 3) := by decide +kernel
theorem dL_version_13 : decode cL_version 13 = .ok (.astore 4, 2) := by decide +kernel
theorem dL_version_15 : decode cL_version 15 = .ok (.iconst 1, 1) := by decide +kernel
theorem dL_version_16 : decode cL_version 16 = .ok (.ireturn, 1) := by decide +kernel
theorem dL_version_17 : decode cL_version 17 = .ok (.astore 4, 2) := by decide +kernel
theorem dL_version_19 : decode cL_version 19 = .ok (.iconst 2, 1) := by decide +kernel
theorem dL_version_20 : decode cL_version 20 = .ok (.ireturn, 1) := by decide +kernel
theorem dL_version_21 : decode cL_version 21 = .ok (.iconst 0, 1) := by decide +kernel
theorem dL_version_22 : decode cL_version 22 = .ok (.ireturn, 1) := by decide +kernel
set_option maxRecDepth 20000 in
theorem ggL_offered_X3_offered : GoodIn wsL_offered wsX3_offered := goodIn_ca (goodIn_r _ [6, 7, 8, 9, 5, 10, 11, 12, 13, 14, 15, 16, 17, 18, 19, 20, 21, 22, 23, 24, 25, 26, 27, 28, 29, 30, 31, 32, 33, 34, 35, 36, 37, 38, 39, 40, 41, 42, 43, 44, 45, 46, 47, 48, 49, 50, 51, 52, 53, 54, 55, 56, 57, 58, 59, 60, 61, 62, 63, 64, 65, 66, 67, 68, 69, 70, 71, 72, 73, 74, 75, 76, 77, 78, 79, 80, 81, 82] (by decide +kernel) (by decide +kernel)) (goodIn_sub (fun _ h => List.mem_cons_of_mem _ (List.mem_append_right _ h)) (by decide +kernel))
set_option maxRecDepth 20000 in
theorem gL_offered_X3_offered : GoodIn wsL_offered (wsV RL 43 RX3 yX3_offered wsX3_offered) := goodIn_app (goodIn_of _ (by decide +kernel)) ggL_offered_X3_offered
theorem dL_offered_0 : decode cL_offered 0 = .ok (.aload_n 2, 1) := by decide +kernel
theorem dL_offered_1 : decode cL_offered 1 = .ok (.iconst 0, 1) := by decide +kernel
theorem dL_offered_2 : decode cL_offered 2 = .ok (.aload_n 0, 1) := by decide +kernel
theorem dL_offered_3 : decode cL_offered 3 = .ok (.iload_n 1, 1) := by decide +kernel
theorem dL_offered_4 : decode cL_offered 4 = .ok (.invokevirtual 43, 3) := by decide +kernel
theorem dL_offered_7 : decode cL_offered 7 = .ok (.i2l, 1) := by decide +kernel
theorem dL_offered_8 : decode cL_offered 8 = .ok (.lastore, 1) := by decide +kernel
theorem dL_offered_9 : decode cL_offered 9 = .ok (.goto 6, 3) := by decide +kernel
theorem dL_offered_12 : decode cL_offered 12 = .ok (.astore_n 3, 1) := by decide +kernel
theorem dL_offered_13 : decode cL_offered 13 = .ok (.iconst 1, 1) := by decide +kernel
theorem dL_offered_14 : decode cL_offered 14 = .ok (.ireturn, 1) := by decide +kernel
theorem dL_offered_15 : decode cL_offered 15 = .ok (.iconst 0, 1) := by decide +kernel
theorem dL_offered_16 : decode cL_offered 16 = .ok (.ireturn, 1) := by decide +kernel
set_option maxRecDepth 20000 in
theorem ggL_whyNot_X3_whyNot : GoodIn wsL_whyNot wsX3_whyNot := goodIn_ca (goodIn_r _ [6, 7, 8, 9, 5, 10, 11, 12, 13, 14, 15, 16, 17, 18, 19, 20, 21, 22, 23, 24, 25, 26, 27, 28, 29, 30, 31, 32, 33, 34, 35, 36, 37, 38, 39, 40, 41, 42, 43, 44, 45, 46, 47, 48, 49, 50, 51, 52, 53, 54, 55, 56, 57, 58, 59, 60, 61, 62, 63, 64, 65, 66, 67, 68, 69, 70, 71, 72, 73, 74, 75, 76, 77, 78, 79] (by decide +kernel) (by decide +kernel)) (goodIn_sub (fun _ h => List.mem_cons_of_mem _ (List.mem_append_right _ h)) (by decide +kernel))
set_option maxRecDepth 20000 in
theorem gL_whyNot_X3_whyNot : GoodIn wsL_whyNot (wsV RL 46 RX3 yX3_whyNot wsX3_whyNot) := goodIn_app (goodIn_of _ (by decide +kernel)) ggL_whyNot_X3_whyNot
theorem dL_whyNot_0 : decode cL_whyNot 0 = .ok (.aload_n 2, 1) := by decide +kernel
theorem dL_whyNot_1 : decode cL_whyNot 1 = .ok (.iconst 0, 1) := by decide +kernel
theorem dL_whyNot_2 : decode cL_whyNot 2 = .ok (.aload_n 0, 1) := by decide +kernel
theorem dL_whyNot_3 : decode cL_whyNot 3 = .ok (.iload_n 1, 1) := by decide +kernel
theorem dL_whyNot_4 : decode cL_whyNot 4 = .ok (.invokevirtual 46, 3) := by decide +kernel
theorem dL_whyNot_7 : decode cL_whyNot 7 = .ok (.i2l, 1) := by decide +kernel
theorem dL_whyNot_8 : decode cL_whyNot 8 = .ok (.lastore, 1) := by decide +kernel
theorem dL_whyNot_9 : decode cL_whyNot 9 = .ok (.goto 6, 3) := by decide +kernel
theorem dL_whyNot_12 : decode cL_whyNot 12 = .ok (.astore_n 3, 1) := by decide +kernel
theorem dL_whyNot_13 : decode cL_whyNot 13 = .ok (.iconst 1, 1) := by decide +kernel
theorem dL_whyNot_14 : decode cL_whyNot 14 = .ok (.ireturn, 1) := by decide +kernel
theorem dL_whyNot_15 : decode cL_whyNot 15 = .ok (.iconst 0, 1) := by decide +kernel
theorem dL_whyNot_16 : decode cL_whyNot 16 = .ok (.ireturn, 1) := by decide +kernel
set_option maxRecDepth 20000 in
theorem ggL_sign_X3_sign : GoodIn wsL_sign wsX3_sign := goodIn_ca (goodIn_ca (goodIn_ca (goodIn_r _ [8, 9, 10, 11, 12, 13, 14, 7, 15, 16, 17, 18, 19, 20, 21, 22, 23, 24, 25, 26, 27, 28, 29, 30, 31, 32, 33, 34, 35, 36, 37, 38, 39, 40, 41, 42, 43, 44, 45, 46, 47, 48, 49, 50, 51, 52, 53, 54, 55, 56, 57, 58, 59, 60, 61, 62, 63, 64, 65, 66, 67, 68, 69, 70, 71, 72, 73, 74, 75, 76, 77, 78, 79, 80, 81, 82, 83, 84, 85, 86, 87, 88, 89, 90, 91, 92, 93, 94, 95, 96, 97, 98, 99, 100, 101, 102, 103, 104, 105, 106, 107, 108, 109, 110, 111, 112, 113, 114, 115, 116, 117, 118, 119, 120, 121, 122, 123, 124, 125, 126, 127, 128, 129, 130, 131, 132, 133, 134, 135, 136, 137, 138, 139, 140, 141, 142, 143, 144, 145, 146, 147, 148, 149, 150, 151, 152, 153, 154, 155, 156, 157, 158, 159, 160, 161, 162, 163, 164, 165, 166, 167, 168, 169, 170, 171, 172] (by decide +kernel) (by decide +kernel)) (goodIn_sub (fun _ h => List.mem_cons_of_mem _ (List.mem_append_left _ (List.mem_append_left _ (List.mem_append_right _ h)))) (by decide +kernel))) (goodIn_sub (fun _ h => List.mem_cons_of_mem _ (List.mem_append_left _ (List.mem_append_right _ h))) (by decide +kernel))) (goodIn_sub (fun _ h => List.mem_cons_of_mem _ (List.mem_append_right _ h)) (by decide +kernel))
set_option maxRecDepth 20000 in
theorem gL_sign_X3_sign : GoodIn wsL_sign (wsV RL 49 RX3 yX3_sign wsX3_sign) := goodIn_app (goodIn_of _ (by decide +kernel)) ggL_sign_X3_sign
theorem dL_sign_0 : decode cL_sign 0 = .ok (.aload_n 3, 1) := by decide +kernel
theorem dL_sign_1 : decode cL_sign 1 = .ok (.iconst 0, 1) := by decide +kernel
theorem dL_sign_2 : decode cL_sign 2 = .ok (.aload_n 0, 1) := by decide +kernel
theorem dL_sign_3 : decode cL_sign 3 = .ok (.iload_n 1, 1) := by decide +kernel
theorem dL_sign_4 : decode cL_sign 4 = .ok (.iload_n 2, 1) := by decide +kernel
theorem dL_sign_5 : decode cL_sign 5 = .ok (.invokevirtual 49, 3) := by decide +kernel
theorem dL_sign_8 : decode cL_sign 8 = .ok (.i2l, 1) := by decide +kernel
theorem dL_sign_9 : decode cL_sign 9 = .ok (.lastore, 1) := by decide +kernel
theorem dL_sign_10 : decode cL_sign 10 = .ok (.goto 15, 3) := by decide +kernel
theorem dL_sign_13 : decode cL_sign 13 = .ok (.astore 4, 2) := by decide +kernel
theorem dL_sign_15 : decode cL_sign 15 = .ok (.iconst 1, 1) := by decide +kernel
theorem dL_sign_16 : decode cL_sign 16 = .ok (.ireturn, 1) := by decide +kernel
theorem dL_sign_17 : decode cL_sign 17 = .ok (.astore 4, 2) := by decide +kernel
theorem dL_sign_19 : decode cL_sign 19 = .ok (.iconst 2, 1) := by decide +kernel
theorem dL_sign_20 : decode cL_sign 20 = .ok (.ireturn, 1) := by decide +kernel
theorem dL_sign_21 : decode cL_sign 21 = .ok (.astore 4, 2) := by decide +kernel
theorem dL_sign_23 : decode cL_sign 23 = .ok (.iconst 3, 1) := by decide +kernel

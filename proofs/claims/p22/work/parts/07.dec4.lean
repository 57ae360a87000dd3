theorem dL_isSuspended_19 : decode cL_isSuspended 19 = .ok (.aload_n 1, 1) := by decide +kernel
theorem dL_isSuspended_20 : decode cL_isSuspended 20 = .ok (.aload_n 0, 1) := by decide +kernel
theorem dL_isSuspended_21 : decode cL_isSuspended 21 = .ok (.iload_n 2, 1) := by decide +kernel
theorem dL_isSuspended_22 : decode cL_isSuspended 22 = .ok (.iaload, 1) := by decide +kernel
theorem dL_isSuspended_23 : decode cL_isSuspended 23 = .ok (.bipush 15, 2) := by decide +kernel
theorem dL_isSuspended_25 : decode cL_isSuspended 25 = .ok (.iand, 1) := by decide +kernel
theorem dL_isSuspended_26 : decode cL_isSuspended 26 = .ok (.invokestatic 112, 3) := by decide +kernel
theorem dL_isSuspended_29 : decode cL_isSuspended 29 = .ok (.iconst 1, 1) := by decide +kernel
theorem dL_isSuspended_30 : decode cL_isSuspended 30 = .ok (.aload_n 0, 1) := by decide +kernel
theorem dL_isSuspended_31 : decode cL_isSuspended 31 = .ok (.iload_n 2, 1) := by decide +kernel
theorem dL_isSuspended_32 : decode cL_isSuspended 32 = .ok (.iaload, 1) := by decide +kernel
theorem dL_isSuspended_33 : decode cL_isSuspended 33 = .ok (.iconst 4, 1) := by decide +kernel
theorem dL_isSuspended_34 : decode cL_isSuspended 34 = .ok (.ishr, 1) := by decide +kernel
theorem dL_isSuspended_35 : decode cL_isSuspended 35 = .ok (.iconst 1, 1) := by decide +kernel
theorem dL_isSuspended_36 : decode cL_isSuspended 36 = .ok (.iand, 1) := by decide +kernel
theorem dL_isSuspended_37 : decode cL_isSuspended 37 = .ok (.isub, 1) := by decide +kernel
theorem dL_isSuspended_38 : decode cL_isSuspended 38 = .ok (.ishr, 1) := by decide +kernel
theorem dL_isSuspended_39 : decode cL_isSuspended 39 = .ok (.iconst 1, 1) := by decide +kernel
theorem dL_isSuspended_40 : decode cL_isSuspended 40 = .ok (.iand, 1) := by decide +kernel
theorem dL_isSuspended_41 : decode cL_isSuspended 41 = .ok (.iconst 1, 1) := by decide +kernel
theorem dL_isSuspended_42 : decode cL_isSuspended 42 = .ok (.if_icmp .ne 7, 3) := by decide +kernel
theorem dL_isSuspended_45 : decode cL_isSuspended 45 = .ok (.iconst 1, 1) := by decide +kernel
theorem dL_isSuspended_46 : decode cL_isSuspended 46 = .ok (.goto 4, 3) := by decide +kernel
theorem dL_isSuspended_49 : decode cL_isSuspended 49 = .ok (.iconst 0, 1) := by decide +kernel
theorem dL_isSuspended_50 : decode cL_isSuspended 50 = .ok (.ireturn, 1) := by decide +kernel
set_option maxRecDepth 20000 in
theorem ggL_passes_L_breached : GoodIn wsL_passes wsL_breached := goodIn_r _ [4] (by decide +kernel) (by decide +kernel)
set_option maxRecDepth 20000 in
theorem gL_passes_L_breached : GoodIn wsL_passes (va_wsS RL 112 yL_breached wsL_breached) := goodIn_app (goodIn_of _ (by decide +kernel)) ggL_passes_L_breached
theorem dL_passes_0 : decode cL_passes 0 = .ok (.iconst 0, 1) := by decide +kernel
theorem dL_passes_1 : decode cL_passes 1 = .ok (.istore 4, 2) := by decide +kernel
theorem dL_passes_3 : decode cL_passes 3 = .ok (.iconst 0, 1) := by decide +kernel
theorem dL_passes_4 : decode cL_passes 4 = .ok (.istore 5, 2) := by decide +kernel
theorem dL_passes_6 : decode cL_passes 6 = .ok (.iload 5, 2) := by decide +kernel
theorem dL_passes_8 : decode cL_passes 8 = .ok (.iload_n 0, 1) := by decide +kernel
theorem dL_passes_9 : decode cL_passes 9 = .ok (.if_icmp .ge 200, 3) := by decide +kernel
theorem dL_passes_12 : decode cL_passes 12 = .ok (.aload_n 3, 1) := by decide +kernel
theorem dL_passes_13 : decode cL_passes 13 = .ok (.iconst 0, 1) := by decide +kernel
theorem dL_passes_14 : decode cL_passes 14 = .ok (.dup2, 1) := by decide +kernel
theorem dL_passes_15 : decode cL_passes 15 = .ok (.iaload, 1) := by decide +kernel
theorem dL_passes_16 : decode cL_passes 16 = .ok (.iconst 1, 1) := by decide +kernel
theorem dL_passes_17 : decode cL_passes 17 = .ok (.iadd, 1) := by decide +kernel
theorem dL_passes_18 : decode cL_passes 18 = .ok (.iastore, 1) := by decide +kernel
theorem dL_passes_19 : decode cL_passes 19 = .ok (.iconst 0, 1) := by decide +kernel
theorem dL_passes_20 : decode cL_passes 20 = .ok (.istore 6, 2) := by decide +kernel
theorem dL_passes_22 : decode cL_passes 22 = .ok (.iload 6, 2) := by decide +kernel
theorem dL_passes_24 : decode cL_passes 24 = .ok (.bipush 10, 2) := by decide +kernel
theorem dL_passes_26 : decode cL_passes 26 = .ok (.if_icmp .ge 115, 3) := by decide +kernel
theorem dL_passes_29 : decode cL_passes 29 = .ok (.aload_n 1, 1) := by decide +kernel
theorem dL_passes_30 : decode cL_passes 30 = .ok (.aload_n 3, 1) := by decide +kernel
theorem dL_passes_31 : decode cL_passes 31 = .ok (.iload 6, 2) := by decide +kernel
theorem dL_passes_33 : decode cL_passes 33 = .ok (.invokestatic 112, 3) := by decide +kernel
theorem dL_passes_36 : decode cL_passes 36 = .ok (.istore 7, 2) := by decide +kernel
theorem dL_passes_38 : decode cL_passes 38 = .ok (.iconst 0, 1) := by decide +kernel
theorem dL_passes_39 : decode cL_passes 39 = .ok (.istore 8, 2) := by decide +kernel
theorem dL_passes_41 : decode cL_passes 41 = .ok (.iload 8, 2) := by decide +kernel
theorem dL_passes_43 : decode cL_passes 43 = .ok (.aload_n 3, 1) := by decide +kernel
theorem dL_passes_44 : decode cL_passes 44 = .ok (.iconst 2, 1) := by decide +kernel
theorem dL_passes_45 : decode cL_passes 45 = .ok (.iaload, 1) := by decide +kernel
theorem dL_passes_46 : decode cL_passes 46 = .ok (.if_icmp .ge 89, 3) := by decide +kernel
theorem dL_passes_49 : decode cL_passes 49 = .ok (.aload_n 1, 1) := by decide +kernel
theorem dL_passes_50 : decode cL_passes 50 = .ok (.iload 8, 2) := by decide +kernel
theorem dL_passes_52 : decode cL_passes 52 = .ok (.iaload, 1) := by decide +kernel
theorem dL_passes_53 : decode cL_passes 53 = .ok (.bipush 15, 2) := by decide +kernel
theorem dL_passes_55 : decode cL_passes 55 = .ok (.iand, 1) := by decide +kernel
theorem dL_passes_56 : decode cL_passes 56 = .ok (.iload 6, 2) := by decide +kernel
theorem dL_passes_58 : decode cL_passes 58 = .ok (.if_icmp .eq 6, 3) := by decide +kernel
theorem dL_passes_61 : decode cL_passes 61 = .ok (.goto 68, 3) := by decide +kernel
theorem dL_passes_64 : decode cL_passes 64 = .ok (.aload_n 1, 1) := by decide +kernel
theorem dL_passes_65 : decode cL_passes 65 = .ok (.iload 8, 2) := by decide +kernel
theorem dL_passes_67 : decode cL_passes 67 = .ok (.iaload, 1) := by decide +kernel
theorem dL_passes_68 : decode cL_passes 68 = .ok (.iconst 5, 1) := by decide +kernel
theorem dL_passes_69 : decode cL_passes 69 = .ok (.ishr, 1) := by decide +kernel
theorem dL_passes_70 : decode cL_passes 70 = .ok (.bipush 7, 2) := by decide +kernel
theorem dL_passes_72 : decode cL_passes 72 = .ok (.iand, 1) := by decide +kernel
theorem dL_passes_73 : decode cL_passes 73 = .ok (.istore 9, 2) := by decide +kernel
theorem dL_passes_75 : decode cL_passes 75 = .ok (.iload 9, 2) := by decide +kernel
theorem dL_passes_77 : decode cL_passes 77 = .ok (.ifCond .eq 9, 3) := by decide +kernel
theorem dL_passes_80 : decode cL_passes 80 = .ok (.iload 9, 2) := by decide +kernel
theorem dL_passes_82 : decode cL_passes 82 = .ok (.iconst 2, 1) := by decide +kernel
theorem dL_passes_83 : decode cL_passes 83 = .ok (.if_icmp .ne 7, 3) := by decide +kernel
theorem dL_passes_86 : decode cL_passes 86 = .ok (.iconst 1, 1) := by decide +kernel
theorem dL_passes_87 : decode cL_passes 87 = .ok (.goto 4, 3) := by decide +kernel
theorem dL_passes_90 : decode cL_passes 90 = .ok (.iconst 0, 1) := by decide +kernel
theorem dL_passes_91 : decode cL_passes 91 = .ok (.istore 10, 2) := by decide +kernel
theorem dL_passes_93 : decode cL_passes 93 = .ok (.aload_n 2, 1) := by decide +kernel
theorem dL_passes_94 : decode cL_passes 94 = .ok (.iload 8, 2) := by decide +kernel
theorem dL_passes_96 : decode cL_passes 96 = .ok (.dup2, 1) := by decide +kernel
theorem dL_passes_97 : decode cL_passes 97 = .ok (.iaload, 1) := by decide +kernel
theorem dL_passes_98 : decode cL_passes 98 = .ok (.iload 10, 2) := by decide +kernel
theorem dL_passes_100 : decode cL_passes 100 = .ok (.ifCond .eq 26, 3) := by decide +kernel
theorem dL_passes_103 : decode cL_passes 103 = .ok (.iload 7, 2) := by decide +kernel
theorem dL_passes_105 : decode cL_passes 105 = .ok (.iconst 1, 1) := by decide +kernel
theorem dL_passes_106 : decode cL_passes 106 = .ok (.aload_n 1, 1) := by decide +kernel
theorem dL_passes_107 : decode cL_passes 107 = .ok (.iload 8, 2) := by decide +kernel
theorem dL_passes_109 : decode cL_passes 109 = .ok (.iaload, 1) := by decide +kernel
theorem dL_passes_110 : decode cL_passes 110 = .ok (.iconst 4, 1) := by decide +kernel
theorem dL_passes_111 : decode cL_passes 111 = .ok (.ishr, 1) := by decide +kernel
theorem dL_passes_112 : decode cL_passes 112 = .ok (.iconst 1, 1) := by decide +kernel
theorem dL_passes_113 : decode cL_passes 113 = .ok (.iand, 1) := by decide +kernel
theorem dL_passes_114 : decode cL_passes 114 = .ok (.isub, 1) := by decide +kernel
theorem dL_passes_115 : decode cL_passes 115 = .ok (.ishr, 1) := by decide +kernel
theorem dL_passes_116 : decode cL_passes 116 = .ok (.iconst 1, 1) := by decide +kernel
theorem dL_passes_117 : decode cL_passes 117 = .ok (.iand, 1) := by decide +kernel
theorem dL_passes_118 : decode cL_passes 118 = .ok (.iconst 1, 1) := by decide +kernel
theorem dL_passes_119 : decode cL_passes 119 = .ok (.if_icmp .ne 7, 3) := by decide +kernel
theorem dL_passes_122 : decode cL_passes 122 = .ok (.iconst 1, 1) := by decide +kernel
theorem dL_passes_123 : decode cL_passes 123 = .ok (.goto 4, 3) := by decide +kernel
theorem dL_passes_126 : decode cL_passes 126 = .ok (.iconst 0, 1) := by decide +kernel
theorem dL_passes_127 : decode cL_passes 127 = .ok (.iadd, 1) := by decide +kernel
theorem dL_passes_128 : decode cL_passes 128 = .ok (.iastore, 1) := by decide +kernel
theorem dL_passes_129 : decode cL_passes 129 = .ok (.iinc 8 1, 3) := by decide +kernel
theorem dL_passes_132 : decode cL_passes 132 = .ok (.goto (-91), 3) := by decide +kernel
theorem dL_passes_135 : decode cL_passes 135 = .ok (.iinc 6 1, 3) := by decide +kernel
theorem dL_passes_138 : decode cL_passes 138 = .ok (.goto (-116), 3) := by decide +kernel
theorem dL_passes_141 : decode cL_passes 141 = .ok (.iconst 0, 1) := by decide +kernel
theorem dL_passes_142 : decode cL_passes 142 = .ok (.istore 6, 2) := by decide +kernel
theorem dL_passes_144 : decode cL_passes 144 = .ok (.iload 6, 2) := by decide +kernel
theorem dL_passes_146 : decode cL_passes 146 = .ok (.aload_n 3, 1) := by decide +kernel
theorem dL_passes_147 : decode cL_passes 147 = .ok (.iconst 2, 1) := by decide +kernel
theorem dL_passes_148 : decode cL_passes 148 = .ok (.iaload, 1) := by decide +kernel
theorem dL_passes_149 : decode cL_passes 149 = .ok (.if_icmp .ge 54, 3) := by decide +kernel
theorem dL_passes_152 : decode cL_passes 152 = .ok (.aload_n 1, 1) := by decide +kernel
theorem dL_passes_153 : decode cL_passes 153 = .ok (.iload 6, 2) := by decide +kernel
theorem dL_passes_155 : decode cL_passes 155 = .ok (.iaload, 1) := by decide +kernel
theorem dL_passes_156 : decode cL_passes 156 = .ok (.iconst 5, 1) := by decide +kernel
theorem dL_passes_157 : decode cL_passes 157 = .ok (.ishr, 1) := by decide +kernel
theorem dL_passes_158 : decode cL_passes 158 = .ok (.bipush 7, 2) := by decide +kernel
theorem dL_passes_160 : decode cL_passes 160 = .ok (.iand, 1) := by decide +kernel
theorem dL_passes_161 : decode cL_passes 161 = .ok (.iconst 2, 1) := by decide +kernel
theorem dL_passes_162 : decode cL_passes 162 = .ok (.if_icmp .ne 35, 3) := by decide +kernel
theorem dL_passes_165 : decode cL_passes 165 = .ok (.aload_n 2, 1) := by decide +kernel
theorem dL_passes_166 : decode cL_passes 166 = .ok (.iload 6, 2) := by decide +kernel
theorem dL_passes_168 : decode cL_passes 168 = .ok (.iaload, 1) := by decide +kernel
theorem dL_passes_169 : decode cL_passes 169 = .ok (.aload_n 3, 1) := by decide +kernel
theorem dL_passes_170 : decode cL_passes 170 = .ok (.iconst 0, 1) := by decide +kernel
theorem dL_passes_171 : decode cL_passes 171 = .ok (.iaload, 1) := by decide +kernel
theorem dL_passes_172 : decode cL_passes 172 = .ok (.if_icmp .lt 6, 3) := by decide +kernel
theorem dL_passes_175 : decode cL_passes 175 = .ok (.goto 22, 3) := by decide +kernel
theorem dL_passes_178 : decode cL_passes 178 = .ok (.aload_n 1, 1) := by decide +kernel
theorem dL_passes_179 : decode cL_passes 179 = .ok (.iload 6, 2) := by decide +kernel
theorem dL_passes_181 : decode cL_passes 181 = .ok (.dup2, 1) := by decide +kernel
theorem dL_passes_182 : decode cL_passes 182 = .ok (.iaload, 1) := by decide +kernel
theorem dL_passes_183 : decode cL_passes 183 = .ok (.bipush 32, 2) := by decide +kernel
theorem dL_passes_185 : decode cL_passes 185 = .ok (.iadd, 1) := by decide +kernel
theorem dL_passes_186 : decode cL_passes 186 = .ok (.iastore, 1) := by decide +kernel
theorem dL_passes_187 : decode cL_passes 187 = .ok (.aload_n 2, 1) := by decide +kernel
theorem dL_passes_188 : decode cL_passes 188 = .ok (.iload 6, 2) := by decide +kernel
theorem dL_passes_190 : decode cL_passes 190 = .ok (.aload_n 3, 1) := by decide +kernel
theorem dL_passes_191 : decode cL_passes 191 = .ok (.iconst 0, 1) := by decide +kernel
theorem dL_passes_192 : decode cL_passes 192 = .ok (.iaload, 1) := by decide +kernel
theorem dL_passes_193 : decode cL_passes 193 = .ok (.iastore, 1) := by decide +kernel
theorem dL_passes_194 : decode cL_passes 194 = .ok (.iinc 4 1, 3) := by decide +kernel
theorem dL_passes_197 : decode cL_passes 197 = .ok (.iinc 6 1, 3) := by decide +kernel
theorem dL_passes_200 : decode cL_passes 200 = .ok (.goto (-56), 3) := by decide +kernel
theorem dL_passes_203 : decode cL_passes 203 = .ok (.iinc 5 1, 3) := by decide +kernel
theorem dL_passes_206 : decode cL_passes 206 = .ok (.goto (-200), 3) := by decide +kernel
theorem dL_passes_209 : decode cL_passes 209 = .ok (.iload 4, 2) := by decide +kernel
theorem dL_passes_211 : decode cL_passes 211 = .ok (.ireturn, 1) := by decide +kernel
set_option maxRecDepth 20000 in
theorem ggL_works_L_low : GoodIn wsL_works wsL_low := goodIn_r _ [6] (by decide +kernel) (by decide +kernel)
set_option maxRecDepth 20000 in
theorem gL_works_L_low : GoodIn wsL_works (va_wsS RL 75 yL_low wsL_low) := goodIn_app (goodIn_of _ (by decide +kernel)) ggL_works_L_low
set_option maxRecDepth 20000 in
theorem ggL_works_L_pass : GoodIn wsL_works wsL_pass := goodIn_ca (goodIn_ca (goodIn_r _ [9, 10, 11, 12, 13, 14, 15, 16, 17, 18, 19, 20, 21, 22, 23, 24, 25, 26, 27, 28, 29, 30, 31, 32, 33, 34, 35, 36, 37, 38, 39, 40, 41, 42, 43, 44, 45, 46, 47, 48, 49, 50, 51, 52, 53, 54, 55, 56, 57, 58, 59, 60, 61, 62, 63, 64, 65, 66, 67, 68, 69, 70, 71, 72, 73, 74, 75, 76, 77, 78, 79, 80, 81, 82, 83, 84, 137, 138, 139, 140, 141, 142, 143, 144, 145, 146, 147, 148, 149, 150, 151, 152, 153, 154, 155, 156, 157, 158, 159] (by decide +kernel) (by decide +kernel)) (goodIn_sub (fun _ h => List.mem_cons_of_mem _ (List.mem_append_left _ (List.mem_append_left _ (List.mem_append_right _ h)))) (by decide +kernel))) (goodIn_sub (fun _ h => List.mem_cons_of_mem _ (List.mem_append_left _ (List.mem_append_right _ h))) (by decide +kernel))
set_option maxRecDepth 20000 in
theorem gL_works_L_pass : GoodIn wsL_works (va_wsS RL 116 yL_pass wsL_pass) := goodIn_app (goodIn_of _ (by decide +kernel)) ggL_works_L_pass
set_option maxRecDepth 20000 in
theorem ggL_works_L_passes : GoodIn wsL_works wsL_passes := goodIn_r _ [87, 88, 89, 5, 90] (by decide +kernel) (by decide +kernel)
set_option maxRecDepth 20000 in
theorem gL_works_L_passes : GoodIn wsL_works (va_wsS RL 119 yL_passes wsL_passes) := goodIn_app (goodIn_of _ (by decide +kernel)) ggL_works_L_passes
set_option maxRecDepth 20000 in
theorem ggL_works_L_perform : GoodIn wsL_works wsL_perform := goodIn_ca (goodIn_ca (goodIn_r _ [93, 94, 11, 95, 96, 97, 15, 98, 19, 20, 73, 21, 31, 99, 100, 101, 102, 103, 104, 29, 30, 32, 33, 34, 35, 36, 37, 22, 23, 24, 38, 39, 40, 41, 42, 43, 44, 45, 46, 47, 48, 49, 50, 51, 52, 53, 54, 105, 65, 66, 58, 67, 68, 74, 75, 76, 77, 78, 143, 144, 145, 146, 137, 138, 139, 140, 141, 142, 147, 148, 149] (by decide +kernel) (by decide +kernel)) (goodIn_sub (fun _ h => List.mem_cons_of_mem _ (List.mem_append_left _ (List.mem_append_right _ h))) (by decide +kernel))) (goodIn_sub (fun _ h => List.mem_cons_of_mem _ (List.mem_append_right _ h)) (by decide +kernel))
set_option maxRecDepth 20000 in
theorem gL_works_L_perform : GoodIn wsL_works (va_wsS RL 123 yL_perform wsL_perform) := goodIn_app (goodIn_of _ (by decide +kernel)) ggL_works_L_perform
set_option maxRecDepth 20000 in
theorem ggL_works_L_notice : GoodIn wsL_works wsL_notice := goodIn_ca (goodIn_ca (goodIn_r _ [108, 94, 11, 109, 110, 111, 15, 112, 19, 20, 73, 21, 31, 113, 114, 99, 100, 101, 102, 103, 104, 29, 30, 32, 33, 34, 35, 36, 37, 22, 23, 24, 38, 39, 40, 41, 42, 43, 44, 45, 46, 47, 48, 49, 50, 51, 52, 53, 54, 74, 75, 76, 58, 77, 68, 78, 143, 144, 145, 146, 137, 138, 139, 140, 141, 142, 155, 156, 157, 158, 159, 147, 148, 149] (by decide +kernel) (by decide +kernel)) (goodIn_sub (fun _ h => List.mem_cons_of_mem _ (List.mem_append_left _ (List.mem_append_right _ h))) (by decide +kernel))) (goodIn_sub (fun _ h => List.mem_cons_of_mem _ (List.mem_append_right _ h)) (by decide +kernel))
set_option maxRecDepth 20000 in
theorem gL_works_L_notice : GoodIn wsL_works (va_wsS RL 125 yL_notice wsL_notice) := goodIn_app (goodIn_of _ (by decide +kernel)) ggL_works_L_notice
set_option maxRecDepth 20000 in
theorem ggL_works_L_settle : GoodIn wsL_works wsL_settle := goodIn_ca (goodIn_ca (goodIn_r _ [117, 94, 11, 118, 119, 120, 15, 121, 19, 20, 73, 21, 113, 122, 99, 100, 101, 102, 103, 104, 29, 30, 32, 33, 34, 35, 36, 37, 22, 23, 24, 38, 39, 40, 41, 42, 43, 44, 45, 46, 47, 48, 49, 50, 51, 52, 53, 54, 74, 75, 76, 58, 77, 68, 78, 79, 80, 81, 82, 60, 61, 62, 63, 83, 84, 143, 144, 145, 146, 137, 138, 139, 140, 141, 142, 155, 156, 157, 158, 159, 147, 148, 149, 150, 151, 152, 153, 154] (by decide +kernel) (by decide +kernel)) (goodIn_sub (fun _ h => List.mem_cons_of_mem _ (List.mem_append_left _ (List.mem_append_right _ h))) (by decide +kernel))) (goodIn_sub (fun _ h => List.mem_cons_of_mem _ (List.mem_append_right _ h)) (by decide +kernel))
set_option maxRecDepth 20000 in
theorem gL_works_L_settle : GoodIn wsL_works (va_wsS RL 127 yL_settle wsL_settle) := goodIn_app (goodIn_of _ (by decide +kernel)) ggL_works_L_settle
set_option maxRecDepth 20000 in
theorem ggL_works_L_state : GoodIn wsL_works wsL_state := goodIn_ca (goodIn_r _ [125, 94, 126, 127, 128, 15, 129, 73, 99, 100, 101, 102, 103, 104, 29, 30, 32, 33, 34, 35, 36, 37, 22, 23, 24, 38, 39, 40, 41, 42, 43, 44, 45, 46, 47, 48, 49, 50, 51, 52, 53, 54, 143, 144, 145, 146, 137, 138, 139, 140, 141, 142, 147, 148, 149] (by decide +kernel) (by decide +kernel)) (goodIn_sub (fun _ h => List.mem_cons_of_mem _ (List.mem_append_right _ h)) (by decide +kernel))
set_option maxRecDepth 20000 in
theorem gL_works_L_state : GoodIn wsL_works (va_wsS RL 129 yL_state wsL_state) := goodIn_app (goodIn_of _ (by decide +kernel)) ggL_works_L_state
set_option maxRecDepth 20000 in
theorem ggL_works_L_day : GoodIn wsL_works wsL_day := goodIn_ca (goodIn_r _ [132, 94, 133, 134, 135, 15, 136, 31, 99, 100, 101, 102, 103, 104, 29, 30, 32, 33, 34, 35, 36, 37, 22, 23, 24, 38, 39, 40, 41, 42, 43, 44, 45, 46, 47, 48, 49, 50, 51, 52, 53, 54, 143, 144, 145, 146, 137, 138, 139, 140, 141, 142, 147, 148, 149] (by decide +kernel) (by decide +kernel)) (goodIn_sub (fun _ h => List.mem_cons_of_mem _ (List.mem_append_right _ h)) (by decide +kernel))
set_option maxRecDepth 20000 in
theorem gL_works_L_day : GoodIn wsL_works (va_wsS RL 131 yL_day wsL_day) := goodIn_app (goodIn_of _ (by decide +kernel)) ggL_works_L_day
theorem dL_works_0 : decode cL_works 0 = .ok (.iload_n 1, 1) := by decide +kernel
theorem dL_works_1 : decode cL_works 1 = .ok (.iconst 4, 1) := by decide +kernel
theorem dL_works_2 : decode cL_works 2 = .ok (.if_icmp .ge 130, 3) := by decide +kernel
theorem dL_works_5 : decode cL_works 5 = .ok (.iconst 1, 1) := by decide +kernel
theorem dL_works_6 : decode cL_works 6 = .ok (.iload_n 3, 1) := by decide +kernel
theorem dL_works_7 : decode cL_works 7 = .ok (.iload_n 2, 1) := by decide +kernel
theorem dL_works_8 : decode cL_works 8 = .ok (.bipush 96, 2) := by decide +kernel
theorem dL_works_10 : decode cL_works 10 = .ok (.iand, 1) := by decide +kernel
theorem dL_works_11 : decode cL_works 11 = .ok (.ifCond .ne 8, 3) := by decide +kernel
theorem dL_works_14 : decode cL_works 14 = .ok (.bipush 100, 2) := by decide +kernel
theorem dL_works_16 : decode cL_works 16 = .ok (.goto 5, 3) := by decide +kernel
theorem dL_works_19 : decode cL_works 19 = .ok (.bipush 6, 2) := by decide +kernel
theorem dL_works_21 : decode cL_works 21 = .ok (.invokestatic 75, 3) := by decide +kernel
theorem dL_works_24 : decode cL_works 24 = .ok (.iadd, 1) := by decide +kernel
theorem dL_works_25 : decode cL_works 25 = .ok (.istore 7, 2) := by decide +kernel
theorem dL_works_27 : decode cL_works 27 = .ok (.aload_n 0, 1) := by decide +kernel
theorem dL_works_28 : decode cL_works 28 = .ok (.iconst 0, 1) := by decide +kernel
theorem dL_works_29 : decode cL_works 29 = .ok (.invokestatic 116, 3) := by decide +kernel
theorem dL_works_32 : decode cL_works 32 = .ok (.bipush (-72), 2) := by decide +kernel
theorem dL_works_34 : decode cL_works 34 = .ok (.if_icmp .ne 36, 3) := by decide +kernel
theorem dL_works_37 : decode cL_works 37 = .ok (.aload_n 0, 1) := by decide +kernel
theorem dL_works_38 : decode cL_works 38 = .ok (.bipush 101, 2) := by decide +kernel
theorem dL_works_40 : decode cL_works 40 = .ok (.invokestatic 116, 3) := by decide +kernel
theorem dL_works_43 : decode cL_works 43 = .ok (.bipush (-72), 2) := by decide +kernel
theorem dL_works_45 : decode cL_works 45 = .ok (.if_icmp .ne 25, 3) := by decide +kernel
theorem dL_works_48 : decode cL_works 48 = .ok (.aload_n 0, 1) := by decide +kernel
theorem dL_works_49 : decode cL_works 49 = .ok (.ldc 84, 2) := by decide +kernel
theorem dL_works_51 : decode cL_works 51 = .ok (.invokestatic 116, 3) := by decide +kernel
theorem dL_works_54 : decode cL_works 54 = .ok (.bipush (-72), 2) := by decide +kernel
theorem dL_works_56 : decode cL_works 56 = .ok (.if_icmp .ne 14, 3) := by decide +kernel
theorem dL_works_59 : decode cL_works 59 = .ok (.aload_n 0, 1) := by decide +kernel
theorem dL_works_60 : decode cL_works 60 = .ok (.ldc 118, 2) := by decide +kernel
theorem dL_works_62 : decode cL_works 62 = .ok (.invokestatic 116, 3) := by decide +kernel
theorem dL_works_65 : decode cL_works 65 = .ok (.bipush (-72), 2) := by decide +kernel
theorem dL_works_67 : decode cL_works 67 = .ok (.if_icmp .eq 5, 3) := by decide +kernel
theorem dL_works_70 : decode cL_works 70 = .ok (.iconst 0, 1) := by decide +kernel
theorem dL_works_71 : decode cL_works 71 = .ok (.ireturn, 1) := by decide +kernel
theorem dL_works_72 : decode cL_works 72 = .ok (.aload 6, 2) := by decide +kernel
theorem dL_works_74 : decode cL_works 74 = .ok (.iconst 0, 1) := by decide +kernel
theorem dL_works_75 : decode cL_works 75 = .ok (.iaload, 1) := by decide +kernel
theorem dL_works_76 : decode cL_works 76 = .ok (.iload 7, 2) := by decide +kernel
theorem dL_works_78 : decode cL_works 78 = .ok (.iadd, 1) := by decide +kernel
theorem dL_works_79 : decode cL_works 79 = .ok (.sipush 9999, 3) := by decide +kernel
theorem dL_works_82 : decode cL_works 82 = .ok (.if_icmp .le 20, 3) := by decide +kernel
theorem dL_works_85 : decode cL_works 85 = .ok (.aload_n 0, 1) := by decide +kernel
theorem dL_works_86 : decode cL_works 86 = .ok (.iload 7, 2) := by decide +kernel
theorem dL_works_88 : decode cL_works 88 = .ok (.invokestatic 116, 3) := by decide +kernel
theorem dL_works_91 : decode cL_works 91 = .ok (.bipush (-73), 2) := by decide +kernel
theorem dL_works_93 : decode cL_works 93 = .ok (.if_icmp .ne 7, 3) := by decide +kernel
theorem dL_works_96 : decode cL_works 96 = .ok (.iconst 1, 1) := by decide +kernel
theorem dL_works_97 : decode cL_works 97 = .ok (.goto 4, 3) := by decide +kernel
theorem dL_works_100 : decode cL_works 100 = .ok (.iconst 0, 1) := by decide +kernel
theorem dL_works_101 : decode cL_works 101 = .ok (.ireturn, 1) := by decide +kernel
theorem dL_works_102 : decode cL_works 102 = .ok (.iload 7, 2) := by decide +kernel
theorem dL_works_104 : decode cL_works 104 = .ok (.aload 4, 2) := by decide +kernel
theorem dL_works_106 : decode cL_works 106 = .ok (.aload 5, 2) := by decide +kernel
theorem dL_works_108 : decode cL_works 108 = .ok (.aload 6, 2) := by decide +kernel
theorem dL_works_110 : decode cL_works 110 = .ok (.invokestatic 119, 3) := by decide +kernel
theorem dL_works_113 : decode cL_works 113 = .ok (.istore 8, 2) := by decide +kernel
theorem dL_works_115 : decode cL_works 115 = .ok (.aload_n 0, 1) := by decide +kernel
theorem dL_works_116 : decode cL_works 116 = .ok (.iload 7, 2) := by decide +kernel
theorem dL_works_118 : decode cL_works 118 = .ok (.invokestatic 116, 3) := by decide +kernel
theorem dL_works_121 : decode cL_works 121 = .ok (.iload 8, 2) := by decide +kernel
theorem dL_works_123 : decode cL_works 123 = .ok (.if_icmp .ne 7, 3) := by decide +kernel
theorem dL_works_126 : decode cL_works 126 = .ok (.iconst 1, 1) := by decide +kernel
theorem dL_works_127 : decode cL_works 127 = .ok (.goto 4, 3) := by decide +kernel
theorem dL_works_130 : decode cL_works 130 = .ok (.iconst 0, 1) := by decide +kernel
theorem dL_works_131 : decode cL_works 131 = .ok (.ireturn, 1) := by decide +kernel
theorem dL_works_132 : decode cL_works 132 = .ok (.iload_n 2, 1) := by decide +kernel
theorem dL_works_133 : decode cL_works 133 = .ok (.aload 6, 2) := by decide +kernel
theorem dL_works_135 : decode cL_works 135 = .ok (.iconst 2, 1) := by decide +kernel
theorem dL_works_136 : decode cL_works 136 = .ok (.iaload, 1) := by decide +kernel
theorem dL_works_137 : decode cL_works 137 = .ok (.iconst 1, 1) := by decide +kernel
theorem dL_works_138 : decode cL_works 138 = .ok (.iadd, 1) := by decide +kernel
theorem dL_works_139 : decode cL_works 139 = .ok (.invokestatic 75, 3) := by decide +kernel
theorem dL_works_142 : decode cL_works 142 = .ok (.istore 7, 2) := by decide +kernel
theorem dL_works_144 : decode cL_works 144 = .ok (.iload 7, 2) := by decide +kernel
theorem dL_works_146 : decode cL_works 146 = .ok (.aload 6, 2) := by decide +kernel
theorem dL_works_148 : decode cL_works 148 = .ok (.iconst 2, 1) := by decide +kernel
theorem dL_works_149 : decode cL_works 149 = .ok (.iaload, 1) := by decide +kernel
theorem dL_works_150 : decode cL_works 150 = .ok (.if_icmp .ne 62, 3) := by decide +kernel
theorem dL_works_153 : decode cL_works 153 = .ok (.aload_n 0, 1) := by decide +kernel
theorem dL_works_154 : decode cL_works 154 = .ok (.iload 7, 2) := by decide +kernel
theorem dL_works_156 : decode cL_works 156 = .ok (.invokestatic 123, 3) := by decide +kernel
theorem dL_works_159 : decode cL_works 159 = .ok (.bipush (-71), 2) := by decide +kernel
theorem dL_works_161 : decode cL_works 161 = .ok (.if_icmp .ne 49, 3) := by decide +kernel
theorem dL_works_164 : decode cL_works 164 = .ok (.aload_n 0, 1) := by decide +kernel
theorem dL_works_165 : decode cL_works 165 = .ok (.iconst (-1), 1) := by decide +kernel
theorem dL_works_166 : decode cL_works 166 = .ok (.invokestatic 125, 3) := by decide +kernel
theorem dL_works_169 : decode cL_works 169 = .ok (.bipush (-71), 2) := by decide +kernel
theorem dL_works_171 : decode cL_works 171 = .ok (.if_icmp .ne 39, 3) := by decide +kernel
theorem dL_works_174 : decode cL_works 174 = .ok (.aload_n 0, 1) := by decide +kernel
theorem dL_works_175 : decode cL_works 175 = .ok (.iload 7, 2) := by decide +kernel
theorem dL_works_177 : decode cL_works 177 = .ok (.invokestatic 127, 3) := by decide +kernel
theorem dL_works_180 : decode cL_works 180 = .ok (.bipush (-71), 2) := by decide +kernel
theorem dL_works_182 : decode cL_works 182 = .ok (.if_icmp .ne 28, 3) := by decide +kernel
theorem dL_works_185 : decode cL_works 185 = .ok (.aload_n 0, 1) := by decide +kernel
theorem dL_works_186 : decode cL_works 186 = .ok (.iload 7, 2) := by decide +kernel
theorem dL_works_188 : decode cL_works 188 = .ok (.invokestatic 129, 3) := by decide +kernel
theorem dL_works_191 : decode cL_works 191 = .ok (.bipush (-71), 2) := by decide +kernel
theorem dL_works_193 : decode cL_works 193 = .ok (.if_icmp .ne 17, 3) := by decide +kernel
theorem dL_works_196 : decode cL_works 196 = .ok (.aload_n 0, 1) := by decide +kernel
theorem dL_works_197 : decode cL_works 197 = .ok (.iconst (-1), 1) := by decide +kernel
theorem dL_works_198 : decode cL_works 198 = .ok (.invokestatic 131, 3) := by decide +kernel
theorem dL_works_201 : decode cL_works 201 = .ok (.bipush (-71), 2) := by decide +kernel
theorem dL_works_203 : decode cL_works 203 = .ok (.if_icmp .ne 7, 3) := by decide +kernel
theorem dL_works_206 : decode cL_works 206 = .ok (.iconst 1, 1) := by decide +kernel
theorem dL_works_207 : decode cL_works 207 = .ok (.goto 4, 3) := by decide +kernel
theorem dL_works_210 : decode cL_works 210 = .ok (.iconst 0, 1) := by decide +kernel
theorem dL_works_211 : decode cL_works 211 = .ok (.ireturn, 1) := by decide +kernel
theorem dL_works_212 : decode cL_works 212 = .ok (.aload 4, 2) := by decide +kernel
theorem dL_works_214 : decode cL_works 214 = .ok (.iload 7, 2) := by decide +kernel
theorem dL_works_216 : decode cL_works 216 = .ok (.iaload, 1) := by decide +kernel
theorem dL_works_217 : decode cL_works 217 = .ok (.iconst 5, 1) := by decide +kernel
theorem dL_works_218 : decode cL_works 218 = .ok (.ishr, 1) := by decide +kernel
theorem dL_works_219 : decode cL_works 219 = .ok (.bipush 7, 2) := by decide +kernel
theorem dL_works_221 : decode cL_works 221 = .ok (.iand, 1) := by decide +kernel
theorem dL_works_222 : decode cL_works 222 = .ok (.istore 8, 2) := by decide +kernel
theorem dL_works_224 : decode cL_works 224 = .ok (.iload_n 1, 1) := by decide +kernel
theorem dL_works_225 : decode cL_works 225 = .ok (.iconst 4, 1) := by decide +kernel
theorem dL_works_226 : decode cL_works 226 = .ok (.if_icmp .ne 110, 3) := by decide +kernel
theorem dL_works_229 : decode cL_works 229 = .ok (.iload 8, 2) := by decide +kernel
theorem dL_works_231 : decode cL_works 231 = .ok (.ifCond .eq 26, 3) := by decide +kernel
theorem dL_works_234 : decode cL_works 234 = .ok (.iload 8, 2) := by decide +kernel
theorem dL_works_236 : decode cL_works 236 = .ok (.iconst 2, 1) := by decide +kernel
theorem dL_works_237 : decode cL_works 237 = .ok (.if_icmp .eq 20, 3) := by decide +kernel
theorem dL_works_240 : decode cL_works 240 = .ok (.aload_n 0, 1) := by decide +kernel
theorem dL_works_241 : decode cL_works 241 = .ok (.iload 7, 2) := by decide +kernel
theorem dL_works_243 : decode cL_works 243 = .ok (.invokestatic 123, 3) := by decide +kernel
theorem dL_works_246 : decode cL_works 246 = .ok (.bipush (-73), 2) := by decide +kernel
theorem dL_works_248 : decode cL_works 248 = .ok (.if_icmp .ne 7, 3) := by decide +kernel
theorem dL_works_251 : decode cL_works 251 = .ok (.iconst 1, 1) := by decide +kernel
theorem dL_works_252 : decode cL_works 252 = .ok (.goto 4, 3) := by decide +kernel
theorem dL_works_255 : decode cL_works 255 = .ok (.iconst 0, 1) := by decide +kernel
theorem dL_works_256 : decode cL_works 256 = .ok (.ireturn, 1) := by decide +kernel
theorem dL_works_257 : decode cL_works 257 = .ok (.iload 8, 2) := by decide +kernel
theorem dL_works_259 : decode cL_works 259 = .ok (.iconst 2, 1) := by decide +kernel
theorem dL_works_260 : decode cL_works 260 = .ok (.if_icmp .eq 15, 3) := by decide +kernel
theorem dL_works_263 : decode cL_works 263 = .ok (.aload 6, 2) := by decide +kernel
theorem dL_works_265 : decode cL_works 265 = .ok (.iconst 0, 1) := by decide +kernel
theorem dL_works_266 : decode cL_works 266 = .ok (.iaload, 1) := by decide +kernel
theorem dL_works_267 : decode cL_works 267 = .ok (.aload 5, 2) := by decide +kernel
theorem dL_works_269 : decode cL_works 269 = .ok (.iload 7, 2) := by decide +kernel
theorem dL_works_271 : decode cL_works 271 = .ok (.iaload, 1) := by decide +kernel
theorem dL_works_272 : decode cL_works 272 = .ok (.if_icmp .le 7, 3) := by decide +kernel
theorem dL_works_275 : decode cL_works 275 = .ok (.iconst 1, 1) := by decide +kernel
theorem dL_works_276 : decode cL_works 276 = .ok (.goto 4, 3) := by decide +kernel
theorem dL_works_279 : decode cL_works 279 = .ok (.iconst 0, 1) := by decide +kernel
theorem dL_works_280 : decode cL_works 280 = .ok (.istore 9, 2) := by decide +kernel
theorem dL_works_282 : decode cL_works 282 = .ok (.aload 4, 2) := by decide +kernel
theorem dL_works_284 : decode cL_works 284 = .ok (.iload 7, 2) := by decide +kernel
theorem dL_works_286 : decode cL_works 286 = .ok (.dup2, 1) := by decide +kernel
theorem dL_works_287 : decode cL_works 287 = .ok (.iaload, 1) := by decide +kernel
theorem dL_works_288 : decode cL_works 288 = .ok (.iload 8, 2) := by decide +kernel
theorem dL_works_290 : decode cL_works 290 = .ok (.ifCond .ne 8, 3) := by decide +kernel
theorem dL_works_293 : decode cL_works 293 = .ok (.bipush 32, 2) := by decide +kernel
theorem dL_works_295 : decode cL_works 295 = .ok (.goto 5, 3) := by decide +kernel
theorem dL_works_298 : decode cL_works 298 = .ok (.bipush (-32), 2) := by decide +kernel
theorem dL_works_300 : decode cL_works 300 = .ok (.iadd, 1) := by decide +kernel
theorem dL_works_301 : decode cL_works 301 = .ok (.iastore, 1) := by decide +kernel
theorem dL_works_302 : decode cL_works 302 = .ok (.aload 5, 2) := by decide +kernel
theorem dL_works_304 : decode cL_works 304 = .ok (.iload 7, 2) := by decide +kernel
theorem dL_works_306 : decode cL_works 306 = .ok (.aload 6, 2) := by decide +kernel
theorem dL_works_308 : decode cL_works 308 = .ok (.iconst 0, 1) := by decide +kernel
theorem dL_works_309 : decode cL_works 309 = .ok (.iaload, 1) := by decide +kernel
theorem dL_works_310 : decode cL_works 310 = .ok (.iastore, 1) := by decide +kernel
theorem dL_works_311 : decode cL_works 311 = .ok (.aload_n 0, 1) := by decide +kernel
theorem dL_works_312 : decode cL_works 312 = .ok (.iload 7, 2) := by decide +kernel
theorem dL_works_314 : decode cL_works 314 = .ok (.invokestatic 123, 3) := by decide +kernel
theorem dL_works_317 : decode cL_works 317 = .ok (.iload 9, 2) := by decide +kernel
theorem dL_works_319 : decode cL_works 319 = .ok (.ifCond .eq 7, 3) := by decide +kernel
theorem dL_works_322 : decode cL_works 322 = .ok (.iconst 1, 1) := by decide +kernel
theorem dL_works_323 : decode cL_works 323 = .ok (.goto 4, 3) := by decide +kernel
theorem dL_works_326 : decode cL_works 326 = .ok (.iconst 0, 1) := by decide +kernel
theorem dL_works_327 : decode cL_works 327 = .ok (.if_icmp .ne 7, 3) := by decide +kernel
theorem dL_works_330 : decode cL_works 330 = .ok (.iconst 1, 1) := by decide +kernel
theorem dL_works_331 : decode cL_works 331 = .ok (.goto 4, 3) := by decide +kernel
theorem dL_works_334 : decode cL_works 334 = .ok (.iconst 0, 1) := by decide +kernel
theorem dL_works_335 : decode cL_works 335 = .ok (.ireturn, 1) := by decide +kernel
theorem dL_works_336 : decode cL_works 336 = .ok (.iload_n 1, 1) := by decide +kernel
theorem dL_works_337 : decode cL_works 337 = .ok (.bipush 8, 2) := by decide +kernel
theorem dL_works_339 : decode cL_works 339 = .ok (.if_icmp .ge 138, 3) := by decide +kernel
theorem dL_works_342 : decode cL_works 342 = .ok (.iconst 0, 1) := by decide +kernel
theorem dL_works_343 : decode cL_works 343 = .ok (.istore 9, 2) := by decide +kernel
theorem dL_works_345 : decode cL_works 345 = .ok (.iload 9, 2) := by decide +kernel
theorem dL_works_347 : decode cL_works 347 = .ok (.aload 6, 2) := by decide +kernel
theorem dL_works_349 : decode cL_works 349 = .ok (.iconst 2, 1) := by decide +kernel
theorem dL_works_350 : decode cL_works 350 = .ok (.iaload, 1) := by decide +kernel
theorem dL_works_351 : decode cL_works 351 = .ok (.if_icmp .ge 33, 3) := by decide +kernel
theorem dL_works_354 : decode cL_works 354 = .ok (.aload 4, 2) := by decide +kernel
theorem dL_works_356 : decode cL_works 356 = .ok (.iload 7, 2) := by decide +kernel
theorem dL_works_358 : decode cL_works 358 = .ok (.iaload, 1) := by decide +kernel
theorem dL_works_359 : decode cL_works 359 = .ok (.iconst 5, 1) := by decide +kernel
theorem dL_works_360 : decode cL_works 360 = .ok (.ishr, 1) := by decide +kernel
theorem dL_works_361 : decode cL_works 361 = .ok (.bipush 7, 2) := by decide +kernel
theorem dL_works_363 : decode cL_works 363 = .ok (.iand, 1) := by decide +kernel
theorem dL_works_364 : decode cL_works 364 = .ok (.ifCond .eq 20, 3) := by decide +kernel
theorem dL_works_367 : decode cL_works 367 = .ok (.iload 7, 2) := by decide +kernel
theorem dL_works_369 : decode cL_works 369 = .ok (.iconst 1, 1) := by decide +kernel
theorem dL_works_370 : decode cL_works 370 = .ok (.iadd, 1) := by decide +kernel
theorem dL_works_371 : decode cL_works 371 = .ok (.aload 6, 2) := by decide +kernel
theorem dL_works_373 : decode cL_works 373 = .ok (.iconst 2, 1) := by decide +kernel
theorem dL_works_374 : decode cL_works 374 = .ok (.iaload, 1) := by decide +kernel
theorem dL_works_375 : decode cL_works 375 = .ok (.irem, 1) := by decide +kernel
theorem dL_works_376 : decode cL_works 376 = .ok (.istore 7, 2) := by decide +kernel
theorem dL_works_378 : decode cL_works 378 = .ok (.iinc 9 1, 3) := by decide +kernel
theorem dL_works_381 : decode cL_works 381 = .ok (.goto (-36), 3) := by decide +kernel
theorem dL_works_384 : decode cL_works 384 = .ok (.aload 4, 2) := by decide +kernel
theorem dL_works_386 : decode cL_works 386 = .ok (.iload 7, 2) := by decide +kernel
theorem dL_works_388 : decode cL_works 388 = .ok (.iaload, 1) := by decide +kernel
theorem dL_works_389 : decode cL_works 389 = .ok (.iconst 5, 1) := by decide +kernel
theorem dL_works_390 : decode cL_works 390 = .ok (.ishr, 1) := by decide +kernel
theorem dL_works_391 : decode cL_works 391 = .ok (.bipush 7, 2) := by decide +kernel
theorem dL_works_393 : decode cL_works 393 = .ok (.iand, 1) := by decide +kernel
theorem dL_works_394 : decode cL_works 394 = .ok (.ifCond .ne 15, 3) := by decide +kernel
theorem dL_works_397 : decode cL_works 397 = .ok (.aload 6, 2) := by decide +kernel
theorem dL_works_399 : decode cL_works 399 = .ok (.iconst 0, 1) := by decide +kernel
theorem dL_works_400 : decode cL_works 400 = .ok (.iaload, 1) := by decide +kernel
theorem dL_works_401 : decode cL_works 401 = .ok (.aload 5, 2) := by decide +kernel
theorem dL_works_403 : decode cL_works 403 = .ok (.iload 7, 2) := by decide +kernel
theorem dL_works_405 : decode cL_works 405 = .ok (.iaload, 1) := by decide +kernel
theorem dL_works_406 : decode cL_works 406 = .ok (.if_icmp .gt 20, 3) := by decide +kernel
theorem dL_works_409 : decode cL_works 409 = .ok (.aload_n 0, 1) := by decide +kernel
theorem dL_works_410 : decode cL_works 410 = .ok (.iload 7, 2) := by decide +kernel
theorem dL_works_412 : decode cL_works 412 = .ok (.invokestatic 125, 3) := by decide +kernel
theorem dL_works_415 : decode cL_works 415 = .ok (.bipush (-73), 2) := by decide +kernel
theorem dL_works_417 : decode cL_works 417 = .ok (.if_icmp .ne 7, 3) := by decide +kernel
theorem dL_works_420 : decode cL_works 420 = .ok (.iconst 1, 1) := by decide +kernel
theorem dL_works_421 : decode cL_works 421 = .ok (.goto 4, 3) := by decide +kernel
theorem dL_works_424 : decode cL_works 424 = .ok (.iconst 0, 1) := by decide +kernel
theorem dL_works_425 : decode cL_works 425 = .ok (.ireturn, 1) := by decide +kernel
theorem dL_works_426 : decode cL_works 426 = .ok (.aload 4, 2) := by decide +kernel
theorem dL_works_428 : decode cL_works 428 = .ok (.iload 7, 2) := by decide +kernel
theorem dL_works_430 : decode cL_works 430 = .ok (.dup2, 1) := by decide +kernel
theorem dL_works_431 : decode cL_works 431 = .ok (.iaload, 1) := by decide +kernel
theorem dL_works_432 : decode cL_works 432 = .ok (.bipush 64, 2) := by decide +kernel
theorem dL_works_434 : decode cL_works 434 = .ok (.iadd, 1) := by decide +kernel
theorem dL_works_435 : decode cL_works 435 = .ok (.iastore, 1) := by decide +kernel
theorem dL_works_436 : decode cL_works 436 = .ok (.aload 5, 2) := by decide +kernel
theorem dL_works_438 : decode cL_works 438 = .ok (.iload 7, 2) := by decide +kernel
theorem dL_works_440 : decode cL_works 440 = .ok (.aload 6, 2) := by decide +kernel
theorem dL_works_442 : decode cL_works 442 = .ok (.iconst 0, 1) := by decide +kernel
theorem dL_works_443 : decode cL_works 443 = .ok (.iaload, 1) := by decide +kernel
theorem dL_works_444 : decode cL_works 444 = .ok (.aload 4, 2) := by decide +kernel
theorem dL_works_446 : decode cL_works 446 = .ok (.iload 7, 2) := by decide +kernel
theorem dL_works_448 : decode cL_works 448 = .ok (.iaload, 1) := by decide +kernel
theorem dL_works_449 : decode cL_works 449 = .ok (.bipush 8, 2) := by decide +kernel
theorem dL_works_451 : decode cL_works 451 = .ok (.ishr, 1) := by decide +kernel
theorem dL_works_452 : decode cL_works 452 = .ok (.bipush 63, 2) := by decide +kernel
theorem dL_works_454 : decode cL_works 454 = .ok (.iand, 1) := by decide +kernel
theorem dL_works_455 : decode cL_works 455 = .ok (.iadd, 1) := by decide +kernel
theorem dL_works_456 : decode cL_works 456 = .ok (.iastore, 1) := by decide +kernel
theorem dL_works_457 : decode cL_works 457 = .ok (.aload_n 0, 1) := by decide +kernel
theorem dL_works_458 : decode cL_works 458 = .ok (.iload 7, 2) := by decide +kernel
theorem dL_works_460 : decode cL_works 460 = .ok (.invokestatic 125, 3) := by decide +kernel
theorem dL_works_463 : decode cL_works 463 = .ok (.aload 5, 2) := by decide +kernel
theorem dL_works_465 : decode cL_works 465 = .ok (.iload 7, 2) := by decide +kernel
theorem dL_works_467 : decode cL_works 467 = .ok (.iaload, 1) := by decide +kernel
theorem dL_works_468 : decode cL_works 468 = .ok (.if_icmp .ne 7, 3) := by decide +kernel
theorem dL_works_471 : decode cL_works 471 = .ok (.iconst 1, 1) := by decide +kernel
theorem dL_works_472 : decode cL_works 472 = .ok (.goto 4, 3) := by decide +kernel
theorem dL_works_475 : decode cL_works 475 = .ok (.iconst 0, 1) := by decide +kernel
theorem dL_works_476 : decode cL_works 476 = .ok (.ireturn, 1) := by decide +kernel
theorem dL_works_477 : decode cL_works 477 = .ok (.iload 8, 2) := by decide +kernel
theorem dL_works_479 : decode cL_works 479 = .ok (.iconst 3, 1) := by decide +kernel
theorem dL_works_480 : decode cL_works 480 = .ok (.if_icmp .eq 20, 3) := by decide +kernel
theorem dL_works_483 : decode cL_works 483 = .ok (.aload_n 0, 1) := by decide +kernel
theorem dL_works_484 : decode cL_works 484 = .ok (.iload 7, 2) := by decide +kernel
theorem dL_works_486 : decode cL_works 486 = .ok (.invokestatic 127, 3) := by decide +kernel
theorem dL_works_489 : decode cL_works 489 = .ok (.bipush (-73), 2) := by decide +kernel
theorem dL_works_491 : decode cL_works 491 = .ok (.if_icmp .ne 7, 3) := by decide +kernel
theorem dL_works_494 : decode cL_works 494 = .ok (.iconst 1, 1) := by decide +kernel
theorem dL_works_495 : decode cL_works 495 = .ok (.goto 4, 3) := by decide +kernel
theorem dL_works_498 : decode cL_works 498 = .ok (.iconst 0, 1) := by decide +kernel
theorem dL_works_499 : decode cL_works 499 = .ok (.ireturn, 1) := by decide +kernel
theorem dL_works_500 : decode cL_works 500 = .ok (.aload 4, 2) := by decide +kernel
theorem dL_works_502 : decode cL_works 502 = .ok (.iload 7, 2) := by decide +kernel
theorem dL_works_504 : decode cL_works 504 = .ok (.dup2, 1) := by decide +kernel
theorem dL_works_505 : decode cL_works 505 = .ok (.iaload, 1) := by decide +kernel
theorem dL_works_506 : decode cL_works 506 = .ok (.bipush 32, 2) := by decide +kernel
theorem dL_works_508 : decode cL_works 508 = .ok (.iadd, 1) := by decide +kernel
theorem dL_works_509 : decode cL_works 509 = .ok (.iastore, 1) := by decide +kernel
theorem dL_works_510 : decode cL_works 510 = .ok (.aload 5, 2) := by decide +kernel
theorem dL_works_512 : decode cL_works 512 = .ok (.iload 7, 2) := by decide +kernel
theorem dL_works_514 : decode cL_works 514 = .ok (.aload 6, 2) := by decide +kernel
theorem dL_works_516 : decode cL_works 516 = .ok (.iconst 0, 1) := by decide +kernel
theorem dL_works_517 : decode cL_works 517 = .ok (.iaload, 1) := by decide +kernel
theorem dL_works_518 : decode cL_works 518 = .ok (.iastore, 1) := by decide +kernel
theorem dL_works_519 : decode cL_works 519 = .ok (.aload_n 0, 1) := by decide +kernel
theorem dL_works_520 : decode cL_works 520 = .ok (.iload 7, 2) := by decide +kernel
theorem dL_works_522 : decode cL_works 522 = .ok (.invokestatic 127, 3) := by decide +kernel
theorem dL_works_525 : decode cL_works 525 = .ok (.aload 4, 2) := by decide +kernel
theorem dL_works_527 : decode cL_works 527 = .ok (.iload 7, 2) := by decide +kernel
theorem dL_works_529 : decode cL_works 529 = .ok (.iaload, 1) := by decide +kernel
theorem dL_works_530 : decode cL_works 530 = .ok (.bipush 14, 2) := by decide +kernel
theorem dL_works_532 : decode cL_works 532 = .ok (.ishr, 1) := by decide +kernel
theorem dL_works_533 : decode cL_works 533 = .ok (.if_icmp .ne 7, 3) := by decide +kernel
theorem dL_works_536 : decode cL_works 536 = .ok (.iconst 1, 1) := by decide +kernel
theorem dL_works_537 : decode cL_works 537 = .ok (.goto 4, 3) := by decide +kernel
theorem dL_works_540 : decode cL_works 540 = .ok (.iconst 0, 1) := by decide +kernel
theorem dL_works_541 : decode cL_works 541 = .ok (.ireturn, 1) := by decide +kernel
set_option maxRecDepth 20000 in
theorem ggL_isTold_L_latest : GoodIn wsL_isTold wsL_latest := goodIn_ca (goodIn_r _ [5, 6, 7, 8, 9, 10, 11, 12, 13, 14, 15, 16, 17, 18, 19, 20, 21, 22, 23, 24, 25, 26, 27, 28, 183, 184, 185, 186, 187, 188, 189, 190, 191, 192, 193] (by decide +kernel) (by decide +kernel)) (goodIn_sub (fun _ h => List.mem_cons_of_mem _ (List.mem_append_left _ (List.mem_append_right _ h))) (by decide +kernel))
set_option maxRecDepth 20000 in
theorem gL_isTold_L_latest : GoodIn wsL_isTold (va_wsS RL 133 yL_latest wsL_latest) := goodIn_app (goodIn_of _ (by decide +kernel)) ggL_isTold_L_latest
set_option maxRecDepth 20000 in
theorem ggL_isTold_L_version : GoodIn wsL_isTold wsL_version := goodIn_ca (goodIn_ca (goodIn_r _ [31, 32, 6, 33, 34, 35, 10, 36, 37, 38, 39, 40, 41, 42, 43, 44, 45, 46, 47, 48, 49, 50, 17, 18, 19, 51, 52, 53, 54, 55, 56, 57, 58, 59, 60, 61, 62, 63, 64, 65, 66, 67, 12, 13, 14, 15, 16, 68, 69, 70, 71, 25, 26, 27, 28, 183, 184, 185, 186, 187, 188, 194, 195, 196, 197, 198, 199, 200, 201, 189, 190, 191, 192, 193] (by decide +kernel) (by decide +kernel)) (goodIn_sub (fun _ h => List.mem_cons_of_mem _ (List.mem_append_right _ h)) (by decide +kernel))) (goodIn_sub (fun _ h => List.mem_cons_of_mem _ (List.mem_append_left _ (List.mem_append_right _ h))) (by decide +kernel))
set_option maxRecDepth 20000 in
theorem gL_isTold_L_version : GoodIn wsL_isTold (va_wsS RL 99 yL_version wsL_version) := goodIn_app (goodIn_of _ (by decide +kernel)) ggL_isTold_L_version
set_option maxRecDepth 20000 in
theorem ggL_isTold_L_offered : GoodIn wsL_isTold wsL_offered := goodIn_ca (goodIn_r _ [74, 32, 75, 76, 77, 10, 78, 37, 38, 39, 40, 41, 42, 43, 44, 45, 46, 47, 48, 49, 50, 17, 18, 19, 51, 52, 53, 54, 55, 56, 57, 58, 59, 60, 61, 62, 63, 64, 65, 66, 67, 79, 80, 81, 82, 83, 84, 85, 86, 87, 88, 71, 68, 69, 70, 25, 26, 27, 28, 20, 21, 22, 23, 24, 183, 184, 185, 186, 187, 188, 194, 195, 196, 197, 198, 199, 200, 201, 189, 190, 191, 192, 193] (by decide +kernel) (by decide +kernel)) (goodIn_sub (fun _ h => List.mem_cons_of_mem _ (List.mem_append_right _ h)) (by decide +kernel))
set_option maxRecDepth 20000 in
theorem gL_isTold_L_offered : GoodIn wsL_isTold (va_wsS RL 101 yL_offered wsL_offered) := goodIn_app (goodIn_of _ (by decide +kernel)) ggL_isTold_L_offered
set_option maxRecDepth 20000 in
theorem ggL_isTold_L_whyNot : GoodIn wsL_isTold wsL_whyNot := goodIn_ca (goodIn_r _ [91, 32, 92, 93, 94, 10, 95, 37, 38, 39, 40, 41, 42, 43, 44, 45, 46, 47, 48, 49, 50, 17, 18, 19, 51, 52, 53, 54, 55, 56, 57, 58, 59, 60, 61, 62, 63, 64, 65, 66, 67, 96, 97, 98, 99, 100, 101, 102, 103, 104, 82, 105, 106, 79, 80, 81, 83, 84, 107, 108, 109, 110, 111, 112, 113, 114, 183, 184, 185, 186, 187, 188, 194, 195, 196, 197, 198, 199, 200, 201] (by decide +kernel) (by decide +kernel)) (goodIn_sub (fun _ h => List.mem_cons_of_mem _ (List.mem_append_right _ h)) (by decide +kernel))
set_option maxRecDepth 20000 in
theorem gL_isTold_L_whyNot : GoodIn wsL_isTold (va_wsS RL 104 yL_whyNot wsL_whyNot) := goodIn_app (goodIn_of _ (by decide +kernel)) ggL_isTold_L_whyNot
set_option maxRecDepth 20000 in
theorem ggL_isTold_L_reason : GoodIn wsL_isTold wsL_reason := goodIn_r _ [117] (by decide +kernel) (by decide +kernel)
set_option maxRecDepth 20000 in
theorem gL_isTold_L_reason : GoodIn wsL_isTold (va_wsS RL 108 yL_reason wsL_reason) := goodIn_app (goodIn_of _ (by decide +kernel)) ggL_isTold_L_reason
set_option maxRecDepth 20000 in
theorem ggL_isTold_L_owes : GoodIn wsL_isTold wsL_owes := goodIn_ca (goodIn_ca (goodIn_r _ [120, 32, 6, 121, 122, 123, 10, 124, 125, 126, 127, 128, 129, 37, 38, 39, 40, 41, 42, 43, 44, 45, 46, 47, 48, 49, 50, 17, 18, 19, 51, 52, 53, 54, 55, 56, 57, 58, 59, 60, 61, 62, 63, 64, 65, 66, 67, 130, 131, 132, 15, 16, 197, 198, 199, 200, 201, 183, 184, 185, 186, 187, 188, 194, 195, 196] (by decide +kernel) (by decide +kernel)) (goodIn_sub (fun _ h => List.mem_cons_of_mem _ (List.mem_append_right _ h)) (by decide +kernel))) (goodIn_sub (fun _ h => List.mem_cons_of_mem _ (List.mem_append_left _ (List.mem_append_right _ h))) (by decide +kernel))
set_option maxRecDepth 20000 in
theorem gL_isTold_L_owes : GoodIn wsL_isTold (va_wsS RL 106 yL_owes wsL_owes) := goodIn_app (goodIn_of _ (by decide +kernel)) ggL_isTold_L_owes
set_option maxRecDepth 20000 in
theorem ggL_isTold_L_state : GoodIn wsL_isTold wsL_state := goodIn_ca (goodIn_r _ [135, 32, 136, 137, 138, 10, 139, 140, 141, 142, 143, 144, 41, 42, 145, 146, 45, 46, 47, 48, 49, 50, 17, 18, 19, 51, 52, 53, 54, 55, 56, 57, 58, 59, 60, 61, 62, 63, 64, 65, 66, 67, 202, 203, 204, 205, 183, 184, 185, 186, 187, 188, 194, 195, 196] (by decide +kernel) (by decide +kernel)) (goodIn_sub (fun _ h => List.mem_cons_of_mem _ (List.mem_append_right _ h)) (by decide +kernel))
set_option maxRecDepth 20000 in
theorem gL_isTold_L_state : GoodIn wsL_isTold (va_wsS RL 129 yL_state wsL_state) := goodIn_app (goodIn_of _ (by decide +kernel)) ggL_isTold_L_state
set_option maxRecDepth 20000 in
theorem ggL_isTold_L_day : GoodIn wsL_isTold wsL_day := goodIn_ca (goodIn_r _ [149, 32, 150, 151, 152, 10, 153, 154, 141, 142, 143, 144, 41, 42, 145, 146, 45, 46, 47, 48, 49, 50, 17, 18, 19, 51, 52, 53, 54, 55, 56, 57, 58, 59, 60, 61, 62, 63, 64, 65, 66, 67, 202, 203, 204, 205, 183, 184, 185, 186, 187, 188, 194, 195, 196] (by decide +kernel) (by decide +kernel)) (goodIn_sub (fun _ h => List.mem_cons_of_mem _ (List.mem_append_right _ h)) (by decide +kernel))
set_option maxRecDepth 20000 in
theorem gL_isTold_L_day : GoodIn wsL_isTold (va_wsS RL 131 yL_day wsL_day) := goodIn_app (goodIn_of _ (by decide +kernel)) ggL_isTold_L_day
set_option maxRecDepth 20000 in
theorem ggL_isTold_X3_isSuspended : GoodIn wsL_isTold wsX3_isSuspended := goodIn_ca (goodIn_r _ [158, 141, 142, 143, 10, 144, 41, 42, 145, 146, 45, 46, 47, 48, 49, 50, 17, 18, 19, 51, 52, 53, 54, 55, 56, 57, 58, 59, 60, 61, 62, 63, 64, 65, 66, 67, 159, 160, 161, 162, 163, 164, 165, 166, 167, 168, 169, 170, 171, 172, 183, 184, 185, 186, 187, 188, 194, 195, 196, 202, 203, 204, 205, 197, 198, 199, 200, 201, 189, 190, 191, 192, 193] (by decide +kernel) (by decide +kernel)) (goodIn_sub (fun _ h => List.mem_cons_of_mem _ (List.mem_append_right _ h)) (by decide +kernel))
set_option maxRecDepth 20000 in
theorem gL_isTold_X3_isSuspended : GoodIn wsL_isTold (wsV RL 135 RX3 yX3_isSuspended wsX3_isSuspended) := goodIn_app (goodIn_of _ (by decide +kernel)) ggL_isTold_X3_isSuspended
set_option maxRecDepth 20000 in
theorem ggL_isTold_L_isSuspended : GoodIn wsL_isTold wsL_isSuspended := goodIn_r _ [175, 176, 177, 4, 178] (by decide +kernel) (by decide +kernel)
set_option maxRecDepth 20000 in
theorem gL_isTold_L_isSuspended : GoodIn wsL_isTold (va_wsS RL 138 yL_isSuspended wsL_isSuspended) := goodIn_app (goodIn_of _ (by decide +kernel)) ggL_isTold_L_isSuspended
set_option maxRecDepth 20000 in
theorem ggL_isTold_X3_duties : GoodIn wsL_isTold wsX3_duties := goodIn_r _ [182, 145, 45, 46, 47, 48, 49, 50, 183, 184, 185, 186, 187, 188, 194, 195, 196] (by decide +kernel) (by decide +kernel)
set_option maxRecDepth 20000 in
theorem gL_isTold_X3_duties : GoodIn wsL_isTold (wsV RL 141 RX3 yX3_duties wsX3_duties) := goodIn_app (goodIn_of _ (by decide +kernel)) ggL_isTold_X3_duties
theorem dL_isTold_0 : decode cL_isTold 0 = .ok (.iconst 0, 1) := by decide +kernel
theorem dL_isTold_1 : decode cL_isTold 1 = .ok (.istore 9, 2) := by decide +kernel
theorem dL_isTold_3 : decode cL_isTold 3 = .ok (.iload 9, 2) := by decide +kernel
theorem dL_isTold_5 : decode cL_isTold 5 = .ok (.bipush 6, 2) := by decide +kernel
theorem dL_isTold_7 : decode cL_isTold 7 = .ok (.if_icmp .ge 24, 3) := by decide +kernel
theorem dL_isTold_10 : decode cL_isTold 10 = .ok (.aload_n 0, 1) := by decide +kernel
theorem dL_isTold_11 : decode cL_isTold 11 = .ok (.iload 9, 2) := by decide +kernel
theorem dL_isTold_13 : decode cL_isTold 13 = .ok (.invokestatic 133, 3) := by decide +kernel
theorem dL_isTold_16 : decode cL_isTold 16 = .ok (.aload_n 2, 1) := by decide +kernel
theorem dL_isTold_17 : decode cL_isTold 17 = .ok (.iload 9, 2) := by decide +kernel
theorem dL_isTold_19 : decode cL_isTold 19 = .ok (.iaload, 1) := by decide +kernel
theorem dL_isTold_20 : decode cL_isTold 20 = .ok (.if_icmp .eq 5, 3) := by decide +kernel
theorem dL_isTold_23 : decode cL_isTold 23 = .ok (.iconst 0, 1) := by decide +kernel
theorem dL_isTold_24 : decode cL_isTold 24 = .ok (.ireturn, 1) := by decide +kernel
theorem dL_isTold_25 : decode cL_isTold 25 = .ok (.iinc 9 1, 3) := by decide +kernel
theorem dL_isTold_28 : decode cL_isTold 28 = .ok (.goto (-25), 3) := by decide +kernel
theorem dL_isTold_31 : decode cL_isTold 31 = .ok (.iconst 0, 1) := by decide +kernel
theorem dL_isTold_32 : decode cL_isTold 32 = .ok (.istore 9, 2) := by decide +kernel
theorem dL_isTold_34 : decode cL_isTold 34 = .ok (.iload 9, 2) := by decide +kernel
theorem dL_isTold_36 : decode cL_isTold 36 = .ok (.aload 8, 2) := by decide +kernel
theorem dL_isTold_38 : decode cL_isTold 38 = .ok (.iconst 1, 1) := by decide +kernel
theorem dL_isTold_39 : decode cL_isTold 39 = .ok (.iaload, 1) := by decide +kernel
theorem dL_isTold_40 : decode cL_isTold 40 = .ok (.if_icmp .ge 288, 3) := by decide +kernel
theorem dL_isTold_43 : decode cL_isTold 43 = .ok (.iconst 0, 1) := by decide +kernel
theorem dL_isTold_44 : decode cL_isTold 44 = .ok (.istore 10, 2) := by decide +kernel
theorem dL_isTold_46 : decode cL_isTold 46 = .ok (.iconst 0, 1) := by decide +kernel
theorem dL_isTold_47 : decode cL_isTold 47 = .ok (.istore 11, 2) := by decide +kernel
theorem dL_isTold_49 : decode cL_isTold 49 = .ok (.iconst 0, 1) := by decide +kernel
theorem dL_isTold_50 : decode cL_isTold 50 = .ok (.istore 12, 2) := by decide +kernel
theorem dL_isTold_52 : decode cL_isTold 52 = .ok (.iload 12, 2) := by decide +kernel
theorem dL_isTold_54 : decode cL_isTold 54 = .ok (.bipush 6, 2) := by decide +kernel
theorem dL_isTold_56 : decode cL_isTold 56 = .ok (.if_icmp .ge 73, 3) := by decide +kernel
theorem dL_isTold_59 : decode cL_isTold 59 = .ok (.aload 4, 2) := by decide +kernel
theorem dL_isTold_61 : decode cL_isTold 61 = .ok (.bipush 6, 2) := by decide +kernel
theorem dL_isTold_63 : decode cL_isTold 63 = .ok (.iload 9, 2) := by decide +kernel
theorem dL_isTold_65 : decode cL_isTold 65 = .ok (.imul, 1) := by decide +kernel
theorem dL_isTold_66 : decode cL_isTold 66 = .ok (.iload 12, 2) := by decide +kernel
theorem dL_isTold_68 : decode cL_isTold 68 = .ok (.iadd, 1) := by decide +kernel
theorem dL_isTold_69 : decode cL_isTold 69 = .ok (.iaload, 1) := by decide +kernel
theorem dL_isTold_70 : decode cL_isTold 70 = .ok (.bipush 15, 2) := by decide +kernel
theorem dL_isTold_72 : decode cL_isTold 72 = .ok (.iand, 1) := by decide +kernel
theorem dL_isTold_73 : decode cL_isTold 73 = .ok (.istore 13, 2) := by decide +kernel
theorem dL_isTold_75 : decode cL_isTold 75 = .ok (.aload_n 0, 1) := by decide +kernel
theorem dL_isTold_76 : decode cL_isTold 76 = .ok (.iload 9, 2) := by decide +kernel
theorem dL_isTold_78 : decode cL_isTold 78 = .ok (.iload 12, 2) := by decide +kernel
theorem dL_isTold_80 : decode cL_isTold 80 = .ok (.invokestatic 99, 3) := by decide +kernel
theorem dL_isTold_83 : decode cL_isTold 83 = .ok (.iload 13, 2) := by decide +kernel
theorem dL_isTold_85 : decode cL_isTold 85 = .ok (.if_icmp .eq 5, 3) := by decide +kernel
theorem dL_isTold_88 : decode cL_isTold 88 = .ok (.iconst 0, 1) := by decide +kernel
theorem dL_isTold_89 : decode cL_isTold 89 = .ok (.ireturn, 1) := by decide +kernel
theorem dL_isTold_90 : decode cL_isTold 90 = .ok (.iload 10, 2) := by decide +kernel
theorem dL_isTold_92 : decode cL_isTold 92 = .ok (.aload 5, 2) := by decide +kernel
theorem dL_isTold_94 : decode cL_isTold 94 = .ok (.iload 9, 2) := by decide +kernel
theorem dL_isTold_96 : decode cL_isTold 96 = .ok (.iaload, 1) := by decide +kernel
theorem dL_isTold_97 : decode cL_isTold 97 = .ok (.iconst 4, 1) := by decide +kernel
theorem dL_isTold_98 : decode cL_isTold 98 = .ok (.if_icmp .ge 21, 3) := by decide +kernel
theorem dL_isTold_101 : decode cL_isTold 101 = .ok (.iload 13, 2) := by decide +kernel
theorem dL_isTold_103 : decode cL_isTold 103 = .ok (.ifCond .le 16, 3) := by decide +kernel
theorem dL_isTold_106 : decode cL_isTold 106 = .ok (.iload 13, 2) := by decide +kernel
theorem dL_isTold_108 : decode cL_isTold 108 = .ok (.aload_n 2, 1) := by decide +kernel
theorem dL_isTold_109 : decode cL_isTold 109 = .ok (.iload 12, 2) := by decide +kernel
theorem dL_isTold_111 : decode cL_isTold 111 = .ok (.iaload, 1) := by decide +kernel
theorem dL_isTold_112 : decode cL_isTold 112 = .ok (.if_icmp .ge 7, 3) := by decide +kernel
theorem dL_isTold_115 : decode cL_isTold 115 = .ok (.iconst 1, 1) := by decide +kernel
theorem dL_isTold_116 : decode cL_isTold 116 = .ok (.goto 4, 3) := by decide +kernel
theorem dL_isTold_119 : decode cL_isTold 119 = .ok (.iconst 0, 1) := by decide +kernel
theorem dL_isTold_120 : decode cL_isTold 120 = .ok (.iadd, 1) := by decide +kernel
theorem dL_isTold_121 : decode cL_isTold 121 = .ok (.istore 10, 2) := by decide +kernel
theorem dL_isTold_123 : decode cL_isTold 123 = .ok (.iinc 12 1, 3) := by decide +kernel
theorem dL_isTold_126 : decode cL_isTold 126 = .ok (.goto (-74), 3) := by decide +kernel
theorem dL_isTold_129 : decode cL_isTold 129 = .ok (.iconst 0, 1) := by decide +kernel
theorem dL_isTold_130 : decode cL_isTold 130 = .ok (.istore 12, 2) := by decide +kernel
theorem dL_isTold_132 : decode cL_isTold 132 = .ok (.iload 12, 2) := by decide +kernel
theorem dL_isTold_134 : decode cL_isTold 134 = .ok (.aload 8, 2) := by decide +kernel
theorem dL_isTold_136 : decode cL_isTold 136 = .ok (.iconst 2, 1) := by decide +kernel
theorem dL_isTold_137 : decode cL_isTold 137 = .ok (.iaload, 1) := by decide +kernel
theorem dL_isTold_138 : decode cL_isTold 138 = .ok (.if_icmp .ge 73, 3) := by decide +kernel
theorem dL_isTold_141 : decode cL_isTold 141 = .ok (.aload 6, 2) := by decide +kernel
theorem dL_isTold_143 : decode cL_isTold 143 = .ok (.iload 12, 2) := by decide +kernel
theorem dL_isTold_145 : decode cL_isTold 145 = .ok (.iaload, 1) := by decide +kernel
theorem dL_isTold_146 : decode cL_isTold 146 = .ok (.bipush 15, 2) := by decide +kernel
theorem dL_isTold_148 : decode cL_isTold 148 = .ok (.iand, 1) := by decide +kernel
theorem dL_isTold_149 : decode cL_isTold 149 = .ok (.iload 9, 2) := by decide +kernel
theorem dL_isTold_151 : decode cL_isTold 151 = .ok (.if_icmp .ne 54, 3) := by decide +kernel
theorem dL_isTold_154 : decode cL_isTold 154 = .ok (.aload 6, 2) := by decide +kernel
theorem dL_isTold_156 : decode cL_isTold 156 = .ok (.iload 12, 2) := by decide +kernel
theorem dL_isTold_158 : decode cL_isTold 158 = .ok (.iaload, 1) := by decide +kernel
theorem dL_isTold_159 : decode cL_isTold 159 = .ok (.iconst 5, 1) := by decide +kernel
theorem dL_isTold_160 : decode cL_isTold 160 = .ok (.ishr, 1) := by decide +kernel
theorem dL_isTold_161 : decode cL_isTold 161 = .ok (.bipush 7, 2) := by decide +kernel
theorem dL_isTold_163 : decode cL_isTold 163 = .ok (.iand, 1) := by decide +kernel
theorem dL_isTold_164 : decode cL_isTold 164 = .ok (.iconst 3, 1) := by decide +kernel
theorem dL_isTold_165 : decode cL_isTold 165 = .ok (.if_icmp .ne 40, 3) := by decide +kernel
theorem dL_isTold_168 : decode cL_isTold 168 = .ok (.iload 11, 2) := by decide +kernel
theorem dL_isTold_170 : decode cL_isTold 170 = .ok (.aload 6, 2) := by decide +kernel
theorem dL_isTold_172 : decode cL_isTold 172 = .ok (.iload 12, 2) := by decide +kernel
theorem dL_isTold_174 : decode cL_isTold 174 = .ok (.iaload, 1) := by decide +kernel
theorem dL_isTold_175 : decode cL_isTold 175 = .ok (.iconst 4, 1) := by decide +kernel
theorem dL_isTold_176 : decode cL_isTold 176 = .ok (.ishr, 1) := by decide +kernel
theorem dL_isTold_177 : decode cL_isTold 177 = .ok (.iconst 1, 1) := by decide +kernel
theorem dL_isTold_178 : decode cL_isTold 178 = .ok (.iand, 1) := by decide +kernel
theorem dL_isTold_179 : decode cL_isTold 179 = .ok (.ifCond .ne 14, 3) := by decide +kernel
theorem dL_isTold_182 : decode cL_isTold 182 = .ok (.aload 6, 2) := by decide +kernel
theorem dL_isTold_184 : decode cL_isTold 184 = .ok (.iload 12, 2) := by decide +kernel
theorem dL_isTold_186 : decode cL_isTold 186 = .ok (.iaload, 1) := by decide +kernel
theorem dL_isTold_187 : decode cL_isTold 187 = .ok (.bipush 14, 2) := by decide +kernel
theorem dL_isTold_189 : decode cL_isTold 189 = .ok (.ishr, 1) := by decide +kernel
theorem dL_isTold_190 : decode cL_isTold 190 = .ok (.goto 12, 3) := by decide +kernel
theorem dL_isTold_193 : decode cL_isTold 193 = .ok (.aload 6, 2) := by decide +kernel
theorem dL_isTold_195 : decode cL_isTold 195 = .ok (.iload 12, 2) := by decide +kernel
theorem dL_isTold_197 : decode cL_isTold 197 = .ok (.iaload, 1) := by decide +kernel
theorem dL_isTold_198 : decode cL_isTold 198 = .ok (.bipush 14, 2) := by decide +kernel
theorem dL_isTold_200 : decode cL_isTold 200 = .ok (.ishr, 1) := by decide +kernel
theorem dL_isTold_201 : decode cL_isTold 201 = .ok (.ineg, 1) := by decide +kernel
theorem dL_isTold_202 : decode cL_isTold 202 = .ok (.iadd, 1) := by decide +kernel
theorem dL_isTold_203 : decode cL_isTold 203 = .ok (.istore 11, 2) := by decide +kernel
theorem dL_isTold_205 : decode cL_isTold 205 = .ok (.iinc 12 1, 3) := by decide +kernel
theorem dL_isTold_208 : decode cL_isTold 208 = .ok (.goto (-76), 3) := by decide +kernel
theorem dL_isTold_211 : decode cL_isTold 211 = .ok (.aload_n 0, 1) := by decide +kernel
theorem dL_isTold_212 : decode cL_isTold 212 = .ok (.iload 9, 2) := by decide +kernel
theorem dL_isTold_214 : decode cL_isTold 214 = .ok (.invokestatic 101, 3) := by decide +kernel
theorem dL_isTold_217 : decode cL_isTold 217 = .ok (.iload 10, 2) := by decide +kernel
theorem dL_isTold_219 : decode cL_isTold 219 = .ok (.if_icmp .ne 101, 3) := by decide +kernel
theorem dL_isTold_222 : decode cL_isTold 222 = .ok (.aload_n 0, 1) := by decide +kernel
theorem dL_isTold_223 : decode cL_isTold 223 = .ok (.iload 9, 2) := by decide +kernel
theorem dL_isTold_225 : decode cL_isTold 225 = .ok (.invokestatic 104, 3) := by decide +kernel
theorem dL_isTold_228 : decode cL_isTold 228 = .ok (.aload_n 3, 1) := by decide +kernel
theorem dL_isTold_229 : decode cL_isTold 229 = .ok (.aload 4, 2) := by decide +kernel
theorem dL_isTold_231 : decode cL_isTold 231 = .ok (.aload 5, 2) := by decide +kernel
theorem dL_isTold_233 : decode cL_isTold 233 = .ok (.iload 9, 2) := by decide +kernel
theorem dL_isTold_235 : decode cL_isTold 235 = .ok (.invokestatic 108, 3) := by decide +kernel
theorem dL_isTold_238 : decode cL_isTold 238 = .ok (.if_icmp .ne 82, 3) := by decide +kernel
theorem dL_isTold_241 : decode cL_isTold 241 = .ok (.aload_n 0, 1) := by decide +kernel
theorem dL_isTold_242 : decode cL_isTold 242 = .ok (.iload 9, 2) := by decide +kernel
theorem dL_isTold_244 : decode cL_isTold 244 = .ok (.iconst 0, 1) := by decide +kernel
theorem dL_isTold_245 : decode cL_isTold 245 = .ok (.invokestatic 106, 3) := by decide +kernel
theorem dL_isTold_248 : decode cL_isTold 248 = .ok (.iload 11, 2) := by decide +kernel
theorem dL_isTold_250 : decode cL_isTold 250 = .ok (.ifCond .le 8, 3) := by decide +kernel
theorem dL_isTold_253 : decode cL_isTold 253 = .ok (.iload 11, 2) := by decide +kernel
theorem dL_isTold_255 : decode cL_isTold 255 = .ok (.goto 4, 3) := by decide +kernel
theorem dL_isTold_258 : decode cL_isTold 258 = .ok (.iconst 0, 1) := by decide +kernel
theorem dL_isTold_259 : decode cL_isTold 259 = .ok (.if_icmp .ne 61, 3) := by decide +kernel
theorem dL_isTold_262 : decode cL_isTold 262 = .ok (.aload_n 0, 1) := by decide +kernel
theorem dL_isTold_263 : decode cL_isTold 263 = .ok (.iload 9, 2) := by decide +kernel
theorem dL_isTold_265 : decode cL_isTold 265 = .ok (.iconst 1, 1) := by decide +kernel
theorem dL_isTold_266 : decode cL_isTold 266 = .ok (.invokestatic 106, 3) := by decide +kernel
theorem dL_isTold_269 : decode cL_isTold 269 = .ok (.iload 11, 2) := by decide +kernel
theorem dL_isTold_271 : decode cL_isTold 271 = .ok (.ifCond .ge 9, 3) := by decide +kernel
theorem dL_isTold_274 : decode cL_isTold 274 = .ok (.iload 11, 2) := by decide +kernel
theorem dL_isTold_276 : decode cL_isTold 276 = .ok (.ineg, 1) := by decide +kernel
theorem dL_isTold_277 : decode cL_isTold 277 = .ok (.goto 4, 3) := by decide +kernel
theorem dL_isTold_280 : decode cL_isTold 280 = .ok (.iconst 0, 1) := by decide +kernel
theorem dL_isTold_281 : decode cL_isTold 281 = .ok (.if_icmp .ne 39, 3) := by decide +kernel
theorem dL_isTold_284 : decode cL_isTold 284 = .ok (.aload_n 0, 1) := by decide +kernel
theorem dL_isTold_285 : decode cL_isTold 285 = .ok (.iload 9, 2) := by decide +kernel
theorem dL_isTold_287 : decode cL_isTold 287 = .ok (.iconst 2, 1) := by decide +kernel
theorem dL_isTold_288 : decode cL_isTold 288 = .ok (.invokestatic 106, 3) := by decide +kernel
theorem dL_isTold_291 : decode cL_isTold 291 = .ok (.bipush (-72), 2) := by decide +kernel
theorem dL_isTold_293 : decode cL_isTold 293 = .ok (.if_icmp .ne 27, 3) := by decide +kernel
theorem dL_isTold_296 : decode cL_isTold 296 = .ok (.aload_n 0, 1) := by decide +kernel
theorem dL_isTold_297 : decode cL_isTold 297 = .ok (.iload 9, 2) := by decide +kernel
theorem dL_isTold_299 : decode cL_isTold 299 = .ok (.bipush 10, 2) := by decide +kernel
theorem dL_isTold_301 : decode cL_isTold 301 = .ok (.invokestatic 99, 3) := by decide +kernel
theorem dL_isTold_304 : decode cL_isTold 304 = .ok (.bipush (-72), 2) := by decide +kernel
theorem dL_isTold_306 : decode cL_isTold 306 = .ok (.if_icmp .ne 14, 3) := by decide +kernel
theorem dL_isTold_309 : decode cL_isTold 309 = .ok (.aload_n 0, 1) := by decide +kernel
theorem dL_isTold_310 : decode cL_isTold 310 = .ok (.iload 9, 2) := by decide +kernel
theorem dL_isTold_312 : decode cL_isTold 312 = .ok (.bipush 7, 2) := by decide +kernel
theorem dL_isTold_314 : decode cL_isTold 314 = .ok (.invokestatic 99, 3) := by decide +kernel
theorem dL_isTold_317 : decode cL_isTold 317 = .ok (.ifCond .eq 5, 3) := by decide +kernel
theorem dL_isTold_320 : decode cL_isTold 320 = .ok (.iconst 0, 1) := by decide +kernel
theorem dL_isTold_321 : decode cL_isTold 321 = .ok (.ireturn, 1) := by decide +kernel
theorem dL_isTold_322 : decode cL_isTold 322 = .ok (.iinc 9 1, 3) := by decide +kernel
theorem dL_isTold_325 : decode cL_isTold 325 = .ok (.goto (-291), 3) := by decide +kernel
theorem dL_isTold_328 : decode cL_isTold 328 = .ok (.iconst 0, 1) := by decide +kernel
theorem dL_isTold_329 : decode cL_isTold 329 = .ok (.istore 9, 2) := by decide +kernel
theorem dL_isTold_331 : decode cL_isTold 331 = .ok (.iload 9, 2) := by decide +kernel
theorem dL_isTold_333 : decode cL_isTold 333 = .ok (.aload 8, 2) := by decide +kernel
theorem dL_isTold_335 : decode cL_isTold 335 = .ok (.iconst 2, 1) := by decide +kernel
theorem dL_isTold_336 : decode cL_isTold 336 = .ok (.iaload, 1) := by decide +kernel
theorem dL_isTold_337 : decode cL_isTold 337 = .ok (.if_icmp .ge 62, 3) := by decide +kernel
theorem dL_isTold_340 : decode cL_isTold 340 = .ok (.aload_n 0, 1) := by decide +kernel
theorem dL_isTold_341 : decode cL_isTold 341 = .ok (.iload 9, 2) := by decide +kernel
theorem dL_isTold_343 : decode cL_isTold 343 = .ok (.invokestatic 129, 3) := by decide +kernel
theorem dL_isTold_346 : decode cL_isTold 346 = .ok (.aload 6, 2) := by decide +kernel
theorem dL_isTold_348 : decode cL_isTold 348 = .ok (.iload 9, 2) := by decide +kernel
theorem dL_isTold_350 : decode cL_isTold 350 = .ok (.iaload, 1) := by decide +kernel
theorem dL_isTold_351 : decode cL_isTold 351 = .ok (.iconst 5, 1) := by decide +kernel
theorem dL_isTold_352 : decode cL_isTold 352 = .ok (.ishr, 1) := by decide +kernel
theorem dL_isTold_353 : decode cL_isTold 353 = .ok (.bipush 7, 2) := by decide +kernel
theorem dL_isTold_355 : decode cL_isTold 355 = .ok (.iand, 1) := by decide +kernel
theorem dL_isTold_356 : decode cL_isTold 356 = .ok (.if_icmp .ne 35, 3) := by decide +kernel
theorem dL_isTold_359 : decode cL_isTold 359 = .ok (.aload_n 0, 1) := by decide +kernel
theorem dL_isTold_360 : decode cL_isTold 360 = .ok (.iload 9, 2) := by decide +kernel
theorem dL_isTold_362 : decode cL_isTold 362 = .ok (.invokestatic 131, 3) := by decide +kernel
theorem dL_isTold_365 : decode cL_isTold 365 = .ok (.aload 7, 2) := by decide +kernel
theorem dL_isTold_367 : decode cL_isTold 367 = .ok (.iload 9, 2) := by decide +kernel
theorem dL_isTold_369 : decode cL_isTold 369 = .ok (.iaload, 1) := by decide +kernel
theorem dL_isTold_370 : decode cL_isTold 370 = .ok (.if_icmp .ne 21, 3) := by decide +kernel
theorem dL_isTold_373 : decode cL_isTold 373 = .ok (.aload_n 0, 1) := by decide +kernel
theorem dL_isTold_374 : decode cL_isTold 374 = .ok (.iload 9, 2) := by decide +kernel
theorem dL_isTold_376 : decode cL_isTold 376 = .ok (.invokevirtual 135, 3) := by decide +kernel
theorem dL_isTold_379 : decode cL_isTold 379 = .ok (.aload 6, 2) := by decide +kernel
theorem dL_isTold_381 : decode cL_isTold 381 = .ok (.aload 8, 2) := by decide +kernel
theorem dL_isTold_383 : decode cL_isTold 383 = .ok (.iload 9, 2) := by decide +kernel
theorem dL_isTold_385 : decode cL_isTold 385 = .ok (.invokestatic 138, 3) := by decide +kernel
theorem dL_isTold_388 : decode cL_isTold 388 = .ok (.if_icmp .eq 5, 3) := by decide +kernel
theorem dL_isTold_391 : decode cL_isTold 391 = .ok (.iconst 0, 1) := by decide +kernel
theorem dL_isTold_392 : decode cL_isTold 392 = .ok (.ireturn, 1) := by decide +kernel
theorem dL_isTold_393 : decode cL_isTold 393 = .ok (.iinc 9 1, 3) := by decide +kernel
theorem dL_isTold_396 : decode cL_isTold 396 = .ok (.goto (-65), 3) := by decide +kernel
theorem dL_isTold_399 : decode cL_isTold 399 = .ok (.aload_n 0, 1) := by decide +kernel
theorem dL_isTold_400 : decode cL_isTold 400 = .ok (.invokevirtual 141, 3) := by decide +kernel
theorem dL_isTold_403 : decode cL_isTold 403 = .ok (.aload 8, 2) := by decide +kernel
theorem dL_isTold_405 : decode cL_isTold 405 = .ok (.iconst 2, 1) := by decide +kernel
theorem dL_isTold_406 : decode cL_isTold 406 = .ok (.iaload, 1) := by decide +kernel
theorem dL_isTold_407 : decode cL_isTold 407 = .ok (.if_icmp .ne 96, 3) := by decide +kernel
theorem dL_isTold_410 : decode cL_isTold 410 = .ok (.aload_n 0, 1) := by decide +kernel
theorem dL_isTold_411 : decode cL_isTold 411 = .ok (.aload 8, 2) := by decide +kernel
theorem dL_isTold_413 : decode cL_isTold 413 = .ok (.iconst 2, 1) := by decide +kernel
theorem dL_isTold_414 : decode cL_isTold 414 = .ok (.iaload, 1) := by decide +kernel
theorem dL_isTold_415 : decode cL_isTold 415 = .ok (.invokestatic 129, 3) := by decide +kernel
theorem dL_isTold_418 : decode cL_isTold 418 = .ok (.bipush (-71), 2) := by decide +kernel
theorem dL_isTold_420 : decode cL_isTold 420 = .ok (.if_icmp .ne 83, 3) := by decide +kernel
theorem dL_isTold_423 : decode cL_isTold 423 = .ok (.aload_n 0, 1) := by decide +kernel
theorem dL_isTold_424 : decode cL_isTold 424 = .ok (.iconst (-1), 1) := by decide +kernel
theorem dL_isTold_425 : decode cL_isTold 425 = .ok (.invokestatic 129, 3) := by decide +kernel
theorem dL_isTold_428 : decode cL_isTold 428 = .ok (.bipush (-71), 2) := by decide +kernel
theorem dL_isTold_430 : decode cL_isTold 430 = .ok (.if_icmp .ne 73, 3) := by decide +kernel
theorem dL_isTold_433 : decode cL_isTold 433 = .ok (.aload_n 0, 1) := by decide +kernel
theorem dL_isTold_434 : decode cL_isTold 434 = .ok (.ldc 118, 2) := by decide +kernel
theorem dL_isTold_436 : decode cL_isTold 436 = .ok (.invokestatic 131, 3) := by decide +kernel
theorem dL_isTold_439 : decode cL_isTold 439 = .ok (.bipush (-71), 2) := by decide +kernel
theorem dL_isTold_441 : decode cL_isTold 441 = .ok (.if_icmp .ne 62, 3) := by decide +kernel
theorem dL_isTold_444 : decode cL_isTold 444 = .ok (.aload_n 0, 1) := by decide +kernel
theorem dL_isTold_445 : decode cL_isTold 445 = .ok (.bipush 10, 2) := by decide +kernel
theorem dL_isTold_447 : decode cL_isTold 447 = .ok (.invokestatic 133, 3) := by decide +kernel
theorem dL_isTold_450 : decode cL_isTold 450 = .ok (.bipush (-72), 2) := by decide +kernel
theorem dL_isTold_452 : decode cL_isTold 452 = .ok (.if_icmp .ne 51, 3) := by decide +kernel
theorem dL_isTold_455 : decode cL_isTold 455 = .ok (.aload_n 0, 1) := by decide +kernel
theorem dL_isTold_456 : decode cL_isTold 456 = .ok (.iconst (-1), 1) := by decide +kernel
theorem dL_isTold_457 : decode cL_isTold 457 = .ok (.invokestatic 133, 3) := by decide +kernel
theorem dL_isTold_460 : decode cL_isTold 460 = .ok (.bipush (-72), 2) := by decide +kernel
theorem dL_isTold_462 : decode cL_isTold 462 = .ok (.if_icmp .ne 41, 3) := by decide +kernel
theorem dL_isTold_465 : decode cL_isTold 465 = .ok (.aload_n 0, 1) := by decide +kernel
theorem dL_isTold_466 : decode cL_isTold 466 = .ok (.bipush 9, 2) := by decide +kernel
theorem dL_isTold_468 : decode cL_isTold 468 = .ok (.invokestatic 133, 3) := by decide +kernel
theorem dL_isTold_471 : decode cL_isTold 471 = .ok (.ifCond .ne 32, 3) := by decide +kernel
theorem dL_isTold_474 : decode cL_isTold 474 = .ok (.aload_n 0, 1) := by decide +kernel
theorem dL_isTold_475 : decode cL_isTold 475 = .ok (.aload 8, 2) := by decide +kernel
theorem dL_isTold_477 : decode cL_isTold 477 = .ok (.iconst 1, 1) := by decide +kernel
theorem dL_isTold_478 : decode cL_isTold 478 = .ok (.iaload, 1) := by decide +kernel
theorem dL_isTold_479 : decode cL_isTold 479 = .ok (.iconst 0, 1) := by decide +kernel
theorem dL_isTold_480 : decode cL_isTold 480 = .ok (.invokestatic 99, 3) := by decide +kernel
theorem dL_isTold_483 : decode cL_isTold 483 = .ok (.bipush (-71), 2) := by decide +kernel
theorem dL_isTold_485 : decode cL_isTold 485 = .ok (.if_icmp .ne 18, 3) := by decide +kernel
theorem dL_isTold_488 : decode cL_isTold 488 = .ok (.aload_n 0, 1) := by decide +kernel
theorem dL_isTold_489 : decode cL_isTold 489 = .ok (.iconst (-1), 1) := by decide +kernel
theorem dL_isTold_490 : decode cL_isTold 490 = .ok (.iconst 0, 1) := by decide +kernel
theorem dL_isTold_491 : decode cL_isTold 491 = .ok (.invokestatic 106, 3) := by decide +kernel
theorem dL_isTold_494 : decode cL_isTold 494 = .ok (.bipush (-71), 2) := by decide +kernel
theorem dL_isTold_496 : decode cL_isTold 496 = .ok (.if_icmp .ne 7, 3) := by decide +kernel
theorem dL_isTold_499 : decode cL_isTold 499 = .ok (.iconst 1, 1) := by decide +kernel
theorem dL_isTold_500 : decode cL_isTold 500 = .ok (.goto 4, 3) := by decide +kernel
theorem dL_isTold_503 : decode cL_isTold 503 = .ok (.iconst 0, 1) := by decide +kernel
theorem dL_isTold_504 : decode cL_isTold 504 = .ok (.ireturn, 1) := by decide +kernel
set_option maxRecDepth 20000 in
theorem ggL_law_X3_init : GoodIn wsL_law wsX3_init := goodIn_r _ [6, 7, 8, 9, 10, 11, 3, 12, 13, 14, 15, 16, 17, 18, 19, 20, 21, 22, 23, 24, 25, 26, 27, 28, 29, 30, 31, 32, 33, 34, 430, 431, 432, 433, 434, 435, 436, 437, 438] (by decide +kernel) (by decide +kernel)
set_option maxRecDepth 20000 in
theorem gL_law_X3_init : GoodIn wsL_law (wsX3_init) := ggL_law_X3_init
theorem goodIn_c1isTold {big a : List Cond} {c : Cond} (h1 : GoodIn big [c]) (h2 : GoodIn big a) : GoodIn big (c :: a) := fun w h => (List.mem_cons.mp h).elim (fun e => h1 w (List.mem_singleton.mpr e)) (h2 w)
theorem ggL_law_isTold_h : GoodIn wsL_law [Cond.code yL_isTold cL_isTold 14 (some .boolean)] := fun w h => by rw [List.mem_singleton.mp h]; exact ⟨List.mem_of_getElem? (i := 38) rfl, good_of_word (by decide +kernel)⟩
set_option maxRecDepth 20000 in
theorem ggL_law_isTold_r1 : GoodIn wsL_law wsL_isTold_r1 := goodIn_r _ [39, 40, 41, 37, 42, 43, 44, 45, 46, 2, 47, 48, 49, 50, 51, 52, 53, 54, 55, 56, 57, 58, 59, 11] (by decide +kernel) (by decide +kernel)
set_option maxRecDepth 20000 in
theorem ggL_law_isTold_r2 : GoodIn wsL_law wsL_isTold_r2 := goodIn_r _ [60, 61, 62, 63, 64, 65, 66, 67, 68, 69, 70, 71, 72, 73, 74, 75, 76, 77, 17, 78, 79, 80, 81, 16] (by decide +kernel) (by decide +kernel)
set_option maxRecDepth 20000 in
theorem ggL_law_isTold_r3 : GoodIn wsL_law wsL_isTold_r3 := goodIn_r _ [82, 83, 84, 85, 86, 87, 88, 89, 90, 91, 92, 93, 94, 95, 96, 97, 98, 99, 24, 100, 101, 102, 103, 104] (by decide +kernel) (by decide +kernel)
set_option maxRecDepth 20000 in
theorem ggL_law_isTold_r4 : GoodIn wsL_law wsL_isTold_r4 := goodIn_r _ [105, 106, 107, 108, 109, 110, 111, 112, 113, 114, 115, 116, 117, 118, 119, 120, 121, 122, 123, 124, 125, 126, 127, 128] (by decide +kernel) (by decide +kernel)
set_option maxRecDepth 20000 in
theorem ggL_law_isTold_r5 : GoodIn wsL_law wsL_isTold_r5 := goodIn_r _ [129, 130, 131, 12, 13, 132, 133, 134, 135, 136, 137, 138, 139, 140, 141, 142, 143, 144, 145, 146, 147, 148, 149, 150] (by decide +kernel) (by decide +kernel)
set_option maxRecDepth 20000 in
theorem ggL_law_isTold_r6 : GoodIn wsL_law wsL_isTold_r6 := goodIn_r _ [151, 152, 153, 154, 155, 156, 157, 158, 159, 160, 161, 162, 163, 164, 165, 166, 167, 168, 169, 170, 171, 172, 173, 174] (by decide +kernel) (by decide +kernel)
set_option maxRecDepth 20000 in
theorem ggL_law_isTold_r7 : GoodIn wsL_law wsL_isTold_r7 := goodIn_r _ [18, 175, 176, 177, 178, 179, 180, 181, 182, 183, 184, 185, 186, 187, 188, 189, 190, 191, 192, 193, 194, 195, 196, 197] (by decide +kernel) (by decide +kernel)
set_option maxRecDepth 20000 in
theorem ggL_law_isTold_r8 : GoodIn wsL_law wsL_isTold_r8 := goodIn_r _ [198, 199, 200, 201, 202, 203, 204, 205, 206, 207, 208, 209, 210, 211] (by decide +kernel) (by decide +kernel)
theorem ggL_law_L_isTold : GoodIn wsL_law wsL_isTold := goodIn_ca (goodIn_ca (goodIn_ca (goodIn_ca (goodIn_ca (goodIn_ca (goodIn_ca (goodIn_c1isTold ggL_law_isTold_h (goodIn_app ggL_law_isTold_r1 (goodIn_app ggL_law_isTold_r2 (goodIn_app ggL_law_isTold_r3 (goodIn_app ggL_law_isTold_r4 (goodIn_app ggL_law_isTold_r5 (goodIn_app ggL_law_isTold_r6 (goodIn_app ggL_law_isTold_r7 (ggL_law_isTold_r8))))))))) (goodIn_sub inlX3 (by decide +kernel))) (goodIn_sub inlX2 (by decide +kernel))) (goodIn_sub inlJx4a65c (by decide +kernel))) (goodIn_sub inlX0 (by decide +kernel))) (goodIn_sub inlX1 (by decide +kernel))) (goodIn_sub (fun _ h => List.mem_append_left _ (List.mem_append_left _ (List.mem_append_right _ h))) (by decide +kernel))) (goodIn_sub (fun _ h => List.mem_append_left _ (List.mem_append_right _ h)) (by decide +kernel))
set_option maxRecDepth 20000 in
theorem gL_law_L_isTold : GoodIn wsL_law (va_wsS RL 145 yL_isTold wsL_isTold) := goodIn_app (goodIn_of _ (by decide +kernel)) ggL_law_L_isTold
set_option maxRecDepth 20000 in
theorem ggL_law_L_cell : GoodIn wsL_law wsL_cell := goodIn_r _ [214, 215] (by decide +kernel) (by decide +kernel)
set_option maxRecDepth 20000 in
theorem gL_law_L_cell : GoodIn wsL_law (va_wsS RL 149 yL_cell wsL_cell) := goodIn_app (goodIn_of _ (by decide +kernel)) ggL_law_L_cell
set_option maxRecDepth 20000 in
theorem ggL_law_L_low : GoodIn wsL_law wsL_low := goodIn_r _ [218] (by decide +kernel) (by decide +kernel)
set_option maxRecDepth 20000 in
theorem gL_law_L_low : GoodIn wsL_law (va_wsS RL 75 yL_low wsL_low) := goodIn_app (goodIn_of _ (by decide +kernel)) ggL_law_L_low
set_option maxRecDepth 20000 in
theorem ggL_law_L_writes : GoodIn wsL_law wsL_writes := goodIn_ca (goodIn_ca (goodIn_r _ [221, 222, 223, 216, 217, 37, 218, 224, 225, 226, 43, 227, 228, 229, 230, 2, 231, 51, 52, 232, 233, 11, 10, 234, 235, 48, 49, 50, 53, 54, 55, 160, 161, 162, 56, 57, 58, 59, 60, 61, 62, 63, 236, 237, 238, 239, 8, 9, 240, 241, 242, 243, 244, 245, 246, 247, 248, 249, 250, 251, 12, 13, 252, 253, 254, 430, 431, 432, 433, 434, 435, 439, 440, 441, 442, 443] (by decide +kernel) (by decide +kernel)) (goodIn_sub (fun _ h => List.mem_append_left _ (List.mem_append_left _ (List.mem_append_right _ h))) (by decide +kernel))) (goodIn_sub (fun _ h => List.mem_append_right _ h) (by decide +kernel))
set_option maxRecDepth 20000 in
theorem gL_law_L_writes : GoodIn wsL_law (va_wsS RL 153 yL_writes wsL_writes) := goodIn_app (goodIn_of _ (by decide +kernel)) ggL_law_L_writes
theorem goodIn_c1drafts {big a : List Cond} {c : Cond} (h1 : GoodIn big [c]) (h2 : GoodIn big a) : GoodIn big (c :: a) := fun w h => (List.mem_cons.mp h).elim (fun e => h1 w (List.mem_singleton.mpr e)) (h2 w)
theorem ggL_law_drafts_h : GoodIn wsL_law [Cond.code yL_drafts cL_drafts 21 (some .boolean)] := fun w h => by rw [List.mem_singleton.mp h]; exact ⟨List.mem_of_getElem? (i := 257) rfl, good_of_word (by decide +kernel)⟩
set_option maxRecDepth 20000 in
theorem ggL_law_drafts_r1 : GoodIn wsL_law wsL_drafts_r1 := goodIn_r _ [222, 216, 217, 37, 218, 258, 259, 260, 227, 261, 262, 263, 2, 264, 232, 233, 17, 265, 266, 114, 79, 80, 81, 16] (by decide +kernel) (by decide +kernel)
set_option maxRecDepth 20000 in
theorem ggL_law_drafts_r2 : GoodIn wsL_law wsL_drafts_r2 := goodIn_r _ [82, 83, 267, 268, 269, 8, 9, 270, 136, 271, 3, 141, 272, 116, 273, 274, 275, 276, 277, 278, 279, 280, 24, 281] (by decide +kernel) (by decide +kernel)
set_option maxRecDepth 20000 in
theorem ggL_law_drafts_r3 : GoodIn wsL_law wsL_drafts_r3 := goodIn_r _ [282, 283, 284, 285, 286, 287, 288, 289, 290, 291, 292, 23, 293, 157, 158, 159, 294, 295, 296, 297, 298, 299, 300, 301] (by decide +kernel) (by decide +kernel)
set_option maxRecDepth 20000 in
theorem ggL_law_drafts_r4 : GoodIn wsL_law wsL_drafts_r4 := goodIn_r _ [302, 303, 304, 305, 306, 307, 308, 309, 310, 311, 312, 313, 314, 315, 316, 317, 318, 319, 320, 321, 322, 323, 324, 325] (by decide +kernel) (by decide +kernel)
set_option maxRecDepth 20000 in
theorem ggL_law_drafts_r5 : GoodIn wsL_law wsL_drafts_r5 := goodIn_r _ [326, 67, 43, 327, 328, 329, 330, 51, 52, 103, 11, 331, 72, 73, 74, 75, 76, 77, 78, 53, 54, 55, 84, 85] (by decide +kernel) (by decide +kernel)
set_option maxRecDepth 20000 in
theorem ggL_law_drafts_r6 : GoodIn wsL_law wsL_drafts_r6 := goodIn_r _ [86, 87, 88, 89, 90, 91, 92, 93, 94, 95, 96, 97, 98, 99, 160, 161, 162, 48, 49, 50, 332, 333, 334, 111] (by decide +kernel) (by decide +kernel)
set_option maxRecDepth 20000 in
theorem ggL_law_drafts_r7 : GoodIn wsL_law wsL_drafts_r7 := goodIn_r _ [112, 113, 115, 335, 336, 337, 338, 339, 340, 341, 342, 343, 344, 345, 346, 347, 348, 349, 350, 351, 352, 353, 117, 118] (by decide +kernel) (by decide +kernel)
set_option maxRecDepth 20000 in
theorem ggL_law_drafts_r8 : GoodIn wsL_law wsL_drafts_r8 := goodIn_r _ [119, 120, 100, 101, 102, 60, 61, 62, 63, 56, 57, 58, 59, 354, 355, 356, 357, 358, 359, 360, 361, 128, 129, 130] (by decide +kernel) (by decide +kernel)
set_option maxRecDepth 20000 in
theorem ggL_law_drafts_r9 : GoodIn wsL_law wsL_drafts_r9 := goodIn_r _ [131, 12, 13, 132, 133, 134, 135, 137, 138, 139, 140, 142, 143, 144, 362, 363, 364, 365, 18, 366, 367, 191, 19, 368] (by decide +kernel) (by decide +kernel)
set_option maxRecDepth 20000 in
theorem ggL_law_drafts_r10 : GoodIn wsL_law wsL_drafts_r10 := goodIn_r _ [369, 370, 371, 372, 201, 193, 195, 373, 64, 65, 66, 68, 69, 70, 71, 104, 105, 106, 107, 108, 109, 110, 121, 122] (by decide +kernel) (by decide +kernel)
set_option maxRecDepth 20000 in
theorem ggL_law_drafts_r11 : GoodIn wsL_law wsL_drafts_r11 := goodIn_r _ [123, 124, 125, 126, 127, 148, 149, 150, 151, 152, 153, 154, 155, 156, 145, 146, 147] (by decide +kernel) (by decide +kernel)
theorem ggL_law_L_drafts : GoodIn wsL_law wsL_drafts := goodIn_ca (goodIn_ca (goodIn_ca (goodIn_ca (goodIn_ca (goodIn_ca (goodIn_ca (goodIn_ca (goodIn_c1drafts ggL_law_drafts_h (goodIn_app ggL_law_drafts_r1 (goodIn_app ggL_law_drafts_r2 (goodIn_app ggL_law_drafts_r3 (goodIn_app ggL_law_drafts_r4 (goodIn_app ggL_law_drafts_r5 (goodIn_app ggL_law_drafts_r6 (goodIn_app ggL_law_drafts_r7 (goodIn_app ggL_law_drafts_r8 (goodIn_app ggL_law_drafts_r9 (goodIn_app ggL_law_drafts_r10 (ggL_law_drafts_r11)))))))))))) (goodIn_sub inlX3 (by decide +kernel))) (goodIn_sub inlX0 (by decide +kernel))) (goodIn_sub inlJx4a65c (by decide +kernel))) (goodIn_sub inlX2 (by decide +kernel))) (goodIn_sub inlX1 (by decide +kernel))) (goodIn_sub (fun _ h => List.mem_append_right _ h) (by decide +kernel))) (goodIn_sub (fun _ h => List.mem_append_left _ (List.mem_append_left _ (List.mem_append_right _ h))) (by decide +kernel))) (goodIn_sub (fun _ h => List.mem_append_left _ (List.mem_append_right _ h)) (by decide +kernel))
set_option maxRecDepth 20000 in
theorem gL_law_L_drafts : GoodIn wsL_law (va_wsS RL 157 yL_drafts wsL_drafts) := goodIn_app (goodIn_of _ (by decide +kernel)) ggL_law_L_drafts
theorem goodIn_c1works {big a : List Cond} {c : Cond} (h1 : GoodIn big [c]) (h2 : GoodIn big a) : GoodIn big (c :: a) := fun w h => (List.mem_cons.mp h).elim (fun e => h1 w (List.mem_singleton.mpr e)) (h2 w)
theorem ggL_law_works_h : GoodIn wsL_law [Cond.code yL_works cL_works 10 (some .boolean)] := fun w h => by rw [List.mem_singleton.mp h]; exact ⟨List.mem_of_getElem? (i := 376) rfl, good_of_word (by decide +kernel)⟩
set_option maxRecDepth 20000 in
theorem ggL_law_works_r1 : GoodIn wsL_law wsL_works_r1 := goodIn_r _ [223, 39, 216, 217, 37, 218, 377, 378, 379, 43, 227, 380, 381, 382, 2, 383, 51, 52, 232, 233, 19, 53, 54, 55] (by decide +kernel) (by decide +kernel)
set_option maxRecDepth 20000 in
theorem ggL_law_works_r2 : GoodIn wsL_law wsL_works_r2 := goodIn_r _ [384, 385, 386, 387, 18, 175, 183, 79, 80, 81, 16, 82, 83, 84, 85, 86, 87, 88, 89, 90, 91, 92, 93, 94] (by decide +kernel) (by decide +kernel)
set_option maxRecDepth 20000 in
theorem ggL_law_works_r3 : GoodIn wsL_law wsL_works_r3 := goodIn_r _ [95, 96, 97, 98, 99, 24, 188, 189, 190, 191, 192, 193, 194, 195, 196, 197, 198, 199, 200, 201, 388, 389, 390, 391] (by decide +kernel) (by decide +kernel)
set_option maxRecDepth 20000 in
theorem ggL_law_works_r4 : GoodIn wsL_law wsL_works_r4 := goodIn_r _ [170, 392, 393, 394, 395, 373, 396, 397, 398, 399, 400, 401, 402, 403, 404, 205, 206, 207, 405, 406, 407, 67, 408, 409] (by decide +kernel) (by decide +kernel)
set_option maxRecDepth 20000 in
theorem ggL_law_works_r5 : GoodIn wsL_law wsL_works_r5 := goodIn_r _ [410, 411, 171, 172, 173, 174, 76, 77, 412, 413, 414, 415, 416, 417, 418, 419, 420, 421, 422, 423, 424, 425, 426, 427] (by decide +kernel) (by decide +kernel)
set_option maxRecDepth 20000 in
theorem ggL_law_works_r6 : GoodIn wsL_law wsL_works_r6 := goodIn_r _ [428, 429, 163, 164, 165, 166, 167, 168, 169, 176, 177, 178, 179, 180, 181, 182] (by decide +kernel) (by decide +kernel)
theorem ggL_law_L_works : GoodIn wsL_law wsL_works := goodIn_ca (goodIn_ca (goodIn_ca (goodIn_ca (goodIn_ca (goodIn_ca (goodIn_ca (goodIn_ca (goodIn_c1works ggL_law_works_h (goodIn_app ggL_law_works_r1 (goodIn_app ggL_law_works_r2 (goodIn_app ggL_law_works_r3 (goodIn_app ggL_law_works_r4 (goodIn_app ggL_law_works_r5 (ggL_law_works_r6))))))) (goodIn_sub inlX3 (by decide +kernel))) (goodIn_sub inlX1 (by decide +kernel))) (goodIn_sub inlJx4a65c (by decide +kernel))) (goodIn_sub inlX0 (by decide +kernel))) (goodIn_sub inlX2 (by decide +kernel))) (goodIn_sub (fun _ h => List.mem_append_left _ (List.mem_append_left _ (List.mem_append_right _ h))) (by decide +kernel))) (goodIn_sub (fun _ h => List.mem_append_right _ h) (by decide +kernel))) (goodIn_sub (fun _ h => List.mem_append_left _ (List.mem_append_right _ h)) (by decide +kernel))
set_option maxRecDepth 20000 in
theorem gL_law_L_works : GoodIn wsL_law (va_wsS RL 161 yL_works wsL_works) := goodIn_app (goodIn_of _ (by decide +kernel)) ggL_law_L_works
theorem dL_law_0 : decode cL_law 0 = .ok (.new 9, 3) := by decide +kernel
theorem dL_law_3 : decode cL_law 3 = .ok (.dup, 1) := by decide +kernel
theorem dL_law_4 : decode cL_law 4 = .ok (.invokespecial 144, 3) := by decide +kernel
theorem dL_law_7 : decode cL_law 7 = .ok (.astore_n 1, 1) := by decide +kernel
theorem dL_law_8 : decode cL_law 8 = .ok (.bipush 6, 2) := by decide +kernel
theorem dL_law_10 : decode cL_law 10 = .ok (.newarray .int, 2) := by decide +kernel
theorem dL_law_12 : decode cL_law 12 = .ok (.astore_n 2, 1) := by decide +kernel
theorem dL_law_13 : decode cL_law 13 = .ok (.bipush 6, 2) := by decide +kernel
theorem dL_law_15 : decode cL_law 15 = .ok (.newarray .int, 2) := by decide +kernel
theorem dL_law_17 : decode cL_law 17 = .ok (.astore_n 3, 1) := by decide +kernel
theorem dL_law_18 : decode cL_law 18 = .ok (.bipush 54, 2) := by decide +kernel
theorem dL_law_20 : decode cL_law 20 = .ok (.newarray .int, 2) := by decide +kernel
theorem dL_law_22 : decode cL_law 22 = .ok (.astore 4, 2) := by decide +kernel
theorem dL_law_24 : decode cL_law 24 = .ok (.bipush 60, 2) := by decide +kernel
theorem dL_law_26 : decode cL_law 26 = .ok (.newarray .int, 2) := by decide +kernel
theorem dL_law_28 : decode cL_law 28 = .ok (.astore 5, 2) := by decide +kernel
theorem dL_law_30 : decode cL_law 30 = .ok (.bipush 10, 2) := by decide +kernel
theorem dL_law_32 : decode cL_law 32 = .ok (.newarray .int, 2) := by decide +kernel
theorem dL_law_34 : decode cL_law 34 = .ok (.astore 6, 2) := by decide +kernel
theorem dL_law_36 : decode cL_law 36 = .ok (.bipush 60, 2) := by decide +kernel
theorem dL_law_38 : decode cL_law 38 = .ok (.newarray .int, 2) := by decide +kernel
theorem dL_law_40 : decode cL_law 40 = .ok (.astore 7, 2) := by decide +kernel
theorem dL_law_42 : decode cL_law 42 = .ok (.bipush 60, 2) := by decide +kernel
theorem dL_law_44 : decode cL_law 44 = .ok (.newarray .int, 2) := by decide +kernel
theorem dL_law_46 : decode cL_law 46 = .ok (.astore 8, 2) := by decide +kernel
theorem dL_law_48 : decode cL_law 48 = .ok (.iconst 3, 1) := by decide +kernel
theorem dL_law_49 : decode cL_law 49 = .ok (.newarray .int, 2) := by decide +kernel
theorem dL_law_51 : decode cL_law 51 = .ok (.astore 9, 2) := by decide +kernel
theorem dL_law_53 : decode cL_law 53 = .ok (.aload_n 1, 1) := by decide +kernel
theorem dL_law_54 : decode cL_law 54 = .ok (.iconst 0, 1) := by decide +kernel
theorem dL_law_55 : decode cL_law 55 = .ok (.aload_n 2, 1) := by decide +kernel
theorem dL_law_56 : decode cL_law 56 = .ok (.aload_n 3, 1) := by decide +kernel
theorem dL_law_57 : decode cL_law 57 = .ok (.aload 5, 2) := by decide +kernel
theorem dL_law_59 : decode cL_law 59 = .ok (.aload 6, 2) := by decide +kernel
theorem dL_law_61 : decode cL_law 61 = .ok (.aload 7, 2) := by decide +kernel
theorem dL_law_63 : decode cL_law 63 = .ok (.aload 8, 2) := by decide +kernel
theorem dL_law_65 : decode cL_law 65 = .ok (.aload 9, 2) := by decide +kernel
theorem dL_law_67 : decode cL_law 67 = .ok (.invokestatic 145, 3) := by decide +kernel
theorem dL_law_70 : decode cL_law 70 = .ok (.ifCond .ne 5, 3) := by decide +kernel
theorem dL_law_73 : decode cL_law 73 = .ok (.iconst 0, 1) := by decide +kernel
theorem dL_law_74 : decode cL_law 74 = .ok (.ireturn, 1) := by decide +kernel
theorem dL_law_75 : decode cL_law 75 = .ok (.iconst 0, 1) := by decide +kernel
theorem dL_law_76 : decode cL_law 76 = .ok (.istore 10, 2) := by decide +kernel
theorem dL_law_78 : decode cL_law 78 = .ok (.iload 10, 2) := by decide +kernel
theorem dL_law_80 : decode cL_law 80 = .ok (.sipush 140, 3) := by decide +kernel
theorem dL_law_83 : decode cL_law 83 = .ok (.if_icmp .ge 223, 3) := by decide +kernel
theorem dL_law_86 : decode cL_law 86 = .ok (.aload_n 0, 1) := by decide +kernel
theorem dL_law_87 : decode cL_law 87 = .ok (.iconst 3, 1) := by decide +kernel
theorem dL_law_88 : decode cL_law 88 = .ok (.iload 10, 2) := by decide +kernel
theorem dL_law_90 : decode cL_law 90 = .ok (.imul, 1) := by decide +kernel
theorem dL_law_91 : decode cL_law 91 = .ok (.invokestatic 149, 3) := by decide +kernel
theorem dL_law_94 : decode cL_law 94 = .ok (.istore 11, 2) := by decide +kernel
theorem dL_law_96 : decode cL_law 96 = .ok (.aload_n 0, 1) := by decide +kernel
theorem dL_law_97 : decode cL_law 97 = .ok (.iconst 3, 1) := by decide +kernel
theorem dL_law_98 : decode cL_law 98 = .ok (.iload 10, 2) := by decide +kernel
theorem dL_law_100 : decode cL_law 100 = .ok (.imul, 1) := by decide +kernel
theorem dL_law_101 : decode cL_law 101 = .ok (.iconst 1, 1) := by decide +kernel
theorem dL_law_102 : decode cL_law 102 = .ok (.iadd, 1) := by decide +kernel
theorem dL_law_103 : decode cL_law 103 = .ok (.invokestatic 149, 3) := by decide +kernel
theorem dL_law_106 : decode cL_law 106 = .ok (.istore 12, 2) := by decide +kernel
theorem dL_law_108 : decode cL_law 108 = .ok (.aload_n 0, 1) := by decide +kernel
theorem dL_law_109 : decode cL_law 109 = .ok (.iconst 3, 1) := by decide +kernel
theorem dL_law_110 : decode cL_law 110 = .ok (.iload 10, 2) := by decide +kernel
theorem dL_law_112 : decode cL_law 112 = .ok (.imul, 1) := by decide +kernel
theorem dL_law_113 : decode cL_law 113 = .ok (.iconst 2, 1) := by decide +kernel
theorem dL_law_114 : decode cL_law 114 = .ok (.iadd, 1) := by decide +kernel
theorem dL_law_115 : decode cL_law 115 = .ok (.invokestatic 149, 3) := by decide +kernel
theorem dL_law_118 : decode cL_law 118 = .ok (.istore 13, 2) := by decide +kernel
theorem dL_law_120 : decode cL_law 120 = .ok (.iload 10, 2) := by decide +kernel
theorem dL_law_122 : decode cL_law 122 = .ok (.bipush 6, 2) := by decide +kernel
theorem dL_law_124 : decode cL_law 124 = .ok (.if_icmp .ge 7, 3) := by decide +kernel
theorem dL_law_127 : decode cL_law 127 = .ok (.iconst 0, 1) := by decide +kernel
theorem dL_law_128 : decode cL_law 128 = .ok (.goto 22, 3) := by decide +kernel
theorem dL_law_131 : decode cL_law 131 = .ok (.iload 10, 2) := by decide +kernel
theorem dL_law_133 : decode cL_law 133 = .ok (.bipush 7, 2) := by decide +kernel
theorem dL_law_135 : decode cL_law 135 = .ok (.if_icmp .ge 8, 3) := by decide +kernel
theorem dL_law_138 : decode cL_law 138 = .ok (.bipush 6, 2) := by decide +kernel
theorem dL_law_140 : decode cL_law 140 = .ok (.goto 10, 3) := by decide +kernel
theorem dL_law_143 : decode cL_law 143 = .ok (.iload 11, 2) := by decide +kernel
theorem dL_law_145 : decode cL_law 145 = .ok (.bipush 28, 2) := by decide +kernel
theorem dL_law_147 : decode cL_law 147 = .ok (.invokestatic 75, 3) := by decide +kernel
theorem dL_law_150 : decode cL_law 150 = .ok (.istore 14, 2) := by decide +kernel
theorem dL_law_152 : decode cL_law 152 = .ok (.iload 14, 2) := by decide +kernel
theorem dL_law_154 : decode cL_law 154 = .ok (.bipush 6, 2) := by decide +kernel
theorem dL_law_156 : decode cL_law 156 = .ok (.if_icmp .ge 23, 3) := by decide +kernel
theorem dL_law_159 : decode cL_law 159 = .ok (.aload_n 1, 1) := by decide +kernel
theorem dL_law_160 : decode cL_law 160 = .ok (.iload 14, 2) := by decide +kernel
theorem dL_law_162 : decode cL_law 162 = .ok (.iload 12, 2) := by decide +kernel
theorem dL_law_164 : decode cL_law 164 = .ok (.iload 13, 2) := by decide +kernel
theorem dL_law_166 : decode cL_law 166 = .ok (.aload_n 2, 1) := by decide +kernel
theorem dL_law_167 : decode cL_law 167 = .ok (.aload_n 3, 1) := by decide +kernel
theorem dL_law_168 : decode cL_law 168 = .ok (.aload 4, 2) := by decide +kernel
theorem dL_law_170 : decode cL_law 170 = .ok (.invokestatic 153, 3) := by decide +kernel
theorem dL_law_173 : decode cL_law 173 = .ok (.ifCond .eq 125, 3) := by decide +kernel
theorem dL_law_176 : decode cL_law 176 = .ok (.goto 96, 3) := by decide +kernel
theorem dL_law_179 : decode cL_law 179 = .ok (.iload 14, 2) := by decide +kernel
theorem dL_law_181 : decode cL_law 181 = .ok (.bipush 18, 2) := by decide +kernel
theorem dL_law_183 : decode cL_law 183 = .ok (.if_icmp .ge 67, 3) := by decide +kernel
theorem dL_law_186 : decode cL_law 186 = .ok (.aload_n 1, 1) := by decide +kernel
theorem dL_law_187 : decode cL_law 187 = .ok (.iload 14, 2) := by decide +kernel
theorem dL_law_189 : decode cL_law 189 = .ok (.bipush 6, 2) := by decide +kernel
theorem dL_law_191 : decode cL_law 191 = .ok (.if_icmp .ne 7, 3) := by decide +kernel
theorem dL_law_194 : decode cL_law 194 = .ok (.iconst 0, 1) := by decide +kernel
theorem dL_law_195 : decode cL_law 195 = .ok (.goto 28, 3) := by decide +kernel
theorem dL_law_198 : decode cL_law 198 = .ok (.iload 14, 2) := by decide +kernel
theorem dL_law_200 : decode cL_law 200 = .ok (.bipush 13, 2) := by decide +kernel
theorem dL_law_202 : decode cL_law 202 = .ok (.if_icmp .ge 7, 3) := by decide +kernel
theorem dL_law_205 : decode cL_law 205 = .ok (.iconst 1, 1) := by decide +kernel
theorem dL_law_206 : decode cL_law 206 = .ok (.goto 17, 3) := by decide +kernel
theorem dL_law_209 : decode cL_law 209 = .ok (.iload 14, 2) := by decide +kernel
theorem dL_law_211 : decode cL_law 211 = .ok (.bipush 13, 2) := by decide +kernel
theorem dL_law_213 : decode cL_law 213 = .ok (.if_icmp .ne 8, 3) := by decide +kernel
theorem dL_law_216 : decode cL_law 216 = .ok (.bipush 8, 2) := by decide +kernel
theorem dL_law_218 : decode cL_law 218 = .ok (.goto 5, 3) := by decide +kernel
theorem dL_law_221 : decode cL_law 221 = .ok (.bipush 9, 2) := by decide +kernel
theorem dL_law_223 : decode cL_law 223 = .ok (.iload 12, 2) := by decide +kernel
theorem dL_law_225 : decode cL_law 225 = .ok (.iload 13, 2) := by decide +kernel
theorem dL_law_227 : decode cL_law 227 = .ok (.aload_n 2, 1) := by decide +kernel
theorem dL_law_228 : decode cL_law 228 = .ok (.aload_n 3, 1) := by decide +kernel
theorem dL_law_229 : decode cL_law 229 = .ok (.aload 4, 2) := by decide +kernel
theorem dL_law_231 : decode cL_law 231 = .ok (.aload 5, 2) := by decide +kernel
theorem dL_law_233 : decode cL_law 233 = .ok (.aload 6, 2) := by decide +kernel
theorem dL_law_235 : decode cL_law 235 = .ok (.aload 7, 2) := by decide +kernel
theorem dL_law_237 : decode cL_law 237 = .ok (.aload 8, 2) := by decide +kernel
theorem dL_law_239 : decode cL_law 239 = .ok (.aload 9, 2) := by decide +kernel
theorem dL_law_241 : decode cL_law 241 = .ok (.invokestatic 157, 3) := by decide +kernel
theorem dL_law_244 : decode cL_law 244 = .ok (.ifCond .eq 54, 3) := by decide +kernel
theorem dL_law_247 : decode cL_law 247 = .ok (.goto 25, 3) := by decide +kernel
theorem dL_law_250 : decode cL_law 250 = .ok (.aload_n 1, 1) := by decide +kernel
theorem dL_law_251 : decode cL_law 251 = .ok (.iload 14, 2) := by decide +kernel
theorem dL_law_253 : decode cL_law 253 = .ok (.bipush 18, 2) := by decide +kernel
theorem dL_law_255 : decode cL_law 255 = .ok (.isub, 1) := by decide +kernel
theorem dL_law_256 : decode cL_law 256 = .ok (.iload 12, 2) := by decide +kernel
theorem dL_law_258 : decode cL_law 258 = .ok (.iload 13, 2) := by decide +kernel
theorem dL_law_260 : decode cL_law 260 = .ok (.aload 7, 2) := by decide +kernel
theorem dL_law_262 : decode cL_law 262 = .ok (.aload 8, 2) := by decide +kernel
theorem dL_law_264 : decode cL_law 264 = .ok (.aload 9, 2) := by decide +kernel
theorem dL_law_266 : decode cL_law 266 = .ok (.invokestatic 161, 3) := by decide +kernel
theorem dL_law_269 : decode cL_law 269 = .ok (.ifCond .eq 29, 3) := by decide +kernel
theorem dL_law_272 : decode cL_law 272 = .ok (.aload_n 1, 1) := by decide +kernel
theorem dL_law_273 : decode cL_law 273 = .ok (.iload 11, 2) := by decide +kernel
theorem dL_law_275 : decode cL_law 275 = .ok (.iconst 5, 1) := by decide +kernel
theorem dL_law_276 : decode cL_law 276 = .ok (.ishr, 1) := by decide +kernel
theorem dL_law_277 : decode cL_law 277 = .ok (.iload 12, 2) := by decide +kernel
theorem dL_law_279 : decode cL_law 279 = .ok (.ixor, 1) := by decide +kernel
theorem dL_law_280 : decode cL_law 280 = .ok (.aload_n 2, 1) := by decide +kernel
theorem dL_law_281 : decode cL_law 281 = .ok (.aload_n 3, 1) := by decide +kernel
theorem dL_law_282 : decode cL_law 282 = .ok (.aload 5, 2) := by decide +kernel
theorem dL_law_284 : decode cL_law 284 = .ok (.aload 6, 2) := by decide +kernel
theorem dL_law_286 : decode cL_law 286 = .ok (.aload 7, 2) := by decide +kernel
theorem dL_law_288 : decode cL_law 288 = .ok (.aload 8, 2) := by decide +kernel
theorem dL_law_290 : decode cL_law 290 = .ok (.aload 9, 2) := by decide +kernel
theorem dL_law_292 : decode cL_law 292 = .ok (.invokestatic 145, 3) := by decide +kernel
theorem dL_law_295 : decode cL_law 295 = .ok (.ifCond .ne 5, 3) := by decide +kernel
theorem dL_law_298 : decode cL_law 298 = .ok (.iconst 0, 1) := by decide +kernel
theorem dL_law_299 : decode cL_law 299 = .ok (.ireturn, 1) := by decide +kernel
theorem dL_law_300 : decode cL_law 300 = .ok (.iinc 10 1, 3) := by decide +kernel
theorem dL_law_303 : decode cL_law 303 = .ok (.goto (-225), 3) := by decide +kernel
theorem dL_law_306 : decode cL_law 306 = .ok (.iconst 1, 1) := by decide +kernel
theorem dL_law_307 : decode cL_law 307 = .ok (.ireturn, 1) := by decide +kernel

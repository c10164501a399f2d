theorem d_LW_begin_0 : decode b_LW_begin 0 = .ok (.aload_n 0, 1) := by decide +kernel
theorem d_LW_begin_1 : decode b_LW_begin 1 = .ok (.iload_n 1, 1) := by decide +kernel
theorem d_LW_begin_2 : decode b_LW_begin 2 = .ok (.iload_n 2, 1) := by decide +kernel
theorem d_LW_begin_3 : decode b_LW_begin 3 = .ok (.iload_n 3, 1) := by decide +kernel
theorem d_LW_begin_4 : decode b_LW_begin 4 = .ok (.iload 4, 2) := by decide +kernel
theorem d_LW_begin_6 : decode b_LW_begin 6 = .ok (.invokevirtual 7, 3) := by decide +kernel
theorem d_LW_begin_9 : decode b_LW_begin 9 = .ok (.goto 11, 3) := by decide +kernel
theorem d_LW_begin_12 : decode b_LW_begin 12 = .ok (.astore 5, 2) := by decide +kernel
theorem d_LW_begin_14 : decode b_LW_begin 14 = .ok (.iconst 1, 1) := by decide +kernel
theorem d_LW_begin_15 : decode b_LW_begin 15 = .ok (.ireturn, 1) := by decide +kernel
theorem d_LW_begin_16 : decode b_LW_begin 16 = .ok (.astore 5, 2) := by decide +kernel
theorem d_LW_begin_18 : decode b_LW_begin 18 = .ok (.iconst 2, 1) := by decide +kernel
theorem d_LW_begin_19 : decode b_LW_begin 19 = .ok (.ireturn, 1) := by decide +kernel
theorem d_LW_begin_20 : decode b_LW_begin 20 = .ok (.iconst 0, 1) := by decide +kernel
theorem d_LW_begin_21 : decode b_LW_begin 21 = .ok (.ireturn, 1) := by decide +kernel
theorem d_LW_step_0 : decode b_LW_step 0 = .ok (.aload_n 2, 1) := by decide +kernel
theorem d_LW_step_1 : decode b_LW_step 1 = .ok (.iconst 0, 1) := by decide +kernel
theorem d_LW_step_2 : decode b_LW_step 2 = .ok (.aload_n 0, 1) := by decide +kernel
theorem d_LW_step_3 : decode b_LW_step 3 = .ok (.iload_n 1, 1) := by decide +kernel
theorem d_LW_step_4 : decode b_LW_step 4 = .ok (.invokevirtual 17, 3) := by decide +kernel
theorem d_LW_step_7 : decode b_LW_step 7 = .ok (.i2l, 1) := by decide +kernel
theorem d_LW_step_8 : decode b_LW_step 8 = .ok (.lastore, 1) := by decide +kernel
theorem d_LW_step_9 : decode b_LW_step 9 = .ok (.goto 9, 3) := by decide +kernel
theorem d_LW_step_12 : decode b_LW_step 12 = .ok (.astore_n 3, 1) := by decide +kernel
theorem d_LW_step_13 : decode b_LW_step 13 = .ok (.iconst 1, 1) := by decide +kernel
theorem d_LW_step_14 : decode b_LW_step 14 = .ok (.ireturn, 1) := by decide +kernel
theorem d_LW_step_15 : decode b_LW_step 15 = .ok (.astore_n 3, 1) := by decide +kernel
theorem d_LW_step_16 : decode b_LW_step 16 = .ok (.iconst 2, 1) := by decide +kernel
theorem d_LW_step_17 : decode b_LW_step 17 = .ok (.ireturn, 1) := by decide +kernel
theorem d_LW_step_18 : decode b_LW_step 18 = .ok (.iconst 0, 1) := by decide +kernel
theorem d_LW_step_19 : decode b_LW_step 19 = .ok (.ireturn, 1) := by decide +kernel
theorem d_LW_answer_0 : decode b_LW_answer 0 = .ok (.aload_n 2, 1) := by decide +kernel
theorem d_LW_answer_1 : decode b_LW_answer 1 = .ok (.iconst 0, 1) := by decide +kernel
theorem d_LW_answer_2 : decode b_LW_answer 2 = .ok (.aload_n 0, 1) := by decide +kernel
theorem d_LW_answer_3 : decode b_LW_answer 3 = .ok (.iload_n 1, 1) := by decide +kernel
theorem d_LW_answer_4 : decode b_LW_answer 4 = .ok (.invokevirtual 21, 3) := by decide +kernel
theorem d_LW_answer_7 : decode b_LW_answer 7 = .ok (.i2l, 1) := by decide +kernel
theorem d_LW_answer_8 : decode b_LW_answer 8 = .ok (.lastore, 1) := by decide +kernel
theorem d_LW_answer_9 : decode b_LW_answer 9 = .ok (.goto 9, 3) := by decide +kernel
theorem d_LW_answer_12 : decode b_LW_answer 12 = .ok (.astore_n 3, 1) := by decide +kernel
theorem d_LW_answer_13 : decode b_LW_answer 13 = .ok (.iconst 1, 1) := by decide +kernel
theorem d_LW_answer_14 : decode b_LW_answer 14 = .ok (.ireturn, 1) := by decide +kernel
theorem d_LW_answer_15 : decode b_LW_answer 15 = .ok (.astore_n 3, 1) := by decide +kernel
theorem d_LW_answer_16 : decode b_LW_answer 16 = .ok (.iconst 2, 1) := by decide +kernel
theorem d_LW_answer_17 : decode b_LW_answer 17 = .ok (.ireturn, 1) := by decide +kernel
theorem d_LW_answer_18 : decode b_LW_answer 18 = .ok (.iconst 0, 1) := by decide +kernel
theorem d_LW_answer_19 : decode b_LW_answer 19 = .ok (.ireturn, 1) := by decide +kernel
theorem d_LW_look_0 : decode b_LW_look 0 = .ok (.aload_n 3, 1) := by decide +kernel
theorem d_LW_look_1 : decode b_LW_look 1 = .ok (.iconst 0, 1) := by decide +kernel
theorem d_LW_look_2 : decode b_LW_look 2 = .ok (.aload_n 0, 1) := by decide +kernel
theorem d_LW_look_3 : decode b_LW_look 3 = .ok (.iload_n 1, 1) := by decide +kernel
theorem d_LW_look_4 : decode b_LW_look 4 = .ok (.iload_n 2, 1) := by decide +kernel
theorem d_LW_look_5 : decode b_LW_look 5 = .ok (.invokevirtual 26, 3) := by decide +kernel
theorem d_LW_look_8 : decode b_LW_look 8 = .ok (.i2l, 1) := by decide +kernel
theorem d_LW_look_9 : decode b_LW_look 9 = .ok (.lastore, 1) := by decide +kernel
theorem d_LW_look_10 : decode b_LW_look 10 = .ok (.goto 7, 3) := by decide +kernel
theorem d_LW_look_13 : decode b_LW_look 13 = .ok (.astore 4, 2) := by decide +kernel
theorem d_LW_look_15 : decode b_LW_look 15 = .ok (.iconst 1, 1) := by decide +kernel
theorem d_LW_look_16 : decode b_LW_look 16 = .ok (.ireturn, 1) := by decide +kernel
theorem d_LW_look_17 : decode b_LW_look 17 = .ok (.iconst 0, 1) := by decide +kernel
theorem d_LW_look_18 : decode b_LW_look 18 = .ok (.ireturn, 1) := by decide +kernel
theorem d_LW_page_0 : decode b_LW_page 0 = .ok (.aload_n 3, 1) := by decide +kernel
theorem d_LW_page_1 : decode b_LW_page 1 = .ok (.iconst 0, 1) := by decide +kernel
theorem d_LW_page_2 : decode b_LW_page 2 = .ok (.aload_n 0, 1) := by decide +kernel
theorem d_LW_page_3 : decode b_LW_page 3 = .ok (.iload_n 1, 1) := by decide +kernel
theorem d_LW_page_4 : decode b_LW_page 4 = .ok (.iload_n 2, 1) := by decide +kernel
theorem d_LW_page_5 : decode b_LW_page 5 = .ok (.invokevirtual 30, 3) := by decide +kernel
theorem d_LW_page_8 : decode b_LW_page 8 = .ok (.i2l, 1) := by decide +kernel
theorem d_LW_page_9 : decode b_LW_page 9 = .ok (.lastore, 1) := by decide +kernel
theorem d_LW_page_10 : decode b_LW_page 10 = .ok (.goto 7, 3) := by decide +kernel
theorem d_LW_page_13 : decode b_LW_page 13 = .ok (.astore 4, 2) := by decide +kernel
theorem d_LW_page_15 : decode b_LW_page 15 = .ok (.iconst 1, 1) := by decide +kernel
theorem d_LW_page_16 : decode b_LW_page 16 = .ok (.ireturn, 1) := by decide +kernel
theorem d_LW_page_17 : decode b_LW_page 17 = .ok (.iconst 0, 1) := by decide +kernel
theorem d_LW_page_18 : decode b_LW_page 18 = .ok (.ireturn, 1) := by decide +kernel
theorem d_LW_entry_0 : decode b_LW_entry 0 = .ok (.aload 4, 2) := by decide +kernel
theorem d_LW_entry_2 : decode b_LW_entry 2 = .ok (.iconst 0, 1) := by decide +kernel
theorem d_LW_entry_3 : decode b_LW_entry 3 = .ok (.aload_n 0, 1) := by decide +kernel
theorem d_LW_entry_4 : decode b_LW_entry 4 = .ok (.iload_n 1, 1) := by decide +kernel
theorem d_LW_entry_5 : decode b_LW_entry 5 = .ok (.iload_n 2, 1) := by decide +kernel
theorem d_LW_entry_6 : decode b_LW_entry 6 = .ok (.iload_n 3, 1) := by decide +kernel
theorem d_LW_entry_7 : decode b_LW_entry 7 = .ok (.invokevirtual 33, 3) := by decide +kernel
theorem d_LW_entry_10 : decode b_LW_entry 10 = .ok (.i2l, 1) := by decide +kernel
theorem d_LW_entry_11 : decode b_LW_entry 11 = .ok (.lastore, 1) := by decide +kernel
theorem d_LW_entry_12 : decode b_LW_entry 12 = .ok (.goto 7, 3) := by decide +kernel
theorem d_LW_entry_15 : decode b_LW_entry 15 = .ok (.astore 5, 2) := by decide +kernel
theorem d_LW_entry_17 : decode b_LW_entry 17 = .ok (.iconst 1, 1) := by decide +kernel
theorem d_LW_entry_18 : decode b_LW_entry 18 = .ok (.ireturn, 1) := by decide +kernel
theorem d_LW_entry_19 : decode b_LW_entry 19 = .ok (.iconst 0, 1) := by decide +kernel
theorem d_LW_entry_20 : decode b_LW_entry 20 = .ok (.ireturn, 1) := by decide +kernel
theorem d_LW_under_0 : decode b_LW_under 0 = .ok (.aload_n 2, 1) := by decide +kernel
theorem d_LW_under_1 : decode b_LW_under 1 = .ok (.iconst 0, 1) := by decide +kernel
theorem d_LW_under_2 : decode b_LW_under 2 = .ok (.aload_n 0, 1) := by decide +kernel
theorem d_LW_under_3 : decode b_LW_under 3 = .ok (.iload_n 1, 1) := by decide +kernel
theorem d_LW_under_4 : decode b_LW_under 4 = .ok (.invokevirtual 37, 3) := by decide +kernel
theorem d_LW_under_7 : decode b_LW_under 7 = .ok (.i2l, 1) := by decide +kernel
theorem d_LW_under_8 : decode b_LW_under 8 = .ok (.lastore, 1) := by decide +kernel
theorem d_LW_under_9 : decode b_LW_under 9 = .ok (.goto 6, 3) := by decide +kernel
theorem d_LW_under_12 : decode b_LW_under 12 = .ok (.astore_n 3, 1) := by decide +kernel
theorem d_LW_under_13 : decode b_LW_under 13 = .ok (.iconst 1, 1) := by decide +kernel
theorem d_LW_under_14 : decode b_LW_under 14 = .ok (.ireturn, 1) := by decide +kernel
theorem d_LW_under_15 : decode b_LW_under 15 = .ok (.iconst 0, 1) := by decide +kernel
theorem d_LW_under_16 : decode b_LW_under 16 = .ok (.ireturn, 1) := by decide +kernel
theorem d_LW_law_0 : decode b_LW_law 0 = .ok (.new 8, 3) := by decide +kernel
theorem d_LW_law_3 : decode b_LW_law 3 = .ok (.dup, 1) := by decide +kernel
theorem d_LW_law_4 : decode b_LW_law 4 = .ok (.invokespecial 40, 3) := by decide +kernel
theorem d_LW_law_7 : decode b_LW_law 7 = .ok (.astore_n 1, 1) := by decide +kernel
theorem d_LW_law_8 : decode b_LW_law 8 = .ok (.new 41, 3) := by decide +kernel
theorem d_LW_law_11 : decode b_LW_law 11 = .ok (.dup, 1) := by decide +kernel
theorem d_LW_law_12 : decode b_LW_law 12 = .ok (.invokespecial 43, 3) := by decide +kernel
theorem d_LW_law_15 : decode b_LW_law 15 = .ok (.astore_n 2, 1) := by decide +kernel
theorem d_LW_law_16 : decode b_LW_law 16 = .ok (.iconst 1, 1) := by decide +kernel
theorem d_LW_law_17 : decode b_LW_law 17 = .ok (.newarray .long, 2) := by decide +kernel
theorem d_LW_law_19 : decode b_LW_law 19 = .ok (.astore_n 3, 1) := by decide +kernel
theorem d_LW_law_20 : decode b_LW_law 20 = .ok (.iconst 0, 1) := by decide +kernel
theorem d_LW_law_21 : decode b_LW_law 21 = .ok (.istore 4, 2) := by decide +kernel
theorem d_LW_law_23 : decode b_LW_law 23 = .ok (.iload 4, 2) := by decide +kernel
theorem d_LW_law_25 : decode b_LW_law 25 = .ok (.aload_n 0, 1) := by decide +kernel
theorem d_LW_law_26 : decode b_LW_law 26 = .ok (.arraylength, 1) := by decide +kernel
theorem d_LW_law_27 : decode b_LW_law 27 = .ok (.iconst 5, 1) := by decide +kernel
theorem d_LW_law_28 : decode b_LW_law 28 = .ok (.isub, 1) := by decide +kernel
theorem d_LW_law_29 : decode b_LW_law 29 = .ok (.if_icmp .gt 563, 3) := by decide +kernel
theorem d_LW_law_32 : decode b_LW_law 32 = .ok (.aload_n 0, 1) := by decide +kernel
theorem d_LW_law_33 : decode b_LW_law 33 = .ok (.iload 4, 2) := by decide +kernel
theorem d_LW_law_35 : decode b_LW_law 35 = .ok (.iaload, 1) := by decide +kernel
theorem d_LW_law_36 : decode b_LW_law 36 = .ok (.bipush 15, 2) := by decide +kernel
theorem d_LW_law_38 : decode b_LW_law 38 = .ok (.iand, 1) := by decide +kernel
theorem d_LW_law_39 : decode b_LW_law 39 = .ok (.tableswitch 547 0 8 #[49, 121, 177, 233, 301, 369, 465, 478, 491], 49) := by decide +kernel
theorem d_LW_law_88 : decode b_LW_law 88 = .ok (.aload_n 1, 1) := by decide +kernel
theorem d_LW_law_89 : decode b_LW_law 89 = .ok (.aload_n 0, 1) := by decide +kernel
theorem d_LW_law_90 : decode b_LW_law 90 = .ok (.iload 4, 2) := by decide +kernel
theorem d_LW_law_92 : decode b_LW_law 92 = .ok (.iconst 1, 1) := by decide +kernel
theorem d_LW_law_93 : decode b_LW_law 93 = .ok (.iadd, 1) := by decide +kernel
theorem d_LW_law_94 : decode b_LW_law 94 = .ok (.iaload, 1) := by decide +kernel
theorem d_LW_law_95 : decode b_LW_law 95 = .ok (.aload_n 0, 1) := by decide +kernel
theorem d_LW_law_96 : decode b_LW_law 96 = .ok (.iload 4, 2) := by decide +kernel
theorem d_LW_law_98 : decode b_LW_law 98 = .ok (.iconst 2, 1) := by decide +kernel
theorem d_LW_law_99 : decode b_LW_law 99 = .ok (.iadd, 1) := by decide +kernel
theorem d_LW_law_100 : decode b_LW_law 100 = .ok (.iaload, 1) := by decide +kernel
theorem d_LW_law_101 : decode b_LW_law 101 = .ok (.aload_n 0, 1) := by decide +kernel
theorem d_LW_law_102 : decode b_LW_law 102 = .ok (.iload 4, 2) := by decide +kernel
theorem d_LW_law_104 : decode b_LW_law 104 = .ok (.iconst 3, 1) := by decide +kernel
theorem d_LW_law_105 : decode b_LW_law 105 = .ok (.iadd, 1) := by decide +kernel
theorem d_LW_law_106 : decode b_LW_law 106 = .ok (.iaload, 1) := by decide +kernel
theorem d_LW_law_107 : decode b_LW_law 107 = .ok (.aload_n 0, 1) := by decide +kernel
theorem d_LW_law_108 : decode b_LW_law 108 = .ok (.iload 4, 2) := by decide +kernel
theorem d_LW_law_110 : decode b_LW_law 110 = .ok (.iconst 4, 1) := by decide +kernel
theorem d_LW_law_111 : decode b_LW_law 111 = .ok (.iadd, 1) := by decide +kernel
theorem d_LW_law_112 : decode b_LW_law 112 = .ok (.iaload, 1) := by decide +kernel
theorem d_LW_law_113 : decode b_LW_law 113 = .ok (.invokestatic 44, 3) := by decide +kernel
theorem d_LW_law_116 : decode b_LW_law 116 = .ok (.istore 5, 2) := by decide +kernel
theorem d_LW_law_118 : decode b_LW_law 118 = .ok (.aload_n 2, 1) := by decide +kernel
theorem d_LW_law_119 : decode b_LW_law 119 = .ok (.aload_n 0, 1) := by decide +kernel
theorem d_LW_law_120 : decode b_LW_law 120 = .ok (.iload 4, 2) := by decide +kernel
theorem d_LW_law_122 : decode b_LW_law 122 = .ok (.iconst 1, 1) := by decide +kernel
theorem d_LW_law_123 : decode b_LW_law 123 = .ok (.iadd, 1) := by decide +kernel
theorem d_LW_law_124 : decode b_LW_law 124 = .ok (.iaload, 1) := by decide +kernel
theorem d_LW_law_125 : decode b_LW_law 125 = .ok (.aload_n 0, 1) := by decide +kernel
theorem d_LW_law_126 : decode b_LW_law 126 = .ok (.iload 4, 2) := by decide +kernel
theorem d_LW_law_128 : decode b_LW_law 128 = .ok (.iconst 2, 1) := by decide +kernel
theorem d_LW_law_129 : decode b_LW_law 129 = .ok (.iadd, 1) := by decide +kernel
theorem d_LW_law_130 : decode b_LW_law 130 = .ok (.iaload, 1) := by decide +kernel
theorem d_LW_law_131 : decode b_LW_law 131 = .ok (.aload_n 0, 1) := by decide +kernel
theorem d_LW_law_132 : decode b_LW_law 132 = .ok (.iload 4, 2) := by decide +kernel
theorem d_LW_law_134 : decode b_LW_law 134 = .ok (.iconst 3, 1) := by decide +kernel
theorem d_LW_law_135 : decode b_LW_law 135 = .ok (.iadd, 1) := by decide +kernel
theorem d_LW_law_136 : decode b_LW_law 136 = .ok (.iaload, 1) := by decide +kernel
theorem d_LW_law_137 : decode b_LW_law 137 = .ok (.aload_n 0, 1) := by decide +kernel
theorem d_LW_law_138 : decode b_LW_law 138 = .ok (.iload 4, 2) := by decide +kernel
theorem d_LW_law_140 : decode b_LW_law 140 = .ok (.iconst 4, 1) := by decide +kernel
theorem d_LW_law_141 : decode b_LW_law 141 = .ok (.iadd, 1) := by decide +kernel
theorem d_LW_law_142 : decode b_LW_law 142 = .ok (.iaload, 1) := by decide +kernel
theorem d_LW_law_143 : decode b_LW_law 143 = .ok (.invokevirtual 49, 3) := by decide +kernel
theorem d_LW_law_146 : decode b_LW_law 146 = .ok (.aload_n 2, 1) := by decide +kernel
theorem d_LW_law_147 : decode b_LW_law 147 = .ok (.invokevirtual 50, 3) := by decide +kernel
theorem d_LW_law_150 : decode b_LW_law 150 = .ok (.iload 5, 2) := by decide +kernel
theorem d_LW_law_152 : decode b_LW_law 152 = .ok (.if_icmp .eq 5, 3) := by decide +kernel
theorem d_LW_law_155 : decode b_LW_law 155 = .ok (.iconst 0, 1) := by decide +kernel
theorem d_LW_law_156 : decode b_LW_law 156 = .ok (.ireturn, 1) := by decide +kernel
theorem d_LW_law_157 : decode b_LW_law 157 = .ok (.goto 429, 3) := by decide +kernel
theorem d_LW_law_160 : decode b_LW_law 160 = .ok (.aload_n 1, 1) := by decide +kernel
theorem d_LW_law_161 : decode b_LW_law 161 = .ok (.aload_n 0, 1) := by decide +kernel
theorem d_LW_law_162 : decode b_LW_law 162 = .ok (.iload 4, 2) := by decide +kernel
theorem d_LW_law_164 : decode b_LW_law 164 = .ok (.iconst 1, 1) := by decide +kernel
theorem d_LW_law_165 : decode b_LW_law 165 = .ok (.iadd, 1) := by decide +kernel
theorem d_LW_law_166 : decode b_LW_law 166 = .ok (.iaload, 1) := by decide +kernel
theorem d_LW_law_167 : decode b_LW_law 167 = .ok (.aload_n 3, 1) := by decide +kernel
theorem d_LW_law_168 : decode b_LW_law 168 = .ok (.invokestatic 54, 3) := by decide +kernel
theorem d_LW_law_171 : decode b_LW_law 171 = .ok (.istore 5, 2) := by decide +kernel
theorem d_LW_law_173 : decode b_LW_law 173 = .ok (.aload_n 2, 1) := by decide +kernel
theorem d_LW_law_174 : decode b_LW_law 174 = .ok (.aload_n 0, 1) := by decide +kernel
theorem d_LW_law_175 : decode b_LW_law 175 = .ok (.iload 4, 2) := by decide +kernel
theorem d_LW_law_177 : decode b_LW_law 177 = .ok (.iconst 1, 1) := by decide +kernel
theorem d_LW_law_178 : decode b_LW_law 178 = .ok (.iadd, 1) := by decide +kernel
theorem d_LW_law_179 : decode b_LW_law 179 = .ok (.iaload, 1) := by decide +kernel
theorem d_LW_law_180 : decode b_LW_law 180 = .ok (.invokevirtual 57, 3) := by decide +kernel
theorem d_LW_law_183 : decode b_LW_law 183 = .ok (.istore 6, 2) := by decide +kernel
theorem d_LW_law_185 : decode b_LW_law 185 = .ok (.aload_n 2, 1) := by decide +kernel
theorem d_LW_law_186 : decode b_LW_law 186 = .ok (.invokevirtual 50, 3) := by decide +kernel
theorem d_LW_law_189 : decode b_LW_law 189 = .ok (.iload 5, 2) := by decide +kernel
theorem d_LW_law_191 : decode b_LW_law 191 = .ok (.if_icmp .eq 5, 3) := by decide +kernel
theorem d_LW_law_194 : decode b_LW_law 194 = .ok (.iconst 0, 1) := by decide +kernel
theorem d_LW_law_195 : decode b_LW_law 195 = .ok (.ireturn, 1) := by decide +kernel
theorem d_LW_law_196 : decode b_LW_law 196 = .ok (.iload 5, 2) := by decide +kernel
theorem d_LW_law_198 : decode b_LW_law 198 = .ok (.ifCond .ne 15, 3) := by decide +kernel
theorem d_LW_law_201 : decode b_LW_law 201 = .ok (.aload_n 3, 1) := by decide +kernel
theorem d_LW_law_202 : decode b_LW_law 202 = .ok (.iconst 0, 1) := by decide +kernel
theorem d_LW_law_203 : decode b_LW_law 203 = .ok (.laload, 1) := by decide +kernel
theorem d_LW_law_204 : decode b_LW_law 204 = .ok (.iload 6, 2) := by decide +kernel
theorem d_LW_law_206 : decode b_LW_law 206 = .ok (.i2l, 1) := by decide +kernel
theorem d_LW_law_207 : decode b_LW_law 207 = .ok (.lcmp, 1) := by decide +kernel
theorem d_LW_law_208 : decode b_LW_law 208 = .ok (.ifCond .eq 5, 3) := by decide +kernel
theorem d_LW_law_211 : decode b_LW_law 211 = .ok (.iconst 0, 1) := by decide +kernel
theorem d_LW_law_212 : decode b_LW_law 212 = .ok (.ireturn, 1) := by decide +kernel
theorem d_LW_law_213 : decode b_LW_law 213 = .ok (.goto 373, 3) := by decide +kernel
theorem d_LW_law_216 : decode b_LW_law 216 = .ok (.aload_n 1, 1) := by decide +kernel
theorem d_LW_law_217 : decode b_LW_law 217 = .ok (.aload_n 0, 1) := by decide +kernel
theorem d_LW_law_218 : decode b_LW_law 218 = .ok (.iload 4, 2) := by decide +kernel
theorem d_LW_law_220 : decode b_LW_law 220 = .ok (.iconst 1, 1) := by decide +kernel
theorem d_LW_law_221 : decode b_LW_law 221 = .ok (.iadd, 1) := by decide +kernel
theorem d_LW_law_222 : decode b_LW_law 222 = .ok (.iaload, 1) := by decide +kernel
theorem d_LW_law_223 : decode b_LW_law 223 = .ok (.aload_n 3, 1) := by decide +kernel
theorem d_LW_law_224 : decode b_LW_law 224 = .ok (.invokestatic 58, 3) := by decide +kernel
theorem d_LW_law_227 : decode b_LW_law 227 = .ok (.istore 5, 2) := by decide +kernel
theorem d_LW_law_229 : decode b_LW_law 229 = .ok (.aload_n 2, 1) := by decide +kernel
theorem d_LW_law_230 : decode b_LW_law 230 = .ok (.aload_n 0, 1) := by decide +kernel
theorem d_LW_law_231 : decode b_LW_law 231 = .ok (.iload 4, 2) := by decide +kernel
theorem d_LW_law_233 : decode b_LW_law 233 = .ok (.iconst 1, 1) := by decide +kernel
theorem d_LW_law_234 : decode b_LW_law 234 = .ok (.iadd, 1) := by decide +kernel
theorem d_LW_law_235 : decode b_LW_law 235 = .ok (.iaload, 1) := by decide +kernel
theorem d_LW_law_236 : decode b_LW_law 236 = .ok (.invokevirtual 60, 3) := by decide +kernel
theorem d_LW_law_239 : decode b_LW_law 239 = .ok (.istore 6, 2) := by decide +kernel
theorem d_LW_law_241 : decode b_LW_law 241 = .ok (.aload_n 2, 1) := by decide +kernel
theorem d_LW_law_242 : decode b_LW_law 242 = .ok (.invokevirtual 50, 3) := by decide +kernel
theorem d_LW_law_245 : decode b_LW_law 245 = .ok (.iload 5, 2) := by decide +kernel
theorem d_LW_law_247 : decode b_LW_law 247 = .ok (.if_icmp .eq 5, 3) := by decide +kernel
theorem d_LW_law_250 : decode b_LW_law 250 = .ok (.iconst 0, 1) := by decide +kernel
theorem d_LW_law_251 : decode b_LW_law 251 = .ok (.ireturn, 1) := by decide +kernel
theorem d_LW_law_252 : decode b_LW_law 252 = .ok (.iload 5, 2) := by decide +kernel
theorem d_LW_law_254 : decode b_LW_law 254 = .ok (.ifCond .ne 15, 3) := by decide +kernel
theorem d_LW_law_257 : decode b_LW_law 257 = .ok (.aload_n 3, 1) := by decide +kernel
theorem d_LW_law_258 : decode b_LW_law 258 = .ok (.iconst 0, 1) := by decide +kernel
theorem d_LW_law_259 : decode b_LW_law 259 = .ok (.laload, 1) := by decide +kernel
theorem d_LW_law_260 : decode b_LW_law 260 = .ok (.iload 6, 2) := by decide +kernel
theorem d_LW_law_262 : decode b_LW_law 262 = .ok (.i2l, 1) := by decide +kernel
theorem d_LW_law_263 : decode b_LW_law 263 = .ok (.lcmp, 1) := by decide +kernel
theorem d_LW_law_264 : decode b_LW_law 264 = .ok (.ifCond .eq 5, 3) := by decide +kernel
theorem d_LW_law_267 : decode b_LW_law 267 = .ok (.iconst 0, 1) := by decide +kernel
theorem d_LW_law_268 : decode b_LW_law 268 = .ok (.ireturn, 1) := by decide +kernel
theorem d_LW_law_269 : decode b_LW_law 269 = .ok (.goto 317, 3) := by decide +kernel
theorem d_LW_law_272 : decode b_LW_law 272 = .ok (.aload_n 1, 1) := by decide +kernel
theorem d_LW_law_273 : decode b_LW_law 273 = .ok (.aload_n 0, 1) := by decide +kernel
theorem d_LW_law_274 : decode b_LW_law 274 = .ok (.iload 4, 2) := by decide +kernel
theorem d_LW_law_276 : decode b_LW_law 276 = .ok (.iconst 1, 1) := by decide +kernel
theorem d_LW_law_277 : decode b_LW_law 277 = .ok (.iadd, 1) := by decide +kernel
theorem d_LW_law_278 : decode b_LW_law 278 = .ok (.iaload, 1) := by decide +kernel
theorem d_LW_law_279 : decode b_LW_law 279 = .ok (.aload_n 0, 1) := by decide +kernel
theorem d_LW_law_280 : decode b_LW_law 280 = .ok (.iload 4, 2) := by decide +kernel
theorem d_LW_law_282 : decode b_LW_law 282 = .ok (.iconst 2, 1) := by decide +kernel
theorem d_LW_law_283 : decode b_LW_law 283 = .ok (.iadd, 1) := by decide +kernel
theorem d_LW_law_284 : decode b_LW_law 284 = .ok (.iaload, 1) := by decide +kernel
theorem d_LW_law_285 : decode b_LW_law 285 = .ok (.aload_n 3, 1) := by decide +kernel
theorem d_LW_law_286 : decode b_LW_law 286 = .ok (.invokestatic 61, 3) := by decide +kernel
theorem d_LW_law_289 : decode b_LW_law 289 = .ok (.istore 5, 2) := by decide +kernel
theorem d_LW_law_291 : decode b_LW_law 291 = .ok (.aload_n 2, 1) := by decide +kernel
theorem d_LW_law_292 : decode b_LW_law 292 = .ok (.aload_n 0, 1) := by decide +kernel
theorem d_LW_law_293 : decode b_LW_law 293 = .ok (.iload 4, 2) := by decide +kernel
theorem d_LW_law_295 : decode b_LW_law 295 = .ok (.iconst 1, 1) := by decide +kernel
theorem d_LW_law_296 : decode b_LW_law 296 = .ok (.iadd, 1) := by decide +kernel
theorem d_LW_law_297 : decode b_LW_law 297 = .ok (.iaload, 1) := by decide +kernel
theorem d_LW_law_298 : decode b_LW_law 298 = .ok (.aload_n 0, 1) := by decide +kernel
theorem d_LW_law_299 : decode b_LW_law 299 = .ok (.iload 4, 2) := by decide +kernel
theorem d_LW_law_301 : decode b_LW_law 301 = .ok (.iconst 2, 1) := by decide +kernel
theorem d_LW_law_302 : decode b_LW_law 302 = .ok (.iadd, 1) := by decide +kernel
theorem d_LW_law_303 : decode b_LW_law 303 = .ok (.iaload, 1) := by decide +kernel
theorem d_LW_law_304 : decode b_LW_law 304 = .ok (.invokevirtual 64, 3) := by decide +kernel
theorem d_LW_law_307 : decode b_LW_law 307 = .ok (.istore 6, 2) := by decide +kernel
theorem d_LW_law_309 : decode b_LW_law 309 = .ok (.aload_n 2, 1) := by decide +kernel
theorem d_LW_law_310 : decode b_LW_law 310 = .ok (.invokevirtual 50, 3) := by decide +kernel
theorem d_LW_law_313 : decode b_LW_law 313 = .ok (.iload 5, 2) := by decide +kernel
theorem d_LW_law_315 : decode b_LW_law 315 = .ok (.if_icmp .eq 5, 3) := by decide +kernel
theorem d_LW_law_318 : decode b_LW_law 318 = .ok (.iconst 0, 1) := by decide +kernel
theorem d_LW_law_319 : decode b_LW_law 319 = .ok (.ireturn, 1) := by decide +kernel
theorem d_LW_law_320 : decode b_LW_law 320 = .ok (.iload 5, 2) := by decide +kernel
theorem d_LW_law_322 : decode b_LW_law 322 = .ok (.ifCond .ne 15, 3) := by decide +kernel
theorem d_LW_law_325 : decode b_LW_law 325 = .ok (.aload_n 3, 1) := by decide +kernel
theorem d_LW_law_326 : decode b_LW_law 326 = .ok (.iconst 0, 1) := by decide +kernel
theorem d_LW_law_327 : decode b_LW_law 327 = .ok (.laload, 1) := by decide +kernel
theorem d_LW_law_328 : decode b_LW_law 328 = .ok (.iload 6, 2) := by decide +kernel
theorem d_LW_law_330 : decode b_LW_law 330 = .ok (.i2l, 1) := by decide +kernel
theorem d_LW_law_331 : decode b_LW_law 331 = .ok (.lcmp, 1) := by decide +kernel
theorem d_LW_law_332 : decode b_LW_law 332 = .ok (.ifCond .eq 5, 3) := by decide +kernel
theorem d_LW_law_335 : decode b_LW_law 335 = .ok (.iconst 0, 1) := by decide +kernel
theorem d_LW_law_336 : decode b_LW_law 336 = .ok (.ireturn, 1) := by decide +kernel
theorem d_LW_law_337 : decode b_LW_law 337 = .ok (.goto 249, 3) := by decide +kernel
theorem d_LW_law_340 : decode b_LW_law 340 = .ok (.aload_n 1, 1) := by decide +kernel
theorem d_LW_law_341 : decode b_LW_law 341 = .ok (.aload_n 0, 1) := by decide +kernel
theorem d_LW_law_342 : decode b_LW_law 342 = .ok (.iload 4, 2) := by decide +kernel
theorem d_LW_law_344 : decode b_LW_law 344 = .ok (.iconst 1, 1) := by decide +kernel
theorem d_LW_law_345 : decode b_LW_law 345 = .ok (.iadd, 1) := by decide +kernel
theorem d_LW_law_346 : decode b_LW_law 346 = .ok (.iaload, 1) := by decide +kernel
theorem d_LW_law_347 : decode b_LW_law 347 = .ok (.aload_n 0, 1) := by decide +kernel
theorem d_LW_law_348 : decode b_LW_law 348 = .ok (.iload 4, 2) := by decide +kernel
theorem d_LW_law_350 : decode b_LW_law 350 = .ok (.iconst 2, 1) := by decide +kernel
theorem d_LW_law_351 : decode b_LW_law 351 = .ok (.iadd, 1) := by decide +kernel
theorem d_LW_law_352 : decode b_LW_law 352 = .ok (.iaload, 1) := by decide +kernel
theorem d_LW_law_353 : decode b_LW_law 353 = .ok (.aload_n 3, 1) := by decide +kernel
theorem d_LW_law_354 : decode b_LW_law 354 = .ok (.invokestatic 65, 3) := by decide +kernel
theorem d_LW_law_357 : decode b_LW_law 357 = .ok (.istore 5, 2) := by decide +kernel
theorem d_LW_law_359 : decode b_LW_law 359 = .ok (.aload_n 2, 1) := by decide +kernel
theorem d_LW_law_360 : decode b_LW_law 360 = .ok (.aload_n 0, 1) := by decide +kernel
theorem d_LW_law_361 : decode b_LW_law 361 = .ok (.iload 4, 2) := by decide +kernel
theorem d_LW_law_363 : decode b_LW_law 363 = .ok (.iconst 1, 1) := by decide +kernel
theorem d_LW_law_364 : decode b_LW_law 364 = .ok (.iadd, 1) := by decide +kernel
theorem d_LW_law_365 : decode b_LW_law 365 = .ok (.iaload, 1) := by decide +kernel
theorem d_LW_law_366 : decode b_LW_law 366 = .ok (.aload_n 0, 1) := by decide +kernel
theorem d_LW_law_367 : decode b_LW_law 367 = .ok (.iload 4, 2) := by decide +kernel
theorem d_LW_law_369 : decode b_LW_law 369 = .ok (.iconst 2, 1) := by decide +kernel
theorem d_LW_law_370 : decode b_LW_law 370 = .ok (.iadd, 1) := by decide +kernel
theorem d_LW_law_371 : decode b_LW_law 371 = .ok (.iaload, 1) := by decide +kernel
theorem d_LW_law_372 : decode b_LW_law 372 = .ok (.invokevirtual 67, 3) := by decide +kernel
theorem d_LW_law_375 : decode b_LW_law 375 = .ok (.istore 6, 2) := by decide +kernel
theorem d_LW_law_377 : decode b_LW_law 377 = .ok (.aload_n 2, 1) := by decide +kernel
theorem d_LW_law_378 : decode b_LW_law 378 = .ok (.invokevirtual 50, 3) := by decide +kernel
theorem d_LW_law_381 : decode b_LW_law 381 = .ok (.iload 5, 2) := by decide +kernel
theorem d_LW_law_383 : decode b_LW_law 383 = .ok (.if_icmp .eq 5, 3) := by decide +kernel
theorem d_LW_law_386 : decode b_LW_law 386 = .ok (.iconst 0, 1) := by decide +kernel
theorem d_LW_law_387 : decode b_LW_law 387 = .ok (.ireturn, 1) := by decide +kernel
theorem d_LW_law_388 : decode b_LW_law 388 = .ok (.iload 5, 2) := by decide +kernel
theorem d_LW_law_390 : decode b_LW_law 390 = .ok (.ifCond .ne 15, 3) := by decide +kernel
theorem d_LW_law_393 : decode b_LW_law 393 = .ok (.aload_n 3, 1) := by decide +kernel
theorem d_LW_law_394 : decode b_LW_law 394 = .ok (.iconst 0, 1) := by decide +kernel
theorem d_LW_law_395 : decode b_LW_law 395 = .ok (.laload, 1) := by decide +kernel
theorem d_LW_law_396 : decode b_LW_law 396 = .ok (.iload 6, 2) := by decide +kernel
theorem d_LW_law_398 : decode b_LW_law 398 = .ok (.i2l, 1) := by decide +kernel
theorem d_LW_law_399 : decode b_LW_law 399 = .ok (.lcmp, 1) := by decide +kernel
theorem d_LW_law_400 : decode b_LW_law 400 = .ok (.ifCond .eq 5, 3) := by decide +kernel
theorem d_LW_law_403 : decode b_LW_law 403 = .ok (.iconst 0, 1) := by decide +kernel
theorem d_LW_law_404 : decode b_LW_law 404 = .ok (.ireturn, 1) := by decide +kernel
theorem d_LW_law_405 : decode b_LW_law 405 = .ok (.goto 181, 3) := by decide +kernel
theorem d_LW_law_408 : decode b_LW_law 408 = .ok (.aload_n 1, 1) := by decide +kernel
theorem d_LW_law_409 : decode b_LW_law 409 = .ok (.aload_n 0, 1) := by decide +kernel
theorem d_LW_law_410 : decode b_LW_law 410 = .ok (.iload 4, 2) := by decide +kernel
theorem d_LW_law_412 : decode b_LW_law 412 = .ok (.iconst 1, 1) := by decide +kernel
theorem d_LW_law_413 : decode b_LW_law 413 = .ok (.iadd, 1) := by decide +kernel
theorem d_LW_law_414 : decode b_LW_law 414 = .ok (.iaload, 1) := by decide +kernel
theorem d_LW_law_415 : decode b_LW_law 415 = .ok (.aload_n 0, 1) := by decide +kernel
theorem d_LW_law_416 : decode b_LW_law 416 = .ok (.iload 4, 2) := by decide +kernel
theorem d_LW_law_418 : decode b_LW_law 418 = .ok (.iconst 2, 1) := by decide +kernel
theorem d_LW_law_419 : decode b_LW_law 419 = .ok (.iadd, 1) := by decide +kernel
theorem d_LW_law_420 : decode b_LW_law 420 = .ok (.iaload, 1) := by decide +kernel
theorem d_LW_law_421 : decode b_LW_law 421 = .ok (.aload_n 0, 1) := by decide +kernel
theorem d_LW_law_422 : decode b_LW_law 422 = .ok (.iload 4, 2) := by decide +kernel
theorem d_LW_law_424 : decode b_LW_law 424 = .ok (.iconst 3, 1) := by decide +kernel
theorem d_LW_law_425 : decode b_LW_law 425 = .ok (.iadd, 1) := by decide +kernel
theorem d_LW_law_426 : decode b_LW_law 426 = .ok (.iaload, 1) := by decide +kernel
theorem d_LW_law_427 : decode b_LW_law 427 = .ok (.ifCond .eq 7, 3) := by decide +kernel
theorem d_LW_law_430 : decode b_LW_law 430 = .ok (.iconst 1, 1) := by decide +kernel
theorem d_LW_law_431 : decode b_LW_law 431 = .ok (.goto 4, 3) := by decide +kernel
theorem d_LW_law_434 : decode b_LW_law 434 = .ok (.iconst 0, 1) := by decide +kernel
theorem d_LW_law_435 : decode b_LW_law 435 = .ok (.aload_n 3, 1) := by decide +kernel
theorem d_LW_law_436 : decode b_LW_law 436 = .ok (.invokestatic 68, 3) := by decide +kernel
theorem d_LW_law_439 : decode b_LW_law 439 = .ok (.istore 5, 2) := by decide +kernel
theorem d_LW_law_441 : decode b_LW_law 441 = .ok (.aload_n 2, 1) := by decide +kernel
theorem d_LW_law_442 : decode b_LW_law 442 = .ok (.aload_n 0, 1) := by decide +kernel
theorem d_LW_law_443 : decode b_LW_law 443 = .ok (.iload 4, 2) := by decide +kernel
theorem d_LW_law_445 : decode b_LW_law 445 = .ok (.iconst 1, 1) := by decide +kernel
theorem d_LW_law_446 : decode b_LW_law 446 = .ok (.iadd, 1) := by decide +kernel
theorem d_LW_law_447 : decode b_LW_law 447 = .ok (.iaload, 1) := by decide +kernel
theorem d_LW_law_448 : decode b_LW_law 448 = .ok (.aload_n 0, 1) := by decide +kernel
theorem d_LW_law_449 : decode b_LW_law 449 = .ok (.iload 4, 2) := by decide +kernel
theorem d_LW_law_451 : decode b_LW_law 451 = .ok (.iconst 2, 1) := by decide +kernel
theorem d_LW_law_452 : decode b_LW_law 452 = .ok (.iadd, 1) := by decide +kernel
theorem d_LW_law_453 : decode b_LW_law 453 = .ok (.iaload, 1) := by decide +kernel
theorem d_LW_law_454 : decode b_LW_law 454 = .ok (.aload_n 0, 1) := by decide +kernel
theorem d_LW_law_455 : decode b_LW_law 455 = .ok (.iload 4, 2) := by decide +kernel
theorem d_LW_law_457 : decode b_LW_law 457 = .ok (.iconst 3, 1) := by decide +kernel
theorem d_LW_law_458 : decode b_LW_law 458 = .ok (.iadd, 1) := by decide +kernel
theorem d_LW_law_459 : decode b_LW_law 459 = .ok (.iaload, 1) := by decide +kernel
theorem d_LW_law_460 : decode b_LW_law 460 = .ok (.ifCond .eq 7, 3) := by decide +kernel
theorem d_LW_law_463 : decode b_LW_law 463 = .ok (.iconst 1, 1) := by decide +kernel
theorem d_LW_law_464 : decode b_LW_law 464 = .ok (.goto 4, 3) := by decide +kernel
theorem d_LW_law_467 : decode b_LW_law 467 = .ok (.iconst 0, 1) := by decide +kernel
theorem d_LW_law_468 : decode b_LW_law 468 = .ok (.invokevirtual 71, 3) := by decide +kernel
theorem d_LW_law_471 : decode b_LW_law 471 = .ok (.istore 6, 2) := by decide +kernel
theorem d_LW_law_473 : decode b_LW_law 473 = .ok (.aload_n 2, 1) := by decide +kernel
theorem d_LW_law_474 : decode b_LW_law 474 = .ok (.invokevirtual 50, 3) := by decide +kernel
theorem d_LW_law_477 : decode b_LW_law 477 = .ok (.iload 5, 2) := by decide +kernel
theorem d_LW_law_479 : decode b_LW_law 479 = .ok (.if_icmp .eq 5, 3) := by decide +kernel
theorem d_LW_law_482 : decode b_LW_law 482 = .ok (.iconst 0, 1) := by decide +kernel
theorem d_LW_law_483 : decode b_LW_law 483 = .ok (.ireturn, 1) := by decide +kernel
theorem d_LW_law_484 : decode b_LW_law 484 = .ok (.iload 5, 2) := by decide +kernel
theorem d_LW_law_486 : decode b_LW_law 486 = .ok (.ifCond .ne 15, 3) := by decide +kernel
theorem d_LW_law_489 : decode b_LW_law 489 = .ok (.aload_n 3, 1) := by decide +kernel
theorem d_LW_law_490 : decode b_LW_law 490 = .ok (.iconst 0, 1) := by decide +kernel
theorem d_LW_law_491 : decode b_LW_law 491 = .ok (.laload, 1) := by decide +kernel
theorem d_LW_law_492 : decode b_LW_law 492 = .ok (.iload 6, 2) := by decide +kernel
theorem d_LW_law_494 : decode b_LW_law 494 = .ok (.i2l, 1) := by decide +kernel
theorem d_LW_law_495 : decode b_LW_law 495 = .ok (.lcmp, 1) := by decide +kernel
theorem d_LW_law_496 : decode b_LW_law 496 = .ok (.ifCond .eq 5, 3) := by decide +kernel
theorem d_LW_law_499 : decode b_LW_law 499 = .ok (.iconst 0, 1) := by decide +kernel
theorem d_LW_law_500 : decode b_LW_law 500 = .ok (.ireturn, 1) := by decide +kernel
theorem d_LW_law_501 : decode b_LW_law 501 = .ok (.goto 85, 3) := by decide +kernel
theorem d_LW_law_504 : decode b_LW_law 504 = .ok (.aload_n 1, 1) := by decide +kernel
theorem d_LW_law_505 : decode b_LW_law 505 = .ok (.invokevirtual 72, 3) := by decide +kernel
theorem d_LW_law_508 : decode b_LW_law 508 = .ok (.aload_n 2, 1) := by decide +kernel
theorem d_LW_law_509 : decode b_LW_law 509 = .ok (.invokevirtual 75, 3) := by decide +kernel
theorem d_LW_law_512 : decode b_LW_law 512 = .ok (.if_icmp .eq 74, 3) := by decide +kernel
theorem d_LW_law_515 : decode b_LW_law 515 = .ok (.iconst 0, 1) := by decide +kernel
theorem d_LW_law_516 : decode b_LW_law 516 = .ok (.ireturn, 1) := by decide +kernel
theorem d_LW_law_517 : decode b_LW_law 517 = .ok (.aload_n 1, 1) := by decide +kernel
theorem d_LW_law_518 : decode b_LW_law 518 = .ok (.invokevirtual 76, 3) := by decide +kernel
theorem d_LW_law_521 : decode b_LW_law 521 = .ok (.aload_n 2, 1) := by decide +kernel
theorem d_LW_law_522 : decode b_LW_law 522 = .ok (.invokevirtual 79, 3) := by decide +kernel
theorem d_LW_law_525 : decode b_LW_law 525 = .ok (.if_icmp .eq 61, 3) := by decide +kernel
theorem d_LW_law_528 : decode b_LW_law 528 = .ok (.iconst 0, 1) := by decide +kernel
theorem d_LW_law_529 : decode b_LW_law 529 = .ok (.ireturn, 1) := by decide +kernel
theorem d_LW_law_530 : decode b_LW_law 530 = .ok (.aload_n 1, 1) := by decide +kernel
theorem d_LW_law_531 : decode b_LW_law 531 = .ok (.aload_n 0, 1) := by decide +kernel
theorem d_LW_law_532 : decode b_LW_law 532 = .ok (.iload 4, 2) := by decide +kernel
theorem d_LW_law_534 : decode b_LW_law 534 = .ok (.iconst 1, 1) := by decide +kernel
theorem d_LW_law_535 : decode b_LW_law 535 = .ok (.iadd, 1) := by decide +kernel
theorem d_LW_law_536 : decode b_LW_law 536 = .ok (.iaload, 1) := by decide +kernel
theorem d_LW_law_537 : decode b_LW_law 537 = .ok (.aload_n 3, 1) := by decide +kernel
theorem d_LW_law_538 : decode b_LW_law 538 = .ok (.invokestatic 80, 3) := by decide +kernel
theorem d_LW_law_541 : decode b_LW_law 541 = .ok (.istore 5, 2) := by decide +kernel
theorem d_LW_law_543 : decode b_LW_law 543 = .ok (.aload_n 2, 1) := by decide +kernel
theorem d_LW_law_544 : decode b_LW_law 544 = .ok (.aload_n 0, 1) := by decide +kernel
theorem d_LW_law_545 : decode b_LW_law 545 = .ok (.iload 4, 2) := by decide +kernel
theorem d_LW_law_547 : decode b_LW_law 547 = .ok (.iconst 1, 1) := by decide +kernel
theorem d_LW_law_548 : decode b_LW_law 548 = .ok (.iadd, 1) := by decide +kernel
theorem d_LW_law_549 : decode b_LW_law 549 = .ok (.iaload, 1) := by decide +kernel
theorem d_LW_law_550 : decode b_LW_law 550 = .ok (.invokevirtual 82, 3) := by decide +kernel
theorem d_LW_law_553 : decode b_LW_law 553 = .ok (.istore 6, 2) := by decide +kernel
theorem d_LW_law_555 : decode b_LW_law 555 = .ok (.aload_n 2, 1) := by decide +kernel
theorem d_LW_law_556 : decode b_LW_law 556 = .ok (.invokevirtual 50, 3) := by decide +kernel
theorem d_LW_law_559 : decode b_LW_law 559 = .ok (.iload 5, 2) := by decide +kernel
theorem d_LW_law_561 : decode b_LW_law 561 = .ok (.if_icmp .eq 5, 3) := by decide +kernel
theorem d_LW_law_564 : decode b_LW_law 564 = .ok (.iconst 0, 1) := by decide +kernel
theorem d_LW_law_565 : decode b_LW_law 565 = .ok (.ireturn, 1) := by decide +kernel
theorem d_LW_law_566 : decode b_LW_law 566 = .ok (.iload 5, 2) := by decide +kernel
theorem d_LW_law_568 : decode b_LW_law 568 = .ok (.ifCond .ne 15, 3) := by decide +kernel
theorem d_LW_law_571 : decode b_LW_law 571 = .ok (.aload_n 3, 1) := by decide +kernel
theorem d_LW_law_572 : decode b_LW_law 572 = .ok (.iconst 0, 1) := by decide +kernel
theorem d_LW_law_573 : decode b_LW_law 573 = .ok (.laload, 1) := by decide +kernel
theorem d_LW_law_574 : decode b_LW_law 574 = .ok (.iload 6, 2) := by decide +kernel
theorem d_LW_law_576 : decode b_LW_law 576 = .ok (.i2l, 1) := by decide +kernel
theorem d_LW_law_577 : decode b_LW_law 577 = .ok (.lcmp, 1) := by decide +kernel
theorem d_LW_law_578 : decode b_LW_law 578 = .ok (.ifCond .eq 5, 3) := by decide +kernel
theorem d_LW_law_581 : decode b_LW_law 581 = .ok (.iconst 0, 1) := by decide +kernel
theorem d_LW_law_582 : decode b_LW_law 582 = .ok (.ireturn, 1) := by decide +kernel
theorem d_LW_law_583 : decode b_LW_law 583 = .ok (.goto 3, 3) := by decide +kernel
theorem d_LW_law_586 : decode b_LW_law 586 = .ok (.iinc 4 5, 3) := by decide +kernel
theorem d_LW_law_589 : decode b_LW_law 589 = .ok (.goto (-566), 3) := by decide +kernel
theorem d_LW_law_592 : decode b_LW_law 592 = .ok (.iconst 1, 1) := by decide +kernel
theorem d_LW_law_593 : decode b_LW_law 593 = .ok (.ireturn, 1) := by decide +kernel

theorem d_MO_init_0 : decode b_MO_init 0 = .ok (.aload_n 0, 1) := by decide +kernel
theorem d_MO_init_1 : decode b_MO_init 1 = .ok (.invokespecial 1, 3) := by decide +kernel
theorem d_MO_init_4 : decode b_MO_init 4 = .ok (.aload_n 0, 1) := by decide +kernel
theorem d_MO_init_5 : decode b_MO_init 5 = .ok (.bipush 24, 2) := by decide +kernel
theorem d_MO_init_7 : decode b_MO_init 7 = .ok (.newarray .int, 2) := by decide +kernel
theorem d_MO_init_9 : decode b_MO_init 9 = .ok (.putfield 7, 3) := by decide +kernel
theorem d_MO_init_12 : decode b_MO_init 12 = .ok (.aload_n 0, 1) := by decide +kernel
theorem d_MO_init_13 : decode b_MO_init 13 = .ok (.bipush 24, 2) := by decide +kernel
theorem d_MO_init_15 : decode b_MO_init 15 = .ok (.newarray .int, 2) := by decide +kernel
theorem d_MO_init_17 : decode b_MO_init 17 = .ok (.putfield 13, 3) := by decide +kernel
theorem d_MO_init_20 : decode b_MO_init 20 = .ok (.aload_n 0, 1) := by decide +kernel
theorem d_MO_init_21 : decode b_MO_init 21 = .ok (.bipush 24, 2) := by decide +kernel
theorem d_MO_init_23 : decode b_MO_init 23 = .ok (.newarray .int, 2) := by decide +kernel
theorem d_MO_init_25 : decode b_MO_init 25 = .ok (.putfield 16, 3) := by decide +kernel
theorem d_MO_init_28 : decode b_MO_init 28 = .ok (.aload_n 0, 1) := by decide +kernel
theorem d_MO_init_29 : decode b_MO_init 29 = .ok (.bipush 24, 2) := by decide +kernel
theorem d_MO_init_31 : decode b_MO_init 31 = .ok (.newarray .int, 2) := by decide +kernel
theorem d_MO_init_33 : decode b_MO_init 33 = .ok (.putfield 19, 3) := by decide +kernel
theorem d_MO_init_36 : decode b_MO_init 36 = .ok (.aload_n 0, 1) := by decide +kernel
theorem d_MO_init_37 : decode b_MO_init 37 = .ok (.bipush 24, 2) := by decide +kernel
theorem d_MO_init_39 : decode b_MO_init 39 = .ok (.newarray .int, 2) := by decide +kernel
theorem d_MO_init_41 : decode b_MO_init 41 = .ok (.putfield 22, 3) := by decide +kernel
theorem d_MO_init_44 : decode b_MO_init 44 = .ok (.aload_n 0, 1) := by decide +kernel
theorem d_MO_init_45 : decode b_MO_init 45 = .ok (.bipush 24, 2) := by decide +kernel
theorem d_MO_init_47 : decode b_MO_init 47 = .ok (.newarray .int, 2) := by decide +kernel
theorem d_MO_init_49 : decode b_MO_init 49 = .ok (.putfield 25, 3) := by decide +kernel
theorem d_MO_init_52 : decode b_MO_init 52 = .ok (.aload_n 0, 1) := by decide +kernel
theorem d_MO_init_53 : decode b_MO_init 53 = .ok (.bipush 24, 2) := by decide +kernel
theorem d_MO_init_55 : decode b_MO_init 55 = .ok (.newarray .int, 2) := by decide +kernel
theorem d_MO_init_57 : decode b_MO_init 57 = .ok (.putfield 28, 3) := by decide +kernel
theorem d_MO_init_60 : decode b_MO_init 60 = .ok (.aload_n 0, 1) := by decide +kernel
theorem d_MO_init_61 : decode b_MO_init 61 = .ok (.bipush 120, 2) := by decide +kernel
theorem d_MO_init_63 : decode b_MO_init 63 = .ok (.newarray .int, 2) := by decide +kernel
theorem d_MO_init_65 : decode b_MO_init 65 = .ok (.putfield 31, 3) := by decide +kernel
theorem d_MO_init_68 : decode b_MO_init 68 = .ok (.aload_n 0, 1) := by decide +kernel
theorem d_MO_init_69 : decode b_MO_init 69 = .ok (.bipush 120, 2) := by decide +kernel
theorem d_MO_init_71 : decode b_MO_init 71 = .ok (.newarray .int, 2) := by decide +kernel
theorem d_MO_init_73 : decode b_MO_init 73 = .ok (.putfield 34, 3) := by decide +kernel
theorem d_MO_init_76 : decode b_MO_init 76 = .ok (.aload_n 0, 1) := by decide +kernel
theorem d_MO_init_77 : decode b_MO_init 77 = .ok (.bipush 24, 2) := by decide +kernel
theorem d_MO_init_79 : decode b_MO_init 79 = .ok (.newarray .int, 2) := by decide +kernel
theorem d_MO_init_81 : decode b_MO_init 81 = .ok (.putfield 37, 3) := by decide +kernel
theorem d_MO_init_84 : decode b_MO_init 84 = .ok (.aload_n 0, 1) := by decide +kernel
theorem d_MO_init_85 : decode b_MO_init 85 = .ok (.bipush 12, 2) := by decide +kernel
theorem d_MO_init_87 : decode b_MO_init 87 = .ok (.newarray .int, 2) := by decide +kernel
theorem d_MO_init_89 : decode b_MO_init 89 = .ok (.putfield 40, 3) := by decide +kernel
theorem d_MO_init_92 : decode b_MO_init 92 = .ok (.aload_n 0, 1) := by decide +kernel
theorem d_MO_init_93 : decode b_MO_init 93 = .ok (.iconst 4, 1) := by decide +kernel
theorem d_MO_init_94 : decode b_MO_init 94 = .ok (.newarray .boolean, 2) := by decide +kernel
theorem d_MO_init_96 : decode b_MO_init 96 = .ok (.putfield 43, 3) := by decide +kernel
theorem d_MO_init_99 : decode b_MO_init 99 = .ok (.aload_n 0, 1) := by decide +kernel
theorem d_MO_init_100 : decode b_MO_init 100 = .ok (.iconst 4, 1) := by decide +kernel
theorem d_MO_init_101 : decode b_MO_init 101 = .ok (.newarray .int, 2) := by decide +kernel
theorem d_MO_init_103 : decode b_MO_init 103 = .ok (.putfield 47, 3) := by decide +kernel
theorem d_MO_init_106 : decode b_MO_init 106 = .ok (.aload_n 0, 1) := by decide +kernel
theorem d_MO_init_107 : decode b_MO_init 107 = .ok (.iconst 4, 1) := by decide +kernel
theorem d_MO_init_108 : decode b_MO_init 108 = .ok (.newarray .int, 2) := by decide +kernel
theorem d_MO_init_110 : decode b_MO_init 110 = .ok (.putfield 50, 3) := by decide +kernel
theorem d_MO_init_113 : decode b_MO_init 113 = .ok (.aload_n 0, 1) := by decide +kernel
theorem d_MO_init_114 : decode b_MO_init 114 = .ok (.iconst 4, 1) := by decide +kernel
theorem d_MO_init_115 : decode b_MO_init 115 = .ok (.newarray .int, 2) := by decide +kernel
theorem d_MO_init_117 : decode b_MO_init 117 = .ok (.putfield 53, 3) := by decide +kernel
theorem d_MO_init_120 : decode b_MO_init 120 = .ok (.aload_n 0, 1) := by decide +kernel
theorem d_MO_init_121 : decode b_MO_init 121 = .ok (.iconst 4, 1) := by decide +kernel
theorem d_MO_init_122 : decode b_MO_init 122 = .ok (.newarray .int, 2) := by decide +kernel
theorem d_MO_init_124 : decode b_MO_init 124 = .ok (.putfield 56, 3) := by decide +kernel
theorem d_MO_init_127 : decode b_MO_init 127 = .ok (.aload_n 0, 1) := by decide +kernel
theorem d_MO_init_128 : decode b_MO_init 128 = .ok (.iconst 4, 1) := by decide +kernel
theorem d_MO_init_129 : decode b_MO_init 129 = .ok (.newarray .int, 2) := by decide +kernel
theorem d_MO_init_131 : decode b_MO_init 131 = .ok (.putfield 59, 3) := by decide +kernel
theorem d_MO_init_134 : decode b_MO_init 134 = .ok (.aload_n 0, 1) := by decide +kernel
theorem d_MO_init_135 : decode b_MO_init 135 = .ok (.iconst 4, 1) := by decide +kernel
theorem d_MO_init_136 : decode b_MO_init 136 = .ok (.newarray .int, 2) := by decide +kernel
theorem d_MO_init_138 : decode b_MO_init 138 = .ok (.putfield 62, 3) := by decide +kernel
theorem d_MO_init_141 : decode b_MO_init 141 = .ok (.aload_n 0, 1) := by decide +kernel
theorem d_MO_init_142 : decode b_MO_init 142 = .ok (.iconst 4, 1) := by decide +kernel
theorem d_MO_init_143 : decode b_MO_init 143 = .ok (.newarray .int, 2) := by decide +kernel
theorem d_MO_init_145 : decode b_MO_init 145 = .ok (.putfield 65, 3) := by decide +kernel
theorem d_MO_init_148 : decode b_MO_init 148 = .ok (.aload_n 0, 1) := by decide +kernel
theorem d_MO_init_149 : decode b_MO_init 149 = .ok (.sipush 128, 3) := by decide +kernel
theorem d_MO_init_152 : decode b_MO_init 152 = .ok (.newarray .int, 2) := by decide +kernel
theorem d_MO_init_154 : decode b_MO_init 154 = .ok (.putfield 68, 3) := by decide +kernel
theorem d_MO_init_157 : decode b_MO_init 157 = .ok (.aload_n 0, 1) := by decide +kernel
theorem d_MO_init_158 : decode b_MO_init 158 = .ok (.iconst 4, 1) := by decide +kernel
theorem d_MO_init_159 : decode b_MO_init 159 = .ok (.newarray .boolean, 2) := by decide +kernel
theorem d_MO_init_161 : decode b_MO_init 161 = .ok (.putfield 71, 3) := by decide +kernel
theorem d_MO_init_164 : decode b_MO_init 164 = .ok (.aload_n 0, 1) := by decide +kernel
theorem d_MO_init_165 : decode b_MO_init 165 = .ok (.iconst 4, 1) := by decide +kernel
theorem d_MO_init_166 : decode b_MO_init 166 = .ok (.newarray .int, 2) := by decide +kernel
theorem d_MO_init_168 : decode b_MO_init 168 = .ok (.putfield 74, 3) := by decide +kernel
theorem d_MO_init_171 : decode b_MO_init 171 = .ok (.aload_n 0, 1) := by decide +kernel
theorem d_MO_init_172 : decode b_MO_init 172 = .ok (.bipush 16, 2) := by decide +kernel
theorem d_MO_init_174 : decode b_MO_init 174 = .ok (.newarray .int, 2) := by decide +kernel
theorem d_MO_init_176 : decode b_MO_init 176 = .ok (.putfield 77, 3) := by decide +kernel
theorem d_MO_init_179 : decode b_MO_init 179 = .ok (.aload_n 0, 1) := by decide +kernel
theorem d_MO_init_180 : decode b_MO_init 180 = .ok (.bipush 120, 2) := by decide +kernel
theorem d_MO_init_182 : decode b_MO_init 182 = .ok (.newarray .int, 2) := by decide +kernel
theorem d_MO_init_184 : decode b_MO_init 184 = .ok (.putfield 80, 3) := by decide +kernel
theorem d_MO_init_187 : decode b_MO_init 187 = .ok (.aload_n 0, 1) := by decide +kernel
theorem d_MO_init_188 : decode b_MO_init 188 = .ok (.getfield 7, 3) := by decide +kernel
theorem d_MO_init_191 : decode b_MO_init 191 = .ok (.iconst 0, 1) := by decide +kernel
theorem d_MO_init_192 : decode b_MO_init 192 = .ok (.iconst 1, 1) := by decide +kernel
theorem d_MO_init_193 : decode b_MO_init 193 = .ok (.iastore, 1) := by decide +kernel
theorem d_MO_init_194 : decode b_MO_init 194 = .ok (.aload_n 0, 1) := by decide +kernel
theorem d_MO_init_195 : decode b_MO_init 195 = .ok (.getfield 16, 3) := by decide +kernel
theorem d_MO_init_198 : decode b_MO_init 198 = .ok (.iconst 0, 1) := by decide +kernel
theorem d_MO_init_199 : decode b_MO_init 199 = .ok (.iconst (-1), 1) := by decide +kernel
theorem d_MO_init_200 : decode b_MO_init 200 = .ok (.iastore, 1) := by decide +kernel
theorem d_MO_init_201 : decode b_MO_init 201 = .ok (.aload_n 0, 1) := by decide +kernel
theorem d_MO_init_202 : decode b_MO_init 202 = .ok (.getfield 19, 3) := by decide +kernel
theorem d_MO_init_205 : decode b_MO_init 205 = .ok (.iconst 0, 1) := by decide +kernel
theorem d_MO_init_206 : decode b_MO_init 206 = .ok (.sipush 999, 3) := by decide +kernel
theorem d_MO_init_209 : decode b_MO_init 209 = .ok (.iastore, 1) := by decide +kernel
theorem d_MO_init_210 : decode b_MO_init 210 = .ok (.aload_n 0, 1) := by decide +kernel
theorem d_MO_init_211 : decode b_MO_init 211 = .ok (.getfield 22, 3) := by decide +kernel
theorem d_MO_init_214 : decode b_MO_init 214 = .ok (.iconst 0, 1) := by decide +kernel
theorem d_MO_init_215 : decode b_MO_init 215 = .ok (.iconst (-1), 1) := by decide +kernel
theorem d_MO_init_216 : decode b_MO_init 216 = .ok (.iastore, 1) := by decide +kernel
theorem d_MO_init_217 : decode b_MO_init 217 = .ok (.iconst 0, 1) := by decide +kernel
theorem d_MO_init_218 : decode b_MO_init 218 = .ok (.istore_n 1, 1) := by decide +kernel
theorem d_MO_init_219 : decode b_MO_init 219 = .ok (.iload_n 1, 1) := by decide +kernel
theorem d_MO_init_220 : decode b_MO_init 220 = .ok (.bipush 24, 2) := by decide +kernel
theorem d_MO_init_222 : decode b_MO_init 222 = .ok (.if_icmp .ge 16, 3) := by decide +kernel
theorem d_MO_init_225 : decode b_MO_init 225 = .ok (.aload_n 0, 1) := by decide +kernel
theorem d_MO_init_226 : decode b_MO_init 226 = .ok (.getfield 28, 3) := by decide +kernel
theorem d_MO_init_229 : decode b_MO_init 229 = .ok (.iload_n 1, 1) := by decide +kernel
theorem d_MO_init_230 : decode b_MO_init 230 = .ok (.iconst (-1), 1) := by decide +kernel
theorem d_MO_init_231 : decode b_MO_init 231 = .ok (.iastore, 1) := by decide +kernel
theorem d_MO_init_232 : decode b_MO_init 232 = .ok (.iinc 1 1, 3) := by decide +kernel
theorem d_MO_init_235 : decode b_MO_init 235 = .ok (.goto (-16), 3) := by decide +kernel
theorem d_MO_init_238 : decode b_MO_init 238 = .ok (.return_, 1) := by decide +kernel
theorem d_MO_thrown_0 : decode b_MO_thrown 0 = .ok (.aload_n 0, 1) := by decide +kernel
theorem d_MO_thrown_1 : decode b_MO_thrown 1 = .ok (.getfield 83, 3) := by decide +kernel
theorem d_MO_thrown_4 : decode b_MO_thrown 4 = .ok (.ireturn, 1) := by decide +kernel
theorem d_MO_begin_0 : decode b_MO_begin 0 = .ok (.aload_n 0, 1) := by decide +kernel
theorem d_MO_begin_1 : decode b_MO_begin 1 = .ok (.aload_n 0, 1) := by decide +kernel
theorem d_MO_begin_2 : decode b_MO_begin 2 = .ok (.iload_n 1, 1) := by decide +kernel
theorem d_MO_begin_3 : decode b_MO_begin 3 = .ok (.invokevirtual 115, 3) := by decide +kernel
theorem d_MO_begin_6 : decode b_MO_begin 6 = .ok (.ifCond .eq 28, 3) := by decide +kernel
theorem d_MO_begin_9 : decode b_MO_begin 9 = .ok (.iload_n 2, 1) := by decide +kernel
theorem d_MO_begin_10 : decode b_MO_begin 10 = .ok (.iconst 0, 1) := by decide +kernel
theorem d_MO_begin_11 : decode b_MO_begin 11 = .ok (.iconst 3, 1) := by decide +kernel
theorem d_MO_begin_12 : decode b_MO_begin 12 = .ok (.invokestatic 101, 3) := by decide +kernel
theorem d_MO_begin_15 : decode b_MO_begin 15 = .ok (.ifCond .eq 19, 3) := by decide +kernel
theorem d_MO_begin_18 : decode b_MO_begin 18 = .ok (.iload_n 2, 1) := by decide +kernel
theorem d_MO_begin_19 : decode b_MO_begin 19 = .ok (.iconst 3, 1) := by decide +kernel
theorem d_MO_begin_20 : decode b_MO_begin 20 = .ok (.if_icmp .eq 18, 3) := by decide +kernel
theorem d_MO_begin_23 : decode b_MO_begin 23 = .ok (.iload_n 3, 1) := by decide +kernel
theorem d_MO_begin_24 : decode b_MO_begin 24 = .ok (.iconst 0, 1) := by decide +kernel
theorem d_MO_begin_25 : decode b_MO_begin 25 = .ok (.sipush 999, 3) := by decide +kernel
theorem d_MO_begin_28 : decode b_MO_begin 28 = .ok (.invokestatic 101, 3) := by decide +kernel
theorem d_MO_begin_31 : decode b_MO_begin 31 = .ok (.ifCond .ne 7, 3) := by decide +kernel
theorem d_MO_begin_34 : decode b_MO_begin 34 = .ok (.iconst 1, 1) := by decide +kernel
theorem d_MO_begin_35 : decode b_MO_begin 35 = .ok (.goto 4, 3) := by decide +kernel
theorem d_MO_begin_38 : decode b_MO_begin 38 = .ok (.iconst 0, 1) := by decide +kernel
theorem d_MO_begin_39 : decode b_MO_begin 39 = .ok (.iconst 1, 1) := by decide +kernel
theorem d_MO_begin_40 : decode b_MO_begin 40 = .ok (.invokevirtual 119, 3) := by decide +kernel
theorem d_MO_begin_43 : decode b_MO_begin 43 = .ok (.ifCond .ne 17, 3) := by decide +kernel
theorem d_MO_begin_46 : decode b_MO_begin 46 = .ok (.aload_n 0, 1) := by decide +kernel
theorem d_MO_begin_47 : decode b_MO_begin 47 = .ok (.aload_n 0, 1) := by decide +kernel
theorem d_MO_begin_48 : decode b_MO_begin 48 = .ok (.getfield 43, 3) := by decide +kernel
theorem d_MO_begin_51 : decode b_MO_begin 51 = .ok (.iload_n 1, 1) := by decide +kernel
theorem d_MO_begin_52 : decode b_MO_begin 52 = .ok (.baload, 1) := by decide +kernel
theorem d_MO_begin_53 : decode b_MO_begin 53 = .ok (.iconst 2, 1) := by decide +kernel
theorem d_MO_begin_54 : decode b_MO_begin 54 = .ok (.invokevirtual 119, 3) := by decide +kernel
theorem d_MO_begin_57 : decode b_MO_begin 57 = .ok (.ifCond .eq 4, 3) := by decide +kernel
theorem d_MO_begin_60 : decode b_MO_begin 60 = .ok (.return_, 1) := by decide +kernel
theorem d_MO_begin_61 : decode b_MO_begin 61 = .ok (.aload_n 0, 1) := by decide +kernel
theorem d_MO_begin_62 : decode b_MO_begin 62 = .ok (.getfield 43, 3) := by decide +kernel
theorem d_MO_begin_65 : decode b_MO_begin 65 = .ok (.iload_n 1, 1) := by decide +kernel
theorem d_MO_begin_66 : decode b_MO_begin 66 = .ok (.iconst 1, 1) := by decide +kernel
theorem d_MO_begin_67 : decode b_MO_begin 67 = .ok (.bastore, 1) := by decide +kernel
theorem d_MO_begin_68 : decode b_MO_begin 68 = .ok (.aload_n 0, 1) := by decide +kernel
theorem d_MO_begin_69 : decode b_MO_begin 69 = .ok (.getfield 47, 3) := by decide +kernel
theorem d_MO_begin_72 : decode b_MO_begin 72 = .ok (.iload_n 1, 1) := by decide +kernel
theorem d_MO_begin_73 : decode b_MO_begin 73 = .ok (.iload_n 2, 1) := by decide +kernel
theorem d_MO_begin_74 : decode b_MO_begin 74 = .ok (.iastore, 1) := by decide +kernel
theorem d_MO_begin_75 : decode b_MO_begin 75 = .ok (.aload_n 0, 1) := by decide +kernel
theorem d_MO_begin_76 : decode b_MO_begin 76 = .ok (.getfield 56, 3) := by decide +kernel
theorem d_MO_begin_79 : decode b_MO_begin 79 = .ok (.iload_n 1, 1) := by decide +kernel
theorem d_MO_begin_80 : decode b_MO_begin 80 = .ok (.iload_n 3, 1) := by decide +kernel
theorem d_MO_begin_81 : decode b_MO_begin 81 = .ok (.iastore, 1) := by decide +kernel
theorem d_MO_begin_82 : decode b_MO_begin 82 = .ok (.aload_n 0, 1) := by decide +kernel
theorem d_MO_begin_83 : decode b_MO_begin 83 = .ok (.getfield 59, 3) := by decide +kernel
theorem d_MO_begin_86 : decode b_MO_begin 86 = .ok (.iload_n 1, 1) := by decide +kernel
theorem d_MO_begin_87 : decode b_MO_begin 87 = .ok (.iconst 0, 1) := by decide +kernel
theorem d_MO_begin_88 : decode b_MO_begin 88 = .ok (.iastore, 1) := by decide +kernel
theorem d_MO_begin_89 : decode b_MO_begin 89 = .ok (.aload_n 0, 1) := by decide +kernel
theorem d_MO_begin_90 : decode b_MO_begin 90 = .ok (.getfield 62, 3) := by decide +kernel
theorem d_MO_begin_93 : decode b_MO_begin 93 = .ok (.iload_n 1, 1) := by decide +kernel
theorem d_MO_begin_94 : decode b_MO_begin 94 = .ok (.iload 4, 2) := by decide +kernel
theorem d_MO_begin_96 : decode b_MO_begin 96 = .ok (.iastore, 1) := by decide +kernel
theorem d_MO_begin_97 : decode b_MO_begin 97 = .ok (.aload_n 0, 1) := by decide +kernel
theorem d_MO_begin_98 : decode b_MO_begin 98 = .ok (.getfield 65, 3) := by decide +kernel
theorem d_MO_begin_101 : decode b_MO_begin 101 = .ok (.iload_n 1, 1) := by decide +kernel
theorem d_MO_begin_102 : decode b_MO_begin 102 = .ok (.iconst (-1), 1) := by decide +kernel
theorem d_MO_begin_103 : decode b_MO_begin 103 = .ok (.iastore, 1) := by decide +kernel
theorem d_MO_begin_104 : decode b_MO_begin 104 = .ok (.aload_n 0, 1) := by decide +kernel
theorem d_MO_begin_105 : decode b_MO_begin 105 = .ok (.iload_n 1, 1) := by decide +kernel
theorem d_MO_begin_106 : decode b_MO_begin 106 = .ok (.invokevirtual 105, 3) := by decide +kernel
theorem d_MO_begin_109 : decode b_MO_begin 109 = .ok (.aload_n 0, 1) := by decide +kernel
theorem d_MO_begin_110 : decode b_MO_begin 110 = .ok (.iload_n 1, 1) := by decide +kernel
theorem d_MO_begin_111 : decode b_MO_begin 111 = .ok (.aload_n 0, 1) := by decide +kernel
theorem d_MO_begin_112 : decode b_MO_begin 112 = .ok (.getfield 108, 3) := by decide +kernel
theorem d_MO_begin_115 : decode b_MO_begin 115 = .ok (.invokevirtual 111, 3) := by decide +kernel
theorem d_MO_begin_118 : decode b_MO_begin 118 = .ok (.iload_n 2, 1) := by decide +kernel
theorem d_MO_begin_119 : decode b_MO_begin 119 = .ok (.iconst 3, 1) := by decide +kernel
theorem d_MO_begin_120 : decode b_MO_begin 120 = .ok (.if_icmp .ne 8, 3) := by decide +kernel
theorem d_MO_begin_123 : decode b_MO_begin 123 = .ok (.aload_n 0, 1) := by decide +kernel
theorem d_MO_begin_124 : decode b_MO_begin 124 = .ok (.iload_n 1, 1) := by decide +kernel
theorem d_MO_begin_125 : decode b_MO_begin 125 = .ok (.invokevirtual 123, 3) := by decide +kernel
theorem d_MO_begin_128 : decode b_MO_begin 128 = .ok (.return_, 1) := by decide +kernel
theorem d_MO_isTask_0 : decode b_MO_isTask 0 = .ok (.iload_n 1, 1) := by decide +kernel
theorem d_MO_isTask_1 : decode b_MO_isTask 1 = .ok (.iconst 0, 1) := by decide +kernel
theorem d_MO_isTask_2 : decode b_MO_isTask 2 = .ok (.iconst 3, 1) := by decide +kernel
theorem d_MO_isTask_3 : decode b_MO_isTask 3 = .ok (.invokestatic 101, 3) := by decide +kernel
theorem d_MO_isTask_6 : decode b_MO_isTask 6 = .ok (.ireturn, 1) := by decide +kernel
theorem d_MO_within_0 : decode b_MO_within 0 = .ok (.iload_n 0, 1) := by decide +kernel
theorem d_MO_within_1 : decode b_MO_within 1 = .ok (.iload_n 1, 1) := by decide +kernel
theorem d_MO_within_2 : decode b_MO_within 2 = .ok (.if_icmp .lt 12, 3) := by decide +kernel
theorem d_MO_within_5 : decode b_MO_within 5 = .ok (.iload_n 0, 1) := by decide +kernel
theorem d_MO_within_6 : decode b_MO_within 6 = .ok (.iload_n 2, 1) := by decide +kernel
theorem d_MO_within_7 : decode b_MO_within 7 = .ok (.if_icmp .gt 7, 3) := by decide +kernel
theorem d_MO_within_10 : decode b_MO_within 10 = .ok (.iconst 1, 1) := by decide +kernel
theorem d_MO_within_11 : decode b_MO_within 11 = .ok (.goto 4, 3) := by decide +kernel
theorem d_MO_within_14 : decode b_MO_within 14 = .ok (.iconst 0, 1) := by decide +kernel
theorem d_MO_within_15 : decode b_MO_within 15 = .ok (.ireturn, 1) := by decide +kernel
theorem d_MO_fails_0 : decode b_MO_fails 0 = .ok (.aload_n 0, 1) := by decide +kernel
theorem d_MO_fails_1 : decode b_MO_fails 1 = .ok (.iload_n 1, 1) := by decide +kernel
theorem d_MO_fails_2 : decode b_MO_fails 2 = .ok (.ifCond .eq 7, 3) := by decide +kernel
theorem d_MO_fails_5 : decode b_MO_fails 5 = .ok (.iload_n 2, 1) := by decide +kernel
theorem d_MO_fails_6 : decode b_MO_fails 6 = .ok (.goto 4, 3) := by decide +kernel
theorem d_MO_fails_9 : decode b_MO_fails 9 = .ok (.iconst 0, 1) := by decide +kernel
theorem d_MO_fails_10 : decode b_MO_fails 10 = .ok (.putfield 83, 3) := by decide +kernel
theorem d_MO_fails_13 : decode b_MO_fails 13 = .ok (.iload_n 1, 1) := by decide +kernel
theorem d_MO_fails_14 : decode b_MO_fails 14 = .ok (.ireturn, 1) := by decide +kernel
theorem d_MO_forgetPath_0 : decode b_MO_forgetPath 0 = .ok (.bipush 32, 2) := by decide +kernel
theorem d_MO_forgetPath_2 : decode b_MO_forgetPath 2 = .ok (.iload_n 1, 1) := by decide +kernel
theorem d_MO_forgetPath_3 : decode b_MO_forgetPath 3 = .ok (.imul, 1) := by decide +kernel
theorem d_MO_forgetPath_4 : decode b_MO_forgetPath 4 = .ok (.istore_n 2, 1) := by decide +kernel
theorem d_MO_forgetPath_5 : decode b_MO_forgetPath 5 = .ok (.iload_n 2, 1) := by decide +kernel
theorem d_MO_forgetPath_6 : decode b_MO_forgetPath 6 = .ok (.bipush 32, 2) := by decide +kernel
theorem d_MO_forgetPath_8 : decode b_MO_forgetPath 8 = .ok (.iload_n 1, 1) := by decide +kernel
theorem d_MO_forgetPath_9 : decode b_MO_forgetPath 9 = .ok (.imul, 1) := by decide +kernel
theorem d_MO_forgetPath_10 : decode b_MO_forgetPath 10 = .ok (.bipush 32, 2) := by decide +kernel
theorem d_MO_forgetPath_12 : decode b_MO_forgetPath 12 = .ok (.iadd, 1) := by decide +kernel
theorem d_MO_forgetPath_13 : decode b_MO_forgetPath 13 = .ok (.if_icmp .ge 16, 3) := by decide +kernel
theorem d_MO_forgetPath_16 : decode b_MO_forgetPath 16 = .ok (.aload_n 0, 1) := by decide +kernel
theorem d_MO_forgetPath_17 : decode b_MO_forgetPath 17 = .ok (.getfield 68, 3) := by decide +kernel
theorem d_MO_forgetPath_20 : decode b_MO_forgetPath 20 = .ok (.iload_n 2, 1) := by decide +kernel
theorem d_MO_forgetPath_21 : decode b_MO_forgetPath 21 = .ok (.iconst (-1), 1) := by decide +kernel
theorem d_MO_forgetPath_22 : decode b_MO_forgetPath 22 = .ok (.iastore, 1) := by decide +kernel
theorem d_MO_forgetPath_23 : decode b_MO_forgetPath 23 = .ok (.iinc 2 1, 3) := by decide +kernel
theorem d_MO_forgetPath_26 : decode b_MO_forgetPath 26 = .ok (.goto (-21), 3) := by decide +kernel
theorem d_MO_forgetPath_29 : decode b_MO_forgetPath 29 = .ok (.return_, 1) := by decide +kernel
theorem d_MO_search_0 : decode b_MO_search 0 = .ok (.aload_n 0, 1) := by decide +kernel
theorem d_MO_search_1 : decode b_MO_search 1 = .ok (.getfield 50, 3) := by decide +kernel
theorem d_MO_search_4 : decode b_MO_search 4 = .ok (.iload_n 1, 1) := by decide +kernel
theorem d_MO_search_5 : decode b_MO_search 5 = .ok (.iconst 0, 1) := by decide +kernel
theorem d_MO_search_6 : decode b_MO_search 6 = .ok (.iastore, 1) := by decide +kernel
theorem d_MO_search_7 : decode b_MO_search 7 = .ok (.aload_n 0, 1) := by decide +kernel
theorem d_MO_search_8 : decode b_MO_search 8 = .ok (.getfield 53, 3) := by decide +kernel
theorem d_MO_search_11 : decode b_MO_search 11 = .ok (.iload_n 1, 1) := by decide +kernel
theorem d_MO_search_12 : decode b_MO_search 12 = .ok (.iload_n 2, 1) := by decide +kernel
theorem d_MO_search_13 : decode b_MO_search 13 = .ok (.iastore, 1) := by decide +kernel
theorem d_MO_search_14 : decode b_MO_search 14 = .ok (.return_, 1) := by decide +kernel
theorem d_MO_beginJoin_0 : decode b_MO_beginJoin 0 = .ok (.aload_n 0, 1) := by decide +kernel
theorem d_MO_beginJoin_1 : decode b_MO_beginJoin 1 = .ok (.getfield 56, 3) := by decide +kernel
theorem d_MO_beginJoin_4 : decode b_MO_beginJoin 4 = .ok (.iload_n 1, 1) := by decide +kernel
theorem d_MO_beginJoin_5 : decode b_MO_beginJoin 5 = .ok (.iconst 0, 1) := by decide +kernel
theorem d_MO_beginJoin_6 : decode b_MO_beginJoin 6 = .ok (.iastore, 1) := by decide +kernel
theorem d_MO_beginJoin_7 : decode b_MO_beginJoin 7 = .ok (.aload_n 0, 1) := by decide +kernel
theorem d_MO_beginJoin_8 : decode b_MO_beginJoin 8 = .ok (.getfield 91, 3) := by decide +kernel
theorem d_MO_beginJoin_11 : decode b_MO_beginJoin 11 = .ok (.ifCond .ne 4, 3) := by decide +kernel
theorem d_MO_beginJoin_14 : decode b_MO_beginJoin 14 = .ok (.return_, 1) := by decide +kernel
theorem d_MO_beginJoin_15 : decode b_MO_beginJoin 15 = .ok (.aload_n 0, 1) := by decide +kernel
theorem d_MO_beginJoin_16 : decode b_MO_beginJoin 16 = .ok (.getfield 40, 3) := by decide +kernel
theorem d_MO_beginJoin_19 : decode b_MO_beginJoin 19 = .ok (.iconst 0, 1) := by decide +kernel
theorem d_MO_beginJoin_20 : decode b_MO_beginJoin 20 = .ok (.iaload, 1) := by decide +kernel
theorem d_MO_beginJoin_21 : decode b_MO_beginJoin 21 = .ok (.istore_n 2, 1) := by decide +kernel
theorem d_MO_beginJoin_22 : decode b_MO_beginJoin 22 = .ok (.aload_n 0, 1) := by decide +kernel
theorem d_MO_beginJoin_23 : decode b_MO_beginJoin 23 = .ok (.iload_n 2, 1) := by decide +kernel
theorem d_MO_beginJoin_24 : decode b_MO_beginJoin 24 = .ok (.invokevirtual 94, 3) := by decide +kernel
theorem d_MO_beginJoin_27 : decode b_MO_beginJoin 27 = .ok (.iload_n 2, 1) := by decide +kernel
theorem d_MO_beginJoin_28 : decode b_MO_beginJoin 28 = .ok (.aload_n 0, 1) := by decide +kernel
theorem d_MO_beginJoin_29 : decode b_MO_beginJoin 29 = .ok (.getfield 108, 3) := by decide +kernel
theorem d_MO_beginJoin_32 : decode b_MO_beginJoin 32 = .ok (.if_icmp .ne 4, 3) := by decide +kernel
theorem d_MO_beginJoin_35 : decode b_MO_beginJoin 35 = .ok (.return_, 1) := by decide +kernel
theorem d_MO_beginJoin_36 : decode b_MO_beginJoin 36 = .ok (.aload_n 0, 1) := by decide +kernel
theorem d_MO_beginJoin_37 : decode b_MO_beginJoin 37 = .ok (.getfield 65, 3) := by decide +kernel
theorem d_MO_beginJoin_40 : decode b_MO_beginJoin 40 = .ok (.iload_n 1, 1) := by decide +kernel
theorem d_MO_beginJoin_41 : decode b_MO_beginJoin 41 = .ok (.iload_n 2, 1) := by decide +kernel
theorem d_MO_beginJoin_42 : decode b_MO_beginJoin 42 = .ok (.iastore, 1) := by decide +kernel
theorem d_MO_beginJoin_43 : decode b_MO_beginJoin 43 = .ok (.aload_n 0, 1) := by decide +kernel
theorem d_MO_beginJoin_44 : decode b_MO_beginJoin 44 = .ok (.getfield 56, 3) := by decide +kernel
theorem d_MO_beginJoin_47 : decode b_MO_beginJoin 47 = .ok (.iload_n 1, 1) := by decide +kernel
theorem d_MO_beginJoin_48 : decode b_MO_beginJoin 48 = .ok (.aload_n 0, 1) := by decide +kernel
theorem d_MO_beginJoin_49 : decode b_MO_beginJoin 49 = .ok (.getfield 19, 3) := by decide +kernel
theorem d_MO_beginJoin_52 : decode b_MO_beginJoin 52 = .ok (.iload_n 2, 1) := by decide +kernel
theorem d_MO_beginJoin_53 : decode b_MO_beginJoin 53 = .ok (.iaload, 1) := by decide +kernel
theorem d_MO_beginJoin_54 : decode b_MO_beginJoin 54 = .ok (.iastore, 1) := by decide +kernel
theorem d_MO_beginJoin_55 : decode b_MO_beginJoin 55 = .ok (.aload_n 0, 1) := by decide +kernel
theorem d_MO_beginJoin_56 : decode b_MO_beginJoin 56 = .ok (.getfield 59, 3) := by decide +kernel
theorem d_MO_beginJoin_59 : decode b_MO_beginJoin 59 = .ok (.iload_n 1, 1) := by decide +kernel
theorem d_MO_beginJoin_60 : decode b_MO_beginJoin 60 = .ok (.aload_n 0, 1) := by decide +kernel
theorem d_MO_beginJoin_61 : decode b_MO_beginJoin 61 = .ok (.getfield 13, 3) := by decide +kernel
theorem d_MO_beginJoin_64 : decode b_MO_beginJoin 64 = .ok (.iload_n 2, 1) := by decide +kernel
theorem d_MO_beginJoin_65 : decode b_MO_beginJoin 65 = .ok (.iaload, 1) := by decide +kernel
theorem d_MO_beginJoin_66 : decode b_MO_beginJoin 66 = .ok (.iconst 1, 1) := by decide +kernel
theorem d_MO_beginJoin_67 : decode b_MO_beginJoin 67 = .ok (.iadd, 1) := by decide +kernel
theorem d_MO_beginJoin_68 : decode b_MO_beginJoin 68 = .ok (.iastore, 1) := by decide +kernel
theorem d_MO_beginJoin_69 : decode b_MO_beginJoin 69 = .ok (.return_, 1) := by decide +kernel
theorem d_MO_leaveQueue_0 : decode b_MO_leaveQueue 0 = .ok (.iconst 0, 1) := by decide +kernel
theorem d_MO_leaveQueue_1 : decode b_MO_leaveQueue 1 = .ok (.istore_n 2, 1) := by decide +kernel
theorem d_MO_leaveQueue_2 : decode b_MO_leaveQueue 2 = .ok (.iconst 0, 1) := by decide +kernel
theorem d_MO_leaveQueue_3 : decode b_MO_leaveQueue 3 = .ok (.istore_n 3, 1) := by decide +kernel
theorem d_MO_leaveQueue_4 : decode b_MO_leaveQueue 4 = .ok (.iload_n 3, 1) := by decide +kernel
theorem d_MO_leaveQueue_5 : decode b_MO_leaveQueue 5 = .ok (.aload_n 0, 1) := by decide +kernel
theorem d_MO_leaveQueue_6 : decode b_MO_leaveQueue 6 = .ok (.getfield 91, 3) := by decide +kernel
theorem d_MO_leaveQueue_9 : decode b_MO_leaveQueue 9 = .ok (.if_icmp .ge 37, 3) := by decide +kernel
theorem d_MO_leaveQueue_12 : decode b_MO_leaveQueue 12 = .ok (.aload_n 0, 1) := by decide +kernel
theorem d_MO_leaveQueue_13 : decode b_MO_leaveQueue 13 = .ok (.getfield 40, 3) := by decide +kernel
theorem d_MO_leaveQueue_16 : decode b_MO_leaveQueue 16 = .ok (.iload_n 3, 1) := by decide +kernel
theorem d_MO_leaveQueue_17 : decode b_MO_leaveQueue 17 = .ok (.iaload, 1) := by decide +kernel
theorem d_MO_leaveQueue_18 : decode b_MO_leaveQueue 18 = .ok (.iload_n 1, 1) := by decide +kernel
theorem d_MO_leaveQueue_19 : decode b_MO_leaveQueue 19 = .ok (.if_icmp .ne 6, 3) := by decide +kernel
theorem d_MO_leaveQueue_22 : decode b_MO_leaveQueue 22 = .ok (.goto 18, 3) := by decide +kernel
theorem d_MO_leaveQueue_25 : decode b_MO_leaveQueue 25 = .ok (.aload_n 0, 1) := by decide +kernel
theorem d_MO_leaveQueue_26 : decode b_MO_leaveQueue 26 = .ok (.getfield 40, 3) := by decide +kernel
theorem d_MO_leaveQueue_29 : decode b_MO_leaveQueue 29 = .ok (.iload_n 2, 1) := by decide +kernel
theorem d_MO_leaveQueue_30 : decode b_MO_leaveQueue 30 = .ok (.aload_n 0, 1) := by decide +kernel
theorem d_MO_leaveQueue_31 : decode b_MO_leaveQueue 31 = .ok (.getfield 40, 3) := by decide +kernel
theorem d_MO_leaveQueue_34 : decode b_MO_leaveQueue 34 = .ok (.iload_n 3, 1) := by decide +kernel
theorem d_MO_leaveQueue_35 : decode b_MO_leaveQueue 35 = .ok (.iaload, 1) := by decide +kernel
theorem d_MO_leaveQueue_36 : decode b_MO_leaveQueue 36 = .ok (.iastore, 1) := by decide +kernel
theorem d_MO_leaveQueue_37 : decode b_MO_leaveQueue 37 = .ok (.iinc 2 1, 3) := by decide +kernel
theorem d_MO_leaveQueue_40 : decode b_MO_leaveQueue 40 = .ok (.iinc 3 1, 3) := by decide +kernel
theorem d_MO_leaveQueue_43 : decode b_MO_leaveQueue 43 = .ok (.goto (-39), 3) := by decide +kernel
theorem d_MO_leaveQueue_46 : decode b_MO_leaveQueue 46 = .ok (.aload_n 0, 1) := by decide +kernel
theorem d_MO_leaveQueue_47 : decode b_MO_leaveQueue 47 = .ok (.iload_n 2, 1) := by decide +kernel
theorem d_MO_leaveQueue_48 : decode b_MO_leaveQueue 48 = .ok (.putfield 91, 3) := by decide +kernel
theorem d_MO_leaveQueue_51 : decode b_MO_leaveQueue 51 = .ok (.return_, 1) := by decide +kernel
theorem d_MO_step_0 : decode b_MO_step 0 = .ok (.aload_n 0, 1) := by decide +kernel
theorem d_MO_step_1 : decode b_MO_step 1 = .ok (.aload_n 0, 1) := by decide +kernel
theorem d_MO_step_2 : decode b_MO_step 2 = .ok (.iload_n 1, 1) := by decide +kernel
theorem d_MO_step_3 : decode b_MO_step 3 = .ok (.invokevirtual 115, 3) := by decide +kernel
theorem d_MO_step_6 : decode b_MO_step 6 = .ok (.ifCond .ne 7, 3) := by decide +kernel
theorem d_MO_step_9 : decode b_MO_step 9 = .ok (.iconst 1, 1) := by decide +kernel
theorem d_MO_step_10 : decode b_MO_step 10 = .ok (.goto 4, 3) := by decide +kernel
theorem d_MO_step_13 : decode b_MO_step 13 = .ok (.iconst 0, 1) := by decide +kernel
theorem d_MO_step_14 : decode b_MO_step 14 = .ok (.iconst 1, 1) := by decide +kernel
theorem d_MO_step_15 : decode b_MO_step 15 = .ok (.invokevirtual 119, 3) := by decide +kernel
theorem d_MO_step_18 : decode b_MO_step 18 = .ok (.ifCond .ne 25, 3) := by decide +kernel
theorem d_MO_step_21 : decode b_MO_step 21 = .ok (.aload_n 0, 1) := by decide +kernel
theorem d_MO_step_22 : decode b_MO_step 22 = .ok (.aload_n 0, 1) := by decide +kernel
theorem d_MO_step_23 : decode b_MO_step 23 = .ok (.getfield 43, 3) := by decide +kernel
theorem d_MO_step_26 : decode b_MO_step 26 = .ok (.iload_n 1, 1) := by decide +kernel
theorem d_MO_step_27 : decode b_MO_step 27 = .ok (.baload, 1) := by decide +kernel
theorem d_MO_step_28 : decode b_MO_step 28 = .ok (.ifCond .ne 7, 3) := by decide +kernel
theorem d_MO_step_31 : decode b_MO_step 31 = .ok (.iconst 1, 1) := by decide +kernel
theorem d_MO_step_32 : decode b_MO_step 32 = .ok (.goto 4, 3) := by decide +kernel
theorem d_MO_step_35 : decode b_MO_step 35 = .ok (.iconst 0, 1) := by decide +kernel
theorem d_MO_step_36 : decode b_MO_step 36 = .ok (.iconst 2, 1) := by decide +kernel
theorem d_MO_step_37 : decode b_MO_step 37 = .ok (.invokevirtual 119, 3) := by decide +kernel
theorem d_MO_step_40 : decode b_MO_step 40 = .ok (.ifCond .eq 5, 3) := by decide +kernel
theorem d_MO_step_43 : decode b_MO_step 43 = .ok (.iconst 0, 1) := by decide +kernel
theorem d_MO_step_44 : decode b_MO_step 44 = .ok (.ireturn, 1) := by decide +kernel
theorem d_MO_step_45 : decode b_MO_step 45 = .ok (.aload_n 0, 1) := by decide +kernel
theorem d_MO_step_46 : decode b_MO_step 46 = .ok (.getfield 50, 3) := by decide +kernel
theorem d_MO_step_49 : decode b_MO_step 49 = .ok (.iload_n 1, 1) := by decide +kernel
theorem d_MO_step_50 : decode b_MO_step 50 = .ok (.iaload, 1) := by decide +kernel
theorem d_MO_step_51 : decode b_MO_step 51 = .ok (.ifCond .ne 11, 3) := by decide +kernel
theorem d_MO_step_54 : decode b_MO_step 54 = .ok (.aload_n 0, 1) := by decide +kernel
theorem d_MO_step_55 : decode b_MO_step 55 = .ok (.iload_n 1, 1) := by decide +kernel
theorem d_MO_step_56 : decode b_MO_step 56 = .ok (.invokevirtual 170, 3) := by decide +kernel
theorem d_MO_step_59 : decode b_MO_step 59 = .ok (.goto 26, 3) := by decide +kernel
theorem d_MO_step_62 : decode b_MO_step 62 = .ok (.aload_n 0, 1) := by decide +kernel
theorem d_MO_step_63 : decode b_MO_step 63 = .ok (.getfield 50, 3) := by decide +kernel
theorem d_MO_step_66 : decode b_MO_step 66 = .ok (.iload_n 1, 1) := by decide +kernel
theorem d_MO_step_67 : decode b_MO_step 67 = .ok (.iaload, 1) := by decide +kernel
theorem d_MO_step_68 : decode b_MO_step 68 = .ok (.iconst 1, 1) := by decide +kernel
theorem d_MO_step_69 : decode b_MO_step 69 = .ok (.if_icmp .ne 11, 3) := by decide +kernel
theorem d_MO_step_72 : decode b_MO_step 72 = .ok (.aload_n 0, 1) := by decide +kernel
theorem d_MO_step_73 : decode b_MO_step 73 = .ok (.iload_n 1, 1) := by decide +kernel
theorem d_MO_step_74 : decode b_MO_step 74 = .ok (.invokevirtual 173, 3) := by decide +kernel
theorem d_MO_step_77 : decode b_MO_step 77 = .ok (.goto 8, 3) := by decide +kernel
theorem d_MO_step_80 : decode b_MO_step 80 = .ok (.aload_n 0, 1) := by decide +kernel
theorem d_MO_step_81 : decode b_MO_step 81 = .ok (.iload_n 1, 1) := by decide +kernel
theorem d_MO_step_82 : decode b_MO_step 82 = .ok (.invokevirtual 176, 3) := by decide +kernel
theorem d_MO_step_85 : decode b_MO_step 85 = .ok (.istore_n 2, 1) := by decide +kernel
theorem d_MO_step_86 : decode b_MO_step 86 = .ok (.aload_n 0, 1) := by decide +kernel
theorem d_MO_step_87 : decode b_MO_step 87 = .ok (.getfield 77, 3) := by decide +kernel
theorem d_MO_step_90 : decode b_MO_step 90 = .ok (.iconst 4, 1) := by decide +kernel
theorem d_MO_step_91 : decode b_MO_step 91 = .ok (.iload_n 1, 1) := by decide +kernel
theorem d_MO_step_92 : decode b_MO_step 92 = .ok (.imul, 1) := by decide +kernel
theorem d_MO_step_93 : decode b_MO_step 93 = .ok (.dup2, 1) := by decide +kernel
theorem d_MO_step_94 : decode b_MO_step 94 = .ok (.iaload, 1) := by decide +kernel
theorem d_MO_step_95 : decode b_MO_step 95 = .ok (.iconst 1, 1) := by decide +kernel
theorem d_MO_step_96 : decode b_MO_step 96 = .ok (.iadd, 1) := by decide +kernel
theorem d_MO_step_97 : decode b_MO_step 97 = .ok (.iastore, 1) := by decide +kernel
theorem d_MO_step_98 : decode b_MO_step 98 = .ok (.iload_n 2, 1) := by decide +kernel
theorem d_MO_step_99 : decode b_MO_step 99 = .ok (.iconst 1, 1) := by decide +kernel
theorem d_MO_step_100 : decode b_MO_step 100 = .ok (.if_icmp .ne 17, 3) := by decide +kernel
theorem d_MO_step_103 : decode b_MO_step 103 = .ok (.aload_n 0, 1) := by decide +kernel
theorem d_MO_step_104 : decode b_MO_step 104 = .ok (.getfield 77, 3) := by decide +kernel
theorem d_MO_step_107 : decode b_MO_step 107 = .ok (.iconst 4, 1) := by decide +kernel
theorem d_MO_step_108 : decode b_MO_step 108 = .ok (.iload_n 1, 1) := by decide +kernel
theorem d_MO_step_109 : decode b_MO_step 109 = .ok (.imul, 1) := by decide +kernel
theorem d_MO_step_110 : decode b_MO_step 110 = .ok (.iconst 1, 1) := by decide +kernel
theorem d_MO_step_111 : decode b_MO_step 111 = .ok (.iadd, 1) := by decide +kernel
theorem d_MO_step_112 : decode b_MO_step 112 = .ok (.dup2, 1) := by decide +kernel
theorem d_MO_step_113 : decode b_MO_step 113 = .ok (.iaload, 1) := by decide +kernel
theorem d_MO_step_114 : decode b_MO_step 114 = .ok (.iconst 1, 1) := by decide +kernel
theorem d_MO_step_115 : decode b_MO_step 115 = .ok (.iadd, 1) := by decide +kernel
theorem d_MO_step_116 : decode b_MO_step 116 = .ok (.iastore, 1) := by decide +kernel
theorem d_MO_step_117 : decode b_MO_step 117 = .ok (.iload_n 2, 1) := by decide +kernel
theorem d_MO_step_118 : decode b_MO_step 118 = .ok (.ireturn, 1) := by decide +kernel
theorem d_MO_searches_0 : decode b_MO_searches 0 = .ok (.aload_n 0, 1) := by decide +kernel
theorem d_MO_searches_1 : decode b_MO_searches 1 = .ok (.getfield 53, 3) := by decide +kernel
theorem d_MO_searches_4 : decode b_MO_searches 4 = .ok (.iload_n 1, 1) := by decide +kernel
theorem d_MO_searches_5 : decode b_MO_searches 5 = .ok (.iaload, 1) := by decide +kernel
theorem d_MO_searches_6 : decode b_MO_searches 6 = .ok (.istore_n 2, 1) := by decide +kernel
theorem d_MO_searches_7 : decode b_MO_searches 7 = .ok (.aload_n 0, 1) := by decide +kernel
theorem d_MO_searches_8 : decode b_MO_searches 8 = .ok (.getfield 47, 3) := by decide +kernel
theorem d_MO_searches_11 : decode b_MO_searches 11 = .ok (.iload_n 1, 1) := by decide +kernel
theorem d_MO_searches_12 : decode b_MO_searches 12 = .ok (.iaload, 1) := by decide +kernel
theorem d_MO_searches_13 : decode b_MO_searches 13 = .ok (.iconst 3, 1) := by decide +kernel
theorem d_MO_searches_14 : decode b_MO_searches 14 = .ok (.if_icmp .ne 20, 3) := by decide +kernel
theorem d_MO_searches_17 : decode b_MO_searches 17 = .ok (.aload_n 0, 1) := by decide +kernel
theorem d_MO_searches_18 : decode b_MO_searches 18 = .ok (.getfield 65, 3) := by decide +kernel
theorem d_MO_searches_21 : decode b_MO_searches 21 = .ok (.iload_n 1, 1) := by decide +kernel
theorem d_MO_searches_22 : decode b_MO_searches 22 = .ok (.iaload, 1) := by decide +kernel
theorem d_MO_searches_23 : decode b_MO_searches 23 = .ok (.iconst (-1), 1) := by decide +kernel
theorem d_MO_searches_24 : decode b_MO_searches 24 = .ok (.if_icmp .ne 10, 3) := by decide +kernel
theorem d_MO_searches_27 : decode b_MO_searches 27 = .ok (.aload_n 0, 1) := by decide +kernel
theorem d_MO_searches_28 : decode b_MO_searches 28 = .ok (.iload_n 1, 1) := by decide +kernel
theorem d_MO_searches_29 : decode b_MO_searches 29 = .ok (.iconst 0, 1) := by decide +kernel
theorem d_MO_searches_30 : decode b_MO_searches 30 = .ok (.invokevirtual 126, 3) := by decide +kernel
theorem d_MO_searches_33 : decode b_MO_searches 33 = .ok (.ireturn, 1) := by decide +kernel
theorem d_MO_searches_34 : decode b_MO_searches 34 = .ok (.aload_n 0, 1) := by decide +kernel
theorem d_MO_searches_35 : decode b_MO_searches 35 = .ok (.iload_n 1, 1) := by decide +kernel
theorem d_MO_searches_36 : decode b_MO_searches 36 = .ok (.invokevirtual 129, 3) := by decide +kernel
theorem d_MO_searches_39 : decode b_MO_searches 39 = .ok (.ifCond .eq 9, 3) := by decide +kernel
theorem d_MO_searches_42 : decode b_MO_searches 42 = .ok (.aload_n 0, 1) := by decide +kernel
theorem d_MO_searches_43 : decode b_MO_searches 43 = .ok (.iload_n 1, 1) := by decide +kernel
theorem d_MO_searches_44 : decode b_MO_searches 44 = .ok (.invokevirtual 132, 3) := by decide +kernel
theorem d_MO_searches_47 : decode b_MO_searches 47 = .ok (.ireturn, 1) := by decide +kernel
theorem d_MO_searches_48 : decode b_MO_searches 48 = .ok (.aload_n 0, 1) := by decide +kernel
theorem d_MO_searches_49 : decode b_MO_searches 49 = .ok (.getfield 19, 3) := by decide +kernel
theorem d_MO_searches_52 : decode b_MO_searches 52 = .ok (.iload_n 2, 1) := by decide +kernel
theorem d_MO_searches_53 : decode b_MO_searches 53 = .ok (.iaload, 1) := by decide +kernel
theorem d_MO_searches_54 : decode b_MO_searches 54 = .ok (.aload_n 0, 1) := by decide +kernel
theorem d_MO_searches_55 : decode b_MO_searches 55 = .ok (.getfield 56, 3) := by decide +kernel
theorem d_MO_searches_58 : decode b_MO_searches 58 = .ok (.iload_n 1, 1) := by decide +kernel
theorem d_MO_searches_59 : decode b_MO_searches 59 = .ok (.iaload, 1) := by decide +kernel
theorem d_MO_searches_60 : decode b_MO_searches 60 = .ok (.if_icmp .ge 11, 3) := by decide +kernel
theorem d_MO_searches_63 : decode b_MO_searches 63 = .ok (.aload_n 0, 1) := by decide +kernel
theorem d_MO_searches_64 : decode b_MO_searches 64 = .ok (.iload_n 1, 1) := by decide +kernel
theorem d_MO_searches_65 : decode b_MO_searches 65 = .ok (.invokevirtual 136, 3) := by decide +kernel
theorem d_MO_searches_68 : decode b_MO_searches 68 = .ok (.goto 145, 3) := by decide +kernel
theorem d_MO_searches_71 : decode b_MO_searches 71 = .ok (.aload_n 0, 1) := by decide +kernel
theorem d_MO_searches_72 : decode b_MO_searches 72 = .ok (.getfield 13, 3) := by decide +kernel
theorem d_MO_searches_75 : decode b_MO_searches 75 = .ok (.iload_n 2, 1) := by decide +kernel
theorem d_MO_searches_76 : decode b_MO_searches 76 = .ok (.iaload, 1) := by decide +kernel
theorem d_MO_searches_77 : decode b_MO_searches 77 = .ok (.aload_n 0, 1) := by decide +kernel
theorem d_MO_searches_78 : decode b_MO_searches 78 = .ok (.getfield 59, 3) := by decide +kernel
theorem d_MO_searches_81 : decode b_MO_searches 81 = .ok (.iload_n 1, 1) := by decide +kernel
theorem d_MO_searches_82 : decode b_MO_searches 82 = .ok (.iaload, 1) := by decide +kernel
theorem d_MO_searches_83 : decode b_MO_searches 83 = .ok (.if_icmp .le 49, 3) := by decide +kernel
theorem d_MO_searches_86 : decode b_MO_searches 86 = .ok (.aload_n 0, 1) := by decide +kernel
theorem d_MO_searches_87 : decode b_MO_searches 87 = .ok (.getfield 68, 3) := by decide +kernel
theorem d_MO_searches_90 : decode b_MO_searches 90 = .ok (.bipush 32, 2) := by decide +kernel
theorem d_MO_searches_92 : decode b_MO_searches 92 = .ok (.iload_n 1, 1) := by decide +kernel
theorem d_MO_searches_93 : decode b_MO_searches 93 = .ok (.imul, 1) := by decide +kernel
theorem d_MO_searches_94 : decode b_MO_searches 94 = .ok (.aload_n 0, 1) := by decide +kernel
theorem d_MO_searches_95 : decode b_MO_searches 95 = .ok (.getfield 13, 3) := by decide +kernel
theorem d_MO_searches_98 : decode b_MO_searches 98 = .ok (.iload_n 2, 1) := by decide +kernel
theorem d_MO_searches_99 : decode b_MO_searches 99 = .ok (.iaload, 1) := by decide +kernel
theorem d_MO_searches_100 : decode b_MO_searches 100 = .ok (.iadd, 1) := by decide +kernel
theorem d_MO_searches_101 : decode b_MO_searches 101 = .ok (.iload_n 2, 1) := by decide +kernel
theorem d_MO_searches_102 : decode b_MO_searches 102 = .ok (.iastore, 1) := by decide +kernel
theorem d_MO_searches_103 : decode b_MO_searches 103 = .ok (.aload_n 0, 1) := by decide +kernel
theorem d_MO_searches_104 : decode b_MO_searches 104 = .ok (.getfield 53, 3) := by decide +kernel
theorem d_MO_searches_107 : decode b_MO_searches 107 = .ok (.iload_n 1, 1) := by decide +kernel
theorem d_MO_searches_108 : decode b_MO_searches 108 = .ok (.aload_n 0, 1) := by decide +kernel
theorem d_MO_searches_109 : decode b_MO_searches 109 = .ok (.getfield 34, 3) := by decide +kernel
theorem d_MO_searches_112 : decode b_MO_searches 112 = .ok (.iconst 5, 1) := by decide +kernel
theorem d_MO_searches_113 : decode b_MO_searches 113 = .ok (.iload_n 2, 1) := by decide +kernel
theorem d_MO_searches_114 : decode b_MO_searches 114 = .ok (.imul, 1) := by decide +kernel
theorem d_MO_searches_115 : decode b_MO_searches 115 = .ok (.aload_n 0, 1) := by decide +kernel
theorem d_MO_searches_116 : decode b_MO_searches 116 = .ok (.iload_n 2, 1) := by decide +kernel
theorem d_MO_searches_117 : decode b_MO_searches 117 = .ok (.aload_n 0, 1) := by decide +kernel
theorem d_MO_searches_118 : decode b_MO_searches 118 = .ok (.getfield 56, 3) := by decide +kernel
theorem d_MO_searches_121 : decode b_MO_searches 121 = .ok (.iload_n 1, 1) := by decide +kernel
theorem d_MO_searches_122 : decode b_MO_searches 122 = .ok (.iaload, 1) := by decide +kernel
theorem d_MO_searches_123 : decode b_MO_searches 123 = .ok (.invokevirtual 87, 3) := by decide +kernel
theorem d_MO_searches_126 : decode b_MO_searches 126 = .ok (.iadd, 1) := by decide +kernel
theorem d_MO_searches_127 : decode b_MO_searches 127 = .ok (.iaload, 1) := by decide +kernel
theorem d_MO_searches_128 : decode b_MO_searches 128 = .ok (.iastore, 1) := by decide +kernel
theorem d_MO_searches_129 : decode b_MO_searches 129 = .ok (.goto 84, 3) := by decide +kernel
theorem d_MO_searches_132 : decode b_MO_searches 132 = .ok (.aload_n 0, 1) := by decide +kernel
theorem d_MO_searches_133 : decode b_MO_searches 133 = .ok (.getfield 13, 3) := by decide +kernel
theorem d_MO_searches_136 : decode b_MO_searches 136 = .ok (.iload_n 2, 1) := by decide +kernel
theorem d_MO_searches_137 : decode b_MO_searches 137 = .ok (.iaload, 1) := by decide +kernel
theorem d_MO_searches_138 : decode b_MO_searches 138 = .ok (.aload_n 0, 1) := by decide +kernel
theorem d_MO_searches_139 : decode b_MO_searches 139 = .ok (.getfield 59, 3) := by decide +kernel
theorem d_MO_searches_142 : decode b_MO_searches 142 = .ok (.iload_n 1, 1) := by decide +kernel
theorem d_MO_searches_143 : decode b_MO_searches 143 = .ok (.iaload, 1) := by decide +kernel
theorem d_MO_searches_144 : decode b_MO_searches 144 = .ok (.if_icmp .ge 9, 3) := by decide +kernel
theorem d_MO_searches_147 : decode b_MO_searches 147 = .ok (.aload_n 0, 1) := by decide +kernel
theorem d_MO_searches_148 : decode b_MO_searches 148 = .ok (.iload_n 1, 1) := by decide +kernel
theorem d_MO_searches_149 : decode b_MO_searches 149 = .ok (.invokevirtual 139, 3) := by decide +kernel
theorem d_MO_searches_152 : decode b_MO_searches 152 = .ok (.ireturn, 1) := by decide +kernel
theorem d_MO_searches_153 : decode b_MO_searches 153 = .ok (.aload_n 0, 1) := by decide +kernel
theorem d_MO_searches_154 : decode b_MO_searches 154 = .ok (.getfield 47, 3) := by decide +kernel
theorem d_MO_searches_157 : decode b_MO_searches 157 = .ok (.iload_n 1, 1) := by decide +kernel
theorem d_MO_searches_158 : decode b_MO_searches 158 = .ok (.iaload, 1) := by decide +kernel
theorem d_MO_searches_159 : decode b_MO_searches 159 = .ok (.ifCond .ne 47, 3) := by decide +kernel
theorem d_MO_searches_162 : decode b_MO_searches 162 = .ok (.aload_n 0, 1) := by decide +kernel
theorem d_MO_searches_163 : decode b_MO_searches 163 = .ok (.iload_n 1, 1) := by decide +kernel
theorem d_MO_searches_164 : decode b_MO_searches 164 = .ok (.aload_n 0, 1) := by decide +kernel
theorem d_MO_searches_165 : decode b_MO_searches 165 = .ok (.iload_n 2, 1) := by decide +kernel
theorem d_MO_searches_166 : decode b_MO_searches 166 = .ok (.aload_n 0, 1) := by decide +kernel
theorem d_MO_searches_167 : decode b_MO_searches 167 = .ok (.getfield 56, 3) := by decide +kernel
theorem d_MO_searches_170 : decode b_MO_searches 170 = .ok (.iload_n 1, 1) := by decide +kernel
theorem d_MO_searches_171 : decode b_MO_searches 171 = .ok (.iaload, 1) := by decide +kernel
theorem d_MO_searches_172 : decode b_MO_searches 172 = .ok (.invokevirtual 142, 3) := by decide +kernel
theorem d_MO_searches_175 : decode b_MO_searches 175 = .ok (.ifCond .eq 26, 3) := by decide +kernel
theorem d_MO_searches_178 : decode b_MO_searches 178 = .ok (.aload_n 0, 1) := by decide +kernel
theorem d_MO_searches_179 : decode b_MO_searches 179 = .ok (.getfield 34, 3) := by decide +kernel
theorem d_MO_searches_182 : decode b_MO_searches 182 = .ok (.iconst 5, 1) := by decide +kernel
theorem d_MO_searches_183 : decode b_MO_searches 183 = .ok (.iload_n 2, 1) := by decide +kernel
theorem d_MO_searches_184 : decode b_MO_searches 184 = .ok (.imul, 1) := by decide +kernel
theorem d_MO_searches_185 : decode b_MO_searches 185 = .ok (.aload_n 0, 1) := by decide +kernel
theorem d_MO_searches_186 : decode b_MO_searches 186 = .ok (.iload_n 2, 1) := by decide +kernel
theorem d_MO_searches_187 : decode b_MO_searches 187 = .ok (.aload_n 0, 1) := by decide +kernel
theorem d_MO_searches_188 : decode b_MO_searches 188 = .ok (.getfield 56, 3) := by decide +kernel
theorem d_MO_searches_191 : decode b_MO_searches 191 = .ok (.iload_n 1, 1) := by decide +kernel
theorem d_MO_searches_192 : decode b_MO_searches 192 = .ok (.iaload, 1) := by decide +kernel
theorem d_MO_searches_193 : decode b_MO_searches 193 = .ok (.invokevirtual 87, 3) := by decide +kernel
theorem d_MO_searches_196 : decode b_MO_searches 196 = .ok (.iadd, 1) := by decide +kernel
theorem d_MO_searches_197 : decode b_MO_searches 197 = .ok (.iaload, 1) := by decide +kernel
theorem d_MO_searches_198 : decode b_MO_searches 198 = .ok (.goto 4, 3) := by decide +kernel
theorem d_MO_searches_201 : decode b_MO_searches 201 = .ok (.iconst (-1), 1) := by decide +kernel
theorem d_MO_searches_202 : decode b_MO_searches 202 = .ok (.invokevirtual 126, 3) := by decide +kernel
theorem d_MO_searches_205 : decode b_MO_searches 205 = .ok (.ireturn, 1) := by decide +kernel
theorem d_MO_searches_206 : decode b_MO_searches 206 = .ok (.aload_n 0, 1) := by decide +kernel
theorem d_MO_searches_207 : decode b_MO_searches 207 = .ok (.getfield 50, 3) := by decide +kernel
theorem d_MO_searches_210 : decode b_MO_searches 210 = .ok (.iload_n 1, 1) := by decide +kernel
theorem d_MO_searches_211 : decode b_MO_searches 211 = .ok (.iconst 1, 1) := by decide +kernel
theorem d_MO_searches_212 : decode b_MO_searches 212 = .ok (.iastore, 1) := by decide +kernel
theorem d_MO_searches_213 : decode b_MO_searches 213 = .ok (.iconst 0, 1) := by decide +kernel
theorem d_MO_searches_214 : decode b_MO_searches 214 = .ok (.ireturn, 1) := by decide +kernel
theorem d_MO_finish_0 : decode b_MO_finish 0 = .ok (.aload_n 0, 1) := by decide +kernel
theorem d_MO_finish_1 : decode b_MO_finish 1 = .ok (.getfield 74, 3) := by decide +kernel
theorem d_MO_finish_4 : decode b_MO_finish 4 = .ok (.iload_n 1, 1) := by decide +kernel
theorem d_MO_finish_5 : decode b_MO_finish 5 = .ok (.iload_n 2, 1) := by decide +kernel
theorem d_MO_finish_6 : decode b_MO_finish 6 = .ok (.iastore, 1) := by decide +kernel
theorem d_MO_finish_7 : decode b_MO_finish 7 = .ok (.aload_n 0, 1) := by decide +kernel
theorem d_MO_finish_8 : decode b_MO_finish 8 = .ok (.getfield 71, 3) := by decide +kernel
theorem d_MO_finish_11 : decode b_MO_finish 11 = .ok (.iload_n 1, 1) := by decide +kernel
theorem d_MO_finish_12 : decode b_MO_finish 12 = .ok (.iconst 1, 1) := by decide +kernel
theorem d_MO_finish_13 : decode b_MO_finish 13 = .ok (.bastore, 1) := by decide +kernel
theorem d_MO_finish_14 : decode b_MO_finish 14 = .ok (.aload_n 0, 1) := by decide +kernel
theorem d_MO_finish_15 : decode b_MO_finish 15 = .ok (.getfield 43, 3) := by decide +kernel
theorem d_MO_finish_18 : decode b_MO_finish 18 = .ok (.iload_n 1, 1) := by decide +kernel
theorem d_MO_finish_19 : decode b_MO_finish 19 = .ok (.iconst 0, 1) := by decide +kernel
theorem d_MO_finish_20 : decode b_MO_finish 20 = .ok (.bastore, 1) := by decide +kernel
theorem d_MO_finish_21 : decode b_MO_finish 21 = .ok (.iconst 0, 1) := by decide +kernel
theorem d_MO_finish_22 : decode b_MO_finish 22 = .ok (.istore_n 3, 1) := by decide +kernel
theorem d_MO_finish_23 : decode b_MO_finish 23 = .ok (.iload_n 3, 1) := by decide +kernel
theorem d_MO_finish_24 : decode b_MO_finish 24 = .ok (.bipush 24, 2) := by decide +kernel
theorem d_MO_finish_26 : decode b_MO_finish 26 = .ok (.if_icmp .ge 28, 3) := by decide +kernel
theorem d_MO_finish_29 : decode b_MO_finish 29 = .ok (.aload_n 0, 1) := by decide +kernel
theorem d_MO_finish_30 : decode b_MO_finish 30 = .ok (.getfield 37, 3) := by decide +kernel
theorem d_MO_finish_33 : decode b_MO_finish 33 = .ok (.iload_n 3, 1) := by decide +kernel
theorem d_MO_finish_34 : decode b_MO_finish 34 = .ok (.dup2, 1) := by decide +kernel
theorem d_MO_finish_35 : decode b_MO_finish 35 = .ok (.iaload, 1) := by decide +kernel
theorem d_MO_finish_36 : decode b_MO_finish 36 = .ok (.iconst 1, 1) := by decide +kernel
theorem d_MO_finish_37 : decode b_MO_finish 37 = .ok (.iload_n 1, 1) := by decide +kernel
theorem d_MO_finish_38 : decode b_MO_finish 38 = .ok (.ishl, 1) := by decide +kernel
theorem d_MO_finish_39 : decode b_MO_finish 39 = .ok (.iconst (-1), 1) := by decide +kernel
theorem d_MO_finish_40 : decode b_MO_finish 40 = .ok (.ixor, 1) := by decide +kernel
theorem d_MO_finish_41 : decode b_MO_finish 41 = .ok (.iand, 1) := by decide +kernel
theorem d_MO_finish_42 : decode b_MO_finish 42 = .ok (.iastore, 1) := by decide +kernel
theorem d_MO_finish_43 : decode b_MO_finish 43 = .ok (.aload_n 0, 1) := by decide +kernel
theorem d_MO_finish_44 : decode b_MO_finish 44 = .ok (.iload_n 3, 1) := by decide +kernel
theorem d_MO_finish_45 : decode b_MO_finish 45 = .ok (.invokevirtual 98, 3) := by decide +kernel
theorem d_MO_finish_48 : decode b_MO_finish 48 = .ok (.iinc 3 1, 3) := by decide +kernel
theorem d_MO_finish_51 : decode b_MO_finish 51 = .ok (.goto (-28), 3) := by decide +kernel
theorem d_MO_finish_54 : decode b_MO_finish 54 = .ok (.iconst 2, 1) := by decide +kernel
theorem d_MO_finish_55 : decode b_MO_finish 55 = .ok (.ireturn, 1) := by decide +kernel
theorem d_MO_release_0 : decode b_MO_release 0 = .ok (.aload_n 0, 1) := by decide +kernel
theorem d_MO_release_1 : decode b_MO_release 1 = .ok (.getfield 7, 3) := by decide +kernel
theorem d_MO_release_4 : decode b_MO_release 4 = .ok (.iload_n 1, 1) := by decide +kernel
theorem d_MO_release_5 : decode b_MO_release 5 = .ok (.iaload, 1) := by decide +kernel
theorem d_MO_release_6 : decode b_MO_release 6 = .ok (.iconst 2, 1) := by decide +kernel
theorem d_MO_release_7 : decode b_MO_release 7 = .ok (.if_icmp .ne 19, 3) := by decide +kernel
theorem d_MO_release_10 : decode b_MO_release 10 = .ok (.aload_n 0, 1) := by decide +kernel
theorem d_MO_release_11 : decode b_MO_release 11 = .ok (.getfield 37, 3) := by decide +kernel
theorem d_MO_release_14 : decode b_MO_release 14 = .ok (.iload_n 1, 1) := by decide +kernel
theorem d_MO_release_15 : decode b_MO_release 15 = .ok (.iaload, 1) := by decide +kernel
theorem d_MO_release_16 : decode b_MO_release 16 = .ok (.ifCond .ne 10, 3) := by decide +kernel
theorem d_MO_release_19 : decode b_MO_release 19 = .ok (.aload_n 0, 1) := by decide +kernel
theorem d_MO_release_20 : decode b_MO_release 20 = .ok (.getfield 7, 3) := by decide +kernel
theorem d_MO_release_23 : decode b_MO_release 23 = .ok (.iload_n 1, 1) := by decide +kernel
theorem d_MO_release_24 : decode b_MO_release 24 = .ok (.iconst 0, 1) := by decide +kernel
theorem d_MO_release_25 : decode b_MO_release 25 = .ok (.iastore, 1) := by decide +kernel
theorem d_MO_release_26 : decode b_MO_release 26 = .ok (.return_, 1) := by decide +kernel
theorem d_MO_isLost_0 : decode b_MO_isLost 0 = .ok (.aload_n 0, 1) := by decide +kernel
theorem d_MO_isLost_1 : decode b_MO_isLost 1 = .ok (.getfield 53, 3) := by decide +kernel
theorem d_MO_isLost_4 : decode b_MO_isLost 4 = .ok (.iload_n 1, 1) := by decide +kernel
theorem d_MO_isLost_5 : decode b_MO_isLost 5 = .ok (.iaload, 1) := by decide +kernel
theorem d_MO_isLost_6 : decode b_MO_isLost 6 = .ok (.istore_n 2, 1) := by decide +kernel
theorem d_MO_isLost_7 : decode b_MO_isLost 7 = .ok (.aload_n 0, 1) := by decide +kernel
theorem d_MO_isLost_8 : decode b_MO_isLost 8 = .ok (.getfield 7, 3) := by decide +kernel
theorem d_MO_isLost_11 : decode b_MO_isLost 11 = .ok (.iload_n 2, 1) := by decide +kernel
theorem d_MO_isLost_12 : decode b_MO_isLost 12 = .ok (.iaload, 1) := by decide +kernel
theorem d_MO_isLost_13 : decode b_MO_isLost 13 = .ok (.iconst 1, 1) := by decide +kernel
theorem d_MO_isLost_14 : decode b_MO_isLost 14 = .ok (.if_icmp .ne 18, 3) := by decide +kernel
theorem d_MO_isLost_17 : decode b_MO_isLost 17 = .ok (.aload_n 0, 1) := by decide +kernel
theorem d_MO_isLost_18 : decode b_MO_isLost 18 = .ok (.getfield 16, 3) := by decide +kernel
theorem d_MO_isLost_21 : decode b_MO_isLost 21 = .ok (.iload_n 2, 1) := by decide +kernel
theorem d_MO_isLost_22 : decode b_MO_isLost 22 = .ok (.iaload, 1) := by decide +kernel
theorem d_MO_isLost_23 : decode b_MO_isLost 23 = .ok (.aload_n 0, 1) := by decide +kernel
theorem d_MO_isLost_24 : decode b_MO_isLost 24 = .ok (.getfield 56, 3) := by decide +kernel
theorem d_MO_isLost_27 : decode b_MO_isLost 27 = .ok (.iload_n 1, 1) := by decide +kernel
theorem d_MO_isLost_28 : decode b_MO_isLost 28 = .ok (.iaload, 1) := by decide +kernel
theorem d_MO_isLost_29 : decode b_MO_isLost 29 = .ok (.if_icmp .lt 7, 3) := by decide +kernel
theorem d_MO_isLost_32 : decode b_MO_isLost 32 = .ok (.iconst 1, 1) := by decide +kernel
theorem d_MO_isLost_33 : decode b_MO_isLost 33 = .ok (.goto 4, 3) := by decide +kernel
theorem d_MO_isLost_36 : decode b_MO_isLost 36 = .ok (.iconst 0, 1) := by decide +kernel
theorem d_MO_isLost_37 : decode b_MO_isLost 37 = .ok (.ireturn, 1) := by decide +kernel
theorem d_MO_restart_0 : decode b_MO_restart 0 = .ok (.aload_n 0, 1) := by decide +kernel
theorem d_MO_restart_1 : decode b_MO_restart 1 = .ok (.iload_n 1, 1) := by decide +kernel
theorem d_MO_restart_2 : decode b_MO_restart 2 = .ok (.invokevirtual 105, 3) := by decide +kernel
theorem d_MO_restart_5 : decode b_MO_restart 5 = .ok (.aload_n 0, 1) := by decide +kernel
theorem d_MO_restart_6 : decode b_MO_restart 6 = .ok (.iload_n 1, 1) := by decide +kernel
theorem d_MO_restart_7 : decode b_MO_restart 7 = .ok (.aload_n 0, 1) := by decide +kernel
theorem d_MO_restart_8 : decode b_MO_restart 8 = .ok (.getfield 108, 3) := by decide +kernel
theorem d_MO_restart_11 : decode b_MO_restart 11 = .ok (.invokevirtual 111, 3) := by decide +kernel
theorem d_MO_restart_14 : decode b_MO_restart 14 = .ok (.aload_n 0, 1) := by decide +kernel
theorem d_MO_restart_15 : decode b_MO_restart 15 = .ok (.getfield 77, 3) := by decide +kernel
theorem d_MO_restart_18 : decode b_MO_restart 18 = .ok (.iconst 4, 1) := by decide +kernel
theorem d_MO_restart_19 : decode b_MO_restart 19 = .ok (.iload_n 1, 1) := by decide +kernel
theorem d_MO_restart_20 : decode b_MO_restart 20 = .ok (.imul, 1) := by decide +kernel
theorem d_MO_restart_21 : decode b_MO_restart 21 = .ok (.iconst 3, 1) := by decide +kernel
theorem d_MO_restart_22 : decode b_MO_restart 22 = .ok (.iadd, 1) := by decide +kernel
theorem d_MO_restart_23 : decode b_MO_restart 23 = .ok (.dup2, 1) := by decide +kernel
theorem d_MO_restart_24 : decode b_MO_restart 24 = .ok (.iaload, 1) := by decide +kernel
theorem d_MO_restart_25 : decode b_MO_restart 25 = .ok (.iconst 1, 1) := by decide +kernel
theorem d_MO_restart_26 : decode b_MO_restart 26 = .ok (.iadd, 1) := by decide +kernel
theorem d_MO_restart_27 : decode b_MO_restart 27 = .ok (.iastore, 1) := by decide +kernel
theorem d_MO_restart_28 : decode b_MO_restart 28 = .ok (.iconst 0, 1) := by decide +kernel
theorem d_MO_restart_29 : decode b_MO_restart 29 = .ok (.ireturn, 1) := by decide +kernel
theorem d_MO_goRight_0 : decode b_MO_goRight 0 = .ok (.aload_n 0, 1) := by decide +kernel
theorem d_MO_goRight_1 : decode b_MO_goRight 1 = .ok (.getfield 53, 3) := by decide +kernel
theorem d_MO_goRight_4 : decode b_MO_goRight 4 = .ok (.iload_n 1, 1) := by decide +kernel
theorem d_MO_goRight_5 : decode b_MO_goRight 5 = .ok (.aload_n 0, 1) := by decide +kernel
theorem d_MO_goRight_6 : decode b_MO_goRight 6 = .ok (.getfield 22, 3) := by decide +kernel
theorem d_MO_goRight_9 : decode b_MO_goRight 9 = .ok (.aload_n 0, 1) := by decide +kernel
theorem d_MO_goRight_10 : decode b_MO_goRight 10 = .ok (.getfield 53, 3) := by decide +kernel
theorem d_MO_goRight_13 : decode b_MO_goRight 13 = .ok (.iload_n 1, 1) := by decide +kernel
theorem d_MO_goRight_14 : decode b_MO_goRight 14 = .ok (.iaload, 1) := by decide +kernel
theorem d_MO_goRight_15 : decode b_MO_goRight 15 = .ok (.iaload, 1) := by decide +kernel
theorem d_MO_goRight_16 : decode b_MO_goRight 16 = .ok (.iastore, 1) := by decide +kernel
theorem d_MO_goRight_17 : decode b_MO_goRight 17 = .ok (.aload_n 0, 1) := by decide +kernel
theorem d_MO_goRight_18 : decode b_MO_goRight 18 = .ok (.getfield 77, 3) := by decide +kernel
theorem d_MO_goRight_21 : decode b_MO_goRight 21 = .ok (.iconst 4, 1) := by decide +kernel
theorem d_MO_goRight_22 : decode b_MO_goRight 22 = .ok (.iload_n 1, 1) := by decide +kernel
theorem d_MO_goRight_23 : decode b_MO_goRight 23 = .ok (.imul, 1) := by decide +kernel
theorem d_MO_goRight_24 : decode b_MO_goRight 24 = .ok (.iconst 2, 1) := by decide +kernel
theorem d_MO_goRight_25 : decode b_MO_goRight 25 = .ok (.iadd, 1) := by decide +kernel
theorem d_MO_goRight_26 : decode b_MO_goRight 26 = .ok (.dup2, 1) := by decide +kernel
theorem d_MO_goRight_27 : decode b_MO_goRight 27 = .ok (.iaload, 1) := by decide +kernel
theorem d_MO_goRight_28 : decode b_MO_goRight 28 = .ok (.iconst 1, 1) := by decide +kernel
theorem d_MO_goRight_29 : decode b_MO_goRight 29 = .ok (.iadd, 1) := by decide +kernel
theorem d_MO_goRight_30 : decode b_MO_goRight 30 = .ok (.iastore, 1) := by decide +kernel
theorem d_MO_goRight_31 : decode b_MO_goRight 31 = .ok (.return_, 1) := by decide +kernel
theorem d_MO_from_0 : decode b_MO_from 0 = .ok (.iconst 0, 1) := by decide +kernel
theorem d_MO_from_1 : decode b_MO_from 1 = .ok (.istore_n 3, 1) := by decide +kernel
theorem d_MO_from_2 : decode b_MO_from 2 = .ok (.iload_n 3, 1) := by decide +kernel
theorem d_MO_from_3 : decode b_MO_from 3 = .ok (.aload_n 0, 1) := by decide +kernel
theorem d_MO_from_4 : decode b_MO_from 4 = .ok (.getfield 25, 3) := by decide +kernel
theorem d_MO_from_7 : decode b_MO_from 7 = .ok (.iload_n 1, 1) := by decide +kernel
theorem d_MO_from_8 : decode b_MO_from 8 = .ok (.iaload, 1) := by decide +kernel
theorem d_MO_from_9 : decode b_MO_from 9 = .ok (.if_icmp .ge 23, 3) := by decide +kernel
theorem d_MO_from_12 : decode b_MO_from 12 = .ok (.aload_n 0, 1) := by decide +kernel
theorem d_MO_from_13 : decode b_MO_from 13 = .ok (.getfield 31, 3) := by decide +kernel
theorem d_MO_from_16 : decode b_MO_from 16 = .ok (.iconst 5, 1) := by decide +kernel
theorem d_MO_from_17 : decode b_MO_from 17 = .ok (.iload_n 1, 1) := by decide +kernel
theorem d_MO_from_18 : decode b_MO_from 18 = .ok (.imul, 1) := by decide +kernel
theorem d_MO_from_19 : decode b_MO_from 19 = .ok (.iload_n 3, 1) := by decide +kernel
theorem d_MO_from_20 : decode b_MO_from 20 = .ok (.iadd, 1) := by decide +kernel
theorem d_MO_from_21 : decode b_MO_from 21 = .ok (.iaload, 1) := by decide +kernel
theorem d_MO_from_22 : decode b_MO_from 22 = .ok (.iload_n 2, 1) := by decide +kernel
theorem d_MO_from_23 : decode b_MO_from 23 = .ok (.if_icmp .ge 9, 3) := by decide +kernel
theorem d_MO_from_26 : decode b_MO_from 26 = .ok (.iinc 3 1, 3) := by decide +kernel
theorem d_MO_from_29 : decode b_MO_from 29 = .ok (.goto (-27), 3) := by decide +kernel
theorem d_MO_from_32 : decode b_MO_from 32 = .ok (.iload_n 3, 1) := by decide +kernel
theorem d_MO_from_33 : decode b_MO_from 33 = .ok (.ireturn, 1) := by decide +kernel
theorem d_MO_rises_0 : decode b_MO_rises 0 = .ok (.aload_n 0, 1) := by decide +kernel
theorem d_MO_rises_1 : decode b_MO_rises 1 = .ok (.getfield 47, 3) := by decide +kernel
theorem d_MO_rises_4 : decode b_MO_rises 4 = .ok (.iload_n 1, 1) := by decide +kernel
theorem d_MO_rises_5 : decode b_MO_rises 5 = .ok (.iaload, 1) := by decide +kernel
theorem d_MO_rises_6 : decode b_MO_rises 6 = .ok (.iconst 3, 1) := by decide +kernel
theorem d_MO_rises_7 : decode b_MO_rises 7 = .ok (.if_icmp .ne 10, 3) := by decide +kernel
theorem d_MO_rises_10 : decode b_MO_rises 10 = .ok (.aload_n 0, 1) := by decide +kernel
theorem d_MO_rises_11 : decode b_MO_rises 11 = .ok (.iload_n 1, 1) := by decide +kernel
theorem d_MO_rises_12 : decode b_MO_rises 12 = .ok (.iconst 0, 1) := by decide +kernel
theorem d_MO_rises_13 : decode b_MO_rises 13 = .ok (.invokevirtual 126, 3) := by decide +kernel
theorem d_MO_rises_16 : decode b_MO_rises 16 = .ok (.ireturn, 1) := by decide +kernel
theorem d_MO_rises_17 : decode b_MO_rises 17 = .ok (.aload_n 0, 1) := by decide +kernel
theorem d_MO_rises_18 : decode b_MO_rises 18 = .ok (.getfield 13, 3) := by decide +kernel
theorem d_MO_rises_21 : decode b_MO_rises 21 = .ok (.aload_n 0, 1) := by decide +kernel
theorem d_MO_rises_22 : decode b_MO_rises 22 = .ok (.getfield 108, 3) := by decide +kernel
theorem d_MO_rises_25 : decode b_MO_rises 25 = .ok (.iaload, 1) := by decide +kernel
theorem d_MO_rises_26 : decode b_MO_rises 26 = .ok (.aload_n 0, 1) := by decide +kernel
theorem d_MO_rises_27 : decode b_MO_rises 27 = .ok (.getfield 59, 3) := by decide +kernel
theorem d_MO_rises_30 : decode b_MO_rises 30 = .ok (.iload_n 1, 1) := by decide +kernel
theorem d_MO_rises_31 : decode b_MO_rises 31 = .ok (.iaload, 1) := by decide +kernel
theorem d_MO_rises_32 : decode b_MO_rises 32 = .ok (.if_icmp .lt 9, 3) := by decide +kernel
theorem d_MO_rises_35 : decode b_MO_rises 35 = .ok (.aload_n 0, 1) := by decide +kernel
theorem d_MO_rises_36 : decode b_MO_rises 36 = .ok (.iload_n 1, 1) := by decide +kernel
theorem d_MO_rises_37 : decode b_MO_rises 37 = .ok (.invokevirtual 132, 3) := by decide +kernel
theorem d_MO_rises_40 : decode b_MO_rises 40 = .ok (.ireturn, 1) := by decide +kernel
theorem d_MO_rises_41 : decode b_MO_rises 41 = .ok (.aload_n 0, 1) := by decide +kernel
theorem d_MO_rises_42 : decode b_MO_rises 42 = .ok (.invokevirtual 146, 3) := by decide +kernel
theorem d_MO_rises_45 : decode b_MO_rises 45 = .ok (.istore_n 2, 1) := by decide +kernel
theorem d_MO_rises_46 : decode b_MO_rises 46 = .ok (.iload_n 2, 1) := by decide +kernel
theorem d_MO_rises_47 : decode b_MO_rises 47 = .ok (.iconst (-1), 1) := by decide +kernel
theorem d_MO_rises_48 : decode b_MO_rises 48 = .ok (.if_icmp .ne 10, 3) := by decide +kernel
theorem d_MO_rises_51 : decode b_MO_rises 51 = .ok (.aload_n 0, 1) := by decide +kernel
theorem d_MO_rises_52 : decode b_MO_rises 52 = .ok (.iload_n 1, 1) := by decide +kernel
theorem d_MO_rises_53 : decode b_MO_rises 53 = .ok (.iconst (-1), 1) := by decide +kernel
theorem d_MO_rises_54 : decode b_MO_rises 54 = .ok (.invokevirtual 126, 3) := by decide +kernel
theorem d_MO_rises_57 : decode b_MO_rises 57 = .ok (.ireturn, 1) := by decide +kernel
theorem d_MO_rises_58 : decode b_MO_rises 58 = .ok (.aload_n 0, 1) := by decide +kernel
theorem d_MO_rises_59 : decode b_MO_rises 59 = .ok (.iload_n 2, 1) := by decide +kernel
theorem d_MO_rises_60 : decode b_MO_rises 60 = .ok (.aload_n 0, 1) := by decide +kernel
theorem d_MO_rises_61 : decode b_MO_rises 61 = .ok (.getfield 13, 3) := by decide +kernel
theorem d_MO_rises_64 : decode b_MO_rises 64 = .ok (.aload_n 0, 1) := by decide +kernel
theorem d_MO_rises_65 : decode b_MO_rises 65 = .ok (.getfield 108, 3) := by decide +kernel
theorem d_MO_rises_68 : decode b_MO_rises 68 = .ok (.iaload, 1) := by decide +kernel
theorem d_MO_rises_69 : decode b_MO_rises 69 = .ok (.iconst 1, 1) := by decide +kernel
theorem d_MO_rises_70 : decode b_MO_rises 70 = .ok (.iadd, 1) := by decide +kernel
theorem d_MO_rises_71 : decode b_MO_rises 71 = .ok (.iconst (-1), 1) := by decide +kernel
theorem d_MO_rises_72 : decode b_MO_rises 72 = .ok (.sipush 999, 3) := by decide +kernel
theorem d_MO_rises_75 : decode b_MO_rises 75 = .ok (.iconst (-1), 1) := by decide +kernel
theorem d_MO_rises_76 : decode b_MO_rises 76 = .ok (.invokevirtual 150, 3) := by decide +kernel
theorem d_MO_rises_79 : decode b_MO_rises 79 = .ok (.aload_n 0, 1) := by decide +kernel
theorem d_MO_rises_80 : decode b_MO_rises 80 = .ok (.iload_n 2, 1) := by decide +kernel
theorem d_MO_rises_81 : decode b_MO_rises 81 = .ok (.sipush 999, 3) := by decide +kernel
theorem d_MO_rises_84 : decode b_MO_rises 84 = .ok (.aload_n 0, 1) := by decide +kernel
theorem d_MO_rises_85 : decode b_MO_rises 85 = .ok (.getfield 108, 3) := by decide +kernel
theorem d_MO_rises_88 : decode b_MO_rises 88 = .ok (.invokevirtual 154, 3) := by decide +kernel
theorem d_MO_rises_91 : decode b_MO_rises 91 = .ok (.aload_n 0, 1) := by decide +kernel
theorem d_MO_rises_92 : decode b_MO_rises 92 = .ok (.iload_n 2, 1) := by decide +kernel
theorem d_MO_rises_93 : decode b_MO_rises 93 = .ok (.putfield 108, 3) := by decide +kernel
theorem d_MO_rises_96 : decode b_MO_rises 96 = .ok (.aload_n 0, 1) := by decide +kernel
theorem d_MO_rises_97 : decode b_MO_rises 97 = .ok (.getfield 53, 3) := by decide +kernel
theorem d_MO_rises_100 : decode b_MO_rises 100 = .ok (.iload_n 1, 1) := by decide +kernel
theorem d_MO_rises_101 : decode b_MO_rises 101 = .ok (.iload_n 2, 1) := by decide +kernel
theorem d_MO_rises_102 : decode b_MO_rises 102 = .ok (.iastore, 1) := by decide +kernel
theorem d_MO_rises_103 : decode b_MO_rises 103 = .ok (.iconst 0, 1) := by decide +kernel
theorem d_MO_rises_104 : decode b_MO_rises 104 = .ok (.ireturn, 1) := by decide +kernel
theorem d_MO_freePage_0 : decode b_MO_freePage 0 = .ok (.iconst 0, 1) := by decide +kernel
theorem d_MO_freePage_1 : decode b_MO_freePage 1 = .ok (.istore_n 1, 1) := by decide +kernel
theorem d_MO_freePage_2 : decode b_MO_freePage 2 = .ok (.iload_n 1, 1) := by decide +kernel
theorem d_MO_freePage_3 : decode b_MO_freePage 3 = .ok (.bipush 24, 2) := by decide +kernel
theorem d_MO_freePage_5 : decode b_MO_freePage 5 = .ok (.if_icmp .ge 20, 3) := by decide +kernel
theorem d_MO_freePage_8 : decode b_MO_freePage 8 = .ok (.aload_n 0, 1) := by decide +kernel
theorem d_MO_freePage_9 : decode b_MO_freePage 9 = .ok (.getfield 7, 3) := by decide +kernel
theorem d_MO_freePage_12 : decode b_MO_freePage 12 = .ok (.iload_n 1, 1) := by decide +kernel
theorem d_MO_freePage_13 : decode b_MO_freePage 13 = .ok (.iaload, 1) := by decide +kernel
theorem d_MO_freePage_14 : decode b_MO_freePage 14 = .ok (.ifCond .ne 5, 3) := by decide +kernel
theorem d_MO_freePage_17 : decode b_MO_freePage 17 = .ok (.iload_n 1, 1) := by decide +kernel
theorem d_MO_freePage_18 : decode b_MO_freePage 18 = .ok (.ireturn, 1) := by decide +kernel
theorem d_MO_freePage_19 : decode b_MO_freePage 19 = .ok (.iinc 1 1, 3) := by decide +kernel
theorem d_MO_freePage_22 : decode b_MO_freePage 22 = .ok (.goto (-20), 3) := by decide +kernel
theorem d_MO_freePage_25 : decode b_MO_freePage 25 = .ok (.iconst (-1), 1) := by decide +kernel
theorem d_MO_freePage_26 : decode b_MO_freePage 26 = .ok (.ireturn, 1) := by decide +kernel
theorem d_MO_make_0 : decode b_MO_make 0 = .ok (.aload_n 0, 1) := by decide +kernel
theorem d_MO_make_1 : decode b_MO_make 1 = .ok (.getfield 7, 3) := by decide +kernel
theorem d_MO_make_4 : decode b_MO_make 4 = .ok (.iload_n 1, 1) := by decide +kernel
theorem d_MO_make_5 : decode b_MO_make 5 = .ok (.iconst 1, 1) := by decide +kernel
theorem d_MO_make_6 : decode b_MO_make 6 = .ok (.iastore, 1) := by decide +kernel
theorem d_MO_make_7 : decode b_MO_make 7 = .ok (.aload_n 0, 1) := by decide +kernel
theorem d_MO_make_8 : decode b_MO_make 8 = .ok (.getfield 13, 3) := by decide +kernel
theorem d_MO_make_11 : decode b_MO_make 11 = .ok (.iload_n 1, 1) := by decide +kernel
theorem d_MO_make_12 : decode b_MO_make 12 = .ok (.iload_n 2, 1) := by decide +kernel
theorem d_MO_make_13 : decode b_MO_make 13 = .ok (.iastore, 1) := by decide +kernel
theorem d_MO_make_14 : decode b_MO_make 14 = .ok (.aload_n 0, 1) := by decide +kernel
theorem d_MO_make_15 : decode b_MO_make 15 = .ok (.getfield 16, 3) := by decide +kernel
theorem d_MO_make_18 : decode b_MO_make 18 = .ok (.iload_n 1, 1) := by decide +kernel
theorem d_MO_make_19 : decode b_MO_make 19 = .ok (.iload_n 3, 1) := by decide +kernel
theorem d_MO_make_20 : decode b_MO_make 20 = .ok (.iastore, 1) := by decide +kernel
theorem d_MO_make_21 : decode b_MO_make 21 = .ok (.aload_n 0, 1) := by decide +kernel
theorem d_MO_make_22 : decode b_MO_make 22 = .ok (.getfield 19, 3) := by decide +kernel
theorem d_MO_make_25 : decode b_MO_make 25 = .ok (.iload_n 1, 1) := by decide +kernel
theorem d_MO_make_26 : decode b_MO_make 26 = .ok (.iload 4, 2) := by decide +kernel
theorem d_MO_make_28 : decode b_MO_make 28 = .ok (.iastore, 1) := by decide +kernel
theorem d_MO_make_29 : decode b_MO_make 29 = .ok (.aload_n 0, 1) := by decide +kernel
theorem d_MO_make_30 : decode b_MO_make 30 = .ok (.getfield 22, 3) := by decide +kernel
theorem d_MO_make_33 : decode b_MO_make 33 = .ok (.iload_n 1, 1) := by decide +kernel
theorem d_MO_make_34 : decode b_MO_make 34 = .ok (.iload 5, 2) := by decide +kernel
theorem d_MO_make_36 : decode b_MO_make 36 = .ok (.iastore, 1) := by decide +kernel
theorem d_MO_make_37 : decode b_MO_make 37 = .ok (.aload_n 0, 1) := by decide +kernel
theorem d_MO_make_38 : decode b_MO_make 38 = .ok (.getfield 25, 3) := by decide +kernel
theorem d_MO_make_41 : decode b_MO_make 41 = .ok (.iload_n 1, 1) := by decide +kernel
theorem d_MO_make_42 : decode b_MO_make 42 = .ok (.iconst 0, 1) := by decide +kernel
theorem d_MO_make_43 : decode b_MO_make 43 = .ok (.iastore, 1) := by decide +kernel
theorem d_MO_make_44 : decode b_MO_make 44 = .ok (.aload_n 0, 1) := by decide +kernel
theorem d_MO_make_45 : decode b_MO_make 45 = .ok (.getfield 28, 3) := by decide +kernel
theorem d_MO_make_48 : decode b_MO_make 48 = .ok (.iload_n 1, 1) := by decide +kernel
theorem d_MO_make_49 : decode b_MO_make 49 = .ok (.iconst (-1), 1) := by decide +kernel
theorem d_MO_make_50 : decode b_MO_make 50 = .ok (.iastore, 1) := by decide +kernel
theorem d_MO_make_51 : decode b_MO_make 51 = .ok (.return_, 1) := by decide +kernel
theorem d_MO_append_0 : decode b_MO_append 0 = .ok (.aload_n 0, 1) := by decide +kernel
theorem d_MO_append_1 : decode b_MO_append 1 = .ok (.getfield 31, 3) := by decide +kernel
theorem d_MO_append_4 : decode b_MO_append 4 = .ok (.iconst 5, 1) := by decide +kernel
theorem d_MO_append_5 : decode b_MO_append 5 = .ok (.iload_n 1, 1) := by decide +kernel
theorem d_MO_append_6 : decode b_MO_append 6 = .ok (.imul, 1) := by decide +kernel
theorem d_MO_append_7 : decode b_MO_append 7 = .ok (.aload_n 0, 1) := by decide +kernel
theorem d_MO_append_8 : decode b_MO_append 8 = .ok (.getfield 25, 3) := by decide +kernel
theorem d_MO_append_11 : decode b_MO_append 11 = .ok (.iload_n 1, 1) := by decide +kernel
theorem d_MO_append_12 : decode b_MO_append 12 = .ok (.iaload, 1) := by decide +kernel
theorem d_MO_append_13 : decode b_MO_append 13 = .ok (.iadd, 1) := by decide +kernel
theorem d_MO_append_14 : decode b_MO_append 14 = .ok (.iload_n 2, 1) := by decide +kernel
theorem d_MO_append_15 : decode b_MO_append 15 = .ok (.iastore, 1) := by decide +kernel
theorem d_MO_append_16 : decode b_MO_append 16 = .ok (.aload_n 0, 1) := by decide +kernel
theorem d_MO_append_17 : decode b_MO_append 17 = .ok (.getfield 34, 3) := by decide +kernel
theorem d_MO_append_20 : decode b_MO_append 20 = .ok (.iconst 5, 1) := by decide +kernel
theorem d_MO_append_21 : decode b_MO_append 21 = .ok (.iload_n 1, 1) := by decide +kernel
theorem d_MO_append_22 : decode b_MO_append 22 = .ok (.imul, 1) := by decide +kernel
theorem d_MO_append_23 : decode b_MO_append 23 = .ok (.aload_n 0, 1) := by decide +kernel
theorem d_MO_append_24 : decode b_MO_append 24 = .ok (.getfield 25, 3) := by decide +kernel
theorem d_MO_append_27 : decode b_MO_append 27 = .ok (.iload_n 1, 1) := by decide +kernel
theorem d_MO_append_28 : decode b_MO_append 28 = .ok (.iaload, 1) := by decide +kernel
theorem d_MO_append_29 : decode b_MO_append 29 = .ok (.iadd, 1) := by decide +kernel
theorem d_MO_append_30 : decode b_MO_append 30 = .ok (.iload_n 3, 1) := by decide +kernel
theorem d_MO_append_31 : decode b_MO_append 31 = .ok (.iastore, 1) := by decide +kernel
theorem d_MO_append_32 : decode b_MO_append 32 = .ok (.aload_n 0, 1) := by decide +kernel
theorem d_MO_append_33 : decode b_MO_append 33 = .ok (.getfield 25, 3) := by decide +kernel
theorem d_MO_append_36 : decode b_MO_append 36 = .ok (.iload_n 1, 1) := by decide +kernel
theorem d_MO_append_37 : decode b_MO_append 37 = .ok (.dup2, 1) := by decide +kernel
theorem d_MO_append_38 : decode b_MO_append 38 = .ok (.iaload, 1) := by decide +kernel
theorem d_MO_append_39 : decode b_MO_append 39 = .ok (.iconst 1, 1) := by decide +kernel
theorem d_MO_append_40 : decode b_MO_append 40 = .ok (.iadd, 1) := by decide +kernel
theorem d_MO_append_41 : decode b_MO_append 41 = .ok (.iastore, 1) := by decide +kernel
theorem d_MO_append_42 : decode b_MO_append 42 = .ok (.return_, 1) := by decide +kernel
theorem d_MO_has_0 : decode b_MO_has 0 = .ok (.aload_n 0, 1) := by decide +kernel
theorem d_MO_has_1 : decode b_MO_has 1 = .ok (.iload_n 1, 1) := by decide +kernel
theorem d_MO_has_2 : decode b_MO_has 2 = .ok (.iload_n 2, 1) := by decide +kernel
theorem d_MO_has_3 : decode b_MO_has 3 = .ok (.invokevirtual 87, 3) := by decide +kernel
theorem d_MO_has_6 : decode b_MO_has 6 = .ok (.istore_n 3, 1) := by decide +kernel
theorem d_MO_has_7 : decode b_MO_has 7 = .ok (.iload_n 3, 1) := by decide +kernel
theorem d_MO_has_8 : decode b_MO_has 8 = .ok (.aload_n 0, 1) := by decide +kernel
theorem d_MO_has_9 : decode b_MO_has 9 = .ok (.getfield 25, 3) := by decide +kernel
theorem d_MO_has_12 : decode b_MO_has 12 = .ok (.iload_n 1, 1) := by decide +kernel
theorem d_MO_has_13 : decode b_MO_has 13 = .ok (.iaload, 1) := by decide +kernel
theorem d_MO_has_14 : decode b_MO_has 14 = .ok (.if_icmp .ge 21, 3) := by decide +kernel
theorem d_MO_has_17 : decode b_MO_has 17 = .ok (.aload_n 0, 1) := by decide +kernel
theorem d_MO_has_18 : decode b_MO_has 18 = .ok (.getfield 31, 3) := by decide +kernel
theorem d_MO_has_21 : decode b_MO_has 21 = .ok (.iconst 5, 1) := by decide +kernel
theorem d_MO_has_22 : decode b_MO_has 22 = .ok (.iload_n 1, 1) := by decide +kernel
theorem d_MO_has_23 : decode b_MO_has 23 = .ok (.imul, 1) := by decide +kernel
theorem d_MO_has_24 : decode b_MO_has 24 = .ok (.iload_n 3, 1) := by decide +kernel
theorem d_MO_has_25 : decode b_MO_has 25 = .ok (.iadd, 1) := by decide +kernel
theorem d_MO_has_26 : decode b_MO_has 26 = .ok (.iaload, 1) := by decide +kernel
theorem d_MO_has_27 : decode b_MO_has 27 = .ok (.iload_n 2, 1) := by decide +kernel
theorem d_MO_has_28 : decode b_MO_has 28 = .ok (.if_icmp .ne 7, 3) := by decide +kernel
theorem d_MO_has_31 : decode b_MO_has 31 = .ok (.iconst 1, 1) := by decide +kernel
theorem d_MO_has_32 : decode b_MO_has 32 = .ok (.goto 4, 3) := by decide +kernel
theorem d_MO_has_35 : decode b_MO_has 35 = .ok (.iconst 0, 1) := by decide +kernel
theorem d_MO_has_36 : decode b_MO_has 36 = .ok (.ireturn, 1) := by decide +kernel
theorem d_MO_locks_0 : decode b_MO_locks 0 = .ok (.aload_n 0, 1) := by decide +kernel
theorem d_MO_locks_1 : decode b_MO_locks 1 = .ok (.getfield 53, 3) := by decide +kernel
theorem d_MO_locks_4 : decode b_MO_locks 4 = .ok (.iload_n 1, 1) := by decide +kernel
theorem d_MO_locks_5 : decode b_MO_locks 5 = .ok (.iaload, 1) := by decide +kernel
theorem d_MO_locks_6 : decode b_MO_locks 6 = .ok (.istore_n 2, 1) := by decide +kernel
theorem d_MO_locks_7 : decode b_MO_locks 7 = .ok (.aload_n 0, 1) := by decide +kernel
theorem d_MO_locks_8 : decode b_MO_locks 8 = .ok (.getfield 28, 3) := by decide +kernel
theorem d_MO_locks_11 : decode b_MO_locks 11 = .ok (.iload_n 2, 1) := by decide +kernel
theorem d_MO_locks_12 : decode b_MO_locks 12 = .ok (.iaload, 1) := by decide +kernel
theorem d_MO_locks_13 : decode b_MO_locks 13 = .ok (.iconst (-1), 1) := by decide +kernel
theorem d_MO_locks_14 : decode b_MO_locks 14 = .ok (.if_icmp .eq 5, 3) := by decide +kernel
theorem d_MO_locks_17 : decode b_MO_locks 17 = .ok (.iconst 1, 1) := by decide +kernel
theorem d_MO_locks_18 : decode b_MO_locks 18 = .ok (.ireturn, 1) := by decide +kernel
theorem d_MO_locks_19 : decode b_MO_locks 19 = .ok (.aload_n 0, 1) := by decide +kernel
theorem d_MO_locks_20 : decode b_MO_locks 20 = .ok (.getfield 28, 3) := by decide +kernel
theorem d_MO_locks_23 : decode b_MO_locks 23 = .ok (.iload_n 2, 1) := by decide +kernel
theorem d_MO_locks_24 : decode b_MO_locks 24 = .ok (.iload_n 1, 1) := by decide +kernel
theorem d_MO_locks_25 : decode b_MO_locks 25 = .ok (.iastore, 1) := by decide +kernel
theorem d_MO_locks_26 : decode b_MO_locks 26 = .ok (.aload_n 0, 1) := by decide +kernel
theorem d_MO_locks_27 : decode b_MO_locks 27 = .ok (.getfield 50, 3) := by decide +kernel
theorem d_MO_locks_30 : decode b_MO_locks 30 = .ok (.iload_n 1, 1) := by decide +kernel
theorem d_MO_locks_31 : decode b_MO_locks 31 = .ok (.iconst 2, 1) := by decide +kernel
theorem d_MO_locks_32 : decode b_MO_locks 32 = .ok (.iastore, 1) := by decide +kernel
theorem d_MO_locks_33 : decode b_MO_locks 33 = .ok (.iconst 0, 1) := by decide +kernel
theorem d_MO_locks_34 : decode b_MO_locks 34 = .ok (.ireturn, 1) := by decide +kernel
theorem d_MO_holds_0 : decode b_MO_holds 0 = .ok (.aload_n 0, 1) := by decide +kernel
theorem d_MO_holds_1 : decode b_MO_holds 1 = .ok (.getfield 53, 3) := by decide +kernel
theorem d_MO_holds_4 : decode b_MO_holds 4 = .ok (.iload_n 1, 1) := by decide +kernel
theorem d_MO_holds_5 : decode b_MO_holds 5 = .ok (.iaload, 1) := by decide +kernel
theorem d_MO_holds_6 : decode b_MO_holds 6 = .ok (.istore_n 2, 1) := by decide +kernel
theorem d_MO_holds_7 : decode b_MO_holds 7 = .ok (.iconst 0, 1) := by decide +kernel
theorem d_MO_holds_8 : decode b_MO_holds 8 = .ok (.istore_n 3, 1) := by decide +kernel
theorem d_MO_holds_9 : decode b_MO_holds 9 = .ok (.aload_n 0, 1) := by decide +kernel
theorem d_MO_holds_10 : decode b_MO_holds 10 = .ok (.iload_n 1, 1) := by decide +kernel
theorem d_MO_holds_11 : decode b_MO_holds 11 = .ok (.invokevirtual 129, 3) := by decide +kernel
theorem d_MO_holds_14 : decode b_MO_holds 14 = .ok (.ifCond .eq 12, 3) := by decide +kernel
theorem d_MO_holds_17 : decode b_MO_holds 17 = .ok (.aload_n 0, 1) := by decide +kernel
theorem d_MO_holds_18 : decode b_MO_holds 18 = .ok (.iload_n 1, 1) := by decide +kernel
theorem d_MO_holds_19 : decode b_MO_holds 19 = .ok (.invokevirtual 132, 3) := by decide +kernel
theorem d_MO_holds_22 : decode b_MO_holds 22 = .ok (.istore_n 3, 1) := by decide +kernel
theorem d_MO_holds_23 : decode b_MO_holds 23 = .ok (.goto 93, 3) := by decide +kernel
theorem d_MO_holds_26 : decode b_MO_holds 26 = .ok (.aload_n 0, 1) := by decide +kernel
theorem d_MO_holds_27 : decode b_MO_holds 27 = .ok (.getfield 19, 3) := by decide +kernel
theorem d_MO_holds_30 : decode b_MO_holds 30 = .ok (.iload_n 2, 1) := by decide +kernel
theorem d_MO_holds_31 : decode b_MO_holds 31 = .ok (.iaload, 1) := by decide +kernel
theorem d_MO_holds_32 : decode b_MO_holds 32 = .ok (.aload_n 0, 1) := by decide +kernel
theorem d_MO_holds_33 : decode b_MO_holds 33 = .ok (.getfield 56, 3) := by decide +kernel
theorem d_MO_holds_36 : decode b_MO_holds 36 = .ok (.iload_n 1, 1) := by decide +kernel
theorem d_MO_holds_37 : decode b_MO_holds 37 = .ok (.iaload, 1) := by decide +kernel
theorem d_MO_holds_38 : decode b_MO_holds 38 = .ok (.if_icmp .ge 18, 3) := by decide +kernel
theorem d_MO_holds_41 : decode b_MO_holds 41 = .ok (.aload_n 0, 1) := by decide +kernel
theorem d_MO_holds_42 : decode b_MO_holds 42 = .ok (.iload_n 1, 1) := by decide +kernel
theorem d_MO_holds_43 : decode b_MO_holds 43 = .ok (.invokevirtual 136, 3) := by decide +kernel
theorem d_MO_holds_46 : decode b_MO_holds 46 = .ok (.aload_n 0, 1) := by decide +kernel
theorem d_MO_holds_47 : decode b_MO_holds 47 = .ok (.getfield 50, 3) := by decide +kernel
theorem d_MO_holds_50 : decode b_MO_holds 50 = .ok (.iload_n 1, 1) := by decide +kernel
theorem d_MO_holds_51 : decode b_MO_holds 51 = .ok (.iconst 1, 1) := by decide +kernel
theorem d_MO_holds_52 : decode b_MO_holds 52 = .ok (.iastore, 1) := by decide +kernel
theorem d_MO_holds_53 : decode b_MO_holds 53 = .ok (.goto 63, 3) := by decide +kernel
theorem d_MO_holds_56 : decode b_MO_holds 56 = .ok (.aload_n 0, 1) := by decide +kernel
theorem d_MO_holds_57 : decode b_MO_holds 57 = .ok (.getfield 47, 3) := by decide +kernel
theorem d_MO_holds_60 : decode b_MO_holds 60 = .ok (.iload_n 1, 1) := by decide +kernel
theorem d_MO_holds_61 : decode b_MO_holds 61 = .ok (.iaload, 1) := by decide +kernel
theorem d_MO_holds_62 : decode b_MO_holds 62 = .ok (.istore 4, 2) := by decide +kernel
theorem d_MO_holds_64 : decode b_MO_holds 64 = .ok (.iload 4, 2) := by decide +kernel
theorem d_MO_holds_66 : decode b_MO_holds 66 = .ok (.iconst 1, 1) := by decide +kernel
theorem d_MO_holds_67 : decode b_MO_holds 67 = .ok (.if_icmp .ne 12, 3) := by decide +kernel
theorem d_MO_holds_70 : decode b_MO_holds 70 = .ok (.aload_n 0, 1) := by decide +kernel
theorem d_MO_holds_71 : decode b_MO_holds 71 = .ok (.iload_n 1, 1) := by decide +kernel
theorem d_MO_holds_72 : decode b_MO_holds 72 = .ok (.iload_n 2, 1) := by decide +kernel
theorem d_MO_holds_73 : decode b_MO_holds 73 = .ok (.invokevirtual 158, 3) := by decide +kernel
theorem d_MO_holds_76 : decode b_MO_holds 76 = .ok (.goto 39, 3) := by decide +kernel
theorem d_MO_holds_79 : decode b_MO_holds 79 = .ok (.iload 4, 2) := by decide +kernel
theorem d_MO_holds_81 : decode b_MO_holds 81 = .ok (.iconst 4, 1) := by decide +kernel
theorem d_MO_holds_82 : decode b_MO_holds 82 = .ok (.if_icmp .ne 12, 3) := by decide +kernel
theorem d_MO_holds_85 : decode b_MO_holds 85 = .ok (.aload_n 0, 1) := by decide +kernel
theorem d_MO_holds_86 : decode b_MO_holds 86 = .ok (.iload_n 1, 1) := by decide +kernel
theorem d_MO_holds_87 : decode b_MO_holds 87 = .ok (.iload_n 2, 1) := by decide +kernel
theorem d_MO_holds_88 : decode b_MO_holds 88 = .ok (.invokevirtual 161, 3) := by decide +kernel
theorem d_MO_holds_91 : decode b_MO_holds 91 = .ok (.goto 24, 3) := by decide +kernel
theorem d_MO_holds_94 : decode b_MO_holds 94 = .ok (.iload 4, 2) := by decide +kernel
theorem d_MO_holds_96 : decode b_MO_holds 96 = .ok (.iconst 2, 1) := by decide +kernel
theorem d_MO_holds_97 : decode b_MO_holds 97 = .ok (.if_icmp .ne 12, 3) := by decide +kernel
theorem d_MO_holds_100 : decode b_MO_holds 100 = .ok (.aload_n 0, 1) := by decide +kernel
theorem d_MO_holds_101 : decode b_MO_holds 101 = .ok (.iload_n 1, 1) := by decide +kernel
theorem d_MO_holds_102 : decode b_MO_holds 102 = .ok (.iload_n 2, 1) := by decide +kernel
theorem d_MO_holds_103 : decode b_MO_holds 103 = .ok (.invokevirtual 164, 3) := by decide +kernel
theorem d_MO_holds_106 : decode b_MO_holds 106 = .ok (.goto 9, 3) := by decide +kernel
theorem d_MO_holds_109 : decode b_MO_holds 109 = .ok (.aload_n 0, 1) := by decide +kernel
theorem d_MO_holds_110 : decode b_MO_holds 110 = .ok (.iload_n 1, 1) := by decide +kernel
theorem d_MO_holds_111 : decode b_MO_holds 111 = .ok (.iload_n 2, 1) := by decide +kernel
theorem d_MO_holds_112 : decode b_MO_holds 112 = .ok (.invokevirtual 167, 3) := by decide +kernel
theorem d_MO_holds_115 : decode b_MO_holds 115 = .ok (.istore_n 3, 1) := by decide +kernel
theorem d_MO_holds_116 : decode b_MO_holds 116 = .ok (.iload_n 3, 1) := by decide +kernel
theorem d_MO_holds_117 : decode b_MO_holds 117 = .ok (.iconst 1, 1) := by decide +kernel
theorem d_MO_holds_118 : decode b_MO_holds 118 = .ok (.if_icmp .eq 10, 3) := by decide +kernel
theorem d_MO_holds_121 : decode b_MO_holds 121 = .ok (.aload_n 0, 1) := by decide +kernel
theorem d_MO_holds_122 : decode b_MO_holds 122 = .ok (.getfield 28, 3) := by decide +kernel
theorem d_MO_holds_125 : decode b_MO_holds 125 = .ok (.iload_n 2, 1) := by decide +kernel
theorem d_MO_holds_126 : decode b_MO_holds 126 = .ok (.iconst (-1), 1) := by decide +kernel
theorem d_MO_holds_127 : decode b_MO_holds 127 = .ok (.iastore, 1) := by decide +kernel
theorem d_MO_holds_128 : decode b_MO_holds 128 = .ok (.iload_n 3, 1) := by decide +kernel
theorem d_MO_holds_129 : decode b_MO_holds 129 = .ok (.ireturn, 1) := by decide +kernel
theorem d_MO_puts_0 : decode b_MO_puts 0 = .ok (.aload_n 0, 1) := by decide +kernel
theorem d_MO_puts_1 : decode b_MO_puts 1 = .ok (.iload_n 2, 1) := by decide +kernel
theorem d_MO_puts_2 : decode b_MO_puts 2 = .ok (.aload_n 0, 1) := by decide +kernel
theorem d_MO_puts_3 : decode b_MO_puts 3 = .ok (.getfield 56, 3) := by decide +kernel
theorem d_MO_puts_6 : decode b_MO_puts 6 = .ok (.iload_n 1, 1) := by decide +kernel
theorem d_MO_puts_7 : decode b_MO_puts 7 = .ok (.iaload, 1) := by decide +kernel
theorem d_MO_puts_8 : decode b_MO_puts 8 = .ok (.invokevirtual 87, 3) := by decide +kernel
theorem d_MO_puts_11 : decode b_MO_puts 11 = .ok (.istore_n 3, 1) := by decide +kernel
theorem d_MO_puts_12 : decode b_MO_puts 12 = .ok (.aload_n 0, 1) := by decide +kernel
theorem d_MO_puts_13 : decode b_MO_puts 13 = .ok (.iload_n 2, 1) := by decide +kernel
theorem d_MO_puts_14 : decode b_MO_puts 14 = .ok (.aload_n 0, 1) := by decide +kernel
theorem d_MO_puts_15 : decode b_MO_puts 15 = .ok (.getfield 56, 3) := by decide +kernel
theorem d_MO_puts_18 : decode b_MO_puts 18 = .ok (.iload_n 1, 1) := by decide +kernel
theorem d_MO_puts_19 : decode b_MO_puts 19 = .ok (.iaload, 1) := by decide +kernel
theorem d_MO_puts_20 : decode b_MO_puts 20 = .ok (.invokevirtual 142, 3) := by decide +kernel
theorem d_MO_puts_23 : decode b_MO_puts 23 = .ok (.ifCond .eq 39, 3) := by decide +kernel
theorem d_MO_puts_26 : decode b_MO_puts 26 = .ok (.aload_n 0, 1) := by decide +kernel
theorem d_MO_puts_27 : decode b_MO_puts 27 = .ok (.getfield 34, 3) := by decide +kernel
theorem d_MO_puts_30 : decode b_MO_puts 30 = .ok (.iconst 5, 1) := by decide +kernel
theorem d_MO_puts_31 : decode b_MO_puts 31 = .ok (.iload_n 2, 1) := by decide +kernel
theorem d_MO_puts_32 : decode b_MO_puts 32 = .ok (.imul, 1) := by decide +kernel
theorem d_MO_puts_33 : decode b_MO_puts 33 = .ok (.iload_n 3, 1) := by decide +kernel
theorem d_MO_puts_34 : decode b_MO_puts 34 = .ok (.iadd, 1) := by decide +kernel
theorem d_MO_puts_35 : decode b_MO_puts 35 = .ok (.iaload, 1) := by decide +kernel
theorem d_MO_puts_36 : decode b_MO_puts 36 = .ok (.istore 4, 2) := by decide +kernel
theorem d_MO_puts_38 : decode b_MO_puts 38 = .ok (.aload_n 0, 1) := by decide +kernel
theorem d_MO_puts_39 : decode b_MO_puts 39 = .ok (.getfield 34, 3) := by decide +kernel
theorem d_MO_puts_42 : decode b_MO_puts 42 = .ok (.iconst 5, 1) := by decide +kernel
theorem d_MO_puts_43 : decode b_MO_puts 43 = .ok (.iload_n 2, 1) := by decide +kernel
theorem d_MO_puts_44 : decode b_MO_puts 44 = .ok (.imul, 1) := by decide +kernel
theorem d_MO_puts_45 : decode b_MO_puts 45 = .ok (.iload_n 3, 1) := by decide +kernel
theorem d_MO_puts_46 : decode b_MO_puts 46 = .ok (.iadd, 1) := by decide +kernel
theorem d_MO_puts_47 : decode b_MO_puts 47 = .ok (.aload_n 0, 1) := by decide +kernel
theorem d_MO_puts_48 : decode b_MO_puts 48 = .ok (.getfield 62, 3) := by decide +kernel
theorem d_MO_puts_51 : decode b_MO_puts 51 = .ok (.iload_n 1, 1) := by decide +kernel
theorem d_MO_puts_52 : decode b_MO_puts 52 = .ok (.iaload, 1) := by decide +kernel
theorem d_MO_puts_53 : decode b_MO_puts 53 = .ok (.iastore, 1) := by decide +kernel
theorem d_MO_puts_54 : decode b_MO_puts 54 = .ok (.aload_n 0, 1) := by decide +kernel
theorem d_MO_puts_55 : decode b_MO_puts 55 = .ok (.iload_n 1, 1) := by decide +kernel
theorem d_MO_puts_56 : decode b_MO_puts 56 = .ok (.iload 4, 2) := by decide +kernel
theorem d_MO_puts_58 : decode b_MO_puts 58 = .ok (.invokevirtual 126, 3) := by decide +kernel
theorem d_MO_puts_61 : decode b_MO_puts 61 = .ok (.ireturn, 1) := by decide +kernel
theorem d_MO_puts_62 : decode b_MO_puts 62 = .ok (.aload_n 0, 1) := by decide +kernel
theorem d_MO_puts_63 : decode b_MO_puts 63 = .ok (.getfield 25, 3) := by decide +kernel
theorem d_MO_puts_66 : decode b_MO_puts 66 = .ok (.iload_n 2, 1) := by decide +kernel
theorem d_MO_puts_67 : decode b_MO_puts 67 = .ok (.iaload, 1) := by decide +kernel
theorem d_MO_puts_68 : decode b_MO_puts 68 = .ok (.iconst 4, 1) := by decide +kernel
theorem d_MO_puts_69 : decode b_MO_puts 69 = .ok (.if_icmp .ne 19, 3) := by decide +kernel
theorem d_MO_puts_72 : decode b_MO_puts 72 = .ok (.aload_n 0, 1) := by decide +kernel
theorem d_MO_puts_73 : decode b_MO_puts 73 = .ok (.invokevirtual 146, 3) := by decide +kernel
theorem d_MO_puts_76 : decode b_MO_puts 76 = .ok (.iconst (-1), 1) := by decide +kernel
theorem d_MO_puts_77 : decode b_MO_puts 77 = .ok (.if_icmp .ne 11, 3) := by decide +kernel
theorem d_MO_puts_80 : decode b_MO_puts 80 = .ok (.aload_n 0, 1) := by decide +kernel
theorem d_MO_puts_81 : decode b_MO_puts 81 = .ok (.iload_n 1, 1) := by decide +kernel
theorem d_MO_puts_82 : decode b_MO_puts 82 = .ok (.bipush (-2), 2) := by decide +kernel
theorem d_MO_puts_84 : decode b_MO_puts 84 = .ok (.invokevirtual 126, 3) := by decide +kernel
theorem d_MO_puts_87 : decode b_MO_puts 87 = .ok (.ireturn, 1) := by decide +kernel
theorem d_MO_puts_88 : decode b_MO_puts 88 = .ok (.aload_n 0, 1) := by decide +kernel
theorem d_MO_puts_89 : decode b_MO_puts 89 = .ok (.iload_n 2, 1) := by decide +kernel
theorem d_MO_puts_90 : decode b_MO_puts 90 = .ok (.iload_n 3, 1) := by decide +kernel
theorem d_MO_puts_91 : decode b_MO_puts 91 = .ok (.aload_n 0, 1) := by decide +kernel
theorem d_MO_puts_92 : decode b_MO_puts 92 = .ok (.getfield 56, 3) := by decide +kernel
theorem d_MO_puts_95 : decode b_MO_puts 95 = .ok (.iload_n 1, 1) := by decide +kernel
theorem d_MO_puts_96 : decode b_MO_puts 96 = .ok (.iaload, 1) := by decide +kernel
theorem d_MO_puts_97 : decode b_MO_puts 97 = .ok (.aload_n 0, 1) := by decide +kernel
theorem d_MO_puts_98 : decode b_MO_puts 98 = .ok (.getfield 62, 3) := by decide +kernel
theorem d_MO_puts_101 : decode b_MO_puts 101 = .ok (.iload_n 1, 1) := by decide +kernel
theorem d_MO_puts_102 : decode b_MO_puts 102 = .ok (.iaload, 1) := by decide +kernel
theorem d_MO_puts_103 : decode b_MO_puts 103 = .ok (.invokevirtual 179, 3) := by decide +kernel
theorem d_MO_puts_106 : decode b_MO_puts 106 = .ok (.aload_n 0, 1) := by decide +kernel
theorem d_MO_puts_107 : decode b_MO_puts 107 = .ok (.getfield 25, 3) := by decide +kernel
theorem d_MO_puts_110 : decode b_MO_puts 110 = .ok (.iload_n 2, 1) := by decide +kernel
theorem d_MO_puts_111 : decode b_MO_puts 111 = .ok (.iaload, 1) := by decide +kernel
theorem d_MO_puts_112 : decode b_MO_puts 112 = .ok (.iconst 4, 1) := by decide +kernel
theorem d_MO_puts_113 : decode b_MO_puts 113 = .ok (.if_icmp .gt 10, 3) := by decide +kernel
theorem d_MO_puts_116 : decode b_MO_puts 116 = .ok (.aload_n 0, 1) := by decide +kernel
theorem d_MO_puts_117 : decode b_MO_puts 117 = .ok (.iload_n 1, 1) := by decide +kernel
theorem d_MO_puts_118 : decode b_MO_puts 118 = .ok (.iconst (-1), 1) := by decide +kernel
theorem d_MO_puts_119 : decode b_MO_puts 119 = .ok (.invokevirtual 126, 3) := by decide +kernel
theorem d_MO_puts_122 : decode b_MO_puts 122 = .ok (.ireturn, 1) := by decide +kernel
theorem d_MO_puts_123 : decode b_MO_puts 123 = .ok (.aload_n 0, 1) := by decide +kernel
theorem d_MO_puts_124 : decode b_MO_puts 124 = .ok (.iload_n 1, 1) := by decide +kernel
theorem d_MO_puts_125 : decode b_MO_puts 125 = .ok (.iload_n 2, 1) := by decide +kernel
theorem d_MO_puts_126 : decode b_MO_puts 126 = .ok (.invokevirtual 183, 3) := by decide +kernel
theorem d_MO_puts_129 : decode b_MO_puts 129 = .ok (.iconst 3, 1) := by decide +kernel
theorem d_MO_puts_130 : decode b_MO_puts 130 = .ok (.ireturn, 1) := by decide +kernel
theorem d_MO_insert_0 : decode b_MO_insert 0 = .ok (.iconst 5, 1) := by decide +kernel
theorem d_MO_insert_1 : decode b_MO_insert 1 = .ok (.iload_n 1, 1) := by decide +kernel
theorem d_MO_insert_2 : decode b_MO_insert 2 = .ok (.imul, 1) := by decide +kernel
theorem d_MO_insert_3 : decode b_MO_insert 3 = .ok (.aload_n 0, 1) := by decide +kernel
theorem d_MO_insert_4 : decode b_MO_insert 4 = .ok (.getfield 25, 3) := by decide +kernel
theorem d_MO_insert_7 : decode b_MO_insert 7 = .ok (.iload_n 1, 1) := by decide +kernel
theorem d_MO_insert_8 : decode b_MO_insert 8 = .ok (.iaload, 1) := by decide +kernel
theorem d_MO_insert_9 : decode b_MO_insert 9 = .ok (.iadd, 1) := by decide +kernel
theorem d_MO_insert_10 : decode b_MO_insert 10 = .ok (.istore 5, 2) := by decide +kernel
theorem d_MO_insert_12 : decode b_MO_insert 12 = .ok (.iload 5, 2) := by decide +kernel
theorem d_MO_insert_14 : decode b_MO_insert 14 = .ok (.iconst 5, 1) := by decide +kernel
theorem d_MO_insert_15 : decode b_MO_insert 15 = .ok (.iload_n 1, 1) := by decide +kernel
theorem d_MO_insert_16 : decode b_MO_insert 16 = .ok (.imul, 1) := by decide +kernel
theorem d_MO_insert_17 : decode b_MO_insert 17 = .ok (.iload_n 2, 1) := by decide +kernel
theorem d_MO_insert_18 : decode b_MO_insert 18 = .ok (.iadd, 1) := by decide +kernel
theorem d_MO_insert_19 : decode b_MO_insert 19 = .ok (.if_icmp .le 41, 3) := by decide +kernel
theorem d_MO_insert_22 : decode b_MO_insert 22 = .ok (.aload_n 0, 1) := by decide +kernel
theorem d_MO_insert_23 : decode b_MO_insert 23 = .ok (.getfield 31, 3) := by decide +kernel
theorem d_MO_insert_26 : decode b_MO_insert 26 = .ok (.iload 5, 2) := by decide +kernel
theorem d_MO_insert_28 : decode b_MO_insert 28 = .ok (.aload_n 0, 1) := by decide +kernel
theorem d_MO_insert_29 : decode b_MO_insert 29 = .ok (.getfield 31, 3) := by decide +kernel
theorem d_MO_insert_32 : decode b_MO_insert 32 = .ok (.iload 5, 2) := by decide +kernel
theorem d_MO_insert_34 : decode b_MO_insert 34 = .ok (.iconst 1, 1) := by decide +kernel
theorem d_MO_insert_35 : decode b_MO_insert 35 = .ok (.isub, 1) := by decide +kernel
theorem d_MO_insert_36 : decode b_MO_insert 36 = .ok (.iaload, 1) := by decide +kernel
theorem d_MO_insert_37 : decode b_MO_insert 37 = .ok (.iastore, 1) := by decide +kernel
theorem d_MO_insert_38 : decode b_MO_insert 38 = .ok (.aload_n 0, 1) := by decide +kernel
theorem d_MO_insert_39 : decode b_MO_insert 39 = .ok (.getfield 34, 3) := by decide +kernel
theorem d_MO_insert_42 : decode b_MO_insert 42 = .ok (.iload 5, 2) := by decide +kernel
theorem d_MO_insert_44 : decode b_MO_insert 44 = .ok (.aload_n 0, 1) := by decide +kernel
theorem d_MO_insert_45 : decode b_MO_insert 45 = .ok (.getfield 34, 3) := by decide +kernel
theorem d_MO_insert_48 : decode b_MO_insert 48 = .ok (.iload 5, 2) := by decide +kernel
theorem d_MO_insert_50 : decode b_MO_insert 50 = .ok (.iconst 1, 1) := by decide +kernel
theorem d_MO_insert_51 : decode b_MO_insert 51 = .ok (.isub, 1) := by decide +kernel
theorem d_MO_insert_52 : decode b_MO_insert 52 = .ok (.iaload, 1) := by decide +kernel
theorem d_MO_insert_53 : decode b_MO_insert 53 = .ok (.iastore, 1) := by decide +kernel
theorem d_MO_insert_54 : decode b_MO_insert 54 = .ok (.iinc 5 (-1), 3) := by decide +kernel
theorem d_MO_insert_57 : decode b_MO_insert 57 = .ok (.goto (-45), 3) := by decide +kernel
theorem d_MO_insert_60 : decode b_MO_insert 60 = .ok (.aload_n 0, 1) := by decide +kernel
theorem d_MO_insert_61 : decode b_MO_insert 61 = .ok (.getfield 31, 3) := by decide +kernel
theorem d_MO_insert_64 : decode b_MO_insert 64 = .ok (.iconst 5, 1) := by decide +kernel
theorem d_MO_insert_65 : decode b_MO_insert 65 = .ok (.iload_n 1, 1) := by decide +kernel
theorem d_MO_insert_66 : decode b_MO_insert 66 = .ok (.imul, 1) := by decide +kernel
theorem d_MO_insert_67 : decode b_MO_insert 67 = .ok (.iload_n 2, 1) := by decide +kernel
theorem d_MO_insert_68 : decode b_MO_insert 68 = .ok (.iadd, 1) := by decide +kernel
theorem d_MO_insert_69 : decode b_MO_insert 69 = .ok (.iload_n 3, 1) := by decide +kernel
theorem d_MO_insert_70 : decode b_MO_insert 70 = .ok (.iastore, 1) := by decide +kernel
theorem d_MO_insert_71 : decode b_MO_insert 71 = .ok (.aload_n 0, 1) := by decide +kernel
theorem d_MO_insert_72 : decode b_MO_insert 72 = .ok (.getfield 34, 3) := by decide +kernel
theorem d_MO_insert_75 : decode b_MO_insert 75 = .ok (.iconst 5, 1) := by decide +kernel
theorem d_MO_insert_76 : decode b_MO_insert 76 = .ok (.iload_n 1, 1) := by decide +kernel
theorem d_MO_insert_77 : decode b_MO_insert 77 = .ok (.imul, 1) := by decide +kernel
theorem d_MO_insert_78 : decode b_MO_insert 78 = .ok (.iload_n 2, 1) := by decide +kernel
theorem d_MO_insert_79 : decode b_MO_insert 79 = .ok (.iadd, 1) := by decide +kernel
theorem d_MO_insert_80 : decode b_MO_insert 80 = .ok (.iload 4, 2) := by decide +kernel
theorem d_MO_insert_82 : decode b_MO_insert 82 = .ok (.iastore, 1) := by decide +kernel
theorem d_MO_insert_83 : decode b_MO_insert 83 = .ok (.aload_n 0, 1) := by decide +kernel
theorem d_MO_insert_84 : decode b_MO_insert 84 = .ok (.getfield 25, 3) := by decide +kernel
theorem d_MO_insert_87 : decode b_MO_insert 87 = .ok (.iload_n 1, 1) := by decide +kernel
theorem d_MO_insert_88 : decode b_MO_insert 88 = .ok (.dup2, 1) := by decide +kernel
theorem d_MO_insert_89 : decode b_MO_insert 89 = .ok (.iaload, 1) := by decide +kernel
theorem d_MO_insert_90 : decode b_MO_insert 90 = .ok (.iconst 1, 1) := by decide +kernel
theorem d_MO_insert_91 : decode b_MO_insert 91 = .ok (.iadd, 1) := by decide +kernel
theorem d_MO_insert_92 : decode b_MO_insert 92 = .ok (.iastore, 1) := by decide +kernel
theorem d_MO_insert_93 : decode b_MO_insert 93 = .ok (.return_, 1) := by decide +kernel
theorem d_MO_split_0 : decode b_MO_split 0 = .ok (.aload_n 0, 1) := by decide +kernel
theorem d_MO_split_1 : decode b_MO_split 1 = .ok (.invokevirtual 146, 3) := by decide +kernel
theorem d_MO_split_4 : decode b_MO_split 4 = .ok (.istore_n 3, 1) := by decide +kernel
theorem d_MO_split_5 : decode b_MO_split 5 = .ok (.aload_n 0, 1) := by decide +kernel
theorem d_MO_split_6 : decode b_MO_split 6 = .ok (.iload_n 3, 1) := by decide +kernel
theorem d_MO_split_7 : decode b_MO_split 7 = .ok (.aload_n 0, 1) := by decide +kernel
theorem d_MO_split_8 : decode b_MO_split 8 = .ok (.getfield 13, 3) := by decide +kernel
theorem d_MO_split_11 : decode b_MO_split 11 = .ok (.iload_n 2, 1) := by decide +kernel
theorem d_MO_split_12 : decode b_MO_split 12 = .ok (.iaload, 1) := by decide +kernel
theorem d_MO_split_13 : decode b_MO_split 13 = .ok (.aload_n 0, 1) := by decide +kernel
theorem d_MO_split_14 : decode b_MO_split 14 = .ok (.getfield 31, 3) := by decide +kernel
theorem d_MO_split_17 : decode b_MO_split 17 = .ok (.iconst 5, 1) := by decide +kernel
theorem d_MO_split_18 : decode b_MO_split 18 = .ok (.iload_n 2, 1) := by decide +kernel
theorem d_MO_split_19 : decode b_MO_split 19 = .ok (.imul, 1) := by decide +kernel
theorem d_MO_split_20 : decode b_MO_split 20 = .ok (.iconst 2, 1) := by decide +kernel
theorem d_MO_split_21 : decode b_MO_split 21 = .ok (.iadd, 1) := by decide +kernel
theorem d_MO_split_22 : decode b_MO_split 22 = .ok (.iaload, 1) := by decide +kernel
theorem d_MO_split_23 : decode b_MO_split 23 = .ok (.aload_n 0, 1) := by decide +kernel
theorem d_MO_split_24 : decode b_MO_split 24 = .ok (.getfield 19, 3) := by decide +kernel
theorem d_MO_split_27 : decode b_MO_split 27 = .ok (.iload_n 2, 1) := by decide +kernel
theorem d_MO_split_28 : decode b_MO_split 28 = .ok (.iaload, 1) := by decide +kernel
theorem d_MO_split_29 : decode b_MO_split 29 = .ok (.aload_n 0, 1) := by decide +kernel
theorem d_MO_split_30 : decode b_MO_split 30 = .ok (.getfield 22, 3) := by decide +kernel
theorem d_MO_split_33 : decode b_MO_split 33 = .ok (.iload_n 2, 1) := by decide +kernel
theorem d_MO_split_34 : decode b_MO_split 34 = .ok (.iaload, 1) := by decide +kernel
theorem d_MO_split_35 : decode b_MO_split 35 = .ok (.invokevirtual 150, 3) := by decide +kernel
theorem d_MO_split_38 : decode b_MO_split 38 = .ok (.iconst 3, 1) := by decide +kernel
theorem d_MO_split_39 : decode b_MO_split 39 = .ok (.istore 4, 2) := by decide +kernel
theorem d_MO_split_41 : decode b_MO_split 41 = .ok (.iload 4, 2) := by decide +kernel
theorem d_MO_split_43 : decode b_MO_split 43 = .ok (.iconst 5, 1) := by decide +kernel
theorem d_MO_split_44 : decode b_MO_split 44 = .ok (.if_icmp .ge 36, 3) := by decide +kernel
theorem d_MO_split_47 : decode b_MO_split 47 = .ok (.aload_n 0, 1) := by decide +kernel
theorem d_MO_split_48 : decode b_MO_split 48 = .ok (.iload_n 3, 1) := by decide +kernel
theorem d_MO_split_49 : decode b_MO_split 49 = .ok (.aload_n 0, 1) := by decide +kernel
theorem d_MO_split_50 : decode b_MO_split 50 = .ok (.getfield 31, 3) := by decide +kernel
theorem d_MO_split_53 : decode b_MO_split 53 = .ok (.iconst 5, 1) := by decide +kernel
theorem d_MO_split_54 : decode b_MO_split 54 = .ok (.iload_n 2, 1) := by decide +kernel
theorem d_MO_split_55 : decode b_MO_split 55 = .ok (.imul, 1) := by decide +kernel
theorem d_MO_split_56 : decode b_MO_split 56 = .ok (.iload 4, 2) := by decide +kernel
theorem d_MO_split_58 : decode b_MO_split 58 = .ok (.iadd, 1) := by decide +kernel
theorem d_MO_split_59 : decode b_MO_split 59 = .ok (.iaload, 1) := by decide +kernel
theorem d_MO_split_60 : decode b_MO_split 60 = .ok (.aload_n 0, 1) := by decide +kernel
theorem d_MO_split_61 : decode b_MO_split 61 = .ok (.getfield 34, 3) := by decide +kernel
theorem d_MO_split_64 : decode b_MO_split 64 = .ok (.iconst 5, 1) := by decide +kernel
theorem d_MO_split_65 : decode b_MO_split 65 = .ok (.iload_n 2, 1) := by decide +kernel
theorem d_MO_split_66 : decode b_MO_split 66 = .ok (.imul, 1) := by decide +kernel
theorem d_MO_split_67 : decode b_MO_split 67 = .ok (.iload 4, 2) := by decide +kernel
theorem d_MO_split_69 : decode b_MO_split 69 = .ok (.iadd, 1) := by decide +kernel
theorem d_MO_split_70 : decode b_MO_split 70 = .ok (.iaload, 1) := by decide +kernel
theorem d_MO_split_71 : decode b_MO_split 71 = .ok (.invokevirtual 154, 3) := by decide +kernel
theorem d_MO_split_74 : decode b_MO_split 74 = .ok (.iinc 4 1, 3) := by decide +kernel
theorem d_MO_split_77 : decode b_MO_split 77 = .ok (.goto (-36), 3) := by decide +kernel
theorem d_MO_split_80 : decode b_MO_split 80 = .ok (.aload_n 0, 1) := by decide +kernel
theorem d_MO_split_81 : decode b_MO_split 81 = .ok (.getfield 25, 3) := by decide +kernel
theorem d_MO_split_84 : decode b_MO_split 84 = .ok (.iload_n 2, 1) := by decide +kernel
theorem d_MO_split_85 : decode b_MO_split 85 = .ok (.iconst 3, 1) := by decide +kernel
theorem d_MO_split_86 : decode b_MO_split 86 = .ok (.iastore, 1) := by decide +kernel
theorem d_MO_split_87 : decode b_MO_split 87 = .ok (.aload_n 0, 1) := by decide +kernel
theorem d_MO_split_88 : decode b_MO_split 88 = .ok (.getfield 19, 3) := by decide +kernel
theorem d_MO_split_91 : decode b_MO_split 91 = .ok (.iload_n 2, 1) := by decide +kernel
theorem d_MO_split_92 : decode b_MO_split 92 = .ok (.aload_n 0, 1) := by decide +kernel
theorem d_MO_split_93 : decode b_MO_split 93 = .ok (.getfield 31, 3) := by decide +kernel
theorem d_MO_split_96 : decode b_MO_split 96 = .ok (.iconst 5, 1) := by decide +kernel
theorem d_MO_split_97 : decode b_MO_split 97 = .ok (.iload_n 2, 1) := by decide +kernel
theorem d_MO_split_98 : decode b_MO_split 98 = .ok (.imul, 1) := by decide +kernel
theorem d_MO_split_99 : decode b_MO_split 99 = .ok (.iconst 2, 1) := by decide +kernel
theorem d_MO_split_100 : decode b_MO_split 100 = .ok (.iadd, 1) := by decide +kernel
theorem d_MO_split_101 : decode b_MO_split 101 = .ok (.iaload, 1) := by decide +kernel
theorem d_MO_split_102 : decode b_MO_split 102 = .ok (.iastore, 1) := by decide +kernel
theorem d_MO_split_103 : decode b_MO_split 103 = .ok (.aload_n 0, 1) := by decide +kernel
theorem d_MO_split_104 : decode b_MO_split 104 = .ok (.getfield 22, 3) := by decide +kernel
theorem d_MO_split_107 : decode b_MO_split 107 = .ok (.iload_n 2, 1) := by decide +kernel
theorem d_MO_split_108 : decode b_MO_split 108 = .ok (.iload_n 3, 1) := by decide +kernel
theorem d_MO_split_109 : decode b_MO_split 109 = .ok (.iastore, 1) := by decide +kernel
theorem d_MO_split_110 : decode b_MO_split 110 = .ok (.aload_n 0, 1) := by decide +kernel
theorem d_MO_split_111 : decode b_MO_split 111 = .ok (.getfield 47, 3) := by decide +kernel
theorem d_MO_split_114 : decode b_MO_split 114 = .ok (.iload_n 1, 1) := by decide +kernel
theorem d_MO_split_115 : decode b_MO_split 115 = .ok (.iconst 4, 1) := by decide +kernel
theorem d_MO_split_116 : decode b_MO_split 116 = .ok (.iastore, 1) := by decide +kernel
theorem d_MO_split_117 : decode b_MO_split 117 = .ok (.aload_n 0, 1) := by decide +kernel
theorem d_MO_split_118 : decode b_MO_split 118 = .ok (.getfield 65, 3) := by decide +kernel
theorem d_MO_split_121 : decode b_MO_split 121 = .ok (.iload_n 1, 1) := by decide +kernel
theorem d_MO_split_122 : decode b_MO_split 122 = .ok (.iload_n 3, 1) := by decide +kernel
theorem d_MO_split_123 : decode b_MO_split 123 = .ok (.iastore, 1) := by decide +kernel
theorem d_MO_split_124 : decode b_MO_split 124 = .ok (.aload_n 0, 1) := by decide +kernel
theorem d_MO_split_125 : decode b_MO_split 125 = .ok (.getfield 56, 3) := by decide +kernel
theorem d_MO_split_128 : decode b_MO_split 128 = .ok (.iload_n 1, 1) := by decide +kernel
theorem d_MO_split_129 : decode b_MO_split 129 = .ok (.aload_n 0, 1) := by decide +kernel
theorem d_MO_split_130 : decode b_MO_split 130 = .ok (.getfield 19, 3) := by decide +kernel
theorem d_MO_split_133 : decode b_MO_split 133 = .ok (.iload_n 2, 1) := by decide +kernel
theorem d_MO_split_134 : decode b_MO_split 134 = .ok (.iaload, 1) := by decide +kernel
theorem d_MO_split_135 : decode b_MO_split 135 = .ok (.iastore, 1) := by decide +kernel
theorem d_MO_split_136 : decode b_MO_split 136 = .ok (.aload_n 0, 1) := by decide +kernel
theorem d_MO_split_137 : decode b_MO_split 137 = .ok (.getfield 59, 3) := by decide +kernel
theorem d_MO_split_140 : decode b_MO_split 140 = .ok (.iload_n 1, 1) := by decide +kernel
theorem d_MO_split_141 : decode b_MO_split 141 = .ok (.aload_n 0, 1) := by decide +kernel
theorem d_MO_split_142 : decode b_MO_split 142 = .ok (.getfield 13, 3) := by decide +kernel
theorem d_MO_split_145 : decode b_MO_split 145 = .ok (.iload_n 2, 1) := by decide +kernel
theorem d_MO_split_146 : decode b_MO_split 146 = .ok (.iaload, 1) := by decide +kernel
theorem d_MO_split_147 : decode b_MO_split 147 = .ok (.iconst 1, 1) := by decide +kernel
theorem d_MO_split_148 : decode b_MO_split 148 = .ok (.iadd, 1) := by decide +kernel
theorem d_MO_split_149 : decode b_MO_split 149 = .ok (.iastore, 1) := by decide +kernel
theorem d_MO_split_150 : decode b_MO_split 150 = .ok (.aload_n 0, 1) := by decide +kernel
theorem d_MO_split_151 : decode b_MO_split 151 = .ok (.getfield 68, 3) := by decide +kernel
theorem d_MO_split_154 : decode b_MO_split 154 = .ok (.bipush 32, 2) := by decide +kernel
theorem d_MO_split_156 : decode b_MO_split 156 = .ok (.iload_n 1, 1) := by decide +kernel
theorem d_MO_split_157 : decode b_MO_split 157 = .ok (.imul, 1) := by decide +kernel
theorem d_MO_split_158 : decode b_MO_split 158 = .ok (.aload_n 0, 1) := by decide +kernel
theorem d_MO_split_159 : decode b_MO_split 159 = .ok (.getfield 59, 3) := by decide +kernel
theorem d_MO_split_162 : decode b_MO_split 162 = .ok (.iload_n 1, 1) := by decide +kernel
theorem d_MO_split_163 : decode b_MO_split 163 = .ok (.iaload, 1) := by decide +kernel
theorem d_MO_split_164 : decode b_MO_split 164 = .ok (.iadd, 1) := by decide +kernel
theorem d_MO_split_165 : decode b_MO_split 165 = .ok (.iaload, 1) := by decide +kernel
theorem d_MO_split_166 : decode b_MO_split 166 = .ok (.istore 4, 2) := by decide +kernel
theorem d_MO_split_168 : decode b_MO_split 168 = .ok (.aload_n 0, 1) := by decide +kernel
theorem d_MO_split_169 : decode b_MO_split 169 = .ok (.iload_n 1, 1) := by decide +kernel
theorem d_MO_split_170 : decode b_MO_split 170 = .ok (.iload 4, 2) := by decide +kernel
theorem d_MO_split_172 : decode b_MO_split 172 = .ok (.iconst (-1), 1) := by decide +kernel
theorem d_MO_split_173 : decode b_MO_split 173 = .ok (.if_icmp .ne 10, 3) := by decide +kernel
theorem d_MO_split_176 : decode b_MO_split 176 = .ok (.aload_n 0, 1) := by decide +kernel
theorem d_MO_split_177 : decode b_MO_split 177 = .ok (.getfield 108, 3) := by decide +kernel
theorem d_MO_split_180 : decode b_MO_split 180 = .ok (.goto 5, 3) := by decide +kernel
theorem d_MO_split_183 : decode b_MO_split 183 = .ok (.iload 4, 2) := by decide +kernel
theorem d_MO_split_185 : decode b_MO_split 185 = .ok (.invokevirtual 111, 3) := by decide +kernel
theorem d_MO_split_188 : decode b_MO_split 188 = .ok (.return_, 1) := by decide +kernel
theorem d_MO_posts_0 : decode b_MO_posts 0 = .ok (.aload_n 0, 1) := by decide +kernel
theorem d_MO_posts_1 : decode b_MO_posts 1 = .ok (.getfield 25, 3) := by decide +kernel
theorem d_MO_posts_4 : decode b_MO_posts 4 = .ok (.iload_n 2, 1) := by decide +kernel
theorem d_MO_posts_5 : decode b_MO_posts 5 = .ok (.iaload, 1) := by decide +kernel
theorem d_MO_posts_6 : decode b_MO_posts 6 = .ok (.iconst 4, 1) := by decide +kernel
theorem d_MO_posts_7 : decode b_MO_posts 7 = .ok (.if_icmp .ne 18, 3) := by decide +kernel
theorem d_MO_posts_10 : decode b_MO_posts 10 = .ok (.aload_n 0, 1) := by decide +kernel
theorem d_MO_posts_11 : decode b_MO_posts 11 = .ok (.invokevirtual 146, 3) := by decide +kernel
theorem d_MO_posts_14 : decode b_MO_posts 14 = .ok (.iconst (-1), 1) := by decide +kernel
theorem d_MO_posts_15 : decode b_MO_posts 15 = .ok (.if_icmp .ne 10, 3) := by decide +kernel
theorem d_MO_posts_18 : decode b_MO_posts 18 = .ok (.aload_n 0, 1) := by decide +kernel
theorem d_MO_posts_19 : decode b_MO_posts 19 = .ok (.iload_n 1, 1) := by decide +kernel
theorem d_MO_posts_20 : decode b_MO_posts 20 = .ok (.iconst (-1), 1) := by decide +kernel
theorem d_MO_posts_21 : decode b_MO_posts 21 = .ok (.invokevirtual 126, 3) := by decide +kernel
theorem d_MO_posts_24 : decode b_MO_posts 24 = .ok (.ireturn, 1) := by decide +kernel
theorem d_MO_posts_25 : decode b_MO_posts 25 = .ok (.aload_n 0, 1) := by decide +kernel
theorem d_MO_posts_26 : decode b_MO_posts 26 = .ok (.iload_n 2, 1) := by decide +kernel
theorem d_MO_posts_27 : decode b_MO_posts 27 = .ok (.aload_n 0, 1) := by decide +kernel
theorem d_MO_posts_28 : decode b_MO_posts 28 = .ok (.getfield 56, 3) := by decide +kernel
theorem d_MO_posts_31 : decode b_MO_posts 31 = .ok (.iload_n 1, 1) := by decide +kernel
theorem d_MO_posts_32 : decode b_MO_posts 32 = .ok (.iaload, 1) := by decide +kernel
theorem d_MO_posts_33 : decode b_MO_posts 33 = .ok (.invokevirtual 87, 3) := by decide +kernel
theorem d_MO_posts_36 : decode b_MO_posts 36 = .ok (.istore_n 3, 1) := by decide +kernel
theorem d_MO_posts_37 : decode b_MO_posts 37 = .ok (.aload_n 0, 1) := by decide +kernel
theorem d_MO_posts_38 : decode b_MO_posts 38 = .ok (.iload_n 2, 1) := by decide +kernel
theorem d_MO_posts_39 : decode b_MO_posts 39 = .ok (.iload_n 3, 1) := by decide +kernel
theorem d_MO_posts_40 : decode b_MO_posts 40 = .ok (.aload_n 0, 1) := by decide +kernel
theorem d_MO_posts_41 : decode b_MO_posts 41 = .ok (.getfield 56, 3) := by decide +kernel
theorem d_MO_posts_44 : decode b_MO_posts 44 = .ok (.iload_n 1, 1) := by decide +kernel
theorem d_MO_posts_45 : decode b_MO_posts 45 = .ok (.iaload, 1) := by decide +kernel
theorem d_MO_posts_46 : decode b_MO_posts 46 = .ok (.aload_n 0, 1) := by decide +kernel
theorem d_MO_posts_47 : decode b_MO_posts 47 = .ok (.getfield 34, 3) := by decide +kernel
theorem d_MO_posts_50 : decode b_MO_posts 50 = .ok (.iconst 5, 1) := by decide +kernel
theorem d_MO_posts_51 : decode b_MO_posts 51 = .ok (.iload_n 2, 1) := by decide +kernel
theorem d_MO_posts_52 : decode b_MO_posts 52 = .ok (.imul, 1) := by decide +kernel
theorem d_MO_posts_53 : decode b_MO_posts 53 = .ok (.iload_n 3, 1) := by decide +kernel
theorem d_MO_posts_54 : decode b_MO_posts 54 = .ok (.iadd, 1) := by decide +kernel
theorem d_MO_posts_55 : decode b_MO_posts 55 = .ok (.iaload, 1) := by decide +kernel
theorem d_MO_posts_56 : decode b_MO_posts 56 = .ok (.invokevirtual 179, 3) := by decide +kernel
theorem d_MO_posts_59 : decode b_MO_posts 59 = .ok (.aload_n 0, 1) := by decide +kernel
theorem d_MO_posts_60 : decode b_MO_posts 60 = .ok (.getfield 34, 3) := by decide +kernel
theorem d_MO_posts_63 : decode b_MO_posts 63 = .ok (.iconst 5, 1) := by decide +kernel
theorem d_MO_posts_64 : decode b_MO_posts 64 = .ok (.iload_n 2, 1) := by decide +kernel
theorem d_MO_posts_65 : decode b_MO_posts 65 = .ok (.imul, 1) := by decide +kernel
theorem d_MO_posts_66 : decode b_MO_posts 66 = .ok (.iload_n 3, 1) := by decide +kernel
theorem d_MO_posts_67 : decode b_MO_posts 67 = .ok (.iadd, 1) := by decide +kernel
theorem d_MO_posts_68 : decode b_MO_posts 68 = .ok (.iconst 1, 1) := by decide +kernel
theorem d_MO_posts_69 : decode b_MO_posts 69 = .ok (.iadd, 1) := by decide +kernel
theorem d_MO_posts_70 : decode b_MO_posts 70 = .ok (.aload_n 0, 1) := by decide +kernel
theorem d_MO_posts_71 : decode b_MO_posts 71 = .ok (.getfield 65, 3) := by decide +kernel
theorem d_MO_posts_74 : decode b_MO_posts 74 = .ok (.iload_n 1, 1) := by decide +kernel
theorem d_MO_posts_75 : decode b_MO_posts 75 = .ok (.iaload, 1) := by decide +kernel
theorem d_MO_posts_76 : decode b_MO_posts 76 = .ok (.iastore, 1) := by decide +kernel
theorem d_MO_posts_77 : decode b_MO_posts 77 = .ok (.aload_n 0, 1) := by decide +kernel
theorem d_MO_posts_78 : decode b_MO_posts 78 = .ok (.getfield 25, 3) := by decide +kernel
theorem d_MO_posts_81 : decode b_MO_posts 81 = .ok (.iload_n 2, 1) := by decide +kernel
theorem d_MO_posts_82 : decode b_MO_posts 82 = .ok (.iaload, 1) := by decide +kernel
theorem d_MO_posts_83 : decode b_MO_posts 83 = .ok (.iconst 4, 1) := by decide +kernel
theorem d_MO_posts_84 : decode b_MO_posts 84 = .ok (.if_icmp .gt 10, 3) := by decide +kernel
theorem d_MO_posts_87 : decode b_MO_posts 87 = .ok (.aload_n 0, 1) := by decide +kernel
theorem d_MO_posts_88 : decode b_MO_posts 88 = .ok (.iload_n 1, 1) := by decide +kernel
theorem d_MO_posts_89 : decode b_MO_posts 89 = .ok (.iconst (-1), 1) := by decide +kernel
theorem d_MO_posts_90 : decode b_MO_posts 90 = .ok (.invokevirtual 126, 3) := by decide +kernel
theorem d_MO_posts_93 : decode b_MO_posts 93 = .ok (.ireturn, 1) := by decide +kernel
theorem d_MO_posts_94 : decode b_MO_posts 94 = .ok (.aload_n 0, 1) := by decide +kernel
theorem d_MO_posts_95 : decode b_MO_posts 95 = .ok (.iload_n 1, 1) := by decide +kernel
theorem d_MO_posts_96 : decode b_MO_posts 96 = .ok (.iload_n 2, 1) := by decide +kernel
theorem d_MO_posts_97 : decode b_MO_posts 97 = .ok (.invokevirtual 183, 3) := by decide +kernel
theorem d_MO_posts_100 : decode b_MO_posts 100 = .ok (.iconst 0, 1) := by decide +kernel
theorem d_MO_posts_101 : decode b_MO_posts 101 = .ok (.ireturn, 1) := by decide +kernel
theorem d_MO_removes_0 : decode b_MO_removes 0 = .ok (.aload_n 0, 1) := by decide +kernel
theorem d_MO_removes_1 : decode b_MO_removes 1 = .ok (.iload_n 2, 1) := by decide +kernel
theorem d_MO_removes_2 : decode b_MO_removes 2 = .ok (.aload_n 0, 1) := by decide +kernel
theorem d_MO_removes_3 : decode b_MO_removes 3 = .ok (.getfield 56, 3) := by decide +kernel
theorem d_MO_removes_6 : decode b_MO_removes 6 = .ok (.iload_n 1, 1) := by decide +kernel
theorem d_MO_removes_7 : decode b_MO_removes 7 = .ok (.iaload, 1) := by decide +kernel
theorem d_MO_removes_8 : decode b_MO_removes 8 = .ok (.invokevirtual 142, 3) := by decide +kernel
theorem d_MO_removes_11 : decode b_MO_removes 11 = .ok (.ifCond .ne 10, 3) := by decide +kernel
theorem d_MO_removes_14 : decode b_MO_removes 14 = .ok (.aload_n 0, 1) := by decide +kernel
theorem d_MO_removes_15 : decode b_MO_removes 15 = .ok (.iload_n 1, 1) := by decide +kernel
theorem d_MO_removes_16 : decode b_MO_removes 16 = .ok (.iconst (-1), 1) := by decide +kernel
theorem d_MO_removes_17 : decode b_MO_removes 17 = .ok (.invokevirtual 126, 3) := by decide +kernel
theorem d_MO_removes_20 : decode b_MO_removes 20 = .ok (.ireturn, 1) := by decide +kernel
theorem d_MO_removes_21 : decode b_MO_removes 21 = .ok (.aload_n 0, 1) := by decide +kernel
theorem d_MO_removes_22 : decode b_MO_removes 22 = .ok (.iload_n 2, 1) := by decide +kernel
theorem d_MO_removes_23 : decode b_MO_removes 23 = .ok (.aload_n 0, 1) := by decide +kernel
theorem d_MO_removes_24 : decode b_MO_removes 24 = .ok (.getfield 56, 3) := by decide +kernel
theorem d_MO_removes_27 : decode b_MO_removes 27 = .ok (.iload_n 1, 1) := by decide +kernel
theorem d_MO_removes_28 : decode b_MO_removes 28 = .ok (.iaload, 1) := by decide +kernel
theorem d_MO_removes_29 : decode b_MO_removes 29 = .ok (.invokevirtual 87, 3) := by decide +kernel
theorem d_MO_removes_32 : decode b_MO_removes 32 = .ok (.istore_n 3, 1) := by decide +kernel
theorem d_MO_removes_33 : decode b_MO_removes 33 = .ok (.aload_n 0, 1) := by decide +kernel
theorem d_MO_removes_34 : decode b_MO_removes 34 = .ok (.getfield 34, 3) := by decide +kernel
theorem d_MO_removes_37 : decode b_MO_removes 37 = .ok (.iconst 5, 1) := by decide +kernel
theorem d_MO_removes_38 : decode b_MO_removes 38 = .ok (.iload_n 2, 1) := by decide +kernel
theorem d_MO_removes_39 : decode b_MO_removes 39 = .ok (.imul, 1) := by decide +kernel
theorem d_MO_removes_40 : decode b_MO_removes 40 = .ok (.iload_n 3, 1) := by decide +kernel
theorem d_MO_removes_41 : decode b_MO_removes 41 = .ok (.iadd, 1) := by decide +kernel
theorem d_MO_removes_42 : decode b_MO_removes 42 = .ok (.iaload, 1) := by decide +kernel
theorem d_MO_removes_43 : decode b_MO_removes 43 = .ok (.istore 4, 2) := by decide +kernel
theorem d_MO_removes_45 : decode b_MO_removes 45 = .ok (.aload_n 0, 1) := by decide +kernel
theorem d_MO_removes_46 : decode b_MO_removes 46 = .ok (.iload_n 2, 1) := by decide +kernel
theorem d_MO_removes_47 : decode b_MO_removes 47 = .ok (.iload_n 3, 1) := by decide +kernel
theorem d_MO_removes_48 : decode b_MO_removes 48 = .ok (.invokevirtual 186, 3) := by decide +kernel
theorem d_MO_removes_51 : decode b_MO_removes 51 = .ok (.aload_n 0, 1) := by decide +kernel
theorem d_MO_removes_52 : decode b_MO_removes 52 = .ok (.getfield 25, 3) := by decide +kernel
theorem d_MO_removes_55 : decode b_MO_removes 55 = .ok (.iload_n 2, 1) := by decide +kernel
theorem d_MO_removes_56 : decode b_MO_removes 56 = .ok (.iaload, 1) := by decide +kernel
theorem d_MO_removes_57 : decode b_MO_removes 57 = .ok (.iconst 2, 1) := by decide +kernel
theorem d_MO_removes_58 : decode b_MO_removes 58 = .ok (.if_icmp .ge 16, 3) := by decide +kernel
theorem d_MO_removes_61 : decode b_MO_removes 61 = .ok (.iload_n 2, 1) := by decide +kernel
theorem d_MO_removes_62 : decode b_MO_removes 62 = .ok (.aload_n 0, 1) := by decide +kernel
theorem d_MO_removes_63 : decode b_MO_removes 63 = .ok (.getfield 108, 3) := by decide +kernel
theorem d_MO_removes_66 : decode b_MO_removes 66 = .ok (.if_icmp .eq 8, 3) := by decide +kernel
theorem d_MO_removes_69 : decode b_MO_removes 69 = .ok (.aload_n 0, 1) := by decide +kernel
theorem d_MO_removes_70 : decode b_MO_removes 70 = .ok (.iload_n 2, 1) := by decide +kernel
theorem d_MO_removes_71 : decode b_MO_removes 71 = .ok (.invokevirtual 189, 3) := by decide +kernel
theorem d_MO_removes_74 : decode b_MO_removes 74 = .ok (.aload_n 0, 1) := by decide +kernel
theorem d_MO_removes_75 : decode b_MO_removes 75 = .ok (.iload_n 1, 1) := by decide +kernel
theorem d_MO_removes_76 : decode b_MO_removes 76 = .ok (.iload 4, 2) := by decide +kernel
theorem d_MO_removes_78 : decode b_MO_removes 78 = .ok (.invokevirtual 126, 3) := by decide +kernel
theorem d_MO_removes_81 : decode b_MO_removes 81 = .ok (.ireturn, 1) := by decide +kernel
theorem d_MO_takeOut_0 : decode b_MO_takeOut 0 = .ok (.aload_n 0, 1) := by decide +kernel
theorem d_MO_takeOut_1 : decode b_MO_takeOut 1 = .ok (.getfield 25, 3) := by decide +kernel
theorem d_MO_takeOut_4 : decode b_MO_takeOut 4 = .ok (.iload_n 1, 1) := by decide +kernel
theorem d_MO_takeOut_5 : decode b_MO_takeOut 5 = .ok (.dup2, 1) := by decide +kernel
theorem d_MO_takeOut_6 : decode b_MO_takeOut 6 = .ok (.iaload, 1) := by decide +kernel
theorem d_MO_takeOut_7 : decode b_MO_takeOut 7 = .ok (.iconst 1, 1) := by decide +kernel
theorem d_MO_takeOut_8 : decode b_MO_takeOut 8 = .ok (.isub, 1) := by decide +kernel
theorem d_MO_takeOut_9 : decode b_MO_takeOut 9 = .ok (.iastore, 1) := by decide +kernel
theorem d_MO_takeOut_10 : decode b_MO_takeOut 10 = .ok (.iconst 5, 1) := by decide +kernel
theorem d_MO_takeOut_11 : decode b_MO_takeOut 11 = .ok (.iload_n 1, 1) := by decide +kernel
theorem d_MO_takeOut_12 : decode b_MO_takeOut 12 = .ok (.imul, 1) := by decide +kernel
theorem d_MO_takeOut_13 : decode b_MO_takeOut 13 = .ok (.iload_n 2, 1) := by decide +kernel
theorem d_MO_takeOut_14 : decode b_MO_takeOut 14 = .ok (.iadd, 1) := by decide +kernel
theorem d_MO_takeOut_15 : decode b_MO_takeOut 15 = .ok (.istore_n 3, 1) := by decide +kernel
theorem d_MO_takeOut_16 : decode b_MO_takeOut 16 = .ok (.iload_n 3, 1) := by decide +kernel
theorem d_MO_takeOut_17 : decode b_MO_takeOut 17 = .ok (.iconst 5, 1) := by decide +kernel
theorem d_MO_takeOut_18 : decode b_MO_takeOut 18 = .ok (.iload_n 1, 1) := by decide +kernel
theorem d_MO_takeOut_19 : decode b_MO_takeOut 19 = .ok (.imul, 1) := by decide +kernel
theorem d_MO_takeOut_20 : decode b_MO_takeOut 20 = .ok (.aload_n 0, 1) := by decide +kernel
theorem d_MO_takeOut_21 : decode b_MO_takeOut 21 = .ok (.getfield 25, 3) := by decide +kernel
theorem d_MO_takeOut_24 : decode b_MO_takeOut 24 = .ok (.iload_n 1, 1) := by decide +kernel
theorem d_MO_takeOut_25 : decode b_MO_takeOut 25 = .ok (.iaload, 1) := by decide +kernel
theorem d_MO_takeOut_26 : decode b_MO_takeOut 26 = .ok (.iadd, 1) := by decide +kernel
theorem d_MO_takeOut_27 : decode b_MO_takeOut 27 = .ok (.if_icmp .ge 37, 3) := by decide +kernel
theorem d_MO_takeOut_30 : decode b_MO_takeOut 30 = .ok (.aload_n 0, 1) := by decide +kernel
theorem d_MO_takeOut_31 : decode b_MO_takeOut 31 = .ok (.getfield 31, 3) := by decide +kernel
theorem d_MO_takeOut_34 : decode b_MO_takeOut 34 = .ok (.iload_n 3, 1) := by decide +kernel
theorem d_MO_takeOut_35 : decode b_MO_takeOut 35 = .ok (.aload_n 0, 1) := by decide +kernel
theorem d_MO_takeOut_36 : decode b_MO_takeOut 36 = .ok (.getfield 31, 3) := by decide +kernel
theorem d_MO_takeOut_39 : decode b_MO_takeOut 39 = .ok (.iload_n 3, 1) := by decide +kernel
theorem d_MO_takeOut_40 : decode b_MO_takeOut 40 = .ok (.iconst 1, 1) := by decide +kernel
theorem d_MO_takeOut_41 : decode b_MO_takeOut 41 = .ok (.iadd, 1) := by decide +kernel
theorem d_MO_takeOut_42 : decode b_MO_takeOut 42 = .ok (.iaload, 1) := by decide +kernel
theorem d_MO_takeOut_43 : decode b_MO_takeOut 43 = .ok (.iastore, 1) := by decide +kernel
theorem d_MO_takeOut_44 : decode b_MO_takeOut 44 = .ok (.aload_n 0, 1) := by decide +kernel
theorem d_MO_takeOut_45 : decode b_MO_takeOut 45 = .ok (.getfield 34, 3) := by decide +kernel
theorem d_MO_takeOut_48 : decode b_MO_takeOut 48 = .ok (.iload_n 3, 1) := by decide +kernel
theorem d_MO_takeOut_49 : decode b_MO_takeOut 49 = .ok (.aload_n 0, 1) := by decide +kernel
theorem d_MO_takeOut_50 : decode b_MO_takeOut 50 = .ok (.getfield 34, 3) := by decide +kernel
theorem d_MO_takeOut_53 : decode b_MO_takeOut 53 = .ok (.iload_n 3, 1) := by decide +kernel
theorem d_MO_takeOut_54 : decode b_MO_takeOut 54 = .ok (.iconst 1, 1) := by decide +kernel
theorem d_MO_takeOut_55 : decode b_MO_takeOut 55 = .ok (.iadd, 1) := by decide +kernel
theorem d_MO_takeOut_56 : decode b_MO_takeOut 56 = .ok (.iaload, 1) := by decide +kernel
theorem d_MO_takeOut_57 : decode b_MO_takeOut 57 = .ok (.iastore, 1) := by decide +kernel
theorem d_MO_takeOut_58 : decode b_MO_takeOut 58 = .ok (.iinc 3 1, 3) := by decide +kernel
theorem d_MO_takeOut_61 : decode b_MO_takeOut 61 = .ok (.goto (-45), 3) := by decide +kernel
theorem d_MO_takeOut_64 : decode b_MO_takeOut 64 = .ok (.return_, 1) := by decide +kernel
theorem d_MO_comeIntoQueue_0 : decode b_MO_comeIntoQueue 0 = .ok (.iconst 0, 1) := by decide +kernel
theorem d_MO_comeIntoQueue_1 : decode b_MO_comeIntoQueue 1 = .ok (.istore_n 2, 1) := by decide +kernel
theorem d_MO_comeIntoQueue_2 : decode b_MO_comeIntoQueue 2 = .ok (.iconst 0, 1) := by decide +kernel
theorem d_MO_comeIntoQueue_3 : decode b_MO_comeIntoQueue 3 = .ok (.istore_n 3, 1) := by decide +kernel
theorem d_MO_comeIntoQueue_4 : decode b_MO_comeIntoQueue 4 = .ok (.iload_n 3, 1) := by decide +kernel
theorem d_MO_comeIntoQueue_5 : decode b_MO_comeIntoQueue 5 = .ok (.aload_n 0, 1) := by decide +kernel
theorem d_MO_comeIntoQueue_6 : decode b_MO_comeIntoQueue 6 = .ok (.getfield 91, 3) := by decide +kernel
theorem d_MO_comeIntoQueue_9 : decode b_MO_comeIntoQueue 9 = .ok (.if_icmp .ge 29, 3) := by decide +kernel
theorem d_MO_comeIntoQueue_12 : decode b_MO_comeIntoQueue 12 = .ok (.iload_n 2, 1) := by decide +kernel
theorem d_MO_comeIntoQueue_13 : decode b_MO_comeIntoQueue 13 = .ok (.ifCond .ne 13, 3) := by decide +kernel
theorem d_MO_comeIntoQueue_16 : decode b_MO_comeIntoQueue 16 = .ok (.aload_n 0, 1) := by decide +kernel
theorem d_MO_comeIntoQueue_17 : decode b_MO_comeIntoQueue 17 = .ok (.getfield 40, 3) := by decide +kernel
theorem d_MO_comeIntoQueue_20 : decode b_MO_comeIntoQueue 20 = .ok (.iload_n 3, 1) := by decide +kernel
theorem d_MO_comeIntoQueue_21 : decode b_MO_comeIntoQueue 21 = .ok (.iaload, 1) := by decide +kernel
theorem d_MO_comeIntoQueue_22 : decode b_MO_comeIntoQueue 22 = .ok (.iload_n 1, 1) := by decide +kernel
theorem d_MO_comeIntoQueue_23 : decode b_MO_comeIntoQueue 23 = .ok (.if_icmp .ne 7, 3) := by decide +kernel
theorem d_MO_comeIntoQueue_26 : decode b_MO_comeIntoQueue 26 = .ok (.iconst 1, 1) := by decide +kernel
theorem d_MO_comeIntoQueue_27 : decode b_MO_comeIntoQueue 27 = .ok (.goto 4, 3) := by decide +kernel
theorem d_MO_comeIntoQueue_30 : decode b_MO_comeIntoQueue 30 = .ok (.iconst 0, 1) := by decide +kernel
theorem d_MO_comeIntoQueue_31 : decode b_MO_comeIntoQueue 31 = .ok (.istore_n 2, 1) := by decide +kernel
theorem d_MO_comeIntoQueue_32 : decode b_MO_comeIntoQueue 32 = .ok (.iinc 3 1, 3) := by decide +kernel
theorem d_MO_comeIntoQueue_35 : decode b_MO_comeIntoQueue 35 = .ok (.goto (-31), 3) := by decide +kernel
theorem d_MO_comeIntoQueue_38 : decode b_MO_comeIntoQueue 38 = .ok (.iload_n 2, 1) := by decide +kernel
theorem d_MO_comeIntoQueue_39 : decode b_MO_comeIntoQueue 39 = .ok (.ifCond .ne 12, 3) := by decide +kernel
theorem d_MO_comeIntoQueue_42 : decode b_MO_comeIntoQueue 42 = .ok (.aload_n 0, 1) := by decide +kernel
theorem d_MO_comeIntoQueue_43 : decode b_MO_comeIntoQueue 43 = .ok (.getfield 91, 3) := by decide +kernel
theorem d_MO_comeIntoQueue_46 : decode b_MO_comeIntoQueue 46 = .ok (.bipush 12, 2) := by decide +kernel
theorem d_MO_comeIntoQueue_48 : decode b_MO_comeIntoQueue 48 = .ok (.if_icmp .ne 4, 3) := by decide +kernel
theorem d_MO_comeIntoQueue_51 : decode b_MO_comeIntoQueue 51 = .ok (.return_, 1) := by decide +kernel
theorem d_MO_comeIntoQueue_52 : decode b_MO_comeIntoQueue 52 = .ok (.aload_n 0, 1) := by decide +kernel
theorem d_MO_comeIntoQueue_53 : decode b_MO_comeIntoQueue 53 = .ok (.getfield 40, 3) := by decide +kernel
theorem d_MO_comeIntoQueue_56 : decode b_MO_comeIntoQueue 56 = .ok (.aload_n 0, 1) := by decide +kernel
theorem d_MO_comeIntoQueue_57 : decode b_MO_comeIntoQueue 57 = .ok (.getfield 91, 3) := by decide +kernel
theorem d_MO_comeIntoQueue_60 : decode b_MO_comeIntoQueue 60 = .ok (.iload_n 1, 1) := by decide +kernel
theorem d_MO_comeIntoQueue_61 : decode b_MO_comeIntoQueue 61 = .ok (.iastore, 1) := by decide +kernel
theorem d_MO_comeIntoQueue_62 : decode b_MO_comeIntoQueue 62 = .ok (.aload_n 0, 1) := by decide +kernel
theorem d_MO_comeIntoQueue_63 : decode b_MO_comeIntoQueue 63 = .ok (.dup, 1) := by decide +kernel
theorem d_MO_comeIntoQueue_64 : decode b_MO_comeIntoQueue 64 = .ok (.getfield 91, 3) := by decide +kernel
theorem d_MO_comeIntoQueue_67 : decode b_MO_comeIntoQueue 67 = .ok (.iconst 1, 1) := by decide +kernel
theorem d_MO_comeIntoQueue_68 : decode b_MO_comeIntoQueue 68 = .ok (.iadd, 1) := by decide +kernel
theorem d_MO_comeIntoQueue_69 : decode b_MO_comeIntoQueue 69 = .ok (.putfield 91, 3) := by decide +kernel
theorem d_MO_comeIntoQueue_72 : decode b_MO_comeIntoQueue 72 = .ok (.return_, 1) := by decide +kernel
theorem d_MO_joins_0 : decode b_MO_joins 0 = .ok (.aload_n 0, 1) := by decide +kernel
theorem d_MO_joins_1 : decode b_MO_joins 1 = .ok (.iload_n 2, 1) := by decide +kernel
theorem d_MO_joins_2 : decode b_MO_joins 2 = .ok (.aload_n 0, 1) := by decide +kernel
theorem d_MO_joins_3 : decode b_MO_joins 3 = .ok (.getfield 65, 3) := by decide +kernel
theorem d_MO_joins_6 : decode b_MO_joins 6 = .ok (.iload_n 1, 1) := by decide +kernel
theorem d_MO_joins_7 : decode b_MO_joins 7 = .ok (.iaload, 1) := by decide +kernel
theorem d_MO_joins_8 : decode b_MO_joins 8 = .ok (.invokevirtual 192, 3) := by decide +kernel
theorem d_MO_joins_11 : decode b_MO_joins 11 = .ok (.istore_n 3, 1) := by decide +kernel
theorem d_MO_joins_12 : decode b_MO_joins 12 = .ok (.aload_n 0, 1) := by decide +kernel
theorem d_MO_joins_13 : decode b_MO_joins 13 = .ok (.getfield 7, 3) := by decide +kernel
theorem d_MO_joins_16 : decode b_MO_joins 16 = .ok (.aload_n 0, 1) := by decide +kernel
theorem d_MO_joins_17 : decode b_MO_joins 17 = .ok (.getfield 65, 3) := by decide +kernel
theorem d_MO_joins_20 : decode b_MO_joins 20 = .ok (.iload_n 1, 1) := by decide +kernel
theorem d_MO_joins_21 : decode b_MO_joins 21 = .ok (.iaload, 1) := by decide +kernel
theorem d_MO_joins_22 : decode b_MO_joins 22 = .ok (.iaload, 1) := by decide +kernel
theorem d_MO_joins_23 : decode b_MO_joins 23 = .ok (.iconst 1, 1) := by decide +kernel
theorem d_MO_joins_24 : decode b_MO_joins 24 = .ok (.if_icmp .ne 18, 3) := by decide +kernel
theorem d_MO_joins_27 : decode b_MO_joins 27 = .ok (.iload_n 3, 1) := by decide +kernel
theorem d_MO_joins_28 : decode b_MO_joins 28 = .ok (.iconst (-1), 1) := by decide +kernel
theorem d_MO_joins_29 : decode b_MO_joins 29 = .ok (.if_icmp .eq 13, 3) := by decide +kernel
theorem d_MO_joins_32 : decode b_MO_joins 32 = .ok (.aload_n 0, 1) := by decide +kernel
theorem d_MO_joins_33 : decode b_MO_joins 33 = .ok (.getfield 25, 3) := by decide +kernel
theorem d_MO_joins_36 : decode b_MO_joins 36 = .ok (.iload_n 2, 1) := by decide +kernel
theorem d_MO_joins_37 : decode b_MO_joins 37 = .ok (.iaload, 1) := by decide +kernel
theorem d_MO_joins_38 : decode b_MO_joins 38 = .ok (.iconst 1, 1) := by decide +kernel
theorem d_MO_joins_39 : decode b_MO_joins 39 = .ok (.if_icmp .ne 10, 3) := by decide +kernel
theorem d_MO_joins_42 : decode b_MO_joins 42 = .ok (.aload_n 0, 1) := by decide +kernel
theorem d_MO_joins_43 : decode b_MO_joins 43 = .ok (.iload_n 1, 1) := by decide +kernel
theorem d_MO_joins_44 : decode b_MO_joins 44 = .ok (.iconst 0, 1) := by decide +kernel
theorem d_MO_joins_45 : decode b_MO_joins 45 = .ok (.invokevirtual 126, 3) := by decide +kernel
theorem d_MO_joins_48 : decode b_MO_joins 48 = .ok (.ireturn, 1) := by decide +kernel
theorem d_MO_joins_49 : decode b_MO_joins 49 = .ok (.iload_n 3, 1) := by decide +kernel
theorem d_MO_joins_50 : decode b_MO_joins 50 = .ok (.aload_n 0, 1) := by decide +kernel
theorem d_MO_joins_51 : decode b_MO_joins 51 = .ok (.getfield 25, 3) := by decide +kernel
theorem d_MO_joins_54 : decode b_MO_joins 54 = .ok (.iload_n 2, 1) := by decide +kernel
theorem d_MO_joins_55 : decode b_MO_joins 55 = .ok (.iaload, 1) := by decide +kernel
theorem d_MO_joins_56 : decode b_MO_joins 56 = .ok (.iconst 1, 1) := by decide +kernel
theorem d_MO_joins_57 : decode b_MO_joins 57 = .ok (.isub, 1) := by decide +kernel
theorem d_MO_joins_58 : decode b_MO_joins 58 = .ok (.if_icmp .ne 6, 3) := by decide +kernel
theorem d_MO_joins_61 : decode b_MO_joins 61 = .ok (.iinc 3 (-1), 3) := by decide +kernel
theorem d_MO_joins_64 : decode b_MO_joins 64 = .ok (.aload_n 0, 1) := by decide +kernel
theorem d_MO_joins_65 : decode b_MO_joins 65 = .ok (.getfield 34, 3) := by decide +kernel
theorem d_MO_joins_68 : decode b_MO_joins 68 = .ok (.iconst 5, 1) := by decide +kernel
theorem d_MO_joins_69 : decode b_MO_joins 69 = .ok (.iload_n 2, 1) := by decide +kernel
theorem d_MO_joins_70 : decode b_MO_joins 70 = .ok (.imul, 1) := by decide +kernel
theorem d_MO_joins_71 : decode b_MO_joins 71 = .ok (.iload_n 3, 1) := by decide +kernel
theorem d_MO_joins_72 : decode b_MO_joins 72 = .ok (.iadd, 1) := by decide +kernel
theorem d_MO_joins_73 : decode b_MO_joins 73 = .ok (.iaload, 1) := by decide +kernel
theorem d_MO_joins_74 : decode b_MO_joins 74 = .ok (.istore 4, 2) := by decide +kernel
theorem d_MO_joins_76 : decode b_MO_joins 76 = .ok (.aload_n 0, 1) := by decide +kernel
theorem d_MO_joins_77 : decode b_MO_joins 77 = .ok (.getfield 34, 3) := by decide +kernel
theorem d_MO_joins_80 : decode b_MO_joins 80 = .ok (.iconst 5, 1) := by decide +kernel
theorem d_MO_joins_81 : decode b_MO_joins 81 = .ok (.iload_n 2, 1) := by decide +kernel
theorem d_MO_joins_82 : decode b_MO_joins 82 = .ok (.imul, 1) := by decide +kernel
theorem d_MO_joins_83 : decode b_MO_joins 83 = .ok (.iload_n 3, 1) := by decide +kernel
theorem d_MO_joins_84 : decode b_MO_joins 84 = .ok (.iadd, 1) := by decide +kernel
theorem d_MO_joins_85 : decode b_MO_joins 85 = .ok (.iconst 1, 1) := by decide +kernel
theorem d_MO_joins_86 : decode b_MO_joins 86 = .ok (.iadd, 1) := by decide +kernel
theorem d_MO_joins_87 : decode b_MO_joins 87 = .ok (.iaload, 1) := by decide +kernel
theorem d_MO_joins_88 : decode b_MO_joins 88 = .ok (.istore 5, 2) := by decide +kernel
theorem d_MO_joins_90 : decode b_MO_joins 90 = .ok (.aload_n 0, 1) := by decide +kernel
theorem d_MO_joins_91 : decode b_MO_joins 91 = .ok (.getfield 28, 3) := by decide +kernel
theorem d_MO_joins_94 : decode b_MO_joins 94 = .ok (.iload 4, 2) := by decide +kernel
theorem d_MO_joins_96 : decode b_MO_joins 96 = .ok (.iaload, 1) := by decide +kernel
theorem d_MO_joins_97 : decode b_MO_joins 97 = .ok (.iconst (-1), 1) := by decide +kernel
theorem d_MO_joins_98 : decode b_MO_joins 98 = .ok (.if_icmp .ne 14, 3) := by decide +kernel
theorem d_MO_joins_101 : decode b_MO_joins 101 = .ok (.aload_n 0, 1) := by decide +kernel
theorem d_MO_joins_102 : decode b_MO_joins 102 = .ok (.getfield 28, 3) := by decide +kernel
theorem d_MO_joins_105 : decode b_MO_joins 105 = .ok (.iload 5, 2) := by decide +kernel
theorem d_MO_joins_107 : decode b_MO_joins 107 = .ok (.iaload, 1) := by decide +kernel
theorem d_MO_joins_108 : decode b_MO_joins 108 = .ok (.iconst (-1), 1) := by decide +kernel
theorem d_MO_joins_109 : decode b_MO_joins 109 = .ok (.if_icmp .eq 5, 3) := by decide +kernel
theorem d_MO_joins_112 : decode b_MO_joins 112 = .ok (.iconst 1, 1) := by decide +kernel
theorem d_MO_joins_113 : decode b_MO_joins 113 = .ok (.ireturn, 1) := by decide +kernel
theorem d_MO_joins_114 : decode b_MO_joins 114 = .ok (.aload_n 0, 1) := by decide +kernel
theorem d_MO_joins_115 : decode b_MO_joins 115 = .ok (.getfield 19, 3) := by decide +kernel
theorem d_MO_joins_118 : decode b_MO_joins 118 = .ok (.iload 4, 2) := by decide +kernel
theorem d_MO_joins_120 : decode b_MO_joins 120 = .ok (.iaload, 1) := by decide +kernel
theorem d_MO_joins_121 : decode b_MO_joins 121 = .ok (.aload_n 0, 1) := by decide +kernel
theorem d_MO_joins_122 : decode b_MO_joins 122 = .ok (.getfield 31, 3) := by decide +kernel
theorem d_MO_joins_125 : decode b_MO_joins 125 = .ok (.iconst 5, 1) := by decide +kernel
theorem d_MO_joins_126 : decode b_MO_joins 126 = .ok (.iload_n 2, 1) := by decide +kernel
theorem d_MO_joins_127 : decode b_MO_joins 127 = .ok (.imul, 1) := by decide +kernel
theorem d_MO_joins_128 : decode b_MO_joins 128 = .ok (.iload_n 3, 1) := by decide +kernel
theorem d_MO_joins_129 : decode b_MO_joins 129 = .ok (.iadd, 1) := by decide +kernel
theorem d_MO_joins_130 : decode b_MO_joins 130 = .ok (.iaload, 1) := by decide +kernel
theorem d_MO_joins_131 : decode b_MO_joins 131 = .ok (.if_icmp .ne 25, 3) := by decide +kernel
theorem d_MO_joins_134 : decode b_MO_joins 134 = .ok (.aload_n 0, 1) := by decide +kernel
theorem d_MO_joins_135 : decode b_MO_joins 135 = .ok (.getfield 19, 3) := by decide +kernel
theorem d_MO_joins_138 : decode b_MO_joins 138 = .ok (.iload 5, 2) := by decide +kernel
theorem d_MO_joins_140 : decode b_MO_joins 140 = .ok (.iaload, 1) := by decide +kernel
theorem d_MO_joins_141 : decode b_MO_joins 141 = .ok (.aload_n 0, 1) := by decide +kernel
theorem d_MO_joins_142 : decode b_MO_joins 142 = .ok (.getfield 31, 3) := by decide +kernel
theorem d_MO_joins_145 : decode b_MO_joins 145 = .ok (.iconst 5, 1) := by decide +kernel
theorem d_MO_joins_146 : decode b_MO_joins 146 = .ok (.iload_n 2, 1) := by decide +kernel
theorem d_MO_joins_147 : decode b_MO_joins 147 = .ok (.imul, 1) := by decide +kernel
theorem d_MO_joins_148 : decode b_MO_joins 148 = .ok (.iload_n 3, 1) := by decide +kernel
theorem d_MO_joins_149 : decode b_MO_joins 149 = .ok (.iadd, 1) := by decide +kernel
theorem d_MO_joins_150 : decode b_MO_joins 150 = .ok (.iconst 1, 1) := by decide +kernel
theorem d_MO_joins_151 : decode b_MO_joins 151 = .ok (.iadd, 1) := by decide +kernel
theorem d_MO_joins_152 : decode b_MO_joins 152 = .ok (.iaload, 1) := by decide +kernel
theorem d_MO_joins_153 : decode b_MO_joins 153 = .ok (.if_icmp .eq 10, 3) := by decide +kernel
theorem d_MO_joins_156 : decode b_MO_joins 156 = .ok (.aload_n 0, 1) := by decide +kernel
theorem d_MO_joins_157 : decode b_MO_joins 157 = .ok (.iload_n 1, 1) := by decide +kernel
theorem d_MO_joins_158 : decode b_MO_joins 158 = .ok (.iconst 0, 1) := by decide +kernel
theorem d_MO_joins_159 : decode b_MO_joins 159 = .ok (.invokevirtual 126, 3) := by decide +kernel
theorem d_MO_joins_162 : decode b_MO_joins 162 = .ok (.ireturn, 1) := by decide +kernel
theorem d_MO_joins_163 : decode b_MO_joins 163 = .ok (.aload_n 0, 1) := by decide +kernel
theorem d_MO_joins_164 : decode b_MO_joins 164 = .ok (.getfield 25, 3) := by decide +kernel
theorem d_MO_joins_167 : decode b_MO_joins 167 = .ok (.iload 4, 2) := by decide +kernel
theorem d_MO_joins_169 : decode b_MO_joins 169 = .ok (.iaload, 1) := by decide +kernel
theorem d_MO_joins_170 : decode b_MO_joins 170 = .ok (.aload_n 0, 1) := by decide +kernel
theorem d_MO_joins_171 : decode b_MO_joins 171 = .ok (.getfield 25, 3) := by decide +kernel
theorem d_MO_joins_174 : decode b_MO_joins 174 = .ok (.iload 5, 2) := by decide +kernel
theorem d_MO_joins_176 : decode b_MO_joins 176 = .ok (.iaload, 1) := by decide +kernel
theorem d_MO_joins_177 : decode b_MO_joins 177 = .ok (.iadd, 1) := by decide +kernel
theorem d_MO_joins_178 : decode b_MO_joins 178 = .ok (.iconst 4, 1) := by decide +kernel
theorem d_MO_joins_179 : decode b_MO_joins 179 = .ok (.if_icmp .le 31, 3) := by decide +kernel
theorem d_MO_joins_182 : decode b_MO_joins 182 = .ok (.aload_n 0, 1) := by decide +kernel
theorem d_MO_joins_183 : decode b_MO_joins 183 = .ok (.iload 4, 2) := by decide +kernel
theorem d_MO_joins_185 : decode b_MO_joins 185 = .ok (.iload 5, 2) := by decide +kernel
theorem d_MO_joins_187 : decode b_MO_joins 187 = .ok (.invokevirtual 195, 3) := by decide +kernel
theorem d_MO_joins_190 : decode b_MO_joins 190 = .ok (.aload_n 0, 1) := by decide +kernel
theorem d_MO_joins_191 : decode b_MO_joins 191 = .ok (.getfield 31, 3) := by decide +kernel
theorem d_MO_joins_194 : decode b_MO_joins 194 = .ok (.iconst 5, 1) := by decide +kernel
theorem d_MO_joins_195 : decode b_MO_joins 195 = .ok (.iload_n 2, 1) := by decide +kernel
theorem d_MO_joins_196 : decode b_MO_joins 196 = .ok (.imul, 1) := by decide +kernel
theorem d_MO_joins_197 : decode b_MO_joins 197 = .ok (.iload_n 3, 1) := by decide +kernel
theorem d_MO_joins_198 : decode b_MO_joins 198 = .ok (.iadd, 1) := by decide +kernel
theorem d_MO_joins_199 : decode b_MO_joins 199 = .ok (.aload_n 0, 1) := by decide +kernel
theorem d_MO_joins_200 : decode b_MO_joins 200 = .ok (.getfield 19, 3) := by decide +kernel
theorem d_MO_joins_203 : decode b_MO_joins 203 = .ok (.iload 4, 2) := by decide +kernel
theorem d_MO_joins_205 : decode b_MO_joins 205 = .ok (.iaload, 1) := by decide +kernel
theorem d_MO_joins_206 : decode b_MO_joins 206 = .ok (.iastore, 1) := by decide +kernel
theorem d_MO_joins_207 : decode b_MO_joins 207 = .ok (.goto 121, 3) := by decide +kernel
theorem d_MO_joins_210 : decode b_MO_joins 210 = .ok (.iconst 5, 1) := by decide +kernel
theorem d_MO_joins_211 : decode b_MO_joins 211 = .ok (.iload 5, 2) := by decide +kernel
theorem d_MO_joins_213 : decode b_MO_joins 213 = .ok (.imul, 1) := by decide +kernel
theorem d_MO_joins_214 : decode b_MO_joins 214 = .ok (.istore 6, 2) := by decide +kernel
theorem d_MO_joins_216 : decode b_MO_joins 216 = .ok (.iload 6, 2) := by decide +kernel
theorem d_MO_joins_218 : decode b_MO_joins 218 = .ok (.iconst 5, 1) := by decide +kernel
theorem d_MO_joins_219 : decode b_MO_joins 219 = .ok (.iload 5, 2) := by decide +kernel
theorem d_MO_joins_221 : decode b_MO_joins 221 = .ok (.imul, 1) := by decide +kernel
theorem d_MO_joins_222 : decode b_MO_joins 222 = .ok (.aload_n 0, 1) := by decide +kernel
theorem d_MO_joins_223 : decode b_MO_joins 223 = .ok (.getfield 25, 3) := by decide +kernel
theorem d_MO_joins_226 : decode b_MO_joins 226 = .ok (.iload 5, 2) := by decide +kernel
theorem d_MO_joins_228 : decode b_MO_joins 228 = .ok (.iaload, 1) := by decide +kernel
theorem d_MO_joins_229 : decode b_MO_joins 229 = .ok (.iadd, 1) := by decide +kernel
theorem d_MO_joins_230 : decode b_MO_joins 230 = .ok (.if_icmp .ge 29, 3) := by decide +kernel
theorem d_MO_joins_233 : decode b_MO_joins 233 = .ok (.aload_n 0, 1) := by decide +kernel
theorem d_MO_joins_234 : decode b_MO_joins 234 = .ok (.iload 4, 2) := by decide +kernel
theorem d_MO_joins_236 : decode b_MO_joins 236 = .ok (.aload_n 0, 1) := by decide +kernel
theorem d_MO_joins_237 : decode b_MO_joins 237 = .ok (.getfield 31, 3) := by decide +kernel
theorem d_MO_joins_240 : decode b_MO_joins 240 = .ok (.iload 6, 2) := by decide +kernel
theorem d_MO_joins_242 : decode b_MO_joins 242 = .ok (.iaload, 1) := by decide +kernel
theorem d_MO_joins_243 : decode b_MO_joins 243 = .ok (.aload_n 0, 1) := by decide +kernel
theorem d_MO_joins_244 : decode b_MO_joins 244 = .ok (.getfield 34, 3) := by decide +kernel
theorem d_MO_joins_247 : decode b_MO_joins 247 = .ok (.iload 6, 2) := by decide +kernel
theorem d_MO_joins_249 : decode b_MO_joins 249 = .ok (.iaload, 1) := by decide +kernel
theorem d_MO_joins_250 : decode b_MO_joins 250 = .ok (.invokevirtual 154, 3) := by decide +kernel
theorem d_MO_joins_253 : decode b_MO_joins 253 = .ok (.iinc 6 1, 3) := by decide +kernel
theorem d_MO_joins_256 : decode b_MO_joins 256 = .ok (.goto (-40), 3) := by decide +kernel
theorem d_MO_joins_259 : decode b_MO_joins 259 = .ok (.aload_n 0, 1) := by decide +kernel
theorem d_MO_joins_260 : decode b_MO_joins 260 = .ok (.getfield 19, 3) := by decide +kernel
theorem d_MO_joins_263 : decode b_MO_joins 263 = .ok (.iload 4, 2) := by decide +kernel
theorem d_MO_joins_265 : decode b_MO_joins 265 = .ok (.aload_n 0, 1) := by decide +kernel
theorem d_MO_joins_266 : decode b_MO_joins 266 = .ok (.getfield 19, 3) := by decide +kernel
theorem d_MO_joins_269 : decode b_MO_joins 269 = .ok (.iload 5, 2) := by decide +kernel
theorem d_MO_joins_271 : decode b_MO_joins 271 = .ok (.iaload, 1) := by decide +kernel
theorem d_MO_joins_272 : decode b_MO_joins 272 = .ok (.iastore, 1) := by decide +kernel
theorem d_MO_joins_273 : decode b_MO_joins 273 = .ok (.aload_n 0, 1) := by decide +kernel
theorem d_MO_joins_274 : decode b_MO_joins 274 = .ok (.getfield 22, 3) := by decide +kernel
theorem d_MO_joins_277 : decode b_MO_joins 277 = .ok (.iload 4, 2) := by decide +kernel
theorem d_MO_joins_279 : decode b_MO_joins 279 = .ok (.aload_n 0, 1) := by decide +kernel
theorem d_MO_joins_280 : decode b_MO_joins 280 = .ok (.getfield 22, 3) := by decide +kernel
theorem d_MO_joins_283 : decode b_MO_joins 283 = .ok (.iload 5, 2) := by decide +kernel
theorem d_MO_joins_285 : decode b_MO_joins 285 = .ok (.iaload, 1) := by decide +kernel
theorem d_MO_joins_286 : decode b_MO_joins 286 = .ok (.iastore, 1) := by decide +kernel
theorem d_MO_joins_287 : decode b_MO_joins 287 = .ok (.aload_n 0, 1) := by decide +kernel
theorem d_MO_joins_288 : decode b_MO_joins 288 = .ok (.iload 5, 2) := by decide +kernel
theorem d_MO_joins_290 : decode b_MO_joins 290 = .ok (.iload_n 1, 1) := by decide +kernel
theorem d_MO_joins_291 : decode b_MO_joins 291 = .ok (.invokevirtual 198, 3) := by decide +kernel
theorem d_MO_joins_294 : decode b_MO_joins 294 = .ok (.aload_n 0, 1) := by decide +kernel
theorem d_MO_joins_295 : decode b_MO_joins 295 = .ok (.iload_n 2, 1) := by decide +kernel
theorem d_MO_joins_296 : decode b_MO_joins 296 = .ok (.iload_n 3, 1) := by decide +kernel
theorem d_MO_joins_297 : decode b_MO_joins 297 = .ok (.invokevirtual 186, 3) := by decide +kernel
theorem d_MO_joins_300 : decode b_MO_joins 300 = .ok (.aload_n 0, 1) := by decide +kernel
theorem d_MO_joins_301 : decode b_MO_joins 301 = .ok (.getfield 34, 3) := by decide +kernel
theorem d_MO_joins_304 : decode b_MO_joins 304 = .ok (.iconst 5, 1) := by decide +kernel
theorem d_MO_joins_305 : decode b_MO_joins 305 = .ok (.iload_n 2, 1) := by decide +kernel
theorem d_MO_joins_306 : decode b_MO_joins 306 = .ok (.imul, 1) := by decide +kernel
theorem d_MO_joins_307 : decode b_MO_joins 307 = .ok (.iload_n 3, 1) := by decide +kernel
theorem d_MO_joins_308 : decode b_MO_joins 308 = .ok (.iadd, 1) := by decide +kernel
theorem d_MO_joins_309 : decode b_MO_joins 309 = .ok (.iload 4, 2) := by decide +kernel
theorem d_MO_joins_311 : decode b_MO_joins 311 = .ok (.iastore, 1) := by decide +kernel
theorem d_MO_joins_312 : decode b_MO_joins 312 = .ok (.aload_n 0, 1) := by decide +kernel
theorem d_MO_joins_313 : decode b_MO_joins 313 = .ok (.getfield 25, 3) := by decide +kernel
theorem d_MO_joins_316 : decode b_MO_joins 316 = .ok (.iload_n 2, 1) := by decide +kernel
theorem d_MO_joins_317 : decode b_MO_joins 317 = .ok (.iaload, 1) := by decide +kernel
theorem d_MO_joins_318 : decode b_MO_joins 318 = .ok (.iconst 1, 1) := by decide +kernel
theorem d_MO_joins_319 : decode b_MO_joins 319 = .ok (.if_icmp .ne 9, 3) := by decide +kernel
theorem d_MO_joins_322 : decode b_MO_joins 322 = .ok (.aload_n 0, 1) := by decide +kernel
theorem d_MO_joins_323 : decode b_MO_joins 323 = .ok (.iload_n 1, 1) := by decide +kernel
theorem d_MO_joins_324 : decode b_MO_joins 324 = .ok (.iload_n 2, 1) := by decide +kernel
theorem d_MO_joins_325 : decode b_MO_joins 325 = .ok (.invokevirtual 201, 3) := by decide +kernel
theorem d_MO_joins_328 : decode b_MO_joins 328 = .ok (.aload_n 0, 1) := by decide +kernel
theorem d_MO_joins_329 : decode b_MO_joins 329 = .ok (.iload_n 1, 1) := by decide +kernel
theorem d_MO_joins_330 : decode b_MO_joins 330 = .ok (.iconst 1, 1) := by decide +kernel
theorem d_MO_joins_331 : decode b_MO_joins 331 = .ok (.invokevirtual 126, 3) := by decide +kernel
theorem d_MO_joins_334 : decode b_MO_joins 334 = .ok (.ireturn, 1) := by decide +kernel
theorem d_MO_childOf_0 : decode b_MO_childOf 0 = .ok (.iconst 0, 1) := by decide +kernel
theorem d_MO_childOf_1 : decode b_MO_childOf 1 = .ok (.istore_n 3, 1) := by decide +kernel
theorem d_MO_childOf_2 : decode b_MO_childOf 2 = .ok (.iload_n 3, 1) := by decide +kernel
theorem d_MO_childOf_3 : decode b_MO_childOf 3 = .ok (.aload_n 0, 1) := by decide +kernel
theorem d_MO_childOf_4 : decode b_MO_childOf 4 = .ok (.getfield 25, 3) := by decide +kernel
theorem d_MO_childOf_7 : decode b_MO_childOf 7 = .ok (.iload_n 1, 1) := by decide +kernel
theorem d_MO_childOf_8 : decode b_MO_childOf 8 = .ok (.iaload, 1) := by decide +kernel
theorem d_MO_childOf_9 : decode b_MO_childOf 9 = .ok (.if_icmp .ge 25, 3) := by decide +kernel
theorem d_MO_childOf_12 : decode b_MO_childOf 12 = .ok (.aload_n 0, 1) := by decide +kernel
theorem d_MO_childOf_13 : decode b_MO_childOf 13 = .ok (.getfield 34, 3) := by decide +kernel
theorem d_MO_childOf_16 : decode b_MO_childOf 16 = .ok (.iconst 5, 1) := by decide +kernel
theorem d_MO_childOf_17 : decode b_MO_childOf 17 = .ok (.iload_n 1, 1) := by decide +kernel
theorem d_MO_childOf_18 : decode b_MO_childOf 18 = .ok (.imul, 1) := by decide +kernel
theorem d_MO_childOf_19 : decode b_MO_childOf 19 = .ok (.iload_n 3, 1) := by decide +kernel
theorem d_MO_childOf_20 : decode b_MO_childOf 20 = .ok (.iadd, 1) := by decide +kernel
theorem d_MO_childOf_21 : decode b_MO_childOf 21 = .ok (.iaload, 1) := by decide +kernel
theorem d_MO_childOf_22 : decode b_MO_childOf 22 = .ok (.iload_n 2, 1) := by decide +kernel
theorem d_MO_childOf_23 : decode b_MO_childOf 23 = .ok (.if_icmp .ne 5, 3) := by decide +kernel
theorem d_MO_childOf_26 : decode b_MO_childOf 26 = .ok (.iload_n 3, 1) := by decide +kernel
theorem d_MO_childOf_27 : decode b_MO_childOf 27 = .ok (.ireturn, 1) := by decide +kernel
theorem d_MO_childOf_28 : decode b_MO_childOf 28 = .ok (.iinc 3 1, 3) := by decide +kernel
theorem d_MO_childOf_31 : decode b_MO_childOf 31 = .ok (.goto (-29), 3) := by decide +kernel
theorem d_MO_childOf_34 : decode b_MO_childOf 34 = .ok (.iconst (-1), 1) := by decide +kernel
theorem d_MO_childOf_35 : decode b_MO_childOf 35 = .ok (.ireturn, 1) := by decide +kernel
theorem d_MO_balance_0 : decode b_MO_balance 0 = .ok (.aload_n 0, 1) := by decide +kernel
theorem d_MO_balance_1 : decode b_MO_balance 1 = .ok (.getfield 25, 3) := by decide +kernel
theorem d_MO_balance_4 : decode b_MO_balance 4 = .ok (.iload_n 1, 1) := by decide +kernel
theorem d_MO_balance_5 : decode b_MO_balance 5 = .ok (.iaload, 1) := by decide +kernel
theorem d_MO_balance_6 : decode b_MO_balance 6 = .ok (.aload_n 0, 1) := by decide +kernel
theorem d_MO_balance_7 : decode b_MO_balance 7 = .ok (.getfield 25, 3) := by decide +kernel
theorem d_MO_balance_10 : decode b_MO_balance 10 = .ok (.iload_n 2, 1) := by decide +kernel
theorem d_MO_balance_11 : decode b_MO_balance 11 = .ok (.iaload, 1) := by decide +kernel
theorem d_MO_balance_12 : decode b_MO_balance 12 = .ok (.iadd, 1) := by decide +kernel
theorem d_MO_balance_13 : decode b_MO_balance 13 = .ok (.iconst 1, 1) := by decide +kernel
theorem d_MO_balance_14 : decode b_MO_balance 14 = .ok (.iadd, 1) := by decide +kernel
theorem d_MO_balance_15 : decode b_MO_balance 15 = .ok (.iconst 2, 1) := by decide +kernel
theorem d_MO_balance_16 : decode b_MO_balance 16 = .ok (.idiv, 1) := by decide +kernel
theorem d_MO_balance_17 : decode b_MO_balance 17 = .ok (.istore_n 3, 1) := by decide +kernel
theorem d_MO_balance_18 : decode b_MO_balance 18 = .ok (.aload_n 0, 1) := by decide +kernel
theorem d_MO_balance_19 : decode b_MO_balance 19 = .ok (.getfield 25, 3) := by decide +kernel
theorem d_MO_balance_22 : decode b_MO_balance 22 = .ok (.iload_n 1, 1) := by decide +kernel
theorem d_MO_balance_23 : decode b_MO_balance 23 = .ok (.iaload, 1) := by decide +kernel
theorem d_MO_balance_24 : decode b_MO_balance 24 = .ok (.iload_n 3, 1) := by decide +kernel
theorem d_MO_balance_25 : decode b_MO_balance 25 = .ok (.if_icmp .ge 33, 3) := by decide +kernel
theorem d_MO_balance_28 : decode b_MO_balance 28 = .ok (.aload_n 0, 1) := by decide +kernel
theorem d_MO_balance_29 : decode b_MO_balance 29 = .ok (.iload_n 1, 1) := by decide +kernel
theorem d_MO_balance_30 : decode b_MO_balance 30 = .ok (.aload_n 0, 1) := by decide +kernel
theorem d_MO_balance_31 : decode b_MO_balance 31 = .ok (.getfield 31, 3) := by decide +kernel
theorem d_MO_balance_34 : decode b_MO_balance 34 = .ok (.iconst 5, 1) := by decide +kernel
theorem d_MO_balance_35 : decode b_MO_balance 35 = .ok (.iload_n 2, 1) := by decide +kernel
theorem d_MO_balance_36 : decode b_MO_balance 36 = .ok (.imul, 1) := by decide +kernel
theorem d_MO_balance_37 : decode b_MO_balance 37 = .ok (.iaload, 1) := by decide +kernel
theorem d_MO_balance_38 : decode b_MO_balance 38 = .ok (.aload_n 0, 1) := by decide +kernel
theorem d_MO_balance_39 : decode b_MO_balance 39 = .ok (.getfield 34, 3) := by decide +kernel
theorem d_MO_balance_42 : decode b_MO_balance 42 = .ok (.iconst 5, 1) := by decide +kernel
theorem d_MO_balance_43 : decode b_MO_balance 43 = .ok (.iload_n 2, 1) := by decide +kernel
theorem d_MO_balance_44 : decode b_MO_balance 44 = .ok (.imul, 1) := by decide +kernel
theorem d_MO_balance_45 : decode b_MO_balance 45 = .ok (.iaload, 1) := by decide +kernel
theorem d_MO_balance_46 : decode b_MO_balance 46 = .ok (.invokevirtual 154, 3) := by decide +kernel
theorem d_MO_balance_49 : decode b_MO_balance 49 = .ok (.aload_n 0, 1) := by decide +kernel
theorem d_MO_balance_50 : decode b_MO_balance 50 = .ok (.iload_n 2, 1) := by decide +kernel
theorem d_MO_balance_51 : decode b_MO_balance 51 = .ok (.iconst 0, 1) := by decide +kernel
theorem d_MO_balance_52 : decode b_MO_balance 52 = .ok (.invokevirtual 186, 3) := by decide +kernel
theorem d_MO_balance_55 : decode b_MO_balance 55 = .ok (.goto (-37), 3) := by decide +kernel
theorem d_MO_balance_58 : decode b_MO_balance 58 = .ok (.aload_n 0, 1) := by decide +kernel
theorem d_MO_balance_59 : decode b_MO_balance 59 = .ok (.getfield 25, 3) := by decide +kernel
theorem d_MO_balance_62 : decode b_MO_balance 62 = .ok (.iload_n 1, 1) := by decide +kernel
theorem d_MO_balance_63 : decode b_MO_balance 63 = .ok (.iaload, 1) := by decide +kernel
theorem d_MO_balance_64 : decode b_MO_balance 64 = .ok (.iload_n 3, 1) := by decide +kernel
theorem d_MO_balance_65 : decode b_MO_balance 65 = .ok (.if_icmp .le 50, 3) := by decide +kernel
theorem d_MO_balance_68 : decode b_MO_balance 68 = .ok (.iconst 5, 1) := by decide +kernel
theorem d_MO_balance_69 : decode b_MO_balance 69 = .ok (.iload_n 1, 1) := by decide +kernel
theorem d_MO_balance_70 : decode b_MO_balance 70 = .ok (.imul, 1) := by decide +kernel
theorem d_MO_balance_71 : decode b_MO_balance 71 = .ok (.aload_n 0, 1) := by decide +kernel
theorem d_MO_balance_72 : decode b_MO_balance 72 = .ok (.getfield 25, 3) := by decide +kernel
theorem d_MO_balance_75 : decode b_MO_balance 75 = .ok (.iload_n 1, 1) := by decide +kernel
theorem d_MO_balance_76 : decode b_MO_balance 76 = .ok (.iaload, 1) := by decide +kernel
theorem d_MO_balance_77 : decode b_MO_balance 77 = .ok (.iadd, 1) := by decide +kernel
theorem d_MO_balance_78 : decode b_MO_balance 78 = .ok (.iconst 1, 1) := by decide +kernel
theorem d_MO_balance_79 : decode b_MO_balance 79 = .ok (.isub, 1) := by decide +kernel
theorem d_MO_balance_80 : decode b_MO_balance 80 = .ok (.istore 4, 2) := by decide +kernel
theorem d_MO_balance_82 : decode b_MO_balance 82 = .ok (.aload_n 0, 1) := by decide +kernel
theorem d_MO_balance_83 : decode b_MO_balance 83 = .ok (.iload_n 2, 1) := by decide +kernel
theorem d_MO_balance_84 : decode b_MO_balance 84 = .ok (.iconst 0, 1) := by decide +kernel
theorem d_MO_balance_85 : decode b_MO_balance 85 = .ok (.aload_n 0, 1) := by decide +kernel
theorem d_MO_balance_86 : decode b_MO_balance 86 = .ok (.getfield 31, 3) := by decide +kernel
theorem d_MO_balance_89 : decode b_MO_balance 89 = .ok (.iload 4, 2) := by decide +kernel
theorem d_MO_balance_91 : decode b_MO_balance 91 = .ok (.iaload, 1) := by decide +kernel
theorem d_MO_balance_92 : decode b_MO_balance 92 = .ok (.aload_n 0, 1) := by decide +kernel
theorem d_MO_balance_93 : decode b_MO_balance 93 = .ok (.getfield 34, 3) := by decide +kernel
theorem d_MO_balance_96 : decode b_MO_balance 96 = .ok (.iload 4, 2) := by decide +kernel
theorem d_MO_balance_98 : decode b_MO_balance 98 = .ok (.iaload, 1) := by decide +kernel
theorem d_MO_balance_99 : decode b_MO_balance 99 = .ok (.invokevirtual 179, 3) := by decide +kernel
theorem d_MO_balance_102 : decode b_MO_balance 102 = .ok (.aload_n 0, 1) := by decide +kernel
theorem d_MO_balance_103 : decode b_MO_balance 103 = .ok (.getfield 25, 3) := by decide +kernel
theorem d_MO_balance_106 : decode b_MO_balance 106 = .ok (.iload_n 1, 1) := by decide +kernel
theorem d_MO_balance_107 : decode b_MO_balance 107 = .ok (.dup2, 1) := by decide +kernel
theorem d_MO_balance_108 : decode b_MO_balance 108 = .ok (.iaload, 1) := by decide +kernel
theorem d_MO_balance_109 : decode b_MO_balance 109 = .ok (.iconst 1, 1) := by decide +kernel
theorem d_MO_balance_110 : decode b_MO_balance 110 = .ok (.isub, 1) := by decide +kernel
theorem d_MO_balance_111 : decode b_MO_balance 111 = .ok (.iastore, 1) := by decide +kernel
theorem d_MO_balance_112 : decode b_MO_balance 112 = .ok (.goto (-54), 3) := by decide +kernel
theorem d_MO_balance_115 : decode b_MO_balance 115 = .ok (.aload_n 0, 1) := by decide +kernel
theorem d_MO_balance_116 : decode b_MO_balance 116 = .ok (.getfield 19, 3) := by decide +kernel
theorem d_MO_balance_119 : decode b_MO_balance 119 = .ok (.iload_n 1, 1) := by decide +kernel
theorem d_MO_balance_120 : decode b_MO_balance 120 = .ok (.aload_n 0, 1) := by decide +kernel
theorem d_MO_balance_121 : decode b_MO_balance 121 = .ok (.getfield 31, 3) := by decide +kernel
theorem d_MO_balance_124 : decode b_MO_balance 124 = .ok (.iconst 5, 1) := by decide +kernel
theorem d_MO_balance_125 : decode b_MO_balance 125 = .ok (.iload_n 1, 1) := by decide +kernel
theorem d_MO_balance_126 : decode b_MO_balance 126 = .ok (.imul, 1) := by decide +kernel
theorem d_MO_balance_127 : decode b_MO_balance 127 = .ok (.iload_n 3, 1) := by decide +kernel
theorem d_MO_balance_128 : decode b_MO_balance 128 = .ok (.iadd, 1) := by decide +kernel
theorem d_MO_balance_129 : decode b_MO_balance 129 = .ok (.iconst 1, 1) := by decide +kernel
theorem d_MO_balance_130 : decode b_MO_balance 130 = .ok (.isub, 1) := by decide +kernel
theorem d_MO_balance_131 : decode b_MO_balance 131 = .ok (.iaload, 1) := by decide +kernel
theorem d_MO_balance_132 : decode b_MO_balance 132 = .ok (.iastore, 1) := by decide +kernel
theorem d_MO_balance_133 : decode b_MO_balance 133 = .ok (.aload_n 0, 1) := by decide +kernel
theorem d_MO_balance_134 : decode b_MO_balance 134 = .ok (.getfield 16, 3) := by decide +kernel
theorem d_MO_balance_137 : decode b_MO_balance 137 = .ok (.iload_n 2, 1) := by decide +kernel
theorem d_MO_balance_138 : decode b_MO_balance 138 = .ok (.aload_n 0, 1) := by decide +kernel
theorem d_MO_balance_139 : decode b_MO_balance 139 = .ok (.getfield 19, 3) := by decide +kernel
theorem d_MO_balance_142 : decode b_MO_balance 142 = .ok (.iload_n 1, 1) := by decide +kernel
theorem d_MO_balance_143 : decode b_MO_balance 143 = .ok (.iaload, 1) := by decide +kernel
theorem d_MO_balance_144 : decode b_MO_balance 144 = .ok (.iastore, 1) := by decide +kernel
theorem d_MO_balance_145 : decode b_MO_balance 145 = .ok (.return_, 1) := by decide +kernel
theorem d_MO_die_0 : decode b_MO_die 0 = .ok (.aload_n 0, 1) := by decide +kernel
theorem d_MO_die_1 : decode b_MO_die 1 = .ok (.getfield 7, 3) := by decide +kernel
theorem d_MO_die_4 : decode b_MO_die 4 = .ok (.iload_n 1, 1) := by decide +kernel
theorem d_MO_die_5 : decode b_MO_die 5 = .ok (.iconst 2, 1) := by decide +kernel
theorem d_MO_die_6 : decode b_MO_die 6 = .ok (.iastore, 1) := by decide +kernel
theorem d_MO_die_7 : decode b_MO_die 7 = .ok (.aload_n 0, 1) := by decide +kernel
theorem d_MO_die_8 : decode b_MO_die 8 = .ok (.iload_n 1, 1) := by decide +kernel
theorem d_MO_die_9 : decode b_MO_die 9 = .ok (.invokevirtual 94, 3) := by decide +kernel
theorem d_MO_die_12 : decode b_MO_die 12 = .ok (.aload_n 0, 1) := by decide +kernel
theorem d_MO_die_13 : decode b_MO_die 13 = .ok (.getfield 37, 3) := by decide +kernel
theorem d_MO_die_16 : decode b_MO_die 16 = .ok (.iload_n 1, 1) := by decide +kernel
theorem d_MO_die_17 : decode b_MO_die 17 = .ok (.iconst 0, 1) := by decide +kernel
theorem d_MO_die_18 : decode b_MO_die 18 = .ok (.iastore, 1) := by decide +kernel
theorem d_MO_die_19 : decode b_MO_die 19 = .ok (.iconst 0, 1) := by decide +kernel
theorem d_MO_die_20 : decode b_MO_die 20 = .ok (.istore_n 3, 1) := by decide +kernel
theorem d_MO_die_21 : decode b_MO_die 21 = .ok (.iload_n 3, 1) := by decide +kernel
theorem d_MO_die_22 : decode b_MO_die 22 = .ok (.iconst 4, 1) := by decide +kernel
theorem d_MO_die_23 : decode b_MO_die 23 = .ok (.if_icmp .ge 35, 3) := by decide +kernel
theorem d_MO_die_26 : decode b_MO_die 26 = .ok (.aload_n 0, 1) := by decide +kernel
theorem d_MO_die_27 : decode b_MO_die 27 = .ok (.getfield 43, 3) := by decide +kernel
theorem d_MO_die_30 : decode b_MO_die 30 = .ok (.iload_n 3, 1) := by decide +kernel
theorem d_MO_die_31 : decode b_MO_die 31 = .ok (.baload, 1) := by decide +kernel
theorem d_MO_die_32 : decode b_MO_die 32 = .ok (.ifCond .eq 20, 3) := by decide +kernel
theorem d_MO_die_35 : decode b_MO_die 35 = .ok (.iload_n 3, 1) := by decide +kernel
theorem d_MO_die_36 : decode b_MO_die 36 = .ok (.iload_n 2, 1) := by decide +kernel
theorem d_MO_die_37 : decode b_MO_die 37 = .ok (.if_icmp .eq 15, 3) := by decide +kernel
theorem d_MO_die_40 : decode b_MO_die 40 = .ok (.aload_n 0, 1) := by decide +kernel
theorem d_MO_die_41 : decode b_MO_die 41 = .ok (.getfield 37, 3) := by decide +kernel
theorem d_MO_die_44 : decode b_MO_die 44 = .ok (.iload_n 1, 1) := by decide +kernel
theorem d_MO_die_45 : decode b_MO_die 45 = .ok (.dup2, 1) := by decide +kernel
theorem d_MO_die_46 : decode b_MO_die 46 = .ok (.iaload, 1) := by decide +kernel
theorem d_MO_die_47 : decode b_MO_die 47 = .ok (.iconst 1, 1) := by decide +kernel
theorem d_MO_die_48 : decode b_MO_die 48 = .ok (.iload_n 3, 1) := by decide +kernel
theorem d_MO_die_49 : decode b_MO_die 49 = .ok (.ishl, 1) := by decide +kernel
theorem d_MO_die_50 : decode b_MO_die 50 = .ok (.ior, 1) := by decide +kernel
theorem d_MO_die_51 : decode b_MO_die 51 = .ok (.iastore, 1) := by decide +kernel
theorem d_MO_die_52 : decode b_MO_die 52 = .ok (.iinc 3 1, 3) := by decide +kernel
theorem d_MO_die_55 : decode b_MO_die 55 = .ok (.goto (-34), 3) := by decide +kernel
theorem d_MO_die_58 : decode b_MO_die 58 = .ok (.aload_n 0, 1) := by decide +kernel
theorem d_MO_die_59 : decode b_MO_die 59 = .ok (.iload_n 1, 1) := by decide +kernel
theorem d_MO_die_60 : decode b_MO_die 60 = .ok (.invokevirtual 98, 3) := by decide +kernel
theorem d_MO_die_63 : decode b_MO_die 63 = .ok (.return_, 1) := by decide +kernel
theorem d_MO_shrinks_0 : decode b_MO_shrinks 0 = .ok (.iload_n 2, 1) := by decide +kernel
theorem d_MO_shrinks_1 : decode b_MO_shrinks 1 = .ok (.aload_n 0, 1) := by decide +kernel
theorem d_MO_shrinks_2 : decode b_MO_shrinks 2 = .ok (.getfield 108, 3) := by decide +kernel
theorem d_MO_shrinks_5 : decode b_MO_shrinks 5 = .ok (.if_icmp .ne 13, 3) := by decide +kernel
theorem d_MO_shrinks_8 : decode b_MO_shrinks 8 = .ok (.aload_n 0, 1) := by decide +kernel
theorem d_MO_shrinks_9 : decode b_MO_shrinks 9 = .ok (.getfield 22, 3) := by decide +kernel
theorem d_MO_shrinks_12 : decode b_MO_shrinks 12 = .ok (.iload_n 2, 1) := by decide +kernel
theorem d_MO_shrinks_13 : decode b_MO_shrinks 13 = .ok (.iaload, 1) := by decide +kernel
theorem d_MO_shrinks_14 : decode b_MO_shrinks 14 = .ok (.iconst (-1), 1) := by decide +kernel
theorem d_MO_shrinks_15 : decode b_MO_shrinks 15 = .ok (.if_icmp .eq 9, 3) := by decide +kernel
theorem d_MO_shrinks_18 : decode b_MO_shrinks 18 = .ok (.aload_n 0, 1) := by decide +kernel
theorem d_MO_shrinks_19 : decode b_MO_shrinks 19 = .ok (.iload_n 2, 1) := by decide +kernel
theorem d_MO_shrinks_20 : decode b_MO_shrinks 20 = .ok (.invokevirtual 189, 3) := by decide +kernel
theorem d_MO_shrinks_23 : decode b_MO_shrinks 23 = .ok (.return_, 1) := by decide +kernel
theorem d_MO_shrinks_24 : decode b_MO_shrinks 24 = .ok (.aload_n 0, 1) := by decide +kernel
theorem d_MO_shrinks_25 : decode b_MO_shrinks 25 = .ok (.aload_n 0, 1) := by decide +kernel
theorem d_MO_shrinks_26 : decode b_MO_shrinks 26 = .ok (.getfield 34, 3) := by decide +kernel
theorem d_MO_shrinks_29 : decode b_MO_shrinks 29 = .ok (.iconst 5, 1) := by decide +kernel
theorem d_MO_shrinks_30 : decode b_MO_shrinks 30 = .ok (.iload_n 2, 1) := by decide +kernel
theorem d_MO_shrinks_31 : decode b_MO_shrinks 31 = .ok (.imul, 1) := by decide +kernel
theorem d_MO_shrinks_32 : decode b_MO_shrinks 32 = .ok (.iaload, 1) := by decide +kernel
theorem d_MO_shrinks_33 : decode b_MO_shrinks 33 = .ok (.putfield 108, 3) := by decide +kernel
theorem d_MO_shrinks_36 : decode b_MO_shrinks 36 = .ok (.aload_n 0, 1) := by decide +kernel
theorem d_MO_shrinks_37 : decode b_MO_shrinks 37 = .ok (.iload_n 2, 1) := by decide +kernel
theorem d_MO_shrinks_38 : decode b_MO_shrinks 38 = .ok (.iload_n 1, 1) := by decide +kernel
theorem d_MO_shrinks_39 : decode b_MO_shrinks 39 = .ok (.invokevirtual 198, 3) := by decide +kernel
theorem d_MO_shrinks_42 : decode b_MO_shrinks 42 = .ok (.return_, 1) := by decide +kernel
theorem d_MO_answer_0 : decode b_MO_answer 0 = .ok (.aload_n 0, 1) := by decide +kernel
theorem d_MO_answer_1 : decode b_MO_answer 1 = .ok (.aload_n 0, 1) := by decide +kernel
theorem d_MO_answer_2 : decode b_MO_answer 2 = .ok (.iload_n 1, 1) := by decide +kernel
theorem d_MO_answer_3 : decode b_MO_answer 3 = .ok (.invokevirtual 115, 3) := by decide +kernel
theorem d_MO_answer_6 : decode b_MO_answer 6 = .ok (.ifCond .ne 7, 3) := by decide +kernel
theorem d_MO_answer_9 : decode b_MO_answer 9 = .ok (.iconst 1, 1) := by decide +kernel
theorem d_MO_answer_10 : decode b_MO_answer 10 = .ok (.goto 4, 3) := by decide +kernel
theorem d_MO_answer_13 : decode b_MO_answer 13 = .ok (.iconst 0, 1) := by decide +kernel
theorem d_MO_answer_14 : decode b_MO_answer 14 = .ok (.iconst 1, 1) := by decide +kernel
theorem d_MO_answer_15 : decode b_MO_answer 15 = .ok (.invokevirtual 119, 3) := by decide +kernel
theorem d_MO_answer_18 : decode b_MO_answer 18 = .ok (.ifCond .ne 25, 3) := by decide +kernel
theorem d_MO_answer_21 : decode b_MO_answer 21 = .ok (.aload_n 0, 1) := by decide +kernel
theorem d_MO_answer_22 : decode b_MO_answer 22 = .ok (.aload_n 0, 1) := by decide +kernel
theorem d_MO_answer_23 : decode b_MO_answer 23 = .ok (.getfield 71, 3) := by decide +kernel
theorem d_MO_answer_26 : decode b_MO_answer 26 = .ok (.iload_n 1, 1) := by decide +kernel
theorem d_MO_answer_27 : decode b_MO_answer 27 = .ok (.baload, 1) := by decide +kernel
theorem d_MO_answer_28 : decode b_MO_answer 28 = .ok (.ifCond .ne 7, 3) := by decide +kernel
theorem d_MO_answer_31 : decode b_MO_answer 31 = .ok (.iconst 1, 1) := by decide +kernel
theorem d_MO_answer_32 : decode b_MO_answer 32 = .ok (.goto 4, 3) := by decide +kernel
theorem d_MO_answer_35 : decode b_MO_answer 35 = .ok (.iconst 0, 1) := by decide +kernel
theorem d_MO_answer_36 : decode b_MO_answer 36 = .ok (.iconst 2, 1) := by decide +kernel
theorem d_MO_answer_37 : decode b_MO_answer 37 = .ok (.invokevirtual 119, 3) := by decide +kernel
theorem d_MO_answer_40 : decode b_MO_answer 40 = .ok (.ifCond .eq 5, 3) := by decide +kernel
theorem d_MO_answer_43 : decode b_MO_answer 43 = .ok (.iconst 0, 1) := by decide +kernel
theorem d_MO_answer_44 : decode b_MO_answer 44 = .ok (.ireturn, 1) := by decide +kernel
theorem d_MO_answer_45 : decode b_MO_answer 45 = .ok (.aload_n 0, 1) := by decide +kernel
theorem d_MO_answer_46 : decode b_MO_answer 46 = .ok (.getfield 74, 3) := by decide +kernel
theorem d_MO_answer_49 : decode b_MO_answer 49 = .ok (.iload_n 1, 1) := by decide +kernel
theorem d_MO_answer_50 : decode b_MO_answer 50 = .ok (.iaload, 1) := by decide +kernel
theorem d_MO_answer_51 : decode b_MO_answer 51 = .ok (.ireturn, 1) := by decide +kernel
theorem d_MO_look_0 : decode b_MO_look 0 = .ok (.aload_n 0, 1) := by decide +kernel
theorem d_MO_look_1 : decode b_MO_look 1 = .ok (.aload_n 0, 1) := by decide +kernel
theorem d_MO_look_2 : decode b_MO_look 2 = .ok (.iload_n 1, 1) := by decide +kernel
theorem d_MO_look_3 : decode b_MO_look 3 = .ok (.invokevirtual 115, 3) := by decide +kernel
theorem d_MO_look_6 : decode b_MO_look 6 = .ok (.ifCond .eq 13, 3) := by decide +kernel
theorem d_MO_look_9 : decode b_MO_look 9 = .ok (.iload_n 2, 1) := by decide +kernel
theorem d_MO_look_10 : decode b_MO_look 10 = .ok (.iconst 0, 1) := by decide +kernel
theorem d_MO_look_11 : decode b_MO_look 11 = .ok (.bipush 8, 2) := by decide +kernel
theorem d_MO_look_13 : decode b_MO_look 13 = .ok (.invokestatic 101, 3) := by decide +kernel
theorem d_MO_look_16 : decode b_MO_look 16 = .ok (.ifCond .ne 7, 3) := by decide +kernel
theorem d_MO_look_19 : decode b_MO_look 19 = .ok (.iconst 1, 1) := by decide +kernel
theorem d_MO_look_20 : decode b_MO_look 20 = .ok (.goto 4, 3) := by decide +kernel
theorem d_MO_look_23 : decode b_MO_look 23 = .ok (.iconst 0, 1) := by decide +kernel
theorem d_MO_look_24 : decode b_MO_look 24 = .ok (.iconst 1, 1) := by decide +kernel
theorem d_MO_look_25 : decode b_MO_look 25 = .ok (.invokevirtual 119, 3) := by decide +kernel
theorem d_MO_look_28 : decode b_MO_look 28 = .ok (.ifCond .eq 5, 3) := by decide +kernel
theorem d_MO_look_31 : decode b_MO_look 31 = .ok (.iconst 0, 1) := by decide +kernel
theorem d_MO_look_32 : decode b_MO_look 32 = .ok (.ireturn, 1) := by decide +kernel
theorem d_MO_look_33 : decode b_MO_look 33 = .ok (.iload_n 2, 1) := by decide +kernel
theorem d_MO_look_34 : decode b_MO_look 34 = .ok (.iconst 4, 1) := by decide +kernel
theorem d_MO_look_35 : decode b_MO_look 35 = .ok (.if_icmp .le 16, 3) := by decide +kernel
theorem d_MO_look_38 : decode b_MO_look 38 = .ok (.aload_n 0, 1) := by decide +kernel
theorem d_MO_look_39 : decode b_MO_look 39 = .ok (.getfield 77, 3) := by decide +kernel
theorem d_MO_look_42 : decode b_MO_look 42 = .ok (.iconst 4, 1) := by decide +kernel
theorem d_MO_look_43 : decode b_MO_look 43 = .ok (.iload_n 1, 1) := by decide +kernel
theorem d_MO_look_44 : decode b_MO_look 44 = .ok (.imul, 1) := by decide +kernel
theorem d_MO_look_45 : decode b_MO_look 45 = .ok (.iload_n 2, 1) := by decide +kernel
theorem d_MO_look_46 : decode b_MO_look 46 = .ok (.iadd, 1) := by decide +kernel
theorem d_MO_look_47 : decode b_MO_look 47 = .ok (.iconst 5, 1) := by decide +kernel
theorem d_MO_look_48 : decode b_MO_look 48 = .ok (.isub, 1) := by decide +kernel
theorem d_MO_look_49 : decode b_MO_look 49 = .ok (.iaload, 1) := by decide +kernel
theorem d_MO_look_50 : decode b_MO_look 50 = .ok (.ireturn, 1) := by decide +kernel
theorem d_MO_look_51 : decode b_MO_look 51 = .ok (.iload_n 2, 1) := by decide +kernel
theorem d_MO_look_52 : decode b_MO_look 52 = .ok (.ifCond .ne 18, 3) := by decide +kernel
theorem d_MO_look_55 : decode b_MO_look 55 = .ok (.aload_n 0, 1) := by decide +kernel
theorem d_MO_look_56 : decode b_MO_look 56 = .ok (.getfield 43, 3) := by decide +kernel
theorem d_MO_look_59 : decode b_MO_look 59 = .ok (.iload_n 1, 1) := by decide +kernel
theorem d_MO_look_60 : decode b_MO_look 60 = .ok (.baload, 1) := by decide +kernel
theorem d_MO_look_61 : decode b_MO_look 61 = .ok (.ifCond .eq 7, 3) := by decide +kernel
theorem d_MO_look_64 : decode b_MO_look 64 = .ok (.iconst 0, 1) := by decide +kernel
theorem d_MO_look_65 : decode b_MO_look 65 = .ok (.goto 4, 3) := by decide +kernel
theorem d_MO_look_68 : decode b_MO_look 68 = .ok (.iconst 1, 1) := by decide +kernel
theorem d_MO_look_69 : decode b_MO_look 69 = .ok (.ireturn, 1) := by decide +kernel
theorem d_MO_look_70 : decode b_MO_look 70 = .ok (.aload_n 0, 1) := by decide +kernel
theorem d_MO_look_71 : decode b_MO_look 71 = .ok (.getfield 43, 3) := by decide +kernel
theorem d_MO_look_74 : decode b_MO_look 74 = .ok (.iload_n 1, 1) := by decide +kernel
theorem d_MO_look_75 : decode b_MO_look 75 = .ok (.baload, 1) := by decide +kernel
theorem d_MO_look_76 : decode b_MO_look 76 = .ok (.ifCond .ne 5, 3) := by decide +kernel
theorem d_MO_look_79 : decode b_MO_look 79 = .ok (.iconst (-1), 1) := by decide +kernel
theorem d_MO_look_80 : decode b_MO_look 80 = .ok (.ireturn, 1) := by decide +kernel
theorem d_MO_look_81 : decode b_MO_look 81 = .ok (.iload_n 2, 1) := by decide +kernel
theorem d_MO_look_82 : decode b_MO_look 82 = .ok (.iconst 1, 1) := by decide +kernel
theorem d_MO_look_83 : decode b_MO_look 83 = .ok (.if_icmp .ne 12, 3) := by decide +kernel
theorem d_MO_look_86 : decode b_MO_look 86 = .ok (.aload_n 0, 1) := by decide +kernel
theorem d_MO_look_87 : decode b_MO_look 87 = .ok (.getfield 50, 3) := by decide +kernel
theorem d_MO_look_90 : decode b_MO_look 90 = .ok (.iload_n 1, 1) := by decide +kernel
theorem d_MO_look_91 : decode b_MO_look 91 = .ok (.iaload, 1) := by decide +kernel
theorem d_MO_look_92 : decode b_MO_look 92 = .ok (.goto 37, 3) := by decide +kernel
theorem d_MO_look_95 : decode b_MO_look 95 = .ok (.iload_n 2, 1) := by decide +kernel
theorem d_MO_look_96 : decode b_MO_look 96 = .ok (.iconst 2, 1) := by decide +kernel
theorem d_MO_look_97 : decode b_MO_look 97 = .ok (.if_icmp .ne 12, 3) := by decide +kernel
theorem d_MO_look_100 : decode b_MO_look 100 = .ok (.aload_n 0, 1) := by decide +kernel
theorem d_MO_look_101 : decode b_MO_look 101 = .ok (.getfield 53, 3) := by decide +kernel
theorem d_MO_look_104 : decode b_MO_look 104 = .ok (.iload_n 1, 1) := by decide +kernel
theorem d_MO_look_105 : decode b_MO_look 105 = .ok (.iaload, 1) := by decide +kernel
theorem d_MO_look_106 : decode b_MO_look 106 = .ok (.goto 23, 3) := by decide +kernel
theorem d_MO_look_109 : decode b_MO_look 109 = .ok (.iload_n 2, 1) := by decide +kernel
theorem d_MO_look_110 : decode b_MO_look 110 = .ok (.iconst 3, 1) := by decide +kernel
theorem d_MO_look_111 : decode b_MO_look 111 = .ok (.if_icmp .ne 12, 3) := by decide +kernel
theorem d_MO_look_114 : decode b_MO_look 114 = .ok (.aload_n 0, 1) := by decide +kernel
theorem d_MO_look_115 : decode b_MO_look 115 = .ok (.getfield 56, 3) := by decide +kernel
theorem d_MO_look_118 : decode b_MO_look 118 = .ok (.iload_n 1, 1) := by decide +kernel
theorem d_MO_look_119 : decode b_MO_look 119 = .ok (.iaload, 1) := by decide +kernel
theorem d_MO_look_120 : decode b_MO_look 120 = .ok (.goto 9, 3) := by decide +kernel
theorem d_MO_look_123 : decode b_MO_look 123 = .ok (.aload_n 0, 1) := by decide +kernel
theorem d_MO_look_124 : decode b_MO_look 124 = .ok (.getfield 59, 3) := by decide +kernel
theorem d_MO_look_127 : decode b_MO_look 127 = .ok (.iload_n 1, 1) := by decide +kernel
theorem d_MO_look_128 : decode b_MO_look 128 = .ok (.iaload, 1) := by decide +kernel
theorem d_MO_look_129 : decode b_MO_look 129 = .ok (.ireturn, 1) := by decide +kernel
theorem d_MO_page_0 : decode b_MO_page 0 = .ok (.aload_n 0, 1) := by decide +kernel
theorem d_MO_page_1 : decode b_MO_page 1 = .ok (.iload_n 1, 1) := by decide +kernel
theorem d_MO_page_2 : decode b_MO_page 2 = .ok (.iconst 0, 1) := by decide +kernel
theorem d_MO_page_3 : decode b_MO_page 3 = .ok (.bipush 23, 2) := by decide +kernel
theorem d_MO_page_5 : decode b_MO_page 5 = .ok (.invokestatic 101, 3) := by decide +kernel
theorem d_MO_page_8 : decode b_MO_page 8 = .ok (.ifCond .eq 13, 3) := by decide +kernel
theorem d_MO_page_11 : decode b_MO_page 11 = .ok (.iload_n 2, 1) := by decide +kernel
theorem d_MO_page_12 : decode b_MO_page 12 = .ok (.iconst 0, 1) := by decide +kernel
theorem d_MO_page_13 : decode b_MO_page 13 = .ok (.bipush 6, 2) := by decide +kernel
theorem d_MO_page_15 : decode b_MO_page 15 = .ok (.invokestatic 101, 3) := by decide +kernel
theorem d_MO_page_18 : decode b_MO_page 18 = .ok (.ifCond .ne 7, 3) := by decide +kernel
theorem d_MO_page_21 : decode b_MO_page 21 = .ok (.iconst 1, 1) := by decide +kernel
theorem d_MO_page_22 : decode b_MO_page 22 = .ok (.goto 4, 3) := by decide +kernel
theorem d_MO_page_25 : decode b_MO_page 25 = .ok (.iconst 0, 1) := by decide +kernel
theorem d_MO_page_26 : decode b_MO_page 26 = .ok (.iconst 1, 1) := by decide +kernel
theorem d_MO_page_27 : decode b_MO_page 27 = .ok (.invokevirtual 119, 3) := by decide +kernel
theorem d_MO_page_30 : decode b_MO_page 30 = .ok (.ifCond .eq 5, 3) := by decide +kernel
theorem d_MO_page_33 : decode b_MO_page 33 = .ok (.iconst 0, 1) := by decide +kernel
theorem d_MO_page_34 : decode b_MO_page 34 = .ok (.ireturn, 1) := by decide +kernel
theorem d_MO_page_35 : decode b_MO_page 35 = .ok (.iload_n 2, 1) := by decide +kernel
theorem d_MO_page_36 : decode b_MO_page 36 = .ok (.ifCond .ne 10, 3) := by decide +kernel
theorem d_MO_page_39 : decode b_MO_page 39 = .ok (.aload_n 0, 1) := by decide +kernel
theorem d_MO_page_40 : decode b_MO_page 40 = .ok (.getfield 7, 3) := by decide +kernel
theorem d_MO_page_43 : decode b_MO_page 43 = .ok (.iload_n 1, 1) := by decide +kernel
theorem d_MO_page_44 : decode b_MO_page 44 = .ok (.iaload, 1) := by decide +kernel
theorem d_MO_page_45 : decode b_MO_page 45 = .ok (.ireturn, 1) := by decide +kernel
theorem d_MO_page_46 : decode b_MO_page 46 = .ok (.aload_n 0, 1) := by decide +kernel
theorem d_MO_page_47 : decode b_MO_page 47 = .ok (.getfield 7, 3) := by decide +kernel
theorem d_MO_page_50 : decode b_MO_page 50 = .ok (.iload_n 1, 1) := by decide +kernel
theorem d_MO_page_51 : decode b_MO_page 51 = .ok (.iaload, 1) := by decide +kernel
theorem d_MO_page_52 : decode b_MO_page 52 = .ok (.iconst 1, 1) := by decide +kernel
theorem d_MO_page_53 : decode b_MO_page 53 = .ok (.if_icmp .eq 6, 3) := by decide +kernel
theorem d_MO_page_56 : decode b_MO_page 56 = .ok (.bipush (-2), 2) := by decide +kernel
theorem d_MO_page_58 : decode b_MO_page 58 = .ok (.ireturn, 1) := by decide +kernel
theorem d_MO_page_59 : decode b_MO_page 59 = .ok (.iload_n 2, 1) := by decide +kernel
theorem d_MO_page_60 : decode b_MO_page 60 = .ok (.tableswitch 71 1 5 #[36, 43, 50, 57, 64], 36) := by decide +kernel
theorem d_MO_page_96 : decode b_MO_page 96 = .ok (.aload_n 0, 1) := by decide +kernel
theorem d_MO_page_97 : decode b_MO_page 97 = .ok (.getfield 13, 3) := by decide +kernel
theorem d_MO_page_100 : decode b_MO_page 100 = .ok (.iload_n 1, 1) := by decide +kernel
theorem d_MO_page_101 : decode b_MO_page 101 = .ok (.iaload, 1) := by decide +kernel
theorem d_MO_page_102 : decode b_MO_page 102 = .ok (.ireturn, 1) := by decide +kernel
theorem d_MO_page_103 : decode b_MO_page 103 = .ok (.aload_n 0, 1) := by decide +kernel
theorem d_MO_page_104 : decode b_MO_page 104 = .ok (.getfield 16, 3) := by decide +kernel
theorem d_MO_page_107 : decode b_MO_page 107 = .ok (.iload_n 1, 1) := by decide +kernel
theorem d_MO_page_108 : decode b_MO_page 108 = .ok (.iaload, 1) := by decide +kernel
theorem d_MO_page_109 : decode b_MO_page 109 = .ok (.ireturn, 1) := by decide +kernel
theorem d_MO_page_110 : decode b_MO_page 110 = .ok (.aload_n 0, 1) := by decide +kernel
theorem d_MO_page_111 : decode b_MO_page 111 = .ok (.getfield 19, 3) := by decide +kernel
theorem d_MO_page_114 : decode b_MO_page 114 = .ok (.iload_n 1, 1) := by decide +kernel
theorem d_MO_page_115 : decode b_MO_page 115 = .ok (.iaload, 1) := by decide +kernel
theorem d_MO_page_116 : decode b_MO_page 116 = .ok (.ireturn, 1) := by decide +kernel
theorem d_MO_page_117 : decode b_MO_page 117 = .ok (.aload_n 0, 1) := by decide +kernel
theorem d_MO_page_118 : decode b_MO_page 118 = .ok (.getfield 22, 3) := by decide +kernel
theorem d_MO_page_121 : decode b_MO_page 121 = .ok (.iload_n 1, 1) := by decide +kernel
theorem d_MO_page_122 : decode b_MO_page 122 = .ok (.iaload, 1) := by decide +kernel
theorem d_MO_page_123 : decode b_MO_page 123 = .ok (.ireturn, 1) := by decide +kernel
theorem d_MO_page_124 : decode b_MO_page 124 = .ok (.aload_n 0, 1) := by decide +kernel
theorem d_MO_page_125 : decode b_MO_page 125 = .ok (.getfield 25, 3) := by decide +kernel
theorem d_MO_page_128 : decode b_MO_page 128 = .ok (.iload_n 1, 1) := by decide +kernel
theorem d_MO_page_129 : decode b_MO_page 129 = .ok (.iaload, 1) := by decide +kernel
theorem d_MO_page_130 : decode b_MO_page 130 = .ok (.ireturn, 1) := by decide +kernel
theorem d_MO_page_131 : decode b_MO_page 131 = .ok (.aload_n 0, 1) := by decide +kernel
theorem d_MO_page_132 : decode b_MO_page 132 = .ok (.getfield 28, 3) := by decide +kernel
theorem d_MO_page_135 : decode b_MO_page 135 = .ok (.iload_n 1, 1) := by decide +kernel
theorem d_MO_page_136 : decode b_MO_page 136 = .ok (.iaload, 1) := by decide +kernel
theorem d_MO_page_137 : decode b_MO_page 137 = .ok (.ireturn, 1) := by decide +kernel
theorem d_MO_entry_0 : decode b_MO_entry 0 = .ok (.aload_n 0, 1) := by decide +kernel
theorem d_MO_entry_1 : decode b_MO_entry 1 = .ok (.aload_n 0, 1) := by decide +kernel
theorem d_MO_entry_2 : decode b_MO_entry 2 = .ok (.iload_n 1, 1) := by decide +kernel
theorem d_MO_entry_3 : decode b_MO_entry 3 = .ok (.invokevirtual 204, 3) := by decide +kernel
theorem d_MO_entry_6 : decode b_MO_entry 6 = .ok (.ifCond .eq 31, 3) := by decide +kernel
theorem d_MO_entry_9 : decode b_MO_entry 9 = .ok (.iload_n 2, 1) := by decide +kernel
theorem d_MO_entry_10 : decode b_MO_entry 10 = .ok (.iconst 0, 1) := by decide +kernel
theorem d_MO_entry_11 : decode b_MO_entry 11 = .ok (.aload_n 0, 1) := by decide +kernel
theorem d_MO_entry_12 : decode b_MO_entry 12 = .ok (.iload_n 1, 1) := by decide +kernel
theorem d_MO_entry_13 : decode b_MO_entry 13 = .ok (.invokevirtual 204, 3) := by decide +kernel
theorem d_MO_entry_16 : decode b_MO_entry 16 = .ok (.ifCond .eq 14, 3) := by decide +kernel
theorem d_MO_entry_19 : decode b_MO_entry 19 = .ok (.aload_n 0, 1) := by decide +kernel
theorem d_MO_entry_20 : decode b_MO_entry 20 = .ok (.getfield 25, 3) := by decide +kernel
theorem d_MO_entry_23 : decode b_MO_entry 23 = .ok (.iload_n 1, 1) := by decide +kernel
theorem d_MO_entry_24 : decode b_MO_entry 24 = .ok (.iaload, 1) := by decide +kernel
theorem d_MO_entry_25 : decode b_MO_entry 25 = .ok (.iconst 1, 1) := by decide +kernel
theorem d_MO_entry_26 : decode b_MO_entry 26 = .ok (.isub, 1) := by decide +kernel
theorem d_MO_entry_27 : decode b_MO_entry 27 = .ok (.goto 4, 3) := by decide +kernel
theorem d_MO_entry_30 : decode b_MO_entry 30 = .ok (.iconst 0, 1) := by decide +kernel
theorem d_MO_entry_31 : decode b_MO_entry 31 = .ok (.invokestatic 101, 3) := by decide +kernel
theorem d_MO_entry_34 : decode b_MO_entry 34 = .ok (.ifCond .ne 7, 3) := by decide +kernel
theorem d_MO_entry_37 : decode b_MO_entry 37 = .ok (.iconst 1, 1) := by decide +kernel
theorem d_MO_entry_38 : decode b_MO_entry 38 = .ok (.goto 4, 3) := by decide +kernel
theorem d_MO_entry_41 : decode b_MO_entry 41 = .ok (.iconst 0, 1) := by decide +kernel
theorem d_MO_entry_42 : decode b_MO_entry 42 = .ok (.iconst 1, 1) := by decide +kernel
theorem d_MO_entry_43 : decode b_MO_entry 43 = .ok (.invokevirtual 119, 3) := by decide +kernel
theorem d_MO_entry_46 : decode b_MO_entry 46 = .ok (.ifCond .eq 5, 3) := by decide +kernel
theorem d_MO_entry_49 : decode b_MO_entry 49 = .ok (.iconst 0, 1) := by decide +kernel
theorem d_MO_entry_50 : decode b_MO_entry 50 = .ok (.ireturn, 1) := by decide +kernel
theorem d_MO_entry_51 : decode b_MO_entry 51 = .ok (.iload_n 3, 1) := by decide +kernel
theorem d_MO_entry_52 : decode b_MO_entry 52 = .ok (.ifCond .eq 16, 3) := by decide +kernel
theorem d_MO_entry_55 : decode b_MO_entry 55 = .ok (.aload_n 0, 1) := by decide +kernel
theorem d_MO_entry_56 : decode b_MO_entry 56 = .ok (.getfield 34, 3) := by decide +kernel
theorem d_MO_entry_59 : decode b_MO_entry 59 = .ok (.iconst 5, 1) := by decide +kernel
theorem d_MO_entry_60 : decode b_MO_entry 60 = .ok (.iload_n 1, 1) := by decide +kernel
theorem d_MO_entry_61 : decode b_MO_entry 61 = .ok (.imul, 1) := by decide +kernel
theorem d_MO_entry_62 : decode b_MO_entry 62 = .ok (.iload_n 2, 1) := by decide +kernel
theorem d_MO_entry_63 : decode b_MO_entry 63 = .ok (.iadd, 1) := by decide +kernel
theorem d_MO_entry_64 : decode b_MO_entry 64 = .ok (.iaload, 1) := by decide +kernel
theorem d_MO_entry_65 : decode b_MO_entry 65 = .ok (.goto 13, 3) := by decide +kernel
theorem d_MO_entry_68 : decode b_MO_entry 68 = .ok (.aload_n 0, 1) := by decide +kernel
theorem d_MO_entry_69 : decode b_MO_entry 69 = .ok (.getfield 31, 3) := by decide +kernel
theorem d_MO_entry_72 : decode b_MO_entry 72 = .ok (.iconst 5, 1) := by decide +kernel
theorem d_MO_entry_73 : decode b_MO_entry 73 = .ok (.iload_n 1, 1) := by decide +kernel
theorem d_MO_entry_74 : decode b_MO_entry 74 = .ok (.imul, 1) := by decide +kernel
theorem d_MO_entry_75 : decode b_MO_entry 75 = .ok (.iload_n 2, 1) := by decide +kernel
theorem d_MO_entry_76 : decode b_MO_entry 76 = .ok (.iadd, 1) := by decide +kernel
theorem d_MO_entry_77 : decode b_MO_entry 77 = .ok (.iaload, 1) := by decide +kernel
theorem d_MO_entry_78 : decode b_MO_entry 78 = .ok (.ireturn, 1) := by decide +kernel
theorem d_MO_isNode_0 : decode b_MO_isNode 0 = .ok (.iload_n 1, 1) := by decide +kernel
theorem d_MO_isNode_1 : decode b_MO_isNode 1 = .ok (.iconst 0, 1) := by decide +kernel
theorem d_MO_isNode_2 : decode b_MO_isNode 2 = .ok (.bipush 23, 2) := by decide +kernel
theorem d_MO_isNode_4 : decode b_MO_isNode 4 = .ok (.invokestatic 101, 3) := by decide +kernel
theorem d_MO_isNode_7 : decode b_MO_isNode 7 = .ok (.ifCond .eq 17, 3) := by decide +kernel
theorem d_MO_isNode_10 : decode b_MO_isNode 10 = .ok (.aload_n 0, 1) := by decide +kernel
theorem d_MO_isNode_11 : decode b_MO_isNode 11 = .ok (.getfield 7, 3) := by decide +kernel
theorem d_MO_isNode_14 : decode b_MO_isNode 14 = .ok (.iload_n 1, 1) := by decide +kernel
theorem d_MO_isNode_15 : decode b_MO_isNode 15 = .ok (.iaload, 1) := by decide +kernel
theorem d_MO_isNode_16 : decode b_MO_isNode 16 = .ok (.iconst 1, 1) := by decide +kernel
theorem d_MO_isNode_17 : decode b_MO_isNode 17 = .ok (.if_icmp .ne 7, 3) := by decide +kernel
theorem d_MO_isNode_20 : decode b_MO_isNode 20 = .ok (.iconst 1, 1) := by decide +kernel
theorem d_MO_isNode_21 : decode b_MO_isNode 21 = .ok (.goto 4, 3) := by decide +kernel
theorem d_MO_isNode_24 : decode b_MO_isNode 24 = .ok (.iconst 0, 1) := by decide +kernel
theorem d_MO_isNode_25 : decode b_MO_isNode 25 = .ok (.ireturn, 1) := by decide +kernel
theorem d_MO_root_0 : decode b_MO_root 0 = .ok (.aload_n 0, 1) := by decide +kernel
theorem d_MO_root_1 : decode b_MO_root 1 = .ok (.iconst 0, 1) := by decide +kernel
theorem d_MO_root_2 : decode b_MO_root 2 = .ok (.putfield 83, 3) := by decide +kernel
theorem d_MO_root_5 : decode b_MO_root 5 = .ok (.aload_n 0, 1) := by decide +kernel
theorem d_MO_root_6 : decode b_MO_root 6 = .ok (.getfield 108, 3) := by decide +kernel
theorem d_MO_root_9 : decode b_MO_root 9 = .ok (.ireturn, 1) := by decide +kernel
theorem d_MO_queued_0 : decode b_MO_queued 0 = .ok (.aload_n 0, 1) := by decide +kernel
theorem d_MO_queued_1 : decode b_MO_queued 1 = .ok (.iconst 0, 1) := by decide +kernel
theorem d_MO_queued_2 : decode b_MO_queued 2 = .ok (.putfield 83, 3) := by decide +kernel
theorem d_MO_queued_5 : decode b_MO_queued 5 = .ok (.aload_n 0, 1) := by decide +kernel
theorem d_MO_queued_6 : decode b_MO_queued 6 = .ok (.getfield 91, 3) := by decide +kernel
theorem d_MO_queued_9 : decode b_MO_queued 9 = .ok (.ireturn, 1) := by decide +kernel
theorem d_MO_under_0 : decode b_MO_under 0 = .ok (.aload_n 0, 1) := by decide +kernel
theorem d_MO_under_1 : decode b_MO_under 1 = .ok (.aload_n 0, 1) := by decide +kernel
theorem d_MO_under_2 : decode b_MO_under 2 = .ok (.iload_n 1, 1) := by decide +kernel
theorem d_MO_under_3 : decode b_MO_under 3 = .ok (.invokevirtual 204, 3) := by decide +kernel
theorem d_MO_under_6 : decode b_MO_under 6 = .ok (.ifCond .ne 7, 3) := by decide +kernel
theorem d_MO_under_9 : decode b_MO_under 9 = .ok (.iconst 1, 1) := by decide +kernel
theorem d_MO_under_10 : decode b_MO_under 10 = .ok (.goto 4, 3) := by decide +kernel
theorem d_MO_under_13 : decode b_MO_under 13 = .ok (.iconst 0, 1) := by decide +kernel
theorem d_MO_under_14 : decode b_MO_under 14 = .ok (.iconst 1, 1) := by decide +kernel
theorem d_MO_under_15 : decode b_MO_under 15 = .ok (.invokevirtual 119, 3) := by decide +kernel
theorem d_MO_under_18 : decode b_MO_under 18 = .ok (.ifCond .eq 5, 3) := by decide +kernel
theorem d_MO_under_21 : decode b_MO_under 21 = .ok (.iconst 0, 1) := by decide +kernel
theorem d_MO_under_22 : decode b_MO_under 22 = .ok (.ireturn, 1) := by decide +kernel
theorem d_MO_under_23 : decode b_MO_under 23 = .ok (.iconst 0, 1) := by decide +kernel
theorem d_MO_under_24 : decode b_MO_under 24 = .ok (.istore_n 2, 1) := by decide +kernel
theorem d_MO_under_25 : decode b_MO_under 25 = .ok (.iconst 1, 1) := by decide +kernel
theorem d_MO_under_26 : decode b_MO_under 26 = .ok (.istore_n 3, 1) := by decide +kernel
theorem d_MO_under_27 : decode b_MO_under 27 = .ok (.aload_n 0, 1) := by decide +kernel
theorem d_MO_under_28 : decode b_MO_under 28 = .ok (.getfield 80, 3) := by decide +kernel
theorem d_MO_under_31 : decode b_MO_under 31 = .ok (.iconst 0, 1) := by decide +kernel
theorem d_MO_under_32 : decode b_MO_under 32 = .ok (.iload_n 1, 1) := by decide +kernel
theorem d_MO_under_33 : decode b_MO_under 33 = .ok (.iastore, 1) := by decide +kernel
theorem d_MO_under_34 : decode b_MO_under 34 = .ok (.iload_n 3, 1) := by decide +kernel
theorem d_MO_under_35 : decode b_MO_under 35 = .ok (.ifCond .le 93, 3) := by decide +kernel
theorem d_MO_under_38 : decode b_MO_under 38 = .ok (.iinc 3 (-1), 3) := by decide +kernel
theorem d_MO_under_41 : decode b_MO_under 41 = .ok (.aload_n 0, 1) := by decide +kernel
theorem d_MO_under_42 : decode b_MO_under 42 = .ok (.getfield 80, 3) := by decide +kernel
theorem d_MO_under_45 : decode b_MO_under 45 = .ok (.iload_n 3, 1) := by decide +kernel
theorem d_MO_under_46 : decode b_MO_under 46 = .ok (.iaload, 1) := by decide +kernel
theorem d_MO_under_47 : decode b_MO_under 47 = .ok (.istore 4, 2) := by decide +kernel
theorem d_MO_under_49 : decode b_MO_under 49 = .ok (.iload_n 2, 1) := by decide +kernel
theorem d_MO_under_50 : decode b_MO_under 50 = .ok (.aload_n 0, 1) := by decide +kernel
theorem d_MO_under_51 : decode b_MO_under 51 = .ok (.getfield 13, 3) := by decide +kernel
theorem d_MO_under_54 : decode b_MO_under 54 = .ok (.iload 4, 2) := by decide +kernel
theorem d_MO_under_56 : decode b_MO_under 56 = .ok (.iaload, 1) := by decide +kernel
theorem d_MO_under_57 : decode b_MO_under 57 = .ok (.ifCond .ne 13, 3) := by decide +kernel
theorem d_MO_under_60 : decode b_MO_under 60 = .ok (.aload_n 0, 1) := by decide +kernel
theorem d_MO_under_61 : decode b_MO_under 61 = .ok (.getfield 25, 3) := by decide +kernel
theorem d_MO_under_64 : decode b_MO_under 64 = .ok (.iload 4, 2) := by decide +kernel
theorem d_MO_under_66 : decode b_MO_under 66 = .ok (.iaload, 1) := by decide +kernel
theorem d_MO_under_67 : decode b_MO_under 67 = .ok (.goto 4, 3) := by decide +kernel
theorem d_MO_under_70 : decode b_MO_under 70 = .ok (.iconst 0, 1) := by decide +kernel
theorem d_MO_under_71 : decode b_MO_under 71 = .ok (.iadd, 1) := by decide +kernel
theorem d_MO_under_72 : decode b_MO_under 72 = .ok (.istore_n 2, 1) := by decide +kernel
theorem d_MO_under_73 : decode b_MO_under 73 = .ok (.iconst 0, 1) := by decide +kernel
theorem d_MO_under_74 : decode b_MO_under 74 = .ok (.istore 5, 2) := by decide +kernel
theorem d_MO_under_76 : decode b_MO_under 76 = .ok (.iload 5, 2) := by decide +kernel
theorem d_MO_under_78 : decode b_MO_under 78 = .ok (.aload_n 0, 1) := by decide +kernel
theorem d_MO_under_79 : decode b_MO_under 79 = .ok (.getfield 25, 3) := by decide +kernel
theorem d_MO_under_82 : decode b_MO_under 82 = .ok (.iload 4, 2) := by decide +kernel
theorem d_MO_under_84 : decode b_MO_under 84 = .ok (.iaload, 1) := by decide +kernel
theorem d_MO_under_85 : decode b_MO_under 85 = .ok (.if_icmp .ge 40, 3) := by decide +kernel
theorem d_MO_under_88 : decode b_MO_under 88 = .ok (.aload_n 0, 1) := by decide +kernel
theorem d_MO_under_89 : decode b_MO_under 89 = .ok (.getfield 13, 3) := by decide +kernel
theorem d_MO_under_92 : decode b_MO_under 92 = .ok (.iload 4, 2) := by decide +kernel
theorem d_MO_under_94 : decode b_MO_under 94 = .ok (.iaload, 1) := by decide +kernel
theorem d_MO_under_95 : decode b_MO_under 95 = .ok (.ifCond .le 30, 3) := by decide +kernel
theorem d_MO_under_98 : decode b_MO_under 98 = .ok (.aload_n 0, 1) := by decide +kernel
theorem d_MO_under_99 : decode b_MO_under 99 = .ok (.getfield 80, 3) := by decide +kernel
theorem d_MO_under_102 : decode b_MO_under 102 = .ok (.iload_n 3, 1) := by decide +kernel
theorem d_MO_under_103 : decode b_MO_under 103 = .ok (.aload_n 0, 1) := by decide +kernel
theorem d_MO_under_104 : decode b_MO_under 104 = .ok (.getfield 34, 3) := by decide +kernel
theorem d_MO_under_107 : decode b_MO_under 107 = .ok (.iconst 5, 1) := by decide +kernel
theorem d_MO_under_108 : decode b_MO_under 108 = .ok (.iload 4, 2) := by decide +kernel
theorem d_MO_under_110 : decode b_MO_under 110 = .ok (.imul, 1) := by decide +kernel
theorem d_MO_under_111 : decode b_MO_under 111 = .ok (.iload 5, 2) := by decide +kernel
theorem d_MO_under_113 : decode b_MO_under 113 = .ok (.iadd, 1) := by decide +kernel
theorem d_MO_under_114 : decode b_MO_under 114 = .ok (.iaload, 1) := by decide +kernel
theorem d_MO_under_115 : decode b_MO_under 115 = .ok (.iastore, 1) := by decide +kernel
theorem d_MO_under_116 : decode b_MO_under 116 = .ok (.iinc 3 1, 3) := by decide +kernel
theorem d_MO_under_119 : decode b_MO_under 119 = .ok (.iinc 5 1, 3) := by decide +kernel
theorem d_MO_under_122 : decode b_MO_under 122 = .ok (.goto (-46), 3) := by decide +kernel
theorem d_MO_under_125 : decode b_MO_under 125 = .ok (.goto (-91), 3) := by decide +kernel
theorem d_MO_under_128 : decode b_MO_under 128 = .ok (.iload_n 2, 1) := by decide +kernel
theorem d_MO_under_129 : decode b_MO_under 129 = .ok (.ireturn, 1) := by decide +kernel

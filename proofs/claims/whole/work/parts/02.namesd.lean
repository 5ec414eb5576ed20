theorem dX11_readsQuest_152 : decode cX11_readsQuest 152 = .ok (.invokevirtual 209, 3) := by decide +kernel
theorem dX11_readsQuest_155 : decode cX11_readsQuest 155 = .ok (.ifCond .ne 11, 3) := by decide +kernel
theorem dX11_readsQuest_158 : decode cX11_readsQuest 158 = .ok (.aload_n 0, 1) := by decide +kernel
theorem dX11_readsQuest_159 : decode cX11_readsQuest 159 = .ok (.bipush (-2), 2) := by decide +kernel
theorem dX11_readsQuest_161 : decode cX11_readsQuest 161 = .ok (.iload_n 3, 1) := by decide +kernel
theorem dX11_readsQuest_162 : decode cX11_readsQuest 162 = .ok (.invokevirtual 182, 3) := by decide +kernel
theorem dX11_readsQuest_165 : decode cX11_readsQuest 165 = .ok (.ireturn, 1) := by decide +kernel
theorem dX11_readsQuest_166 : decode cX11_readsQuest 166 = .ok (.aload_n 0, 1) := by decide +kernel
theorem dX11_readsQuest_167 : decode cX11_readsQuest 167 = .ok (.getfield 14, 3) := by decide +kernel
theorem dX11_readsQuest_170 : decode cX11_readsQuest 170 = .ok (.iload_n 2, 1) := by decide +kernel
theorem dX11_readsQuest_171 : decode cX11_readsQuest 171 = .ok (.iconst 0, 1) := by decide +kernel
theorem dX11_readsQuest_172 : decode cX11_readsQuest 172 = .ok (.iadd, 1) := by decide +kernel
theorem dX11_readsQuest_173 : decode cX11_readsQuest 173 = .ok (.aload_n 0, 1) := by decide +kernel
theorem dX11_readsQuest_174 : decode cX11_readsQuest 174 = .ok (.getfield 260, 3) := by decide +kernel
theorem dX11_readsQuest_177 : decode cX11_readsQuest 177 = .ok (.iastore, 1) := by decide +kernel
theorem dX11_readsQuest_178 : decode cX11_readsQuest 178 = .ok (.aload_n 0, 1) := by decide +kernel
theorem dX11_readsQuest_179 : decode cX11_readsQuest 179 = .ok (.getfield 14, 3) := by decide +kernel
theorem dX11_readsQuest_182 : decode cX11_readsQuest 182 = .ok (.iload_n 2, 1) := by decide +kernel
theorem dX11_readsQuest_183 : decode cX11_readsQuest 183 = .ok (.iconst 4, 1) := by decide +kernel
theorem dX11_readsQuest_184 : decode cX11_readsQuest 184 = .ok (.iadd, 1) := by decide +kernel
theorem dX11_readsQuest_185 : decode cX11_readsQuest 185 = .ok (.aload_n 0, 1) := by decide +kernel
theorem dX11_readsQuest_186 : decode cX11_readsQuest 186 = .ok (.getfield 14, 3) := by decide +kernel
theorem dX11_readsQuest_189 : decode cX11_readsQuest 189 = .ok (.iconst 4, 1) := by decide +kernel
theorem dX11_readsQuest_190 : decode cX11_readsQuest 190 = .ok (.iaload, 1) := by decide +kernel
theorem dX11_readsQuest_191 : decode cX11_readsQuest 191 = .ok (.iastore, 1) := by decide +kernel
theorem dX11_readsQuest_192 : decode cX11_readsQuest 192 = .ok (.aload_n 0, 1) := by decide +kernel
theorem dX11_readsQuest_193 : decode cX11_readsQuest 193 = .ok (.iconst 0, 1) := by decide +kernel
theorem dX11_readsQuest_194 : decode cX11_readsQuest 194 = .ok (.putfield 202, 3) := by decide +kernel
theorem dX11_readsQuest_197 : decode cX11_readsQuest 197 = .ok (.aload_n 0, 1) := by decide +kernel
theorem dX11_readsQuest_198 : decode cX11_readsQuest 198 = .ok (.invokevirtual 249, 3) := by decide +kernel
theorem dX11_readsQuest_201 : decode cX11_readsQuest 201 = .ok (.ifCond .ne 5, 3) := by decide +kernel
theorem dX11_readsQuest_204 : decode cX11_readsQuest 204 = .ok (.iconst 0, 1) := by decide +kernel
theorem dX11_readsQuest_205 : decode cX11_readsQuest 205 = .ok (.ireturn, 1) := by decide +kernel
theorem dX11_readsQuest_206 : decode cX11_readsQuest 206 = .ok (.aload_n 0, 1) := by decide +kernel
theorem dX11_readsQuest_207 : decode cX11_readsQuest 207 = .ok (.getfield 14, 3) := by decide +kernel
theorem dX11_readsQuest_210 : decode cX11_readsQuest 210 = .ok (.iload_n 2, 1) := by decide +kernel
theorem dX11_readsQuest_211 : decode cX11_readsQuest 211 = .ok (.iconst 5, 1) := by decide +kernel
theorem dX11_readsQuest_212 : decode cX11_readsQuest 212 = .ok (.iadd, 1) := by decide +kernel
theorem dX11_readsQuest_213 : decode cX11_readsQuest 213 = .ok (.aload_n 0, 1) := by decide +kernel
theorem dX11_readsQuest_214 : decode cX11_readsQuest 214 = .ok (.getfield 14, 3) := by decide +kernel
theorem dX11_readsQuest_217 : decode cX11_readsQuest 217 = .ok (.iconst 4, 1) := by decide +kernel
theorem dX11_readsQuest_218 : decode cX11_readsQuest 218 = .ok (.iaload, 1) := by decide +kernel
theorem dX11_readsQuest_219 : decode cX11_readsQuest 219 = .ok (.iastore, 1) := by decide +kernel
theorem dX11_readsQuest_220 : decode cX11_readsQuest 220 = .ok (.aload_n 0, 1) := by decide +kernel
theorem dX11_readsQuest_221 : decode cX11_readsQuest 221 = .ok (.getfield 14, 3) := by decide +kernel
theorem dX11_readsQuest_224 : decode cX11_readsQuest 224 = .ok (.iconst 0, 1) := by decide +kernel
theorem dX11_readsQuest_225 : decode cX11_readsQuest 225 = .ok (.dup2, 1) := by decide +kernel
theorem dX11_readsQuest_226 : decode cX11_readsQuest 226 = .ok (.iaload, 1) := by decide +kernel
theorem dX11_readsQuest_227 : decode cX11_readsQuest 227 = .ok (.iconst 1, 1) := by decide +kernel
theorem dX11_readsQuest_228 : decode cX11_readsQuest 228 = .ok (.iadd, 1) := by decide +kernel
theorem dX11_readsQuest_229 : decode cX11_readsQuest 229 = .ok (.iastore, 1) := by decide +kernel
theorem dX11_readsQuest_230 : decode cX11_readsQuest 230 = .ok (.iconst 1, 1) := by decide +kernel
theorem dX11_readsQuest_231 : decode cX11_readsQuest 231 = .ok (.ireturn, 1) := by decide +kernel
theorem dX11_readsOnce_0 : decode cX11_readsOnce 0 = .ok (.aload_n 0, 1) := by decide +kernel
theorem dX11_readsOnce_1 : decode cX11_readsOnce 1 = .ok (.ldc_w 302, 3) := by decide +kernel
theorem dX11_readsOnce_4 : decode cX11_readsOnce 4 = .ok (.invokevirtual 209, 3) := by decide +kernel
theorem dX11_readsOnce_7 : decode cX11_readsOnce 7 = .ok (.ifCond .eq 48, 3) := by decide +kernel
theorem dX11_readsOnce_10 : decode cX11_readsOnce 10 = .ok (.aload_n 0, 1) := by decide +kernel
theorem dX11_readsOnce_11 : decode cX11_readsOnce 11 = .ok (.getfield 304, 3) := by decide +kernel
theorem dX11_readsOnce_14 : decode cX11_readsOnce 14 = .ok (.ifCond .eq 11, 3) := by decide +kernel
theorem dX11_readsOnce_17 : decode cX11_readsOnce 17 = .ok (.aload_n 0, 1) := by decide +kernel
theorem dX11_readsOnce_18 : decode cX11_readsOnce 18 = .ok (.bipush (-2), 2) := by decide +kernel
theorem dX11_readsOnce_20 : decode cX11_readsOnce 20 = .ok (.iload_n 1, 1) := by decide +kernel
theorem dX11_readsOnce_21 : decode cX11_readsOnce 21 = .ok (.invokevirtual 182, 3) := by decide +kernel
theorem dX11_readsOnce_24 : decode cX11_readsOnce 24 = .ok (.ireturn, 1) := by decide +kernel
theorem dX11_readsOnce_25 : decode cX11_readsOnce 25 = .ok (.aload_n 0, 1) := by decide +kernel
theorem dX11_readsOnce_26 : decode cX11_readsOnce 26 = .ok (.iconst 1, 1) := by decide +kernel
theorem dX11_readsOnce_27 : decode cX11_readsOnce 27 = .ok (.putfield 304, 3) := by decide +kernel
theorem dX11_readsOnce_30 : decode cX11_readsOnce 30 = .ok (.aload_n 0, 1) := by decide +kernel
theorem dX11_readsOnce_31 : decode cX11_readsOnce 31 = .ok (.iconst 0, 1) := by decide +kernel
theorem dX11_readsOnce_32 : decode cX11_readsOnce 32 = .ok (.sipush 9999, 3) := by decide +kernel
theorem dX11_readsOnce_35 : decode cX11_readsOnce 35 = .ok (.invokevirtual 234, 3) := by decide +kernel
theorem dX11_readsOnce_38 : decode cX11_readsOnce 38 = .ok (.ifCond .ne 5, 3) := by decide +kernel
theorem dX11_readsOnce_41 : decode cX11_readsOnce 41 = .ok (.iconst 0, 1) := by decide +kernel
theorem dX11_readsOnce_42 : decode cX11_readsOnce 42 = .ok (.ireturn, 1) := by decide +kernel
theorem dX11_readsOnce_43 : decode cX11_readsOnce 43 = .ok (.aload_n 0, 1) := by decide +kernel
theorem dX11_readsOnce_44 : decode cX11_readsOnce 44 = .ok (.getfield 14, 3) := by decide +kernel
theorem dX11_readsOnce_47 : decode cX11_readsOnce 47 = .ok (.iconst 1, 1) := by decide +kernel
theorem dX11_readsOnce_48 : decode cX11_readsOnce 48 = .ok (.aload_n 0, 1) := by decide +kernel
theorem dX11_readsOnce_49 : decode cX11_readsOnce 49 = .ok (.getfield 191, 3) := by decide +kernel
theorem dX11_readsOnce_52 : decode cX11_readsOnce 52 = .ok (.iastore, 1) := by decide +kernel
theorem dX11_readsOnce_53 : decode cX11_readsOnce 53 = .ok (.iconst 1, 1) := by decide +kernel
theorem dX11_readsOnce_54 : decode cX11_readsOnce 54 = .ok (.ireturn, 1) := by decide +kernel
theorem dX11_readsOnce_55 : decode cX11_readsOnce 55 = .ok (.aload_n 0, 1) := by decide +kernel
theorem dX11_readsOnce_56 : decode cX11_readsOnce 56 = .ok (.ldc_w 308, 3) := by decide +kernel
theorem dX11_readsOnce_59 : decode cX11_readsOnce 59 = .ok (.invokevirtual 209, 3) := by decide +kernel
theorem dX11_readsOnce_62 : decode cX11_readsOnce 62 = .ok (.ifCond .eq 10, 3) := by decide +kernel
theorem dX11_readsOnce_65 : decode cX11_readsOnce 65 = .ok (.aload_n 0, 1) := by decide +kernel
theorem dX11_readsOnce_66 : decode cX11_readsOnce 66 = .ok (.getfield 310, 3) := by decide +kernel
theorem dX11_readsOnce_69 : decode cX11_readsOnce 69 = .ok (.ifCond .eq 11, 3) := by decide +kernel
theorem dX11_readsOnce_72 : decode cX11_readsOnce 72 = .ok (.aload_n 0, 1) := by decide +kernel
theorem dX11_readsOnce_73 : decode cX11_readsOnce 73 = .ok (.bipush (-2), 2) := by decide +kernel
theorem dX11_readsOnce_75 : decode cX11_readsOnce 75 = .ok (.iload_n 1, 1) := by decide +kernel
theorem dX11_readsOnce_76 : decode cX11_readsOnce 76 = .ok (.invokevirtual 182, 3) := by decide +kernel
theorem dX11_readsOnce_79 : decode cX11_readsOnce 79 = .ok (.ireturn, 1) := by decide +kernel
theorem dX11_readsOnce_80 : decode cX11_readsOnce 80 = .ok (.aload_n 0, 1) := by decide +kernel
theorem dX11_readsOnce_81 : decode cX11_readsOnce 81 = .ok (.iconst 1, 1) := by decide +kernel
theorem dX11_readsOnce_82 : decode cX11_readsOnce 82 = .ok (.putfield 310, 3) := by decide +kernel
theorem dX11_readsOnce_85 : decode cX11_readsOnce 85 = .ok (.aload_n 0, 1) := by decide +kernel
theorem dX11_readsOnce_86 : decode cX11_readsOnce 86 = .ok (.iconst 0, 1) := by decide +kernel
theorem dX11_readsOnce_87 : decode cX11_readsOnce 87 = .ok (.putfield 202, 3) := by decide +kernel
theorem dX11_readsOnce_90 : decode cX11_readsOnce 90 = .ok (.aload_n 0, 1) := by decide +kernel
theorem dX11_readsOnce_91 : decode cX11_readsOnce 91 = .ok (.invokevirtual 225, 3) := by decide +kernel
theorem dX11_readsOnce_94 : decode cX11_readsOnce 94 = .ok (.ireturn, 1) := by decide +kernel
theorem dX11_readsLedger_0 : decode cX11_readsLedger 0 = .ok (.iconst 0, 1) := by decide +kernel
theorem dX11_readsLedger_1 : decode cX11_readsLedger 1 = .ok (.istore_n 1, 1) := by decide +kernel
theorem dX11_readsLedger_2 : decode cX11_readsLedger 2 = .ok (.iload_n 1, 1) := by decide +kernel
theorem dX11_readsLedger_3 : decode cX11_readsLedger 3 = .ok (.sipush 4370, 3) := by decide +kernel
theorem dX11_readsLedger_6 : decode cX11_readsLedger 6 = .ok (.if_icmp .ge 16, 3) := by decide +kernel
theorem dX11_readsLedger_9 : decode cX11_readsLedger 9 = .ok (.aload_n 0, 1) := by decide +kernel
theorem dX11_readsLedger_10 : decode cX11_readsLedger 10 = .ok (.getfield 14, 3) := by decide +kernel
theorem dX11_readsLedger_13 : decode cX11_readsLedger 13 = .ok (.iload_n 1, 1) := by decide +kernel
theorem dX11_readsLedger_14 : decode cX11_readsLedger 14 = .ok (.iconst 0, 1) := by decide +kernel
theorem dX11_readsLedger_15 : decode cX11_readsLedger 15 = .ok (.iastore, 1) := by decide +kernel
theorem dX11_readsLedger_16 : decode cX11_readsLedger 16 = .ok (.iinc 1 1, 3) := by decide +kernel
theorem dX11_readsLedger_19 : decode cX11_readsLedger 19 = .ok (.goto (-17), 3) := by decide +kernel
theorem dX11_readsLedger_22 : decode cX11_readsLedger 22 = .ok (.aload_n 0, 1) := by decide +kernel
theorem dX11_readsLedger_23 : decode cX11_readsLedger 23 = .ok (.iconst 0, 1) := by decide +kernel
theorem dX11_readsLedger_24 : decode cX11_readsLedger 24 = .ok (.putfield 273, 3) := by decide +kernel
theorem dX11_readsLedger_27 : decode cX11_readsLedger 27 = .ok (.aload_n 0, 1) := by decide +kernel
theorem dX11_readsLedger_28 : decode cX11_readsLedger 28 = .ok (.iconst 0, 1) := by decide +kernel
theorem dX11_readsLedger_29 : decode cX11_readsLedger 29 = .ok (.putfield 304, 3) := by decide +kernel
theorem dX11_readsLedger_32 : decode cX11_readsLedger 32 = .ok (.aload_n 0, 1) := by decide +kernel
theorem dX11_readsLedger_33 : decode cX11_readsLedger 33 = .ok (.iconst 0, 1) := by decide +kernel
theorem dX11_readsLedger_34 : decode cX11_readsLedger 34 = .ok (.putfield 310, 3) := by decide +kernel
theorem dX11_readsLedger_37 : decode cX11_readsLedger 37 = .ok (.aload_n 0, 1) := by decide +kernel
theorem dX11_readsLedger_38 : decode cX11_readsLedger 38 = .ok (.ldc_w 313, 3) := by decide +kernel
theorem dX11_readsLedger_41 : decode cX11_readsLedger 41 = .ok (.invokevirtual 209, 3) := by decide +kernel
theorem dX11_readsLedger_44 : decode cX11_readsLedger 44 = .ok (.ifCond .ne 14, 3) := by decide +kernel
theorem dX11_readsLedger_47 : decode cX11_readsLedger 47 = .ok (.aload_n 0, 1) := by decide +kernel
theorem dX11_readsLedger_48 : decode cX11_readsLedger 48 = .ok (.bipush (-2), 2) := by decide +kernel
theorem dX11_readsLedger_50 : decode cX11_readsLedger 50 = .ok (.aload_n 0, 1) := by decide +kernel
theorem dX11_readsLedger_51 : decode cX11_readsLedger 51 = .ok (.getfield 161, 3) := by decide +kernel
theorem dX11_readsLedger_54 : decode cX11_readsLedger 54 = .ok (.invokevirtual 182, 3) := by decide +kernel
theorem dX11_readsLedger_57 : decode cX11_readsLedger 57 = .ok (.ireturn, 1) := by decide +kernel
theorem dX11_readsLedger_58 : decode cX11_readsLedger 58 = .ok (.aload_n 0, 1) := by decide +kernel
theorem dX11_readsLedger_59 : decode cX11_readsLedger 59 = .ok (.bipush 59, 2) := by decide +kernel
theorem dX11_readsLedger_61 : decode cX11_readsLedger 61 = .ok (.invokevirtual 205, 3) := by decide +kernel
theorem dX11_readsLedger_64 : decode cX11_readsLedger 64 = .ok (.ifCond .ne 5, 3) := by decide +kernel
theorem dX11_readsLedger_67 : decode cX11_readsLedger 67 = .ok (.iconst 0, 1) := by decide +kernel
theorem dX11_readsLedger_68 : decode cX11_readsLedger 68 = .ok (.ireturn, 1) := by decide +kernel
theorem dX11_readsLedger_69 : decode cX11_readsLedger 69 = .ok (.aload_n 0, 1) := by decide +kernel
theorem dX11_readsLedger_70 : decode cX11_readsLedger 70 = .ok (.invokevirtual 167, 3) := by decide +kernel
theorem dX11_readsLedger_73 : decode cX11_readsLedger 73 = .ok (.iconst (-1), 1) := by decide +kernel
theorem dX11_readsLedger_74 : decode cX11_readsLedger 74 = .ok (.if_icmp .eq 66, 3) := by decide +kernel
theorem dX11_readsLedger_77 : decode cX11_readsLedger 77 = .ok (.aload_n 0, 1) := by decide +kernel
theorem dX11_readsLedger_78 : decode cX11_readsLedger 78 = .ok (.getfield 161, 3) := by decide +kernel
theorem dX11_readsLedger_81 : decode cX11_readsLedger 81 = .ok (.istore_n 1, 1) := by decide +kernel
theorem dX11_readsLedger_82 : decode cX11_readsLedger 82 = .ok (.aload_n 0, 1) := by decide +kernel
theorem dX11_readsLedger_83 : decode cX11_readsLedger 83 = .ok (.ldc_w 315, 3) := by decide +kernel
theorem dX11_readsLedger_86 : decode cX11_readsLedger 86 = .ok (.invokevirtual 209, 3) := by decide +kernel
theorem dX11_readsLedger_89 : decode cX11_readsLedger 89 = .ok (.ifCond .eq 10, 3) := by decide +kernel
theorem dX11_readsLedger_92 : decode cX11_readsLedger 92 = .ok (.aload_n 0, 1) := by decide +kernel
theorem dX11_readsLedger_93 : decode cX11_readsLedger 93 = .ok (.invokevirtual 317, 3) := by decide +kernel
theorem dX11_readsLedger_96 : decode cX11_readsLedger 96 = .ok (.goto 25, 3) := by decide +kernel
theorem dX11_readsLedger_99 : decode cX11_readsLedger 99 = .ok (.aload_n 0, 1) := by decide +kernel
theorem dX11_readsLedger_100 : decode cX11_readsLedger 100 = .ok (.ldc 220, 2) := by decide +kernel
theorem dX11_readsLedger_102 : decode cX11_readsLedger 102 = .ok (.invokevirtual 209, 3) := by decide +kernel
theorem dX11_readsLedger_105 : decode cX11_readsLedger 105 = .ok (.ifCond .eq 11, 3) := by decide +kernel
theorem dX11_readsLedger_108 : decode cX11_readsLedger 108 = .ok (.aload_n 0, 1) := by decide +kernel
theorem dX11_readsLedger_109 : decode cX11_readsLedger 109 = .ok (.iload_n 1, 1) := by decide +kernel
theorem dX11_readsLedger_110 : decode cX11_readsLedger 110 = .ok (.invokevirtual 320, 3) := by decide +kernel
theorem dX11_readsLedger_113 : decode cX11_readsLedger 113 = .ok (.goto 8, 3) := by decide +kernel
theorem dX11_readsLedger_116 : decode cX11_readsLedger 116 = .ok (.aload_n 0, 1) := by decide +kernel
theorem dX11_readsLedger_117 : decode cX11_readsLedger 117 = .ok (.iload_n 1, 1) := by decide +kernel
theorem dX11_readsLedger_118 : decode cX11_readsLedger 118 = .ok (.invokevirtual 323, 3) := by decide +kernel
theorem dX11_readsLedger_121 : decode cX11_readsLedger 121 = .ok (.istore_n 2, 1) := by decide +kernel
theorem dX11_readsLedger_122 : decode cX11_readsLedger 122 = .ok (.iload_n 2, 1) := by decide +kernel
theorem dX11_readsLedger_123 : decode cX11_readsLedger 123 = .ok (.ifCond .eq 12, 3) := by decide +kernel
theorem dX11_readsLedger_126 : decode cX11_readsLedger 126 = .ok (.aload_n 0, 1) := by decide +kernel
theorem dX11_readsLedger_127 : decode cX11_readsLedger 127 = .ok (.bipush 59, 2) := by decide +kernel
theorem dX11_readsLedger_129 : decode cX11_readsLedger 129 = .ok (.invokevirtual 205, 3) := by decide +kernel
theorem dX11_readsLedger_132 : decode cX11_readsLedger 132 = .ok (.ifCond .ne 5, 3) := by decide +kernel
theorem dX11_readsLedger_135 : decode cX11_readsLedger 135 = .ok (.iconst 0, 1) := by decide +kernel
theorem dX11_readsLedger_136 : decode cX11_readsLedger 136 = .ok (.ireturn, 1) := by decide +kernel
theorem dX11_readsLedger_137 : decode cX11_readsLedger 137 = .ok (.goto (-68), 3) := by decide +kernel
theorem dX11_readsLedger_140 : decode cX11_readsLedger 140 = .ok (.iconst 1, 1) := by decide +kernel
theorem dX11_readsLedger_141 : decode cX11_readsLedger 141 = .ok (.ireturn, 1) := by decide +kernel
theorem dX11_load_0 : decode cX11_load 0 = .ok (.aload_n 0, 1) := by decide +kernel
theorem dX11_load_1 : decode cX11_load 1 = .ok (.iconst 0, 1) := by decide +kernel
theorem dX11_load_2 : decode cX11_load 2 = .ok (.putfield 47, 3) := by decide +kernel
theorem dX11_load_5 : decode cX11_load 5 = .ok (.aload_n 0, 1) := by decide +kernel
theorem dX11_load_6 : decode cX11_load 6 = .ok (.iload_n 1, 1) := by decide +kernel
theorem dX11_load_7 : decode cX11_load 7 = .ok (.iconst 0, 1) := by decide +kernel
theorem dX11_load_8 : decode cX11_load 8 = .ok (.aload_n 0, 1) := by decide +kernel
theorem dX11_load_9 : decode cX11_load 9 = .ok (.getfield 152, 3) := by decide +kernel
theorem dX11_load_12 : decode cX11_load 12 = .ok (.invokestatic 199, 3) := by decide +kernel
theorem dX11_load_15 : decode cX11_load 15 = .ok (.iconst 1, 1) := by decide +kernel
theorem dX11_load_16 : decode cX11_load 16 = .ok (.invokevirtual 326, 3) := by decide +kernel
theorem dX11_load_19 : decode cX11_load 19 = .ok (.ifCond .ne 5, 3) := by decide +kernel
theorem dX11_load_22 : decode cX11_load 22 = .ok (.iconst 0, 1) := by decide +kernel
theorem dX11_load_23 : decode cX11_load 23 = .ok (.ireturn, 1) := by decide +kernel
theorem dX11_load_24 : decode cX11_load 24 = .ok (.aload_n 0, 1) := by decide +kernel
theorem dX11_load_25 : decode cX11_load 25 = .ok (.iload_n 1, 1) := by decide +kernel
theorem dX11_load_26 : decode cX11_load 26 = .ok (.putfield 164, 3) := by decide +kernel
theorem dX11_load_29 : decode cX11_load 29 = .ok (.aload_n 0, 1) := by decide +kernel
theorem dX11_load_30 : decode cX11_load 30 = .ok (.iconst 0, 1) := by decide +kernel
theorem dX11_load_31 : decode cX11_load 31 = .ok (.putfield 161, 3) := by decide +kernel
theorem dX11_load_34 : decode cX11_load 34 = .ok (.aload_n 0, 1) := by decide +kernel
theorem dX11_load_35 : decode cX11_load 35 = .ok (.iconst 0, 1) := by decide +kernel
theorem dX11_load_36 : decode cX11_load 36 = .ok (.putfield 152, 3) := by decide +kernel
theorem dX11_load_39 : decode cX11_load 39 = .ok (.aload_n 0, 1) := by decide +kernel
theorem dX11_load_40 : decode cX11_load 40 = .ok (.iconst 0, 1) := by decide +kernel
theorem dX11_load_41 : decode cX11_load 41 = .ok (.putfield 158, 3) := by decide +kernel
theorem dX11_load_44 : decode cX11_load 44 = .ok (.aload_n 0, 1) := by decide +kernel
theorem dX11_load_45 : decode cX11_load 45 = .ok (.iconst (-1), 1) := by decide +kernel
theorem dX11_load_46 : decode cX11_load 46 = .ok (.putfield 39, 3) := by decide +kernel
theorem dX11_load_49 : decode cX11_load 49 = .ok (.aload_n 0, 1) := by decide +kernel
theorem dX11_load_50 : decode cX11_load 50 = .ok (.invokevirtual 330, 3) := by decide +kernel
theorem dX11_load_53 : decode cX11_load 53 = .ok (.ifCond .ne 8, 3) := by decide +kernel
theorem dX11_load_56 : decode cX11_load 56 = .ok (.aload_n 0, 1) := by decide +kernel
theorem dX11_load_57 : decode cX11_load 57 = .ok (.getfield 158, 3) := by decide +kernel
theorem dX11_load_60 : decode cX11_load 60 = .ok (.ireturn, 1) := by decide +kernel
theorem dX11_load_61 : decode cX11_load 61 = .ok (.aload_n 0, 1) := by decide +kernel
theorem dX11_load_62 : decode cX11_load 62 = .ok (.invokevirtual 333, 3) := by decide +kernel
theorem dX11_load_65 : decode cX11_load 65 = .ok (.iconst 0, 1) := by decide +kernel
theorem dX11_load_66 : decode cX11_load 66 = .ok (.istore_n 2, 1) := by decide +kernel
theorem dX11_load_67 : decode cX11_load 67 = .ok (.iload_n 2, 1) := by decide +kernel
theorem dX11_load_68 : decode cX11_load 68 = .ok (.sipush 4370, 3) := by decide +kernel
theorem dX11_load_71 : decode cX11_load 71 = .ok (.if_icmp .ge 20, 3) := by decide +kernel
theorem dX11_load_74 : decode cX11_load 74 = .ok (.aload_n 0, 1) := by decide +kernel
theorem dX11_load_75 : decode cX11_load 75 = .ok (.iload_n 2, 1) := by decide +kernel
theorem dX11_load_76 : decode cX11_load 76 = .ok (.aload_n 0, 1) := by decide +kernel
theorem dX11_load_77 : decode cX11_load 77 = .ok (.getfield 14, 3) := by decide +kernel
theorem dX11_load_80 : decode cX11_load 80 = .ok (.iload_n 2, 1) := by decide +kernel
theorem dX11_load_81 : decode cX11_load 81 = .ok (.iaload, 1) := by decide +kernel
theorem dX11_load_82 : decode cX11_load 82 = .ok (.invokevirtual 60, 3) := by decide +kernel
theorem dX11_load_85 : decode cX11_load 85 = .ok (.iinc 2 1, 3) := by decide +kernel
theorem dX11_load_88 : decode cX11_load 88 = .ok (.goto (-21), 3) := by decide +kernel
theorem dX11_load_91 : decode cX11_load 91 = .ok (.aload_n 0, 1) := by decide +kernel
theorem dX11_load_92 : decode cX11_load 92 = .ok (.iconst 0, 1) := by decide +kernel
theorem dX11_load_93 : decode cX11_load 93 = .ok (.invokevirtual 53, 3) := by decide +kernel
theorem dX11_load_96 : decode cX11_load 96 = .ok (.ireturn, 1) := by decide +kernel
theorem dX11_counted_0 : decode cX11_counted 0 = .ok (.iconst 0, 1) := by decide +kernel
theorem dX11_counted_1 : decode cX11_counted 1 = .ok (.istore_n 2, 1) := by decide +kernel
theorem dX11_counted_2 : decode cX11_counted 2 = .ok (.iconst 0, 1) := by decide +kernel
theorem dX11_counted_3 : decode cX11_counted 3 = .ok (.istore_n 3, 1) := by decide +kernel
theorem dX11_counted_4 : decode cX11_counted 4 = .ok (.iload_n 3, 1) := by decide +kernel
theorem dX11_counted_5 : decode cX11_counted 5 = .ok (.aload_n 0, 1) := by decide +kernel
theorem dX11_counted_6 : decode cX11_counted 6 = .ok (.iconst 0, 1) := by decide +kernel
theorem dX11_counted_7 : decode cX11_counted 7 = .ok (.invokevirtual 53, 3) := by decide +kernel
theorem dX11_counted_10 : decode cX11_counted 10 = .ok (.if_icmp .ge 113, 3) := by decide +kernel
theorem dX11_counted_13 : decode cX11_counted 13 = .ok (.iload_n 2, 1) := by decide +kernel
theorem dX11_counted_14 : decode cX11_counted 14 = .ok (.iload_n 1, 1) := by decide +kernel
theorem dX11_counted_15 : decode cX11_counted 15 = .ok (.iconst 1, 1) := by decide +kernel
theorem dX11_counted_16 : decode cX11_counted 16 = .ok (.if_icmp .ne 11, 3) := by decide +kernel
theorem dX11_counted_19 : decode cX11_counted 19 = .ok (.aload_n 0, 1) := by decide +kernel
theorem dX11_counted_20 : decode cX11_counted 20 = .ok (.iload_n 3, 1) := by decide +kernel
theorem dX11_counted_21 : decode cX11_counted 21 = .ok (.invokevirtual 75, 3) := by decide +kernel
theorem dX11_counted_24 : decode cX11_counted 24 = .ok (.goto 91, 3) := by decide +kernel
theorem dX11_counted_27 : decode cX11_counted 27 = .ok (.iload_n 1, 1) := by decide +kernel
theorem dX11_counted_28 : decode cX11_counted 28 = .ok (.iconst 2, 1) := by decide +kernel
theorem dX11_counted_29 : decode cX11_counted 29 = .ok (.if_icmp .ne 21, 3) := by decide +kernel
theorem dX11_counted_32 : decode cX11_counted 32 = .ok (.aload_n 0, 1) := by decide +kernel
theorem dX11_counted_33 : decode cX11_counted 33 = .ok (.iload_n 3, 1) := by decide +kernel
theorem dX11_counted_34 : decode cX11_counted 34 = .ok (.iconst 1, 1) := by decide +kernel
theorem dX11_counted_35 : decode cX11_counted 35 = .ok (.invokevirtual 68, 3) := by decide +kernel
theorem dX11_counted_38 : decode cX11_counted 38 = .ok (.iconst 1, 1) := by decide +kernel
theorem dX11_counted_39 : decode cX11_counted 39 = .ok (.if_icmp .ne 7, 3) := by decide +kernel
theorem dX11_counted_42 : decode cX11_counted 42 = .ok (.iconst 1, 1) := by decide +kernel
theorem dX11_counted_43 : decode cX11_counted 43 = .ok (.goto 72, 3) := by decide +kernel
theorem dX11_counted_46 : decode cX11_counted 46 = .ok (.iconst 0, 1) := by decide +kernel
theorem dX11_counted_47 : decode cX11_counted 47 = .ok (.goto 68, 3) := by decide +kernel
theorem dX11_counted_50 : decode cX11_counted 50 = .ok (.iload_n 1, 1) := by decide +kernel
theorem dX11_counted_51 : decode cX11_counted 51 = .ok (.iconst 3, 1) := by decide +kernel
theorem dX11_counted_52 : decode cX11_counted 52 = .ok (.if_icmp .ne 21, 3) := by decide +kernel
theorem dX11_counted_55 : decode cX11_counted 55 = .ok (.aload_n 0, 1) := by decide +kernel
theorem dX11_counted_56 : decode cX11_counted 56 = .ok (.iload_n 3, 1) := by decide +kernel
theorem dX11_counted_57 : decode cX11_counted 57 = .ok (.iconst 1, 1) := by decide +kernel
theorem dX11_counted_58 : decode cX11_counted 58 = .ok (.invokevirtual 68, 3) := by decide +kernel
theorem dX11_counted_61 : decode cX11_counted 61 = .ok (.iconst 2, 1) := by decide +kernel
theorem dX11_counted_62 : decode cX11_counted 62 = .ok (.if_icmp .ne 7, 3) := by decide +kernel
theorem dX11_counted_65 : decode cX11_counted 65 = .ok (.iconst 1, 1) := by decide +kernel
theorem dX11_counted_66 : decode cX11_counted 66 = .ok (.goto 49, 3) := by decide +kernel
theorem dX11_counted_69 : decode cX11_counted 69 = .ok (.iconst 0, 1) := by decide +kernel
theorem dX11_counted_70 : decode cX11_counted 70 = .ok (.goto 45, 3) := by decide +kernel
theorem dX11_counted_73 : decode cX11_counted 73 = .ok (.iload_n 1, 1) := by decide +kernel
theorem dX11_counted_74 : decode cX11_counted 74 = .ok (.iconst 4, 1) := by decide +kernel
theorem dX11_counted_75 : decode cX11_counted 75 = .ok (.if_icmp .ne 14, 3) := by decide +kernel
theorem dX11_counted_78 : decode cX11_counted 78 = .ok (.aload_n 0, 1) := by decide +kernel
theorem dX11_counted_79 : decode cX11_counted 79 = .ok (.iload_n 3, 1) := by decide +kernel
theorem dX11_counted_80 : decode cX11_counted 80 = .ok (.invokevirtual 89, 3) := by decide +kernel
theorem dX11_counted_83 : decode cX11_counted 83 = .ok (.invokestatic 133, 3) := by decide +kernel
theorem dX11_counted_86 : decode cX11_counted 86 = .ok (.goto 29, 3) := by decide +kernel
theorem dX11_counted_89 : decode cX11_counted 89 = .ok (.iload_n 1, 1) := by decide +kernel
theorem dX11_counted_90 : decode cX11_counted 90 = .ok (.iconst 5, 1) := by decide +kernel
theorem dX11_counted_91 : decode cX11_counted 91 = .ok (.if_icmp .ne 11, 3) := by decide +kernel
theorem dX11_counted_94 : decode cX11_counted 94 = .ok (.aload_n 0, 1) := by decide +kernel
theorem dX11_counted_95 : decode cX11_counted 95 = .ok (.iload_n 3, 1) := by decide +kernel
theorem dX11_counted_96 : decode cX11_counted 96 = .ok (.invokevirtual 138, 3) := by decide +kernel
theorem dX11_counted_99 : decode cX11_counted 99 = .ok (.goto 16, 3) := by decide +kernel
theorem dX11_counted_102 : decode cX11_counted 102 = .ok (.aload_n 0, 1) := by decide +kernel
theorem dX11_counted_103 : decode cX11_counted 103 = .ok (.iload_n 3, 1) := by decide +kernel
theorem dX11_counted_104 : decode cX11_counted 104 = .ok (.invokevirtual 121, 3) := by decide +kernel
theorem dX11_counted_107 : decode cX11_counted 107 = .ok (.ifCond .eq 7, 3) := by decide +kernel
theorem dX11_counted_110 : decode cX11_counted 110 = .ok (.iconst 1, 1) := by decide +kernel
theorem dX11_counted_111 : decode cX11_counted 111 = .ok (.goto 4, 3) := by decide +kernel
theorem dX11_counted_114 : decode cX11_counted 114 = .ok (.iconst 0, 1) := by decide +kernel
theorem dX11_counted_115 : decode cX11_counted 115 = .ok (.iadd, 1) := by decide +kernel
theorem dX11_counted_116 : decode cX11_counted 116 = .ok (.istore_n 2, 1) := by decide +kernel
theorem dX11_counted_117 : decode cX11_counted 117 = .ok (.iinc 3 1, 3) := by decide +kernel
theorem dX11_counted_120 : decode cX11_counted 120 = .ok (.goto (-116), 3) := by decide +kernel
theorem dX11_counted_123 : decode cX11_counted 123 = .ok (.iload_n 2, 1) := by decide +kernel
theorem dX11_counted_124 : decode cX11_counted 124 = .ok (.ireturn, 1) := by decide +kernel
theorem dX11_told_0 : decode cX11_told 0 = .ok (.iload_n 1, 1) := by decide +kernel
theorem dX11_told_1 : decode cX11_told 1 = .ok (.lookupswitch 53 #[(0, 35), (6, 41), (7, 47)], 35) := by decide +kernel
theorem dX11_told_36 : decode cX11_told 36 = .ok (.aload_n 0, 1) := by decide +kernel
theorem dX11_told_37 : decode cX11_told 37 = .ok (.iconst 0, 1) := by decide +kernel
theorem dX11_told_38 : decode cX11_told 38 = .ok (.invokevirtual 53, 3) := by decide +kernel
theorem dX11_told_41 : decode cX11_told 41 = .ok (.ireturn, 1) := by decide +kernel
theorem dX11_told_42 : decode cX11_told 42 = .ok (.aload_n 0, 1) := by decide +kernel
theorem dX11_told_43 : decode cX11_told 43 = .ok (.iconst 2, 1) := by decide +kernel
theorem dX11_told_44 : decode cX11_told 44 = .ok (.invokevirtual 53, 3) := by decide +kernel
theorem dX11_told_47 : decode cX11_told 47 = .ok (.ireturn, 1) := by decide +kernel
theorem dX11_told_48 : decode cX11_told 48 = .ok (.aload_n 0, 1) := by decide +kernel
theorem dX11_told_49 : decode cX11_told 49 = .ok (.iconst 1, 1) := by decide +kernel
theorem dX11_told_50 : decode cX11_told 50 = .ok (.invokevirtual 53, 3) := by decide +kernel
theorem dX11_told_53 : decode cX11_told 53 = .ok (.ireturn, 1) := by decide +kernel
theorem dX11_told_54 : decode cX11_told 54 = .ok (.aload_n 0, 1) := by decide +kernel
theorem dX11_told_55 : decode cX11_told 55 = .ok (.iload_n 1, 1) := by decide +kernel
theorem dX11_told_56 : decode cX11_told 56 = .ok (.invokevirtual 336, 3) := by decide +kernel
theorem dX11_told_59 : decode cX11_told 59 = .ok (.ireturn, 1) := by decide +kernel
theorem dX11_state_0 : decode cX11_state 0 = .ok (.aload_n 0, 1) := by decide +kernel
theorem dX11_state_1 : decode cX11_state 1 = .ok (.iconst 0, 1) := by decide +kernel
theorem dX11_state_2 : decode cX11_state 2 = .ok (.putfield 47, 3) := by decide +kernel
theorem dX11_state_5 : decode cX11_state 5 = .ok (.aload_n 0, 1) := by decide +kernel
theorem dX11_state_6 : decode cX11_state 6 = .ok (.iload_n 1, 1) := by decide +kernel
theorem dX11_state_7 : decode cX11_state 7 = .ok (.iconst 0, 1) := by decide +kernel
theorem dX11_state_8 : decode cX11_state 8 = .ok (.bipush 8, 2) := by decide +kernel
theorem dX11_state_10 : decode cX11_state 10 = .ok (.invokestatic 199, 3) := by decide +kernel
theorem dX11_state_13 : decode cX11_state 13 = .ok (.iconst 1, 1) := by decide +kernel
theorem dX11_state_14 : decode cX11_state 14 = .ok (.invokevirtual 326, 3) := by decide +kernel
theorem dX11_state_17 : decode cX11_state 17 = .ok (.ifCond .eq 11, 3) := by decide +kernel
theorem dX11_state_20 : decode cX11_state 20 = .ok (.aload_n 0, 1) := by decide +kernel
theorem dX11_state_21 : decode cX11_state 21 = .ok (.iload_n 1, 1) := by decide +kernel
theorem dX11_state_22 : decode cX11_state 22 = .ok (.invokevirtual 339, 3) := by decide +kernel
theorem dX11_state_25 : decode cX11_state 25 = .ok (.goto 4, 3) := by decide +kernel
theorem dX11_state_28 : decode cX11_state 28 = .ok (.iconst 0, 1) := by decide +kernel
theorem dX11_state_29 : decode cX11_state 29 = .ok (.ireturn, 1) := by decide +kernel
theorem dX11_isItem_0 : decode cX11_isItem 0 = .ok (.aload_n 0, 1) := by decide +kernel
theorem dX11_isItem_1 : decode cX11_isItem 1 = .ok (.iload_n 1, 1) := by decide +kernel
theorem dX11_isItem_2 : decode cX11_isItem 2 = .ok (.iconst 0, 1) := by decide +kernel
theorem dX11_isItem_3 : decode cX11_isItem 3 = .ok (.bipush 7, 2) := by decide +kernel
theorem dX11_isItem_5 : decode cX11_isItem 5 = .ok (.invokestatic 199, 3) := by decide +kernel
theorem dX11_isItem_8 : decode cX11_isItem 8 = .ok (.iconst 1, 1) := by decide +kernel
theorem dX11_isItem_9 : decode cX11_isItem 9 = .ok (.invokevirtual 326, 3) := by decide +kernel
theorem dX11_isItem_12 : decode cX11_isItem 12 = .ok (.ireturn, 1) := by decide +kernel
theorem dX11_isQuest_0 : decode cX11_isQuest 0 = .ok (.aload_n 0, 1) := by decide +kernel
theorem dX11_isQuest_1 : decode cX11_isQuest 1 = .ok (.iload_n 1, 1) := by decide +kernel
theorem dX11_isQuest_2 : decode cX11_isQuest 2 = .ok (.iconst 0, 1) := by decide +kernel
theorem dX11_isQuest_3 : decode cX11_isQuest 3 = .ok (.aload_n 0, 1) := by decide +kernel
theorem dX11_isQuest_4 : decode cX11_isQuest 4 = .ok (.iconst 0, 1) := by decide +kernel
theorem dX11_isQuest_5 : decode cX11_isQuest 5 = .ok (.invokevirtual 53, 3) := by decide +kernel
theorem dX11_isQuest_8 : decode cX11_isQuest 8 = .ok (.iconst 1, 1) := by decide +kernel
theorem dX11_isQuest_9 : decode cX11_isQuest 9 = .ok (.isub, 1) := by decide +kernel
theorem dX11_isQuest_10 : decode cX11_isQuest 10 = .ok (.invokestatic 199, 3) := by decide +kernel
theorem dX11_isQuest_13 : decode cX11_isQuest 13 = .ok (.iconst 1, 1) := by decide +kernel
theorem dX11_isQuest_14 : decode cX11_isQuest 14 = .ok (.invokevirtual 326, 3) := by decide +kernel
theorem dX11_isQuest_17 : decode cX11_isQuest 17 = .ok (.ireturn, 1) := by decide +kernel
theorem dX11_isStep_0 : decode cX11_isStep 0 = .ok (.aload_n 0, 1) := by decide +kernel
theorem dX11_isStep_1 : decode cX11_isStep 1 = .ok (.iload_n 1, 1) := by decide +kernel
theorem dX11_isStep_2 : decode cX11_isStep 2 = .ok (.invokevirtual 342, 3) := by decide +kernel
theorem dX11_isStep_5 : decode cX11_isStep 5 = .ok (.ifCond .eq 27, 3) := by decide +kernel
theorem dX11_isStep_8 : decode cX11_isStep 8 = .ok (.aload_n 0, 1) := by decide +kernel
theorem dX11_isStep_9 : decode cX11_isStep 9 = .ok (.iload_n 2, 1) := by decide +kernel
theorem dX11_isStep_10 : decode cX11_isStep 10 = .ok (.iconst 0, 1) := by decide +kernel
theorem dX11_isStep_11 : decode cX11_isStep 11 = .ok (.aload_n 0, 1) := by decide +kernel
theorem dX11_isStep_12 : decode cX11_isStep 12 = .ok (.iload_n 1, 1) := by decide +kernel
theorem dX11_isStep_13 : decode cX11_isStep 13 = .ok (.invokevirtual 75, 3) := by decide +kernel
theorem dX11_isStep_16 : decode cX11_isStep 16 = .ok (.iconst 1, 1) := by decide +kernel
theorem dX11_isStep_17 : decode cX11_isStep 17 = .ok (.isub, 1) := by decide +kernel
theorem dX11_isStep_18 : decode cX11_isStep 18 = .ok (.invokestatic 199, 3) := by decide +kernel
theorem dX11_isStep_21 : decode cX11_isStep 21 = .ok (.iconst 1, 1) := by decide +kernel
theorem dX11_isStep_22 : decode cX11_isStep 22 = .ok (.invokevirtual 326, 3) := by decide +kernel
theorem dX11_isStep_25 : decode cX11_isStep 25 = .ok (.ifCond .eq 7, 3) := by decide +kernel
theorem dX11_isStep_28 : decode cX11_isStep 28 = .ok (.iconst 1, 1) := by decide +kernel
theorem dX11_isStep_29 : decode cX11_isStep 29 = .ok (.goto 4, 3) := by decide +kernel
theorem dX11_isStep_32 : decode cX11_isStep 32 = .ok (.iconst 0, 1) := by decide +kernel
theorem dX11_isStep_33 : decode cX11_isStep 33 = .ok (.ireturn, 1) := by decide +kernel
theorem dX11_stock_0 : decode cX11_stock 0 = .ok (.aload_n 0, 1) := by decide +kernel
theorem dX11_stock_1 : decode cX11_stock 1 = .ok (.iconst 0, 1) := by decide +kernel
theorem dX11_stock_2 : decode cX11_stock 2 = .ok (.putfield 47, 3) := by decide +kernel
theorem dX11_stock_5 : decode cX11_stock 5 = .ok (.aload_n 0, 1) := by decide +kernel
theorem dX11_stock_6 : decode cX11_stock 6 = .ok (.iload_n 1, 1) := by decide +kernel
theorem dX11_stock_7 : decode cX11_stock 7 = .ok (.invokevirtual 345, 3) := by decide +kernel
theorem dX11_stock_10 : decode cX11_stock 10 = .ok (.ifCond .eq 13, 3) := by decide +kernel
theorem dX11_stock_13 : decode cX11_stock 13 = .ok (.aload_n 0, 1) := by decide +kernel
theorem dX11_stock_14 : decode cX11_stock 14 = .ok (.iconst 5, 1) := by decide +kernel
theorem dX11_stock_15 : decode cX11_stock 15 = .ok (.iload_n 1, 1) := by decide +kernel
theorem dX11_stock_16 : decode cX11_stock 16 = .ok (.iadd, 1) := by decide +kernel
theorem dX11_stock_17 : decode cX11_stock 17 = .ok (.invokevirtual 53, 3) := by decide +kernel
theorem dX11_stock_20 : decode cX11_stock 20 = .ok (.goto 4, 3) := by decide +kernel
theorem dX11_stock_23 : decode cX11_stock 23 = .ok (.iconst 0, 1) := by decide +kernel
theorem dX11_stock_24 : decode cX11_stock 24 = .ok (.ireturn, 1) := by decide +kernel
theorem dX11_triedSet_0 : decode cX11_triedSet 0 = .ok (.aload_n 0, 1) := by decide +kernel
theorem dX11_triedSet_1 : decode cX11_triedSet 1 = .ok (.invokevirtual 112, 3) := by decide +kernel
theorem dX11_triedSet_4 : decode cX11_triedSet 4 = .ok (.aload_n 0, 1) := by decide +kernel
theorem dX11_triedSet_5 : decode cX11_triedSet 5 = .ok (.iload_n 1, 1) := by decide +kernel
theorem dX11_triedSet_6 : decode cX11_triedSet 6 = .ok (.invokevirtual 89, 3) := by decide +kernel
theorem dX11_triedSet_9 : decode cX11_triedSet 9 = .ok (.istore_n 2, 1) := by decide +kernel
theorem dX11_triedSet_10 : decode cX11_triedSet 10 = .ok (.iconst 0, 1) := by decide +kernel
theorem dX11_triedSet_11 : decode cX11_triedSet 11 = .ok (.istore_n 3, 1) := by decide +kernel
theorem dX11_triedSet_12 : decode cX11_triedSet 12 = .ok (.iconst 0, 1) := by decide +kernel
theorem dX11_triedSet_13 : decode cX11_triedSet 13 = .ok (.istore 4, 2) := by decide +kernel
theorem dX11_triedSet_15 : decode cX11_triedSet 15 = .ok (.iload 4, 2) := by decide +kernel
theorem dX11_triedSet_17 : decode cX11_triedSet 17 = .ok (.aload_n 0, 1) := by decide +kernel
theorem dX11_triedSet_18 : decode cX11_triedSet 18 = .ok (.iload_n 1, 1) := by decide +kernel
theorem dX11_triedSet_19 : decode cX11_triedSet 19 = .ok (.invokevirtual 75, 3) := by decide +kernel
theorem dX11_triedSet_22 : decode cX11_triedSet 22 = .ok (.if_icmp .ge 40, 3) := by decide +kernel
theorem dX11_triedSet_25 : decode cX11_triedSet 25 = .ok (.iload_n 3, 1) := by decide +kernel
theorem dX11_triedSet_26 : decode cX11_triedSet 26 = .ok (.aload_n 0, 1) := by decide +kernel
theorem dX11_triedSet_27 : decode cX11_triedSet 27 = .ok (.iload_n 1, 1) := by decide +kernel
theorem dX11_triedSet_28 : decode cX11_triedSet 28 = .ok (.invokevirtual 108, 3) := by decide +kernel
theorem dX11_triedSet_31 : decode cX11_triedSet 31 = .ok (.ifCond .eq 22, 3) := by decide +kernel
theorem dX11_triedSet_34 : decode cX11_triedSet 34 = .ok (.aload_n 0, 1) := by decide +kernel
theorem dX11_triedSet_35 : decode cX11_triedSet 35 = .ok (.iload_n 1, 1) := by decide +kernel
theorem dX11_triedSet_36 : decode cX11_triedSet 36 = .ok (.iload 4, 2) := by decide +kernel
theorem dX11_triedSet_38 : decode cX11_triedSet 38 = .ok (.iload_n 2, 1) := by decide +kernel
theorem dX11_triedSet_39 : decode cX11_triedSet 39 = .ok (.iload_n 2, 1) := by decide +kernel
theorem dX11_triedSet_40 : decode cX11_triedSet 40 = .ok (.invokevirtual 99, 3) := by decide +kernel
theorem dX11_triedSet_43 : decode cX11_triedSet 43 = .ok (.ifCond .eq 10, 3) := by decide +kernel
theorem dX11_triedSet_46 : decode cX11_triedSet 46 = .ok (.iconst 1, 1) := by decide +kernel
theorem dX11_triedSet_47 : decode cX11_triedSet 47 = .ok (.iload 4, 2) := by decide +kernel
theorem dX11_triedSet_49 : decode cX11_triedSet 49 = .ok (.ishl, 1) := by decide +kernel
theorem dX11_triedSet_50 : decode cX11_triedSet 50 = .ok (.goto 4, 3) := by decide +kernel
theorem dX11_triedSet_53 : decode cX11_triedSet 53 = .ok (.iconst 0, 1) := by decide +kernel
theorem dX11_triedSet_54 : decode cX11_triedSet 54 = .ok (.ior, 1) := by decide +kernel
theorem dX11_triedSet_55 : decode cX11_triedSet 55 = .ok (.istore_n 3, 1) := by decide +kernel
theorem dX11_triedSet_56 : decode cX11_triedSet 56 = .ok (.iinc 4 1, 3) := by decide +kernel
theorem dX11_triedSet_59 : decode cX11_triedSet 59 = .ok (.goto (-44), 3) := by decide +kernel
theorem dX11_triedSet_62 : decode cX11_triedSet 62 = .ok (.iload_n 3, 1) := by decide +kernel
theorem dX11_triedSet_63 : decode cX11_triedSet 63 = .ok (.ireturn, 1) := by decide +kernel
theorem dX11_toldOf_0 : decode cX11_toldOf 0 = .ok (.iload_n 2, 1) := by decide +kernel
theorem dX11_toldOf_1 : decode cX11_toldOf 1 = .ok (.tableswitch 88 0 6 #[43, 49, 56, 62, 68, 75, 82], 43) := by decide +kernel
theorem dX11_toldOf_44 : decode cX11_toldOf 44 = .ok (.aload_n 0, 1) := by decide +kernel
theorem dX11_toldOf_45 : decode cX11_toldOf 45 = .ok (.iload_n 1, 1) := by decide +kernel
theorem dX11_toldOf_46 : decode cX11_toldOf 46 = .ok (.invokevirtual 75, 3) := by decide +kernel
theorem dX11_toldOf_49 : decode cX11_toldOf 49 = .ok (.ireturn, 1) := by decide +kernel
theorem dX11_toldOf_50 : decode cX11_toldOf 50 = .ok (.aload_n 0, 1) := by decide +kernel
theorem dX11_toldOf_51 : decode cX11_toldOf 51 = .ok (.iload_n 1, 1) := by decide +kernel
theorem dX11_toldOf_52 : decode cX11_toldOf 52 = .ok (.iconst 1, 1) := by decide +kernel
theorem dX11_toldOf_53 : decode cX11_toldOf 53 = .ok (.invokevirtual 68, 3) := by decide +kernel
theorem dX11_toldOf_56 : decode cX11_toldOf 56 = .ok (.ireturn, 1) := by decide +kernel
theorem dX11_toldOf_57 : decode cX11_toldOf 57 = .ok (.aload_n 0, 1) := by decide +kernel
theorem dX11_toldOf_58 : decode cX11_toldOf 58 = .ok (.iload_n 1, 1) := by decide +kernel
theorem dX11_toldOf_59 : decode cX11_toldOf 59 = .ok (.invokevirtual 89, 3) := by decide +kernel
theorem dX11_toldOf_62 : decode cX11_toldOf 62 = .ok (.ireturn, 1) := by decide +kernel
theorem dX11_toldOf_63 : decode cX11_toldOf 63 = .ok (.aload_n 0, 1) := by decide +kernel
theorem dX11_toldOf_64 : decode cX11_toldOf 64 = .ok (.iload_n 1, 1) := by decide +kernel
theorem dX11_toldOf_65 : decode cX11_toldOf 65 = .ok (.invokevirtual 348, 3) := by decide +kernel
theorem dX11_toldOf_68 : decode cX11_toldOf 68 = .ok (.ireturn, 1) := by decide +kernel
theorem dX11_toldOf_69 : decode cX11_toldOf 69 = .ok (.aload_n 0, 1) := by decide +kernel
theorem dX11_toldOf_70 : decode cX11_toldOf 70 = .ok (.iload_n 1, 1) := by decide +kernel
theorem dX11_toldOf_71 : decode cX11_toldOf 71 = .ok (.iconst 2, 1) := by decide +kernel
theorem dX11_toldOf_72 : decode cX11_toldOf 72 = .ok (.invokevirtual 68, 3) := by decide +kernel
theorem dX11_toldOf_75 : decode cX11_toldOf 75 = .ok (.ireturn, 1) := by decide +kernel
theorem dX11_toldOf_76 : decode cX11_toldOf 76 = .ok (.aload_n 0, 1) := by decide +kernel
theorem dX11_toldOf_77 : decode cX11_toldOf 77 = .ok (.iload_n 1, 1) := by decide +kernel
theorem dX11_toldOf_78 : decode cX11_toldOf 78 = .ok (.iconst 3, 1) := by decide +kernel
theorem dX11_toldOf_79 : decode cX11_toldOf 79 = .ok (.invokevirtual 68, 3) := by decide +kernel
theorem dX11_toldOf_82 : decode cX11_toldOf 82 = .ok (.ireturn, 1) := by decide +kernel
theorem dX11_toldOf_83 : decode cX11_toldOf 83 = .ok (.aload_n 0, 1) := by decide +kernel
theorem dX11_toldOf_84 : decode cX11_toldOf 84 = .ok (.iload_n 1, 1) := by decide +kernel
theorem dX11_toldOf_85 : decode cX11_toldOf 85 = .ok (.invokevirtual 138, 3) := by decide +kernel
theorem dX11_toldOf_88 : decode cX11_toldOf 88 = .ok (.ireturn, 1) := by decide +kernel
theorem dX11_toldOf_89 : decode cX11_toldOf 89 = .ok (.aload_n 0, 1) := by decide +kernel
theorem dX11_toldOf_90 : decode cX11_toldOf 90 = .ok (.iload_n 1, 1) := by decide +kernel
theorem dX11_toldOf_91 : decode cX11_toldOf 91 = .ok (.invokevirtual 351, 3) := by decide +kernel
theorem dX11_toldOf_94 : decode cX11_toldOf 94 = .ok (.ireturn, 1) := by decide +kernel
theorem dX11_toldOfStep_0 : decode cX11_toldOfStep 0 = .ok (.aload_n 0, 1) := by decide +kernel
theorem dX11_toldOfStep_1 : decode cX11_toldOfStep 1 = .ok (.iload_n 1, 1) := by decide +kernel
theorem dX11_toldOfStep_2 : decode cX11_toldOfStep 2 = .ok (.iload_n 2, 1) := by decide +kernel
theorem dX11_toldOfStep_3 : decode cX11_toldOfStep 3 = .ok (.iload_n 3, 1) := by decide +kernel
theorem dX11_toldOfStep_4 : decode cX11_toldOfStep 4 = .ok (.invokevirtual 71, 3) := by decide +kernel
theorem dX11_toldOfStep_7 : decode cX11_toldOfStep 7 = .ok (.ireturn, 1) := by decide +kernel
theorem dX11_quest_0 : decode cX11_quest 0 = .ok (.aload_n 0, 1) := by decide +kernel
theorem dX11_quest_1 : decode cX11_quest 1 = .ok (.iconst 0, 1) := by decide +kernel
theorem dX11_quest_2 : decode cX11_quest 2 = .ok (.putfield 47, 3) := by decide +kernel
theorem dX11_quest_5 : decode cX11_quest 5 = .ok (.aload_n 0, 1) := by decide +kernel
theorem dX11_quest_6 : decode cX11_quest 6 = .ok (.iload_n 1, 1) := by decide +kernel
theorem dX11_quest_7 : decode cX11_quest 7 = .ok (.invokevirtual 342, 3) := by decide +kernel
theorem dX11_quest_10 : decode cX11_quest 10 = .ok (.ifCond .eq 27, 3) := by decide +kernel
theorem dX11_quest_13 : decode cX11_quest 13 = .ok (.aload_n 0, 1) := by decide +kernel
theorem dX11_quest_14 : decode cX11_quest 14 = .ok (.iload_n 2, 1) := by decide +kernel
theorem dX11_quest_15 : decode cX11_quest 15 = .ok (.iconst 0, 1) := by decide +kernel
theorem dX11_quest_16 : decode cX11_quest 16 = .ok (.bipush 7, 2) := by decide +kernel
theorem dX11_quest_18 : decode cX11_quest 18 = .ok (.invokestatic 199, 3) := by decide +kernel
theorem dX11_quest_21 : decode cX11_quest 21 = .ok (.iconst 2, 1) := by decide +kernel
theorem dX11_quest_22 : decode cX11_quest 22 = .ok (.invokevirtual 326, 3) := by decide +kernel
theorem dX11_quest_25 : decode cX11_quest 25 = .ok (.ifCond .eq 12, 3) := by decide +kernel
theorem dX11_quest_28 : decode cX11_quest 28 = .ok (.aload_n 0, 1) := by decide +kernel
theorem dX11_quest_29 : decode cX11_quest 29 = .ok (.iload_n 1, 1) := by decide +kernel
theorem dX11_quest_30 : decode cX11_quest 30 = .ok (.iload_n 2, 1) := by decide +kernel
theorem dX11_quest_31 : decode cX11_quest 31 = .ok (.invokevirtual 354, 3) := by decide +kernel
theorem dX11_quest_34 : decode cX11_quest 34 = .ok (.goto 4, 3) := by decide +kernel
theorem dX11_quest_37 : decode cX11_quest 37 = .ok (.iconst 0, 1) := by decide +kernel
theorem dX11_quest_38 : decode cX11_quest 38 = .ok (.ireturn, 1) := by decide +kernel
theorem dX11_step_0 : decode cX11_step 0 = .ok (.aload_n 0, 1) := by decide +kernel
theorem dX11_step_1 : decode cX11_step 1 = .ok (.iconst 0, 1) := by decide +kernel
theorem dX11_step_2 : decode cX11_step 2 = .ok (.putfield 47, 3) := by decide +kernel
theorem dX11_step_5 : decode cX11_step 5 = .ok (.aload_n 0, 1) := by decide +kernel
theorem dX11_step_6 : decode cX11_step 6 = .ok (.iload_n 1, 1) := by decide +kernel
theorem dX11_step_7 : decode cX11_step 7 = .ok (.iload_n 2, 1) := by decide +kernel
theorem dX11_step_8 : decode cX11_step 8 = .ok (.invokevirtual 357, 3) := by decide +kernel
theorem dX11_step_11 : decode cX11_step 11 = .ok (.ifCond .eq 27, 3) := by decide +kernel
theorem dX11_step_14 : decode cX11_step 14 = .ok (.aload_n 0, 1) := by decide +kernel
theorem dX11_step_15 : decode cX11_step 15 = .ok (.iload_n 3, 1) := by decide +kernel
theorem dX11_step_16 : decode cX11_step 16 = .ok (.iconst 0, 1) := by decide +kernel
theorem dX11_step_17 : decode cX11_step 17 = .ok (.iconst 5, 1) := by decide +kernel
theorem dX11_step_18 : decode cX11_step 18 = .ok (.invokestatic 199, 3) := by decide +kernel
theorem dX11_step_21 : decode cX11_step 21 = .ok (.iconst 2, 1) := by decide +kernel
theorem dX11_step_22 : decode cX11_step 22 = .ok (.invokevirtual 326, 3) := by decide +kernel
theorem dX11_step_25 : decode cX11_step 25 = .ok (.ifCond .eq 13, 3) := by decide +kernel
theorem dX11_step_28 : decode cX11_step 28 = .ok (.aload_n 0, 1) := by decide +kernel
theorem dX11_step_29 : decode cX11_step 29 = .ok (.iload_n 1, 1) := by decide +kernel
theorem dX11_step_30 : decode cX11_step 30 = .ok (.iload_n 2, 1) := by decide +kernel
theorem dX11_step_31 : decode cX11_step 31 = .ok (.iload_n 3, 1) := by decide +kernel
theorem dX11_step_32 : decode cX11_step 32 = .ok (.invokevirtual 360, 3) := by decide +kernel
theorem dX11_step_35 : decode cX11_step 35 = .ok (.goto 4, 3) := by decide +kernel
theorem dX11_step_38 : decode cX11_step 38 = .ok (.iconst 0, 1) := by decide +kernel
theorem dX11_step_39 : decode cX11_step 39 = .ok (.ireturn, 1) := by decide +kernel
theorem dX11_amount_0 : decode cX11_amount 0 = .ok (.aload_n 0, 1) := by decide +kernel
theorem dX11_amount_1 : decode cX11_amount 1 = .ok (.iconst 0, 1) := by decide +kernel
theorem dX11_amount_2 : decode cX11_amount 2 = .ok (.putfield 47, 3) := by decide +kernel
theorem dX11_amount_5 : decode cX11_amount 5 = .ok (.aload_n 0, 1) := by decide +kernel
theorem dX11_amount_6 : decode cX11_amount 6 = .ok (.iload_n 1, 1) := by decide +kernel
theorem dX11_amount_7 : decode cX11_amount 7 = .ok (.iload_n 2, 1) := by decide +kernel
theorem dX11_amount_8 : decode cX11_amount 8 = .ok (.invokevirtual 357, 3) := by decide +kernel
theorem dX11_amount_11 : decode cX11_amount 11 = .ok (.ifCond .eq 26, 3) := by decide +kernel
theorem dX11_amount_14 : decode cX11_amount 14 = .ok (.aload_n 0, 1) := by decide +kernel
theorem dX11_amount_15 : decode cX11_amount 15 = .ok (.iload_n 3, 1) := by decide +kernel
theorem dX11_amount_16 : decode cX11_amount 16 = .ok (.invokevirtual 345, 3) := by decide +kernel
theorem dX11_amount_19 : decode cX11_amount 19 = .ok (.ifCond .eq 18, 3) := by decide +kernel
theorem dX11_amount_22 : decode cX11_amount 22 = .ok (.aload_n 0, 1) := by decide +kernel
theorem dX11_amount_23 : decode cX11_amount 23 = .ok (.iload 4, 2) := by decide +kernel
theorem dX11_amount_25 : decode cX11_amount 25 = .ok (.iconst 0, 1) := by decide +kernel
theorem dX11_amount_26 : decode cX11_amount 26 = .ok (.iconst 2, 1) := by decide +kernel
theorem dX11_amount_27 : decode cX11_amount 27 = .ok (.invokestatic 199, 3) := by decide +kernel
theorem dX11_amount_30 : decode cX11_amount 30 = .ok (.iconst 2, 1) := by decide +kernel
theorem dX11_amount_31 : decode cX11_amount 31 = .ok (.invokevirtual 326, 3) := by decide +kernel
theorem dX11_amount_34 : decode cX11_amount 34 = .ok (.ifCond .ne 5, 3) := by decide +kernel
theorem dX11_amount_37 : decode cX11_amount 37 = .ok (.iconst 0, 1) := by decide +kernel
theorem dX11_amount_38 : decode cX11_amount 38 = .ok (.ireturn, 1) := by decide +kernel
theorem dX11_amount_39 : decode cX11_amount 39 = .ok (.aload_n 0, 1) := by decide +kernel
theorem dX11_amount_40 : decode cX11_amount 40 = .ok (.iload_n 1, 1) := by decide +kernel
theorem dX11_amount_41 : decode cX11_amount 41 = .ok (.iload_n 2, 1) := by decide +kernel
theorem dX11_amount_42 : decode cX11_amount 42 = .ok (.iload 4, 2) := by decide +kernel
theorem dX11_amount_44 : decode cX11_amount 44 = .ok (.ifCond .ne 8, 3) := by decide +kernel
theorem dX11_amount_47 : decode cX11_amount 47 = .ok (.bipush 6, 2) := by decide +kernel
theorem dX11_amount_49 : decode cX11_amount 49 = .ok (.goto 16, 3) := by decide +kernel
theorem dX11_amount_52 : decode cX11_amount 52 = .ok (.iload 4, 2) := by decide +kernel
theorem dX11_amount_54 : decode cX11_amount 54 = .ok (.iconst 1, 1) := by decide +kernel
theorem dX11_amount_55 : decode cX11_amount 55 = .ok (.if_icmp .ne 8, 3) := by decide +kernel
theorem dX11_amount_58 : decode cX11_amount 58 = .ok (.bipush 14, 2) := by decide +kernel
theorem dX11_amount_60 : decode cX11_amount 60 = .ok (.goto 5, 3) := by decide +kernel
theorem dX11_amount_63 : decode cX11_amount 63 = .ok (.bipush 22, 2) := by decide +kernel
theorem dX11_amount_65 : decode cX11_amount 65 = .ok (.iload_n 3, 1) := by decide +kernel
theorem dX11_amount_66 : decode cX11_amount 66 = .ok (.iadd, 1) := by decide +kernel
theorem dX11_amount_67 : decode cX11_amount 67 = .ok (.invokevirtual 71, 3) := by decide +kernel
theorem dX11_amount_70 : decode cX11_amount 70 = .ok (.ireturn, 1) := by decide +kernel
theorem dX11_why_0 : decode cX11_why 0 = .ok (.aload_n 0, 1) := by decide +kernel
theorem dX11_why_1 : decode cX11_why 1 = .ok (.iconst 0, 1) := by decide +kernel
theorem dX11_why_2 : decode cX11_why 2 = .ok (.putfield 47, 3) := by decide +kernel
theorem dX11_why_5 : decode cX11_why 5 = .ok (.aload_n 0, 1) := by decide +kernel
theorem dX11_why_6 : decode cX11_why 6 = .ok (.iload_n 1, 1) := by decide +kernel
theorem dX11_why_7 : decode cX11_why 7 = .ok (.iload_n 2, 1) := by decide +kernel
theorem dX11_why_8 : decode cX11_why 8 = .ok (.invokevirtual 357, 3) := by decide +kernel
theorem dX11_why_11 : decode cX11_why 11 = .ok (.ifCond .ne 5, 3) := by decide +kernel
theorem dX11_why_14 : decode cX11_why 14 = .ok (.iconst 0, 1) := by decide +kernel
theorem dX11_why_15 : decode cX11_why 15 = .ok (.ireturn, 1) := by decide +kernel
theorem dX11_why_16 : decode cX11_why 16 = .ok (.aload_n 0, 1) := by decide +kernel
theorem dX11_why_17 : decode cX11_why 17 = .ok (.iload_n 1, 1) := by decide +kernel
theorem dX11_why_18 : decode cX11_why 18 = .ok (.invokevirtual 108, 3) := by decide +kernel
theorem dX11_why_21 : decode cX11_why 21 = .ok (.ifCond .ne 5, 3) := by decide +kernel
theorem dX11_why_24 : decode cX11_why 24 = .ok (.iconst 1, 1) := by decide +kernel
theorem dX11_why_25 : decode cX11_why 25 = .ok (.ireturn, 1) := by decide +kernel
theorem dX11_why_26 : decode cX11_why 26 = .ok (.aload_n 0, 1) := by decide +kernel
theorem dX11_why_27 : decode cX11_why 27 = .ok (.iload_n 1, 1) := by decide +kernel
theorem dX11_why_28 : decode cX11_why 28 = .ok (.iload_n 2, 1) := by decide +kernel
theorem dX11_why_29 : decode cX11_why 29 = .ok (.iconst 3, 1) := by decide +kernel
theorem dX11_why_30 : decode cX11_why 30 = .ok (.invokevirtual 71, 3) := by decide +kernel
theorem dX11_why_33 : decode cX11_why 33 = .ok (.iconst 1, 1) := by decide +kernel
theorem dX11_why_34 : decode cX11_why 34 = .ok (.if_icmp .ne 5, 3) := by decide +kernel
theorem dX11_why_37 : decode cX11_why 37 = .ok (.iconst 2, 1) := by decide +kernel
theorem dX11_why_38 : decode cX11_why 38 = .ok (.ireturn, 1) := by decide +kernel
theorem dX11_why_39 : decode cX11_why 39 = .ok (.aload_n 0, 1) := by decide +kernel
theorem dX11_why_40 : decode cX11_why 40 = .ok (.iload_n 1, 1) := by decide +kernel
theorem dX11_why_41 : decode cX11_why 41 = .ok (.iload_n 2, 1) := by decide +kernel
theorem dX11_why_42 : decode cX11_why 42 = .ok (.invokevirtual 78, 3) := by decide +kernel
theorem dX11_why_45 : decode cX11_why 45 = .ok (.ifCond .eq 5, 3) := by decide +kernel
theorem dX11_why_48 : decode cX11_why 48 = .ok (.iconst 3, 1) := by decide +kernel
theorem dX11_why_49 : decode cX11_why 49 = .ok (.ireturn, 1) := by decide +kernel
theorem dX11_why_50 : decode cX11_why 50 = .ok (.aload_n 0, 1) := by decide +kernel
theorem dX11_why_51 : decode cX11_why 51 = .ok (.iload_n 1, 1) := by decide +kernel
theorem dX11_why_52 : decode cX11_why 52 = .ok (.iload_n 2, 1) := by decide +kernel
theorem dX11_why_53 : decode cX11_why 53 = .ok (.iconst 4, 1) := by decide +kernel
theorem dX11_why_54 : decode cX11_why 54 = .ok (.invokevirtual 71, 3) := by decide +kernel
theorem dX11_why_57 : decode cX11_why 57 = .ok (.aload_n 0, 1) := by decide +kernel
theorem dX11_why_58 : decode cX11_why 58 = .ok (.iload_n 1, 1) := by decide +kernel
theorem dX11_why_59 : decode cX11_why 59 = .ok (.invokevirtual 89, 3) := by decide +kernel
theorem dX11_why_62 : decode cX11_why 62 = .ok (.iconst (-1), 1) := by decide +kernel
theorem dX11_why_63 : decode cX11_why 63 = .ok (.ixor, 1) := by decide +kernel
theorem dX11_why_64 : decode cX11_why 64 = .ok (.iand, 1) := by decide +kernel
theorem dX11_why_65 : decode cX11_why 65 = .ok (.ifCond .eq 5, 3) := by decide +kernel
theorem dX11_why_68 : decode cX11_why 68 = .ok (.iconst 4, 1) := by decide +kernel
theorem dX11_why_69 : decode cX11_why 69 = .ok (.ireturn, 1) := by decide +kernel
theorem dX11_why_70 : decode cX11_why 70 = .ok (.aload_n 0, 1) := by decide +kernel
theorem dX11_why_71 : decode cX11_why 71 = .ok (.invokevirtual 112, 3) := by decide +kernel
theorem dX11_why_74 : decode cX11_why 74 = .ok (.aload_n 0, 1) := by decide +kernel
theorem dX11_why_75 : decode cX11_why 75 = .ok (.iload_n 1, 1) := by decide +kernel
theorem dX11_why_76 : decode cX11_why 76 = .ok (.iload_n 2, 1) := by decide +kernel
theorem dX11_why_77 : decode cX11_why 77 = .ok (.iconst 0, 1) := by decide +kernel
theorem dX11_why_78 : decode cX11_why 78 = .ok (.invokevirtual 85, 3) := by decide +kernel
theorem dX11_why_81 : decode cX11_why 81 = .ok (.ifCond .eq 7, 3) := by decide +kernel
theorem dX11_why_84 : decode cX11_why 84 = .ok (.iconst 0, 1) := by decide +kernel
theorem dX11_why_85 : decode cX11_why 85 = .ok (.goto 4, 3) := by decide +kernel
theorem dX11_why_88 : decode cX11_why 88 = .ok (.iconst 5, 1) := by decide +kernel
theorem dX11_why_89 : decode cX11_why 89 = .ok (.ireturn, 1) := by decide +kernel
theorem dX11_holds_0 : decode cX11_holds 0 = .ok (.aload_n 0, 1) := by decide +kernel
theorem dX11_holds_1 : decode cX11_holds 1 = .ok (.iconst 0, 1) := by decide +kernel
theorem dX11_holds_2 : decode cX11_holds 2 = .ok (.putfield 47, 3) := by decide +kernel
theorem dX11_holds_5 : decode cX11_holds 5 = .ok (.aload_n 0, 1) := by decide +kernel
theorem dX11_holds_6 : decode cX11_holds 6 = .ok (.iload_n 1, 1) := by decide +kernel
theorem dX11_holds_7 : decode cX11_holds 7 = .ok (.invokevirtual 342, 3) := by decide +kernel
theorem dX11_holds_10 : decode cX11_holds 10 = .ok (.ifCond .eq 31, 3) := by decide +kernel
theorem dX11_holds_13 : decode cX11_holds 13 = .ok (.aload_n 0, 1) := by decide +kernel
theorem dX11_holds_14 : decode cX11_holds 14 = .ok (.iload_n 2, 1) := by decide +kernel
theorem dX11_holds_15 : decode cX11_holds 15 = .ok (.iconst 0, 1) := by decide +kernel
theorem dX11_holds_16 : decode cX11_holds 16 = .ok (.bipush 63, 2) := by decide +kernel
theorem dX11_holds_18 : decode cX11_holds 18 = .ok (.invokestatic 199, 3) := by decide +kernel
theorem dX11_holds_21 : decode cX11_holds 21 = .ok (.iconst 2, 1) := by decide +kernel
theorem dX11_holds_22 : decode cX11_holds 22 = .ok (.invokevirtual 326, 3) := by decide +kernel
theorem dX11_holds_25 : decode cX11_holds 25 = .ok (.ifCond .eq 16, 3) := by decide +kernel
theorem dX11_holds_28 : decode cX11_holds 28 = .ok (.aload_n 0, 1) := by decide +kernel
theorem dX11_holds_29 : decode cX11_holds 29 = .ok (.iload_n 1, 1) := by decide +kernel
theorem dX11_holds_30 : decode cX11_holds 30 = .ok (.iload_n 2, 1) := by decide +kernel
theorem dX11_holds_31 : decode cX11_holds 31 = .ok (.invokevirtual 96, 3) := by decide +kernel
theorem dX11_holds_34 : decode cX11_holds 34 = .ok (.ifCond .eq 7, 3) := by decide +kernel
theorem dX11_holds_37 : decode cX11_holds 37 = .ok (.iconst 1, 1) := by decide +kernel
theorem dX11_holds_38 : decode cX11_holds 38 = .ok (.goto 4, 3) := by decide +kernel
theorem dX11_holds_41 : decode cX11_holds 41 = .ok (.iconst 0, 1) := by decide +kernel
theorem dX11_holds_42 : decode cX11_holds 42 = .ok (.ireturn, 1) := by decide +kernel
theorem dX11_possible_0 : decode cX11_possible 0 = .ok (.aload_n 0, 1) := by decide +kernel
theorem dX11_possible_1 : decode cX11_possible 1 = .ok (.iconst 0, 1) := by decide +kernel
theorem dX11_possible_2 : decode cX11_possible 2 = .ok (.putfield 47, 3) := by decide +kernel
theorem dX11_possible_5 : decode cX11_possible 5 = .ok (.aload_n 0, 1) := by decide +kernel
theorem dX11_possible_6 : decode cX11_possible 6 = .ok (.iload_n 1, 1) := by decide +kernel
theorem dX11_possible_7 : decode cX11_possible 7 = .ok (.invokevirtual 342, 3) := by decide +kernel
theorem dX11_possible_10 : decode cX11_possible 10 = .ok (.ifCond .eq 15, 3) := by decide +kernel
theorem dX11_possible_13 : decode cX11_possible 13 = .ok (.aload_n 0, 1) := by decide +kernel
theorem dX11_possible_14 : decode cX11_possible 14 = .ok (.iload_n 1, 1) := by decide +kernel
theorem dX11_possible_15 : decode cX11_possible 15 = .ok (.invokevirtual 121, 3) := by decide +kernel
theorem dX11_possible_18 : decode cX11_possible 18 = .ok (.ifCond .eq 7, 3) := by decide +kernel
theorem dX11_possible_21 : decode cX11_possible 21 = .ok (.iconst 1, 1) := by decide +kernel
theorem dX11_possible_22 : decode cX11_possible 22 = .ok (.goto 4, 3) := by decide +kernel
theorem dX11_possible_25 : decode cX11_possible 25 = .ok (.iconst 0, 1) := by decide +kernel
theorem dX11_possible_26 : decode cX11_possible 26 = .ok (.ireturn, 1) := by decide +kernel
theorem dX11_planLength_0 : decode cX11_planLength 0 = .ok (.aload_n 0, 1) := by decide +kernel
theorem dX11_planLength_1 : decode cX11_planLength 1 = .ok (.iconst 0, 1) := by decide +kernel
theorem dX11_planLength_2 : decode cX11_planLength 2 = .ok (.putfield 47, 3) := by decide +kernel
theorem dX11_planLength_5 : decode cX11_planLength 5 = .ok (.aload_n 0, 1) := by decide +kernel
theorem dX11_planLength_6 : decode cX11_planLength 6 = .ok (.iload_n 1, 1) := by decide +kernel
theorem dX11_planLength_7 : decode cX11_planLength 7 = .ok (.invokevirtual 342, 3) := by decide +kernel
theorem dX11_planLength_10 : decode cX11_planLength 10 = .ok (.ifCond .ne 5, 3) := by decide +kernel
theorem dX11_planLength_13 : decode cX11_planLength 13 = .ok (.iconst 0, 1) := by decide +kernel
theorem dX11_planLength_14 : decode cX11_planLength 14 = .ok (.ireturn, 1) := by decide +kernel
theorem dX11_planLength_15 : decode cX11_planLength 15 = .ok (.aload_n 0, 1) := by decide +kernel
theorem dX11_planLength_16 : decode cX11_planLength 16 = .ok (.iload_n 1, 1) := by decide +kernel
theorem dX11_planLength_17 : decode cX11_planLength 17 = .ok (.invokevirtual 121, 3) := by decide +kernel
theorem dX11_planLength_20 : decode cX11_planLength 20 = .ok (.ifCond .eq 15, 3) := by decide +kernel
theorem dX11_planLength_23 : decode cX11_planLength 23 = .ok (.aload_n 0, 1) := by decide +kernel
theorem dX11_planLength_24 : decode cX11_planLength 24 = .ok (.getfield 23, 3) := by decide +kernel
theorem dX11_planLength_27 : decode cX11_planLength 27 = .ok (.aload_n 0, 1) := by decide +kernel
theorem dX11_planLength_28 : decode cX11_planLength 28 = .ok (.getfield 92, 3) := by decide +kernel
theorem dX11_planLength_31 : decode cX11_planLength 31 = .ok (.iaload, 1) := by decide +kernel
theorem dX11_planLength_32 : decode cX11_planLength 32 = .ok (.goto 4, 3) := by decide +kernel
theorem dX11_planLength_35 : decode cX11_planLength 35 = .ok (.iconst (-1), 1) := by decide +kernel
theorem dX11_planLength_36 : decode cX11_planLength 36 = .ok (.ireturn, 1) := by decide +kernel
theorem dX11_planStep_0 : decode cX11_planStep 0 = .ok (.aload_n 0, 1) := by decide +kernel
theorem dX11_planStep_1 : decode cX11_planStep 1 = .ok (.iconst 0, 1) := by decide +kernel
theorem dX11_planStep_2 : decode cX11_planStep 2 = .ok (.putfield 47, 3) := by decide +kernel
theorem dX11_planStep_5 : decode cX11_planStep 5 = .ok (.aload_n 0, 1) := by decide +kernel
theorem dX11_planStep_6 : decode cX11_planStep 6 = .ok (.iload_n 1, 1) := by decide +kernel
theorem dX11_planStep_7 : decode cX11_planStep 7 = .ok (.invokevirtual 342, 3) := by decide +kernel
theorem dX11_planStep_10 : decode cX11_planStep 10 = .ok (.ifCond .ne 5, 3) := by decide +kernel
theorem dX11_planStep_13 : decode cX11_planStep 13 = .ok (.iconst 0, 1) := by decide +kernel
theorem dX11_planStep_14 : decode cX11_planStep 14 = .ok (.ireturn, 1) := by decide +kernel
theorem dX11_planStep_15 : decode cX11_planStep 15 = .ok (.aload_n 0, 1) := by decide +kernel
theorem dX11_planStep_16 : decode cX11_planStep 16 = .ok (.iload_n 1, 1) := by decide +kernel
theorem dX11_planStep_17 : decode cX11_planStep 17 = .ok (.invokevirtual 141, 3) := by decide +kernel
theorem dX11_planStep_20 : decode cX11_planStep 20 = .ok (.istore_n 3, 1) := by decide +kernel
theorem dX11_planStep_21 : decode cX11_planStep 21 = .ok (.aload_n 0, 1) := by decide +kernel
theorem dX11_planStep_22 : decode cX11_planStep 22 = .ok (.iload_n 3, 1) := by decide +kernel
theorem dX11_planStep_23 : decode cX11_planStep 23 = .ok (.ifCond .eq 21, 3) := by decide +kernel
theorem dX11_planStep_26 : decode cX11_planStep 26 = .ok (.iload_n 2, 1) := by decide +kernel
theorem dX11_planStep_27 : decode cX11_planStep 27 = .ok (.iconst 0, 1) := by decide +kernel
theorem dX11_planStep_28 : decode cX11_planStep 28 = .ok (.aload_n 0, 1) := by decide +kernel
theorem dX11_planStep_29 : decode cX11_planStep 29 = .ok (.getfield 118, 3) := by decide +kernel
theorem dX11_planStep_32 : decode cX11_planStep 32 = .ok (.iconst 1, 1) := by decide +kernel
theorem dX11_planStep_33 : decode cX11_planStep 33 = .ok (.isub, 1) := by decide +kernel
theorem dX11_planStep_34 : decode cX11_planStep 34 = .ok (.invokestatic 199, 3) := by decide +kernel
theorem dX11_planStep_37 : decode cX11_planStep 37 = .ok (.ifCond .eq 7, 3) := by decide +kernel
theorem dX11_planStep_40 : decode cX11_planStep 40 = .ok (.iconst 1, 1) := by decide +kernel
theorem dX11_planStep_41 : decode cX11_planStep 41 = .ok (.goto 4, 3) := by decide +kernel
theorem dX11_planStep_44 : decode cX11_planStep 44 = .ok (.iconst 0, 1) := by decide +kernel
theorem dX11_planStep_45 : decode cX11_planStep 45 = .ok (.iconst 2, 1) := by decide +kernel
theorem dX11_planStep_46 : decode cX11_planStep 46 = .ok (.invokevirtual 326, 3) := by decide +kernel
theorem dX11_planStep_49 : decode cX11_planStep 49 = .ok (.ifCond .eq 12, 3) := by decide +kernel
theorem dX11_planStep_52 : decode cX11_planStep 52 = .ok (.aload_n 0, 1) := by decide +kernel
theorem dX11_planStep_53 : decode cX11_planStep 53 = .ok (.getfield 29, 3) := by decide +kernel
theorem dX11_planStep_56 : decode cX11_planStep 56 = .ok (.iload_n 2, 1) := by decide +kernel
theorem dX11_planStep_57 : decode cX11_planStep 57 = .ok (.iaload, 1) := by decide +kernel
theorem dX11_planStep_58 : decode cX11_planStep 58 = .ok (.goto 4, 3) := by decide +kernel
theorem dX11_planStep_61 : decode cX11_planStep 61 = .ok (.iconst 0, 1) := by decide +kernel
theorem dX11_planStep_62 : decode cX11_planStep 62 = .ok (.ireturn, 1) := by decide +kernel
theorem dX11_safest_0 : decode cX11_safest 0 = .ok (.aload_n 0, 1) := by decide +kernel
theorem dX11_safest_1 : decode cX11_safest 1 = .ok (.iconst 0, 1) := by decide +kernel
theorem dX11_safest_2 : decode cX11_safest 2 = .ok (.putfield 47, 3) := by decide +kernel
theorem dX11_safest_5 : decode cX11_safest 5 = .ok (.aload_n 0, 1) := by decide +kernel
theorem dX11_safest_6 : decode cX11_safest 6 = .ok (.iload_n 1, 1) := by decide +kernel
theorem dX11_safest_7 : decode cX11_safest 7 = .ok (.invokevirtual 342, 3) := by decide +kernel
theorem dX11_safest_10 : decode cX11_safest 10 = .ok (.ifCond .ne 5, 3) := by decide +kernel
theorem dX11_safest_13 : decode cX11_safest 13 = .ok (.iconst 0, 1) := by decide +kernel
theorem dX11_safest_14 : decode cX11_safest 14 = .ok (.ireturn, 1) := by decide +kernel
theorem dX11_safest_15 : decode cX11_safest 15 = .ok (.aload_n 0, 1) := by decide +kernel
theorem dX11_safest_16 : decode cX11_safest 16 = .ok (.iload_n 1, 1) := by decide +kernel
theorem dX11_safest_17 : decode cX11_safest 17 = .ok (.invokevirtual 121, 3) := by decide +kernel
theorem dX11_safest_20 : decode cX11_safest 20 = .ok (.ifCond .eq 15, 3) := by decide +kernel
theorem dX11_safest_23 : decode cX11_safest 23 = .ok (.aload_n 0, 1) := by decide +kernel
theorem dX11_safest_24 : decode cX11_safest 24 = .ok (.getfield 26, 3) := by decide +kernel
theorem dX11_safest_27 : decode cX11_safest 27 = .ok (.aload_n 0, 1) := by decide +kernel
theorem dX11_safest_28 : decode cX11_safest 28 = .ok (.getfield 92, 3) := by decide +kernel
theorem dX11_safest_31 : decode cX11_safest 31 = .ok (.iaload, 1) := by decide +kernel
theorem dX11_safest_32 : decode cX11_safest 32 = .ok (.goto 4, 3) := by decide +kernel
theorem dX11_safest_35 : decode cX11_safest 35 = .ok (.iconst (-1), 1) := by decide +kernel
theorem dX11_safest_36 : decode cX11_safest 36 = .ok (.ireturn, 1) := by decide +kernel
theorem dX11_endings_0 : decode cX11_endings 0 = .ok (.aload_n 0, 1) := by decide +kernel
theorem dX11_endings_1 : decode cX11_endings 1 = .ok (.iconst 0, 1) := by decide +kernel
theorem dX11_endings_2 : decode cX11_endings 2 = .ok (.putfield 47, 3) := by decide +kernel
theorem dX11_endings_5 : decode cX11_endings 5 = .ok (.aload_n 0, 1) := by decide +kernel
theorem dX11_endings_6 : decode cX11_endings 6 = .ok (.iload_n 1, 1) := by decide +kernel
theorem dX11_endings_7 : decode cX11_endings 7 = .ok (.invokevirtual 342, 3) := by decide +kernel
theorem dX11_endings_10 : decode cX11_endings 10 = .ok (.ifCond .eq 11, 3) := by decide +kernel
theorem dX11_endings_13 : decode cX11_endings 13 = .ok (.aload_n 0, 1) := by decide +kernel
theorem dX11_endings_14 : decode cX11_endings 14 = .ok (.iload_n 1, 1) := by decide +kernel
theorem dX11_endings_15 : decode cX11_endings 15 = .ok (.invokevirtual 121, 3) := by decide +kernel
theorem dX11_endings_18 : decode cX11_endings 18 = .ok (.ifCond .ne 5, 3) := by decide +kernel
theorem dX11_endings_21 : decode cX11_endings 21 = .ok (.iconst 0, 1) := by decide +kernel
theorem dX11_endings_22 : decode cX11_endings 22 = .ok (.ireturn, 1) := by decide +kernel
theorem dX11_endings_23 : decode cX11_endings 23 = .ok (.iconst 0, 1) := by decide +kernel
theorem dX11_endings_24 : decode cX11_endings 24 = .ok (.istore_n 2, 1) := by decide +kernel
theorem dX11_endings_25 : decode cX11_endings 25 = .ok (.iload_n 2, 1) := by decide +kernel
theorem dX11_endings_26 : decode cX11_endings 26 = .ok (.bipush 64, 2) := by decide +kernel
theorem dX11_endings_28 : decode cX11_endings 28 = .ok (.if_icmp .ge 28, 3) := by decide +kernel
theorem dX11_endings_31 : decode cX11_endings 31 = .ok (.aload_n 0, 1) := by decide +kernel
theorem dX11_endings_32 : decode cX11_endings 32 = .ok (.getfield 43, 3) := by decide +kernel
theorem dX11_endings_35 : decode cX11_endings 35 = .ok (.iload_n 2, 1) := by decide +kernel
theorem dX11_endings_36 : decode cX11_endings 36 = .ok (.iload_n 2, 1) := by decide +kernel
theorem dX11_endings_37 : decode cX11_endings 37 = .ok (.aload_n 0, 1) := by decide +kernel
theorem dX11_endings_38 : decode cX11_endings 38 = .ok (.getfield 92, 3) := by decide +kernel
theorem dX11_endings_41 : decode cX11_endings 41 = .ok (.if_icmp .ne 7, 3) := by decide +kernel
theorem dX11_endings_44 : decode cX11_endings 44 = .ok (.iconst 1, 1) := by decide +kernel
theorem dX11_endings_45 : decode cX11_endings 45 = .ok (.goto 4, 3) := by decide +kernel
theorem dX11_endings_48 : decode cX11_endings 48 = .ok (.iconst 0, 1) := by decide +kernel
theorem dX11_endings_49 : decode cX11_endings 49 = .ok (.bastore, 1) := by decide +kernel
theorem dX11_endings_50 : decode cX11_endings 50 = .ok (.iinc 2 1, 3) := by decide +kernel
theorem dX11_endings_53 : decode cX11_endings 53 = .ok (.goto (-28), 3) := by decide +kernel
theorem dX11_endings_56 : decode cX11_endings 56 = .ok (.iconst 0, 1) := by decide +kernel
theorem dX11_endings_57 : decode cX11_endings 57 = .ok (.istore_n 2, 1) := by decide +kernel
theorem dX11_endings_58 : decode cX11_endings 58 = .ok (.iconst 0, 1) := by decide +kernel
theorem dX11_endings_59 : decode cX11_endings 59 = .ok (.istore_n 3, 1) := by decide +kernel
theorem dX11_endings_60 : decode cX11_endings 60 = .ok (.iload_n 3, 1) := by decide +kernel
theorem dX11_endings_61 : decode cX11_endings 61 = .ok (.iconst 1, 1) := by decide +kernel
theorem dX11_endings_62 : decode cX11_endings 62 = .ok (.aload_n 0, 1) := by decide +kernel
theorem dX11_endings_63 : decode cX11_endings 63 = .ok (.iload_n 1, 1) := by decide +kernel
theorem dX11_endings_64 : decode cX11_endings 64 = .ok (.invokevirtual 75, 3) := by decide +kernel
theorem dX11_endings_67 : decode cX11_endings 67 = .ok (.ishl, 1) := by decide +kernel
theorem dX11_endings_68 : decode cX11_endings 68 = .ok (.if_icmp .ge 82, 3) := by decide +kernel
theorem dX11_endings_71 : decode cX11_endings 71 = .ok (.aload_n 0, 1) := by decide +kernel
theorem dX11_endings_72 : decode cX11_endings 72 = .ok (.getfield 43, 3) := by decide +kernel
theorem dX11_endings_75 : decode cX11_endings 75 = .ok (.iload_n 3, 1) := by decide +kernel
theorem dX11_endings_76 : decode cX11_endings 76 = .ok (.baload, 1) := by decide +kernel
theorem dX11_endings_77 : decode cX11_endings 77 = .ok (.ifCond .ne 6, 3) := by decide +kernel
theorem dX11_endings_80 : decode cX11_endings 80 = .ok (.goto 64, 3) := by decide +kernel
theorem dX11_endings_83 : decode cX11_endings 83 = .ok (.aload_n 0, 1) := by decide +kernel
theorem dX11_endings_84 : decode cX11_endings 84 = .ok (.iload_n 1, 1) := by decide +kernel
theorem dX11_endings_85 : decode cX11_endings 85 = .ok (.iload_n 3, 1) := by decide +kernel
theorem dX11_endings_86 : decode cX11_endings 86 = .ok (.invokevirtual 96, 3) := by decide +kernel
theorem dX11_endings_89 : decode cX11_endings 89 = .ok (.ifCond .eq 9, 3) := by decide +kernel
theorem dX11_endings_92 : decode cX11_endings 92 = .ok (.iinc 2 1, 3) := by decide +kernel
theorem dX11_endings_95 : decode cX11_endings 95 = .ok (.goto 49, 3) := by decide +kernel
theorem dX11_endings_98 : decode cX11_endings 98 = .ok (.iconst 0, 1) := by decide +kernel
theorem dX11_endings_99 : decode cX11_endings 99 = .ok (.istore 4, 2) := by decide +kernel
theorem dX11_endings_101 : decode cX11_endings 101 = .ok (.iload 4, 2) := by decide +kernel
theorem dX11_endings_103 : decode cX11_endings 103 = .ok (.aload_n 0, 1) := by decide +kernel
theorem dX11_endings_104 : decode cX11_endings 104 = .ok (.iload_n 1, 1) := by decide +kernel
theorem dX11_endings_105 : decode cX11_endings 105 = .ok (.invokevirtual 75, 3) := by decide +kernel
theorem dX11_endings_108 : decode cX11_endings 108 = .ok (.if_icmp .ge 36, 3) := by decide +kernel
theorem dX11_endings_111 : decode cX11_endings 111 = .ok (.aload_n 0, 1) := by decide +kernel
theorem dX11_endings_112 : decode cX11_endings 112 = .ok (.iload_n 1, 1) := by decide +kernel
theorem dX11_endings_113 : decode cX11_endings 113 = .ok (.iload 4, 2) := by decide +kernel
theorem dX11_endings_115 : decode cX11_endings 115 = .ok (.iload_n 3, 1) := by decide +kernel
theorem dX11_endings_116 : decode cX11_endings 116 = .ok (.aload_n 0, 1) := by decide +kernel
theorem dX11_endings_117 : decode cX11_endings 117 = .ok (.getfield 92, 3) := by decide +kernel
theorem dX11_endings_120 : decode cX11_endings 120 = .ok (.invokevirtual 99, 3) := by decide +kernel
theorem dX11_endings_123 : decode cX11_endings 123 = .ok (.ifCond .eq 15, 3) := by decide +kernel
theorem dX11_endings_126 : decode cX11_endings 126 = .ok (.aload_n 0, 1) := by decide +kernel
theorem dX11_endings_127 : decode cX11_endings 127 = .ok (.getfield 43, 3) := by decide +kernel
theorem dX11_endings_130 : decode cX11_endings 130 = .ok (.iload_n 3, 1) := by decide +kernel
theorem dX11_endings_131 : decode cX11_endings 131 = .ok (.iconst 1, 1) := by decide +kernel
theorem dX11_endings_132 : decode cX11_endings 132 = .ok (.iload 4, 2) := by decide +kernel
theorem dX11_endings_134 : decode cX11_endings 134 = .ok (.ishl, 1) := by decide +kernel
theorem dX11_endings_135 : decode cX11_endings 135 = .ok (.ior, 1) := by decide +kernel
theorem dX11_endings_136 : decode cX11_endings 136 = .ok (.iconst 1, 1) := by decide +kernel
theorem dX11_endings_137 : decode cX11_endings 137 = .ok (.bastore, 1) := by decide +kernel
theorem dX11_endings_138 : decode cX11_endings 138 = .ok (.iinc 4 1, 3) := by decide +kernel
theorem dX11_endings_141 : decode cX11_endings 141 = .ok (.goto (-40), 3) := by decide +kernel
theorem dX11_endings_144 : decode cX11_endings 144 = .ok (.iinc 3 1, 3) := by decide +kernel
theorem dX11_endings_147 : decode cX11_endings 147 = .ok (.goto (-87), 3) := by decide +kernel
theorem dX11_endings_150 : decode cX11_endings 150 = .ok (.iload_n 2, 1) := by decide +kernel
theorem dX11_endings_151 : decode cX11_endings 151 = .ok (.ireturn, 1) := by decide +kernel
theorem dX11_lacking_0 : decode cX11_lacking 0 = .ok (.aload_n 0, 1) := by decide +kernel
theorem dX11_lacking_1 : decode cX11_lacking 1 = .ok (.iconst 0, 1) := by decide +kernel
theorem dX11_lacking_2 : decode cX11_lacking 2 = .ok (.putfield 47, 3) := by decide +kernel
theorem dX11_lacking_5 : decode cX11_lacking 5 = .ok (.aload_n 0, 1) := by decide +kernel
theorem dX11_lacking_6 : decode cX11_lacking 6 = .ok (.iload_n 1, 1) := by decide +kernel
theorem dX11_lacking_7 : decode cX11_lacking 7 = .ok (.invokevirtual 342, 3) := by decide +kernel
theorem dX11_lacking_10 : decode cX11_lacking 10 = .ok (.ifCond .eq 11, 3) := by decide +kernel
theorem dX11_lacking_13 : decode cX11_lacking 13 = .ok (.aload_n 0, 1) := by decide +kernel
theorem dX11_lacking_14 : decode cX11_lacking 14 = .ok (.iload_n 2, 1) := by decide +kernel
theorem dX11_lacking_15 : decode cX11_lacking 15 = .ok (.invokevirtual 345, 3) := by decide +kernel
theorem dX11_lacking_18 : decode cX11_lacking 18 = .ok (.ifCond .ne 5, 3) := by decide +kernel
theorem dX11_lacking_21 : decode cX11_lacking 21 = .ok (.iconst 0, 1) := by decide +kernel
theorem dX11_lacking_22 : decode cX11_lacking 22 = .ok (.ireturn, 1) := by decide +kernel
theorem dX11_lacking_23 : decode cX11_lacking 23 = .ok (.iconst 0, 1) := by decide +kernel
theorem dX11_lacking_24 : decode cX11_lacking 24 = .ok (.istore_n 3, 1) := by decide +kernel
theorem dX11_lacking_25 : decode cX11_lacking 25 = .ok (.iload_n 3, 1) := by decide +kernel
theorem dX11_lacking_26 : decode cX11_lacking 26 = .ok (.bipush 99, 2) := by decide +kernel
theorem dX11_lacking_28 : decode cX11_lacking 28 = .ok (.if_icmp .gt 33, 3) := by decide +kernel
theorem dX11_lacking_31 : decode cX11_lacking 31 = .ok (.aload_n 0, 1) := by decide +kernel
theorem dX11_lacking_32 : decode cX11_lacking 32 = .ok (.invokevirtual 112, 3) := by decide +kernel
theorem dX11_lacking_35 : decode cX11_lacking 35 = .ok (.aload_n 0, 1) := by decide +kernel
theorem dX11_lacking_36 : decode cX11_lacking 36 = .ok (.getfield 20, 3) := by decide +kernel
theorem dX11_lacking_39 : decode cX11_lacking 39 = .ok (.iload_n 2, 1) := by decide +kernel
theorem dX11_lacking_40 : decode cX11_lacking 40 = .ok (.dup2, 1) := by decide +kernel
theorem dX11_lacking_41 : decode cX11_lacking 41 = .ok (.iaload, 1) := by decide +kernel
theorem dX11_lacking_42 : decode cX11_lacking 42 = .ok (.iload_n 3, 1) := by decide +kernel
theorem dX11_lacking_43 : decode cX11_lacking 43 = .ok (.iadd, 1) := by decide +kernel
theorem dX11_lacking_44 : decode cX11_lacking 44 = .ok (.iastore, 1) := by decide +kernel
theorem dX11_lacking_45 : decode cX11_lacking 45 = .ok (.aload_n 0, 1) := by decide +kernel
theorem dX11_lacking_46 : decode cX11_lacking 46 = .ok (.iload_n 1, 1) := by decide +kernel
theorem dX11_lacking_47 : decode cX11_lacking 47 = .ok (.invokevirtual 115, 3) := by decide +kernel
theorem dX11_lacking_50 : decode cX11_lacking 50 = .ok (.ifCond .eq 5, 3) := by decide +kernel
theorem dX11_lacking_53 : decode cX11_lacking 53 = .ok (.iload_n 3, 1) := by decide +kernel
theorem dX11_lacking_54 : decode cX11_lacking 54 = .ok (.ireturn, 1) := by decide +kernel
theorem dX11_lacking_55 : decode cX11_lacking 55 = .ok (.iinc 3 1, 3) := by decide +kernel
theorem dX11_lacking_58 : decode cX11_lacking 58 = .ok (.goto (-33), 3) := by decide +kernel
theorem dX11_lacking_61 : decode cX11_lacking 61 = .ok (.iconst (-1), 1) := by decide +kernel
theorem dX11_lacking_62 : decode cX11_lacking 62 = .ok (.ireturn, 1) := by decide +kernel
theorem dX11_finishes_0 : decode cX11_finishes 0 = .ok (.aload_n 0, 1) := by decide +kernel
theorem dX11_finishes_1 : decode cX11_finishes 1 = .ok (.iload_n 1, 1) := by decide +kernel
theorem dX11_finishes_2 : decode cX11_finishes 2 = .ok (.invokevirtual 124, 3) := by decide +kernel
theorem dX11_finishes_5 : decode cX11_finishes 5 = .ok (.iconst 0, 1) := by decide +kernel
theorem dX11_finishes_6 : decode cX11_finishes 6 = .ok (.istore_n 2, 1) := by decide +kernel
theorem dX11_finishes_7 : decode cX11_finishes 7 = .ok (.iload_n 2, 1) := by decide +kernel
theorem dX11_finishes_8 : decode cX11_finishes 8 = .ok (.aload_n 0, 1) := by decide +kernel
theorem dX11_finishes_9 : decode cX11_finishes 9 = .ok (.getfield 118, 3) := by decide +kernel
theorem dX11_finishes_12 : decode cX11_finishes 12 = .ok (.if_icmp .ge 63, 3) := by decide +kernel
theorem dX11_finishes_15 : decode cX11_finishes 15 = .ok (.iconst 0, 1) := by decide +kernel
theorem dX11_finishes_16 : decode cX11_finishes 16 = .ok (.istore_n 3, 1) := by decide +kernel
theorem dX11_finishes_17 : decode cX11_finishes 17 = .ok (.iload_n 3, 1) := by decide +kernel
theorem dX11_finishes_18 : decode cX11_finishes 18 = .ok (.bipush 8, 2) := by decide +kernel
theorem dX11_finishes_20 : decode cX11_finishes 20 = .ok (.if_icmp .ge 49, 3) := by decide +kernel
theorem dX11_finishes_23 : decode cX11_finishes 23 = .ok (.aload_n 0, 1) := by decide +kernel
theorem dX11_finishes_24 : decode cX11_finishes 24 = .ok (.getfield 20, 3) := by decide +kernel
theorem dX11_finishes_27 : decode cX11_finishes 27 = .ok (.iload_n 3, 1) := by decide +kernel
theorem dX11_finishes_28 : decode cX11_finishes 28 = .ok (.dup2, 1) := by decide +kernel
theorem dX11_finishes_29 : decode cX11_finishes 29 = .ok (.iaload, 1) := by decide +kernel
theorem dX11_finishes_30 : decode cX11_finishes 30 = .ok (.aload_n 0, 1) := by decide +kernel
theorem dX11_finishes_31 : decode cX11_finishes 31 = .ok (.iload_n 1, 1) := by decide +kernel
theorem dX11_finishes_32 : decode cX11_finishes 32 = .ok (.aload_n 0, 1) := by decide +kernel
theorem dX11_finishes_33 : decode cX11_finishes 33 = .ok (.getfield 29, 3) := by decide +kernel
theorem dX11_finishes_36 : decode cX11_finishes 36 = .ok (.iload_n 2, 1) := by decide +kernel
theorem dX11_finishes_37 : decode cX11_finishes 37 = .ok (.iaload, 1) := by decide +kernel
theorem dX11_finishes_38 : decode cX11_finishes 38 = .ok (.bipush 22, 2) := by decide +kernel
theorem dX11_finishes_40 : decode cX11_finishes 40 = .ok (.iload_n 3, 1) := by decide +kernel
theorem dX11_finishes_41 : decode cX11_finishes 41 = .ok (.iadd, 1) := by decide +kernel
theorem dX11_finishes_42 : decode cX11_finishes 42 = .ok (.invokevirtual 71, 3) := by decide +kernel
theorem dX11_finishes_45 : decode cX11_finishes 45 = .ok (.aload_n 0, 1) := by decide +kernel
theorem dX11_finishes_46 : decode cX11_finishes 46 = .ok (.iload_n 1, 1) := by decide +kernel
theorem dX11_finishes_47 : decode cX11_finishes 47 = .ok (.aload_n 0, 1) := by decide +kernel
theorem dX11_finishes_48 : decode cX11_finishes 48 = .ok (.getfield 29, 3) := by decide +kernel
theorem dX11_finishes_51 : decode cX11_finishes 51 = .ok (.iload_n 2, 1) := by decide +kernel
theorem dX11_finishes_52 : decode cX11_finishes 52 = .ok (.iaload, 1) := by decide +kernel
theorem dX11_finishes_53 : decode cX11_finishes 53 = .ok (.bipush 6, 2) := by decide +kernel
theorem dX11_finishes_55 : decode cX11_finishes 55 = .ok (.iload_n 3, 1) := by decide +kernel
theorem dX11_finishes_56 : decode cX11_finishes 56 = .ok (.iadd, 1) := by decide +kernel
theorem dX11_finishes_57 : decode cX11_finishes 57 = .ok (.invokevirtual 71, 3) := by decide +kernel
theorem dX11_finishes_60 : decode cX11_finishes 60 = .ok (.isub, 1) := by decide +kernel
theorem dX11_finishes_61 : decode cX11_finishes 61 = .ok (.iadd, 1) := by decide +kernel
theorem dX11_finishes_62 : decode cX11_finishes 62 = .ok (.iastore, 1) := by decide +kernel
theorem dX11_finishes_63 : decode cX11_finishes 63 = .ok (.iinc 3 1, 3) := by decide +kernel
theorem dX11_finishes_66 : decode cX11_finishes 66 = .ok (.goto (-49), 3) := by decide +kernel
theorem dX11_finishes_69 : decode cX11_finishes 69 = .ok (.iinc 2 1, 3) := by decide +kernel
theorem dX11_finishes_72 : decode cX11_finishes 72 = .ok (.goto (-65), 3) := by decide +kernel
theorem dX11_finishes_75 : decode cX11_finishes 75 = .ok (.aload_n 0, 1) := by decide +kernel
theorem dX11_finishes_76 : decode cX11_finishes 76 = .ok (.getfield 20, 3) := by decide +kernel
theorem dX11_finishes_79 : decode cX11_finishes 79 = .ok (.aload_n 0, 1) := by decide +kernel
theorem dX11_finishes_80 : decode cX11_finishes 80 = .ok (.iload_n 1, 1) := by decide +kernel
theorem dX11_finishes_81 : decode cX11_finishes 81 = .ok (.iconst 2, 1) := by decide +kernel
theorem dX11_finishes_82 : decode cX11_finishes 82 = .ok (.invokevirtual 68, 3) := by decide +kernel
theorem dX11_finishes_85 : decode cX11_finishes 85 = .ok (.dup2, 1) := by decide +kernel
theorem dX11_finishes_86 : decode cX11_finishes 86 = .ok (.iaload, 1) := by decide +kernel
theorem dX11_finishes_87 : decode cX11_finishes 87 = .ok (.aload_n 0, 1) := by decide +kernel
theorem dX11_finishes_88 : decode cX11_finishes 88 = .ok (.iload_n 1, 1) := by decide +kernel
theorem dX11_finishes_89 : decode cX11_finishes 89 = .ok (.iconst 3, 1) := by decide +kernel
theorem dX11_finishes_90 : decode cX11_finishes 90 = .ok (.invokevirtual 68, 3) := by decide +kernel
theorem dX11_finishes_93 : decode cX11_finishes 93 = .ok (.iadd, 1) := by decide +kernel
theorem dX11_finishes_94 : decode cX11_finishes 94 = .ok (.iastore, 1) := by decide +kernel
theorem dX11_finishes_95 : decode cX11_finishes 95 = .ok (.return_, 1) := by decide +kernel
theorem dX11_campaign_0 : decode cX11_campaign 0 = .ok (.aload_n 0, 1) := by decide +kernel
theorem dX11_campaign_1 : decode cX11_campaign 1 = .ok (.iconst 0, 1) := by decide +kernel
theorem dX11_campaign_2 : decode cX11_campaign 2 = .ok (.putfield 47, 3) := by decide +kernel
theorem dX11_campaign_5 : decode cX11_campaign 5 = .ok (.aload_n 0, 1) := by decide +kernel
theorem dX11_campaign_6 : decode cX11_campaign 6 = .ok (.invokevirtual 112, 3) := by decide +kernel
theorem dX11_campaign_9 : decode cX11_campaign 9 = .ok (.iconst 0, 1) := by decide +kernel
theorem dX11_campaign_10 : decode cX11_campaign 10 = .ok (.istore_n 1, 1) := by decide +kernel
theorem dX11_campaign_11 : decode cX11_campaign 11 = .ok (.iconst 1, 1) := by decide +kernel
theorem dX11_campaign_12 : decode cX11_campaign 12 = .ok (.istore_n 2, 1) := by decide +kernel
theorem dX11_campaign_13 : decode cX11_campaign 13 = .ok (.iload_n 2, 1) := by decide +kernel
theorem dX11_campaign_14 : decode cX11_campaign 14 = .ok (.ifCond .eq 73, 3) := by decide +kernel
theorem dX11_campaign_17 : decode cX11_campaign 17 = .ok (.iconst 0, 1) := by decide +kernel
theorem dX11_campaign_18 : decode cX11_campaign 18 = .ok (.istore_n 3, 1) := by decide +kernel
theorem dX11_campaign_19 : decode cX11_campaign 19 = .ok (.iload_n 3, 1) := by decide +kernel
theorem dX11_campaign_20 : decode cX11_campaign 20 = .ok (.aload_n 0, 1) := by decide +kernel
theorem dX11_campaign_21 : decode cX11_campaign 21 = .ok (.iconst 0, 1) := by decide +kernel
theorem dX11_campaign_22 : decode cX11_campaign 22 = .ok (.invokevirtual 53, 3) := by decide +kernel
theorem dX11_campaign_25 : decode cX11_campaign 25 = .ok (.if_icmp .ge 26, 3) := by decide +kernel
theorem dX11_campaign_28 : decode cX11_campaign 28 = .ok (.iload_n 1, 1) := by decide +kernel
theorem dX11_campaign_29 : decode cX11_campaign 29 = .ok (.iload_n 3, 1) := by decide +kernel
theorem dX11_campaign_30 : decode cX11_campaign 30 = .ok (.ishr, 1) := by decide +kernel
theorem dX11_campaign_31 : decode cX11_campaign 31 = .ok (.iconst 1, 1) := by decide +kernel
theorem dX11_campaign_32 : decode cX11_campaign 32 = .ok (.iand, 1) := by decide +kernel
theorem dX11_campaign_33 : decode cX11_campaign 33 = .ok (.iconst 1, 1) := by decide +kernel
theorem dX11_campaign_34 : decode cX11_campaign 34 = .ok (.if_icmp .eq 11, 3) := by decide +kernel
theorem dX11_campaign_37 : decode cX11_campaign 37 = .ok (.aload_n 0, 1) := by decide +kernel
theorem dX11_campaign_38 : decode cX11_campaign 38 = .ok (.iload_n 3, 1) := by decide +kernel
theorem dX11_campaign_39 : decode cX11_campaign 39 = .ok (.invokevirtual 115, 3) := by decide +kernel
theorem dX11_campaign_42 : decode cX11_campaign 42 = .ok (.ifCond .ne 9, 3) := by decide +kernel
theorem dX11_campaign_45 : decode cX11_campaign 45 = .ok (.iinc 3 1, 3) := by decide +kernel
theorem dX11_campaign_48 : decode cX11_campaign 48 = .ok (.goto (-29), 3) := by decide +kernel
theorem dX11_campaign_51 : decode cX11_campaign 51 = .ok (.iload_n 3, 1) := by decide +kernel
theorem dX11_campaign_52 : decode cX11_campaign 52 = .ok (.aload_n 0, 1) := by decide +kernel
theorem dX11_campaign_53 : decode cX11_campaign 53 = .ok (.iconst 0, 1) := by decide +kernel
theorem dX11_campaign_54 : decode cX11_campaign 54 = .ok (.invokevirtual 53, 3) := by decide +kernel
theorem dX11_campaign_57 : decode cX11_campaign 57 = .ok (.if_icmp .ge 7, 3) := by decide +kernel
theorem dX11_campaign_60 : decode cX11_campaign 60 = .ok (.iconst 1, 1) := by decide +kernel
theorem dX11_campaign_61 : decode cX11_campaign 61 = .ok (.goto 4, 3) := by decide +kernel
theorem dX11_campaign_64 : decode cX11_campaign 64 = .ok (.iconst 0, 1) := by decide +kernel
theorem dX11_campaign_65 : decode cX11_campaign 65 = .ok (.istore_n 2, 1) := by decide +kernel
theorem dX11_campaign_66 : decode cX11_campaign 66 = .ok (.iload_n 2, 1) := by decide +kernel
theorem dX11_campaign_67 : decode cX11_campaign 67 = .ok (.ifCond .ne 6, 3) := by decide +kernel
theorem dX11_campaign_70 : decode cX11_campaign 70 = .ok (.goto (-57), 3) := by decide +kernel
theorem dX11_campaign_73 : decode cX11_campaign 73 = .ok (.aload_n 0, 1) := by decide +kernel
theorem dX11_campaign_74 : decode cX11_campaign 74 = .ok (.iload_n 3, 1) := by decide +kernel
theorem dX11_campaign_75 : decode cX11_campaign 75 = .ok (.invokevirtual 363, 3) := by decide +kernel
theorem dX11_campaign_78 : decode cX11_campaign 78 = .ok (.iload_n 1, 1) := by decide +kernel
theorem dX11_campaign_79 : decode cX11_campaign 79 = .ok (.iconst 1, 1) := by decide +kernel
theorem dX11_campaign_80 : decode cX11_campaign 80 = .ok (.iload_n 3, 1) := by decide +kernel
theorem dX11_campaign_81 : decode cX11_campaign 81 = .ok (.ishl, 1) := by decide +kernel
theorem dX11_campaign_82 : decode cX11_campaign 82 = .ok (.ior, 1) := by decide +kernel
theorem dX11_campaign_83 : decode cX11_campaign 83 = .ok (.istore_n 1, 1) := by decide +kernel
theorem dX11_campaign_84 : decode cX11_campaign 84 = .ok (.goto (-71), 3) := by decide +kernel
theorem dX11_campaign_87 : decode cX11_campaign 87 = .ok (.iload_n 1, 1) := by decide +kernel
theorem dX11_campaign_88 : decode cX11_campaign 88 = .ok (.invokestatic 133, 3) := by decide +kernel
theorem dX11_campaign_91 : decode cX11_campaign 91 = .ok (.ireturn, 1) := by decide +kernel
theorem dX11_worth_0 : decode cX11_worth 0 = .ok (.aload_n 0, 1) := by decide +kernel
theorem dX11_worth_1 : decode cX11_worth 1 = .ok (.iconst 0, 1) := by decide +kernel
theorem dX11_worth_2 : decode cX11_worth 2 = .ok (.putfield 47, 3) := by decide +kernel
theorem dX11_worth_5 : decode cX11_worth 5 = .ok (.aload_n 0, 1) := by decide +kernel
theorem dX11_worth_6 : decode cX11_worth 6 = .ok (.iload_n 1, 1) := by decide +kernel
theorem dX11_worth_7 : decode cX11_worth 7 = .ok (.invokevirtual 342, 3) := by decide +kernel
theorem dX11_worth_10 : decode cX11_worth 10 = .ok (.ifCond .eq 11, 3) := by decide +kernel
theorem dX11_worth_13 : decode cX11_worth 13 = .ok (.aload_n 0, 1) := by decide +kernel
theorem dX11_worth_14 : decode cX11_worth 14 = .ok (.iload_n 1, 1) := by decide +kernel
theorem dX11_worth_15 : decode cX11_worth 15 = .ok (.invokevirtual 366, 3) := by decide +kernel
theorem dX11_worth_18 : decode cX11_worth 18 = .ok (.goto 4, 3) := by decide +kernel
theorem dX11_worth_21 : decode cX11_worth 21 = .ok (.iconst 0, 1) := by decide +kernel
theorem dX11_worth_22 : decode cX11_worth 22 = .ok (.ireturn, 1) := by decide +kernel
theorem dX11_best_0 : decode cX11_best 0 = .ok (.aload_n 0, 1) := by decide +kernel
theorem dX11_best_1 : decode cX11_best 1 = .ok (.iconst 0, 1) := by decide +kernel
theorem dX11_best_2 : decode cX11_best 2 = .ok (.putfield 47, 3) := by decide +kernel
theorem dX11_best_5 : decode cX11_best 5 = .ok (.iconst (-1), 1) := by decide +kernel
theorem dX11_best_6 : decode cX11_best 6 = .ok (.istore_n 1, 1) := by decide +kernel
theorem dX11_best_7 : decode cX11_best 7 = .ok (.iconst 0, 1) := by decide +kernel
theorem dX11_best_8 : decode cX11_best 8 = .ok (.istore_n 2, 1) := by decide +kernel
theorem dX11_best_9 : decode cX11_best 9 = .ok (.iload_n 2, 1) := by decide +kernel
theorem dX11_best_10 : decode cX11_best 10 = .ok (.aload_n 0, 1) := by decide +kernel
theorem dX11_best_11 : decode cX11_best 11 = .ok (.iconst 0, 1) := by decide +kernel
theorem dX11_best_12 : decode cX11_best 12 = .ok (.invokevirtual 53, 3) := by decide +kernel
theorem dX11_best_15 : decode cX11_best 15 = .ok (.if_icmp .ge 37, 3) := by decide +kernel
theorem dX11_best_18 : decode cX11_best 18 = .ok (.aload_n 0, 1) := by decide +kernel
theorem dX11_best_19 : decode cX11_best 19 = .ok (.iload_n 2, 1) := by decide +kernel
theorem dX11_best_20 : decode cX11_best 20 = .ok (.invokevirtual 121, 3) := by decide +kernel
theorem dX11_best_23 : decode cX11_best 23 = .ok (.ifCond .eq 23, 3) := by decide +kernel
theorem dX11_best_26 : decode cX11_best 26 = .ok (.iload_n 1, 1) := by decide +kernel
theorem dX11_best_27 : decode cX11_best 27 = .ok (.iconst (-1), 1) := by decide +kernel
theorem dX11_best_28 : decode cX11_best 28 = .ok (.if_icmp .eq 16, 3) := by decide +kernel
theorem dX11_best_31 : decode cX11_best 31 = .ok (.aload_n 0, 1) := by decide +kernel
theorem dX11_best_32 : decode cX11_best 32 = .ok (.iload_n 2, 1) := by decide +kernel
theorem dX11_best_33 : decode cX11_best 33 = .ok (.invokevirtual 366, 3) := by decide +kernel
theorem dX11_best_36 : decode cX11_best 36 = .ok (.aload_n 0, 1) := by decide +kernel
theorem dX11_best_37 : decode cX11_best 37 = .ok (.iload_n 1, 1) := by decide +kernel
theorem dX11_best_38 : decode cX11_best 38 = .ok (.invokevirtual 366, 3) := by decide +kernel
theorem dX11_best_41 : decode cX11_best 41 = .ok (.if_icmp .le 5, 3) := by decide +kernel
theorem dX11_best_44 : decode cX11_best 44 = .ok (.iload_n 2, 1) := by decide +kernel
theorem dX11_best_45 : decode cX11_best 45 = .ok (.istore_n 1, 1) := by decide +kernel
theorem dX11_best_46 : decode cX11_best 46 = .ok (.iinc 2 1, 3) := by decide +kernel
theorem dX11_best_49 : decode cX11_best 49 = .ok (.goto (-40), 3) := by decide +kernel
theorem dX11_best_52 : decode cX11_best 52 = .ok (.iload_n 1, 1) := by decide +kernel
theorem dX11_best_53 : decode cX11_best 53 = .ok (.ireturn, 1) := by decide +kernel
theorem dX11_chance_0 : decode cX11_chance 0 = .ok (.aload_n 0, 1) := by decide +kernel
theorem dX11_chance_1 : decode cX11_chance 1 = .ok (.iconst 0, 1) := by decide +kernel
theorem dX11_chance_2 : decode cX11_chance 2 = .ok (.putfield 47, 3) := by decide +kernel
theorem dX11_chance_5 : decode cX11_chance 5 = .ok (.aload_n 0, 1) := by decide +kernel
theorem dX11_chance_6 : decode cX11_chance 6 = .ok (.iload_n 1, 1) := by decide +kernel
theorem dX11_chance_7 : decode cX11_chance 7 = .ok (.invokevirtual 342, 3) := by decide +kernel
theorem dX11_chance_10 : decode cX11_chance 10 = .ok (.ifCond .eq 11, 3) := by decide +kernel
theorem dX11_chance_13 : decode cX11_chance 13 = .ok (.aload_n 0, 1) := by decide +kernel
theorem dX11_chance_14 : decode cX11_chance 14 = .ok (.iload_n 1, 1) := by decide +kernel
theorem dX11_chance_15 : decode cX11_chance 15 = .ok (.invokevirtual 141, 3) := by decide +kernel
theorem dX11_chance_18 : decode cX11_chance 18 = .ok (.ifCond .ne 5, 3) := by decide +kernel
theorem dX11_chance_21 : decode cX11_chance 21 = .ok (.dconst 0, 1) := by decide +kernel
theorem dX11_chance_22 : decode cX11_chance 22 = .ok (.dreturn, 1) := by decide +kernel
theorem dX11_chance_23 : decode cX11_chance 23 = .ok (.dconst 1, 1) := by decide +kernel
theorem dX11_chance_24 : decode cX11_chance 24 = .ok (.dstore_n 2, 1) := by decide +kernel
theorem dX11_chance_25 : decode cX11_chance 25 = .ok (.iconst 0, 1) := by decide +kernel
theorem dX11_chance_26 : decode cX11_chance 26 = .ok (.istore 4, 2) := by decide +kernel
theorem dX11_chance_28 : decode cX11_chance 28 = .ok (.iload 4, 2) := by decide +kernel
theorem dX11_chance_30 : decode cX11_chance 30 = .ok (.aload_n 0, 1) := by decide +kernel
theorem dX11_chance_31 : decode cX11_chance 31 = .ok (.getfield 118, 3) := by decide +kernel
theorem dX11_chance_34 : decode cX11_chance 34 = .ok (.if_icmp .ge 33, 3) := by decide +kernel
theorem dX11_chance_37 : decode cX11_chance 37 = .ok (.dload_n 2, 1) := by decide +kernel
theorem dX11_chance_38 : decode cX11_chance 38 = .ok (.bipush 100, 2) := by decide +kernel
theorem dX11_chance_40 : decode cX11_chance 40 = .ok (.aload_n 0, 1) := by decide +kernel
theorem dX11_chance_41 : decode cX11_chance 41 = .ok (.iload_n 1, 1) := by decide +kernel
theorem dX11_chance_42 : decode cX11_chance 42 = .ok (.aload_n 0, 1) := by decide +kernel
theorem dX11_chance_43 : decode cX11_chance 43 = .ok (.getfield 29, 3) := by decide +kernel
theorem dX11_chance_46 : decode cX11_chance 46 = .ok (.iload 4, 2) := by decide +kernel
theorem dX11_chance_48 : decode cX11_chance 48 = .ok (.iaload, 1) := by decide +kernel
theorem dX11_chance_49 : decode cX11_chance 49 = .ok (.iconst 0, 1) := by decide +kernel
theorem dX11_chance_50 : decode cX11_chance 50 = .ok (.invokevirtual 71, 3) := by decide +kernel
theorem dX11_chance_53 : decode cX11_chance 53 = .ok (.isub, 1) := by decide +kernel
theorem dX11_chance_54 : decode cX11_chance 54 = .ok (.i2d, 1) := by decide +kernel
theorem dX11_chance_55 : decode cX11_chance 55 = .ok (.ldc2_w 369, 3) := by decide +kernel
theorem dX11_chance_58 : decode cX11_chance 58 = .ok (.ddiv, 1) := by decide +kernel
theorem dX11_chance_59 : decode cX11_chance 59 = .ok (.dmul, 1) := by decide +kernel
theorem dX11_chance_60 : decode cX11_chance 60 = .ok (.dstore_n 2, 1) := by decide +kernel
theorem dX11_chance_61 : decode cX11_chance 61 = .ok (.iinc 4 1, 3) := by decide +kernel
theorem dX11_chance_64 : decode cX11_chance 64 = .ok (.goto (-36), 3) := by decide +kernel
theorem dX11_chance_67 : decode cX11_chance 67 = .ok (.dload_n 2, 1) := by decide +kernel
theorem dX11_chance_68 : decode cX11_chance 68 = .ok (.dreturn, 1) := by decide +kernel
theorem dX11_progress_0 : decode cX11_progress 0 = .ok (.aload_n 0, 1) := by decide +kernel
theorem dX11_progress_1 : decode cX11_progress 1 = .ok (.iconst 0, 1) := by decide +kernel
theorem dX11_progress_2 : decode cX11_progress 2 = .ok (.putfield 47, 3) := by decide +kernel
theorem dX11_progress_5 : decode cX11_progress 5 = .ok (.aload_n 0, 1) := by decide +kernel
theorem dX11_progress_6 : decode cX11_progress 6 = .ok (.iconst 1, 1) := by decide +kernel
theorem dX11_progress_7 : decode cX11_progress 7 = .ok (.invokevirtual 336, 3) := by decide +kernel
theorem dX11_progress_10 : decode cX11_progress 10 = .ok (.ifCond .ne 7, 3) := by decide +kernel
theorem dX11_progress_13 : decode cX11_progress 13 = .ok (.fconst 0, 1) := by decide +kernel
theorem dX11_progress_14 : decode cX11_progress 14 = .ok (.goto 16, 3) := by decide +kernel
theorem dX11_progress_17 : decode cX11_progress 17 = .ok (.aload_n 0, 1) := by decide +kernel
theorem dX11_progress_18 : decode cX11_progress 18 = .ok (.iconst 4, 1) := by decide +kernel
theorem dX11_progress_19 : decode cX11_progress 19 = .ok (.invokevirtual 336, 3) := by decide +kernel
theorem dX11_progress_22 : decode cX11_progress 22 = .ok (.i2f, 1) := by decide +kernel
theorem dX11_progress_23 : decode cX11_progress 23 = .ok (.aload_n 0, 1) := by decide +kernel
theorem dX11_progress_24 : decode cX11_progress 24 = .ok (.iconst 1, 1) := by decide +kernel
theorem dX11_progress_25 : decode cX11_progress 25 = .ok (.invokevirtual 336, 3) := by decide +kernel
theorem dX11_progress_28 : decode cX11_progress 28 = .ok (.i2f, 1) := by decide +kernel
theorem dX11_progress_29 : decode cX11_progress 29 = .ok (.fdiv, 1) := by decide +kernel
theorem dX11_progress_30 : decode cX11_progress 30 = .ok (.freturn, 1) := by decide +kernel
theorem dX11_tell_0 : decode cX11_tell 0 = .ok (.aload_n 0, 1) := by decide +kernel
theorem dX11_tell_1 : decode cX11_tell 1 = .ok (.iconst 0, 1) := by decide +kernel
theorem dX11_tell_2 : decode cX11_tell 2 = .ok (.putfield 47, 3) := by decide +kernel
theorem dX11_tell_5 : decode cX11_tell 5 = .ok (.aload_n 0, 1) := by decide +kernel
theorem dX11_tell_6 : decode cX11_tell 6 = .ok (.iload_n 1, 1) := by decide +kernel
theorem dX11_tell_7 : decode cX11_tell 7 = .ok (.iconst 0, 1) := by decide +kernel
theorem dX11_tell_8 : decode cX11_tell 8 = .ok (.bipush 99, 2) := by decide +kernel
theorem dX11_tell_10 : decode cX11_tell 10 = .ok (.invokestatic 199, 3) := by decide +kernel
theorem dX11_tell_13 : decode cX11_tell 13 = .ok (.ifCond .eq 17, 3) := by decide +kernel
theorem dX11_tell_16 : decode cX11_tell 16 = .ok (.iload_n 2, 1) := by decide +kernel
theorem dX11_tell_17 : decode cX11_tell 17 = .ok (.iconst 0, 1) := by decide +kernel
theorem dX11_tell_18 : decode cX11_tell 18 = .ok (.bipush 99, 2) := by decide +kernel
theorem dX11_tell_20 : decode cX11_tell 20 = .ok (.invokestatic 199, 3) := by decide +kernel
theorem dX11_tell_23 : decode cX11_tell 23 = .ok (.ifCond .eq 7, 3) := by decide +kernel
theorem dX11_tell_26 : decode cX11_tell 26 = .ok (.iconst 1, 1) := by decide +kernel
theorem dX11_tell_27 : decode cX11_tell 27 = .ok (.goto 4, 3) := by decide +kernel
theorem dX11_tell_30 : decode cX11_tell 30 = .ok (.iconst 0, 1) := by decide +kernel
theorem dX11_tell_31 : decode cX11_tell 31 = .ok (.iconst 1, 1) := by decide +kernel
theorem dX11_tell_32 : decode cX11_tell 32 = .ok (.invokevirtual 326, 3) := by decide +kernel
theorem dX11_tell_35 : decode cX11_tell 35 = .ok (.ifCond .eq 28, 3) := by decide +kernel
theorem dX11_tell_38 : decode cX11_tell 38 = .ok (.aload_n 0, 1) := by decide +kernel
theorem dX11_tell_39 : decode cX11_tell 39 = .ok (.aload_n 0, 1) := by decide +kernel
theorem dX11_tell_40 : decode cX11_tell 40 = .ok (.iconst 2, 1) := by decide +kernel
theorem dX11_tell_41 : decode cX11_tell 41 = .ok (.invokevirtual 53, 3) := by decide +kernel
theorem dX11_tell_44 : decode cX11_tell 44 = .ok (.iconst 2, 1) := by decide +kernel
theorem dX11_tell_45 : decode cX11_tell 45 = .ok (.iadd, 1) := by decide +kernel
theorem dX11_tell_46 : decode cX11_tell 46 = .ok (.bipush 40, 2) := by decide +kernel
theorem dX11_tell_48 : decode cX11_tell 48 = .ok (.if_icmp .gt 7, 3) := by decide +kernel
theorem dX11_tell_51 : decode cX11_tell 51 = .ok (.iconst 1, 1) := by decide +kernel
theorem dX11_tell_52 : decode cX11_tell 52 = .ok (.goto 4, 3) := by decide +kernel
theorem dX11_tell_55 : decode cX11_tell 55 = .ok (.iconst 0, 1) := by decide +kernel
theorem dX11_tell_56 : decode cX11_tell 56 = .ok (.iconst 2, 1) := by decide +kernel
theorem dX11_tell_57 : decode cX11_tell 57 = .ok (.invokevirtual 326, 3) := by decide +kernel
theorem dX11_tell_60 : decode cX11_tell 60 = .ok (.ifCond .ne 5, 3) := by decide +kernel
theorem dX11_tell_63 : decode cX11_tell 63 = .ok (.iconst 0, 1) := by decide +kernel
theorem dX11_tell_64 : decode cX11_tell 64 = .ok (.ireturn, 1) := by decide +kernel
theorem dX11_tell_65 : decode cX11_tell 65 = .ok (.aload_n 0, 1) := by decide +kernel
theorem dX11_tell_66 : decode cX11_tell 66 = .ok (.invokevirtual 333, 3) := by decide +kernel
theorem dX11_tell_69 : decode cX11_tell 69 = .ok (.aload_n 0, 1) := by decide +kernel
theorem dX11_tell_70 : decode cX11_tell 70 = .ok (.bipush 13, 2) := by decide +kernel
theorem dX11_tell_72 : decode cX11_tell 72 = .ok (.aload_n 0, 1) := by decide +kernel
theorem dX11_tell_73 : decode cX11_tell 73 = .ok (.iconst 2, 1) := by decide +kernel
theorem dX11_tell_74 : decode cX11_tell 74 = .ok (.invokevirtual 53, 3) := by decide +kernel
theorem dX11_tell_77 : decode cX11_tell 77 = .ok (.iadd, 1) := by decide +kernel
theorem dX11_tell_78 : decode cX11_tell 78 = .ok (.iload_n 1, 1) := by decide +kernel
theorem dX11_tell_79 : decode cX11_tell 79 = .ok (.invokevirtual 60, 3) := by decide +kernel
theorem dX11_tell_82 : decode cX11_tell 82 = .ok (.aload_n 0, 1) := by decide +kernel
theorem dX11_tell_83 : decode cX11_tell 83 = .ok (.bipush 13, 2) := by decide +kernel
theorem dX11_tell_85 : decode cX11_tell 85 = .ok (.aload_n 0, 1) := by decide +kernel
theorem dX11_tell_86 : decode cX11_tell 86 = .ok (.iconst 2, 1) := by decide +kernel
theorem dX11_tell_87 : decode cX11_tell 87 = .ok (.invokevirtual 53, 3) := by decide +kernel
theorem dX11_tell_90 : decode cX11_tell 90 = .ok (.iadd, 1) := by decide +kernel
theorem dX11_tell_91 : decode cX11_tell 91 = .ok (.iconst 1, 1) := by decide +kernel
theorem dX11_tell_92 : decode cX11_tell 92 = .ok (.iadd, 1) := by decide +kernel
theorem dX11_tell_93 : decode cX11_tell 93 = .ok (.iload_n 2, 1) := by decide +kernel
theorem dX11_tell_94 : decode cX11_tell 94 = .ok (.invokevirtual 60, 3) := by decide +kernel
theorem dX11_tell_97 : decode cX11_tell 97 = .ok (.aload_n 0, 1) := by decide +kernel
theorem dX11_tell_98 : decode cX11_tell 98 = .ok (.iconst 2, 1) := by decide +kernel
theorem dX11_tell_99 : decode cX11_tell 99 = .ok (.aload_n 0, 1) := by decide +kernel
theorem dX11_tell_100 : decode cX11_tell 100 = .ok (.iconst 2, 1) := by decide +kernel
theorem dX11_tell_101 : decode cX11_tell 101 = .ok (.invokevirtual 53, 3) := by decide +kernel
theorem dX11_tell_104 : decode cX11_tell 104 = .ok (.iconst 2, 1) := by decide +kernel
theorem dX11_tell_105 : decode cX11_tell 105 = .ok (.iadd, 1) := by decide +kernel
theorem dX11_tell_106 : decode cX11_tell 106 = .ok (.invokevirtual 60, 3) := by decide +kernel
theorem dX11_tell_109 : decode cX11_tell 109 = .ok (.aload_n 0, 1) := by decide +kernel
theorem dX11_tell_110 : decode cX11_tell 110 = .ok (.iconst 2, 1) := by decide +kernel
theorem dX11_tell_111 : decode cX11_tell 111 = .ok (.invokevirtual 53, 3) := by decide +kernel
theorem dX11_tell_114 : decode cX11_tell 114 = .ok (.ireturn, 1) := by decide +kernel
theorem dX11_drawn_0 : decode cX11_drawn 0 = .ok (.aload_n 0, 1) := by decide +kernel
theorem dX11_drawn_1 : decode cX11_drawn 1 = .ok (.iconst 2, 1) := by decide +kernel
theorem dX11_drawn_2 : decode cX11_drawn 2 = .ok (.invokevirtual 53, 3) := by decide +kernel
theorem dX11_drawn_5 : decode cX11_drawn 5 = .ok (.ifCond .ne 37, 3) := by decide +kernel
theorem dX11_drawn_8 : decode cX11_drawn 8 = .ok (.aload_n 0, 1) := by decide +kernel
theorem dX11_drawn_9 : decode cX11_drawn 9 = .ok (.iconst 1, 1) := by decide +kernel
theorem dX11_drawn_10 : decode cX11_drawn 10 = .ok (.aload_n 0, 1) := by decide +kernel
theorem dX11_drawn_11 : decode cX11_drawn 11 = .ok (.iconst 1, 1) := by decide +kernel
theorem dX11_drawn_12 : decode cX11_drawn 12 = .ok (.invokevirtual 53, 3) := by decide +kernel
theorem dX11_drawn_15 : decode cX11_drawn 15 = .ok (.ldc_w 371, 3) := by decide +kernel
theorem dX11_drawn_18 : decode cX11_drawn 18 = .ok (.imul, 1) := by decide +kernel
theorem dX11_drawn_19 : decode cX11_drawn 19 = .ok (.sipush 12345, 3) := by decide +kernel
theorem dX11_drawn_22 : decode cX11_drawn 22 = .ok (.iadd, 1) := by decide +kernel
theorem dX11_drawn_23 : decode cX11_drawn 23 = .ok (.invokevirtual 60, 3) := by decide +kernel
theorem dX11_drawn_26 : decode cX11_drawn 26 = .ok (.aload_n 0, 1) := by decide +kernel
theorem dX11_drawn_27 : decode cX11_drawn 27 = .ok (.iconst 1, 1) := by decide +kernel
theorem dX11_drawn_28 : decode cX11_drawn 28 = .ok (.invokevirtual 53, 3) := by decide +kernel
theorem dX11_drawn_31 : decode cX11_drawn 31 = .ok (.bipush 16, 2) := by decide +kernel
theorem dX11_drawn_33 : decode cX11_drawn 33 = .ok (.ishr, 1) := by decide +kernel
theorem dX11_drawn_34 : decode cX11_drawn 34 = .ok (.sipush 32767, 3) := by decide +kernel
theorem dX11_drawn_37 : decode cX11_drawn 37 = .ok (.iand, 1) := by decide +kernel
theorem dX11_drawn_38 : decode cX11_drawn 38 = .ok (.bipush 100, 2) := by decide +kernel
theorem dX11_drawn_40 : decode cX11_drawn 40 = .ok (.irem, 1) := by decide +kernel
theorem dX11_drawn_41 : decode cX11_drawn 41 = .ok (.ireturn, 1) := by decide +kernel
theorem dX11_drawn_42 : decode cX11_drawn 42 = .ok (.aload_n 0, 1) := by decide +kernel
theorem dX11_drawn_43 : decode cX11_drawn 43 = .ok (.bipush 13, 2) := by decide +kernel
theorem dX11_drawn_45 : decode cX11_drawn 45 = .ok (.invokevirtual 53, 3) := by decide +kernel
theorem dX11_drawn_48 : decode cX11_drawn 48 = .ok (.istore_n 1, 1) := by decide +kernel
theorem dX11_drawn_49 : decode cX11_drawn 49 = .ok (.aload_n 0, 1) := by decide +kernel
theorem dX11_drawn_50 : decode cX11_drawn 50 = .ok (.iconst 2, 1) := by decide +kernel
theorem dX11_drawn_51 : decode cX11_drawn 51 = .ok (.aload_n 0, 1) := by decide +kernel
theorem dX11_drawn_52 : decode cX11_drawn 52 = .ok (.iconst 2, 1) := by decide +kernel
theorem dX11_drawn_53 : decode cX11_drawn 53 = .ok (.invokevirtual 53, 3) := by decide +kernel
theorem dX11_drawn_56 : decode cX11_drawn 56 = .ok (.iconst 1, 1) := by decide +kernel
theorem dX11_drawn_57 : decode cX11_drawn 57 = .ok (.isub, 1) := by decide +kernel
theorem dX11_drawn_58 : decode cX11_drawn 58 = .ok (.invokevirtual 60, 3) := by decide +kernel
theorem dX11_drawn_61 : decode cX11_drawn 61 = .ok (.iconst 0, 1) := by decide +kernel
theorem dX11_drawn_62 : decode cX11_drawn 62 = .ok (.istore_n 2, 1) := by decide +kernel
theorem dX11_drawn_63 : decode cX11_drawn 63 = .ok (.iload_n 2, 1) := by decide +kernel
theorem dX11_drawn_64 : decode cX11_drawn 64 = .ok (.aload_n 0, 1) := by decide +kernel
theorem dX11_drawn_65 : decode cX11_drawn 65 = .ok (.iconst 2, 1) := by decide +kernel
theorem dX11_drawn_66 : decode cX11_drawn 66 = .ok (.invokevirtual 53, 3) := by decide +kernel
theorem dX11_drawn_69 : decode cX11_drawn 69 = .ok (.if_icmp .ge 27, 3) := by decide +kernel
theorem dX11_drawn_72 : decode cX11_drawn 72 = .ok (.aload_n 0, 1) := by decide +kernel
theorem dX11_drawn_73 : decode cX11_drawn 73 = .ok (.bipush 13, 2) := by decide +kernel
theorem dX11_drawn_75 : decode cX11_drawn 75 = .ok (.iload_n 2, 1) := by decide +kernel
theorem dX11_drawn_76 : decode cX11_drawn 76 = .ok (.iadd, 1) := by decide +kernel
theorem dX11_drawn_77 : decode cX11_drawn 77 = .ok (.aload_n 0, 1) := by decide +kernel
theorem dX11_drawn_78 : decode cX11_drawn 78 = .ok (.bipush 13, 2) := by decide +kernel
theorem dX11_drawn_80 : decode cX11_drawn 80 = .ok (.iload_n 2, 1) := by decide +kernel
theorem dX11_drawn_81 : decode cX11_drawn 81 = .ok (.iadd, 1) := by decide +kernel
theorem dX11_drawn_82 : decode cX11_drawn 82 = .ok (.iconst 1, 1) := by decide +kernel
theorem dX11_drawn_83 : decode cX11_drawn 83 = .ok (.iadd, 1) := by decide +kernel
theorem dX11_drawn_84 : decode cX11_drawn 84 = .ok (.invokevirtual 53, 3) := by decide +kernel
theorem dX11_drawn_87 : decode cX11_drawn 87 = .ok (.invokevirtual 60, 3) := by decide +kernel
theorem dX11_drawn_90 : decode cX11_drawn 90 = .ok (.iinc 2 1, 3) := by decide +kernel
theorem dX11_drawn_93 : decode cX11_drawn 93 = .ok (.goto (-30), 3) := by decide +kernel
theorem dX11_drawn_96 : decode cX11_drawn 96 = .ok (.iload_n 1, 1) := by decide +kernel
theorem dX11_drawn_97 : decode cX11_drawn 97 = .ok (.ireturn, 1) := by decide +kernel
theorem dX11_deadSet_0 : decode cX11_deadSet 0 = .ok (.aload_n 0, 1) := by decide +kernel
theorem dX11_deadSet_1 : decode cX11_deadSet 1 = .ok (.iload_n 1, 1) := by decide +kernel
theorem dX11_deadSet_2 : decode cX11_deadSet 2 = .ok (.invokevirtual 348, 3) := by decide +kernel
theorem dX11_deadSet_5 : decode cX11_deadSet 5 = .ok (.aload_n 0, 1) := by decide +kernel
theorem dX11_deadSet_6 : decode cX11_deadSet 6 = .ok (.iload_n 1, 1) := by decide +kernel
theorem dX11_deadSet_7 : decode cX11_deadSet 7 = .ok (.invokevirtual 89, 3) := by decide +kernel
theorem dX11_deadSet_10 : decode cX11_deadSet 10 = .ok (.iconst (-1), 1) := by decide +kernel
theorem dX11_deadSet_11 : decode cX11_deadSet 11 = .ok (.ixor, 1) := by decide +kernel
theorem dX11_deadSet_12 : decode cX11_deadSet 12 = .ok (.iand, 1) := by decide +kernel
theorem dX11_deadSet_13 : decode cX11_deadSet 13 = .ok (.istore_n 2, 1) := by decide +kernel
theorem dX11_deadSet_14 : decode cX11_deadSet 14 = .ok (.iconst 1, 1) := by decide +kernel
theorem dX11_deadSet_15 : decode cX11_deadSet 15 = .ok (.istore_n 3, 1) := by decide +kernel
theorem dX11_deadSet_16 : decode cX11_deadSet 16 = .ok (.iload_n 3, 1) := by decide +kernel
theorem dX11_deadSet_17 : decode cX11_deadSet 17 = .ok (.ifCond .eq 74, 3) := by decide +kernel
theorem dX11_deadSet_20 : decode cX11_deadSet 20 = .ok (.iconst 0, 1) := by decide +kernel
theorem dX11_deadSet_21 : decode cX11_deadSet 21 = .ok (.istore_n 3, 1) := by decide +kernel
theorem dX11_deadSet_22 : decode cX11_deadSet 22 = .ok (.iconst 0, 1) := by decide +kernel
theorem dX11_deadSet_23 : decode cX11_deadSet 23 = .ok (.istore 4, 2) := by decide +kernel
theorem dX11_deadSet_25 : decode cX11_deadSet 25 = .ok (.iload 4, 2) := by decide +kernel
theorem dX11_deadSet_27 : decode cX11_deadSet 27 = .ok (.aload_n 0, 1) := by decide +kernel
theorem dX11_deadSet_28 : decode cX11_deadSet 28 = .ok (.iload_n 1, 1) := by decide +kernel
theorem dX11_deadSet_29 : decode cX11_deadSet 29 = .ok (.invokevirtual 75, 3) := by decide +kernel
theorem dX11_deadSet_32 : decode cX11_deadSet 32 = .ok (.if_icmp .ge 56, 3) := by decide +kernel
theorem dX11_deadSet_35 : decode cX11_deadSet 35 = .ok (.iload_n 2, 1) := by decide +kernel
theorem dX11_deadSet_36 : decode cX11_deadSet 36 = .ok (.iload 4, 2) := by decide +kernel
theorem dX11_deadSet_38 : decode cX11_deadSet 38 = .ok (.ishr, 1) := by decide +kernel
theorem dX11_deadSet_39 : decode cX11_deadSet 39 = .ok (.iconst 1, 1) := by decide +kernel
theorem dX11_deadSet_40 : decode cX11_deadSet 40 = .ok (.iand, 1) := by decide +kernel
theorem dX11_deadSet_41 : decode cX11_deadSet 41 = .ok (.iconst 1, 1) := by decide +kernel
theorem dX11_deadSet_42 : decode cX11_deadSet 42 = .ok (.if_icmp .eq 40, 3) := by decide +kernel
theorem dX11_deadSet_45 : decode cX11_deadSet 45 = .ok (.aload_n 0, 1) := by decide +kernel
theorem dX11_deadSet_46 : decode cX11_deadSet 46 = .ok (.iload_n 1, 1) := by decide +kernel
theorem dX11_deadSet_47 : decode cX11_deadSet 47 = .ok (.iload 4, 2) := by decide +kernel
theorem dX11_deadSet_49 : decode cX11_deadSet 49 = .ok (.iconst 3, 1) := by decide +kernel
theorem dX11_deadSet_50 : decode cX11_deadSet 50 = .ok (.invokevirtual 71, 3) := by decide +kernel
theorem dX11_deadSet_53 : decode cX11_deadSet 53 = .ok (.iconst 1, 1) := by decide +kernel
theorem dX11_deadSet_54 : decode cX11_deadSet 54 = .ok (.if_icmp .eq 28, 3) := by decide +kernel
theorem dX11_deadSet_57 : decode cX11_deadSet 57 = .ok (.aload_n 0, 1) := by decide +kernel
theorem dX11_deadSet_58 : decode cX11_deadSet 58 = .ok (.iload_n 1, 1) := by decide +kernel
theorem dX11_deadSet_59 : decode cX11_deadSet 59 = .ok (.iload 4, 2) := by decide +kernel
theorem dX11_deadSet_61 : decode cX11_deadSet 61 = .ok (.iconst 4, 1) := by decide +kernel
theorem dX11_deadSet_62 : decode cX11_deadSet 62 = .ok (.invokevirtual 71, 3) := by decide +kernel
theorem dX11_deadSet_65 : decode cX11_deadSet 65 = .ok (.iload_n 2, 1) := by decide +kernel
theorem dX11_deadSet_66 : decode cX11_deadSet 66 = .ok (.iand, 1) := by decide +kernel
theorem dX11_deadSet_67 : decode cX11_deadSet 67 = .ok (.ifCond .ne 6, 3) := by decide +kernel
theorem dX11_deadSet_70 : decode cX11_deadSet 70 = .ok (.goto 12, 3) := by decide +kernel
theorem dX11_deadSet_73 : decode cX11_deadSet 73 = .ok (.iload_n 2, 1) := by decide +kernel
theorem dX11_deadSet_74 : decode cX11_deadSet 74 = .ok (.iconst 1, 1) := by decide +kernel
theorem dX11_deadSet_75 : decode cX11_deadSet 75 = .ok (.iload 4, 2) := by decide +kernel
theorem dX11_deadSet_77 : decode cX11_deadSet 77 = .ok (.ishl, 1) := by decide +kernel
theorem dX11_deadSet_78 : decode cX11_deadSet 78 = .ok (.ior, 1) := by decide +kernel
theorem dX11_deadSet_79 : decode cX11_deadSet 79 = .ok (.istore_n 2, 1) := by decide +kernel
theorem dX11_deadSet_80 : decode cX11_deadSet 80 = .ok (.iconst 1, 1) := by decide +kernel
theorem dX11_deadSet_81 : decode cX11_deadSet 81 = .ok (.istore_n 3, 1) := by decide +kernel
theorem dX11_deadSet_82 : decode cX11_deadSet 82 = .ok (.iinc 4 1, 3) := by decide +kernel
theorem dX11_deadSet_85 : decode cX11_deadSet 85 = .ok (.goto (-60), 3) := by decide +kernel
theorem dX11_deadSet_88 : decode cX11_deadSet 88 = .ok (.goto (-72), 3) := by decide +kernel
theorem dX11_deadSet_91 : decode cX11_deadSet 91 = .ok (.iload_n 2, 1) := by decide +kernel
theorem dX11_deadSet_92 : decode cX11_deadSet 92 = .ok (.ireturn, 1) := by decide +kernel
theorem dX11_takesUses_0 : decode cX11_takesUses 0 = .ok (.iconst 0, 1) := by decide +kernel
theorem dX11_takesUses_1 : decode cX11_takesUses 1 = .ok (.istore_n 3, 1) := by decide +kernel
theorem dX11_takesUses_2 : decode cX11_takesUses 2 = .ok (.iload_n 3, 1) := by decide +kernel
theorem dX11_takesUses_3 : decode cX11_takesUses 3 = .ok (.bipush 8, 2) := by decide +kernel
theorem dX11_takesUses_5 : decode cX11_takesUses 5 = .ok (.if_icmp .ge 34, 3) := by decide +kernel
theorem dX11_takesUses_8 : decode cX11_takesUses 8 = .ok (.aload_n 0, 1) := by decide +kernel
theorem dX11_takesUses_9 : decode cX11_takesUses 9 = .ok (.iconst 5, 1) := by decide +kernel
theorem dX11_takesUses_10 : decode cX11_takesUses 10 = .ok (.iload_n 3, 1) := by decide +kernel
theorem dX11_takesUses_11 : decode cX11_takesUses 11 = .ok (.iadd, 1) := by decide +kernel
theorem dX11_takesUses_12 : decode cX11_takesUses 12 = .ok (.aload_n 0, 1) := by decide +kernel
theorem dX11_takesUses_13 : decode cX11_takesUses 13 = .ok (.iconst 5, 1) := by decide +kernel
theorem dX11_takesUses_14 : decode cX11_takesUses 14 = .ok (.iload_n 3, 1) := by decide +kernel
theorem dX11_takesUses_15 : decode cX11_takesUses 15 = .ok (.iadd, 1) := by decide +kernel
theorem dX11_takesUses_16 : decode cX11_takesUses 16 = .ok (.invokevirtual 53, 3) := by decide +kernel
theorem dX11_takesUses_19 : decode cX11_takesUses 19 = .ok (.aload_n 0, 1) := by decide +kernel
theorem dX11_takesUses_20 : decode cX11_takesUses 20 = .ok (.iload_n 1, 1) := by decide +kernel
theorem dX11_takesUses_21 : decode cX11_takesUses 21 = .ok (.iload_n 2, 1) := by decide +kernel
theorem dX11_takesUses_22 : decode cX11_takesUses 22 = .ok (.bipush 6, 2) := by decide +kernel
theorem dX11_takesUses_24 : decode cX11_takesUses 24 = .ok (.iload_n 3, 1) := by decide +kernel
theorem dX11_takesUses_25 : decode cX11_takesUses 25 = .ok (.iadd, 1) := by decide +kernel
theorem dX11_takesUses_26 : decode cX11_takesUses 26 = .ok (.invokevirtual 71, 3) := by decide +kernel
theorem dX11_takesUses_29 : decode cX11_takesUses 29 = .ok (.isub, 1) := by decide +kernel
theorem dX11_takesUses_30 : decode cX11_takesUses 30 = .ok (.invokevirtual 60, 3) := by decide +kernel
theorem dX11_takesUses_33 : decode cX11_takesUses 33 = .ok (.iinc 3 1, 3) := by decide +kernel
theorem dX11_takesUses_36 : decode cX11_takesUses 36 = .ok (.goto (-34), 3) := by decide +kernel
theorem dX11_takesUses_39 : decode cX11_takesUses 39 = .ok (.return_, 1) := by decide +kernel
theorem dX11_tries_0 : decode cX11_tries 0 = .ok (.aload_n 0, 1) := by decide +kernel
theorem dX11_tries_1 : decode cX11_tries 1 = .ok (.invokevirtual 372, 3) := by decide +kernel
theorem dX11_tries_4 : decode cX11_tries 4 = .ok (.aload_n 0, 1) := by decide +kernel
theorem dX11_tries_5 : decode cX11_tries 5 = .ok (.iload_n 1, 1) := by decide +kernel
theorem dX11_tries_6 : decode cX11_tries 6 = .ok (.iload_n 2, 1) := by decide +kernel
theorem dX11_tries_7 : decode cX11_tries 7 = .ok (.iconst 0, 1) := by decide +kernel
theorem dX11_tries_8 : decode cX11_tries 8 = .ok (.invokevirtual 71, 3) := by decide +kernel
theorem dX11_tries_11 : decode cX11_tries 11 = .ok (.if_icmp .lt 106, 3) := by decide +kernel
theorem dX11_tries_14 : decode cX11_tries 14 = .ok (.aload_n 0, 1) := by decide +kernel
theorem dX11_tries_15 : decode cX11_tries 15 = .ok (.iload_n 1, 1) := by decide +kernel
theorem dX11_tries_16 : decode cX11_tries 16 = .ok (.iload_n 2, 1) := by decide +kernel
theorem dX11_tries_17 : decode cX11_tries 17 = .ok (.invokevirtual 375, 3) := by decide +kernel
theorem dX11_tries_20 : decode cX11_tries 20 = .ok (.iconst 0, 1) := by decide +kernel
theorem dX11_tries_21 : decode cX11_tries 21 = .ok (.istore_n 3, 1) := by decide +kernel
theorem dX11_tries_22 : decode cX11_tries 22 = .ok (.iload_n 3, 1) := by decide +kernel
theorem dX11_tries_23 : decode cX11_tries 23 = .ok (.bipush 8, 2) := by decide +kernel
theorem dX11_tries_25 : decode cX11_tries 25 = .ok (.if_icmp .ge 34, 3) := by decide +kernel
theorem dX11_tries_28 : decode cX11_tries 28 = .ok (.aload_n 0, 1) := by decide +kernel
theorem dX11_tries_29 : decode cX11_tries 29 = .ok (.iconst 5, 1) := by decide +kernel
theorem dX11_tries_30 : decode cX11_tries 30 = .ok (.iload_n 3, 1) := by decide +kernel
theorem dX11_tries_31 : decode cX11_tries 31 = .ok (.iadd, 1) := by decide +kernel
theorem dX11_tries_32 : decode cX11_tries 32 = .ok (.aload_n 0, 1) := by decide +kernel
theorem dX11_tries_33 : decode cX11_tries 33 = .ok (.iconst 5, 1) := by decide +kernel
theorem dX11_tries_34 : decode cX11_tries 34 = .ok (.iload_n 3, 1) := by decide +kernel
theorem dX11_tries_35 : decode cX11_tries 35 = .ok (.iadd, 1) := by decide +kernel
theorem dX11_tries_36 : decode cX11_tries 36 = .ok (.invokevirtual 53, 3) := by decide +kernel
theorem dX11_tries_39 : decode cX11_tries 39 = .ok (.aload_n 0, 1) := by decide +kernel
theorem dX11_tries_40 : decode cX11_tries 40 = .ok (.iload_n 1, 1) := by decide +kernel
theorem dX11_tries_41 : decode cX11_tries 41 = .ok (.iload_n 2, 1) := by decide +kernel
theorem dX11_tries_42 : decode cX11_tries 42 = .ok (.bipush 22, 2) := by decide +kernel
theorem dX11_tries_44 : decode cX11_tries 44 = .ok (.iload_n 3, 1) := by decide +kernel
theorem dX11_tries_45 : decode cX11_tries 45 = .ok (.iadd, 1) := by decide +kernel
theorem dX11_tries_46 : decode cX11_tries 46 = .ok (.invokevirtual 71, 3) := by decide +kernel
theorem dX11_tries_49 : decode cX11_tries 49 = .ok (.iadd, 1) := by decide +kernel
theorem dX11_tries_50 : decode cX11_tries 50 = .ok (.invokevirtual 60, 3) := by decide +kernel
theorem dX11_tries_53 : decode cX11_tries 53 = .ok (.iinc 3 1, 3) := by decide +kernel
theorem dX11_tries_56 : decode cX11_tries 56 = .ok (.goto (-34), 3) := by decide +kernel
theorem dX11_tries_59 : decode cX11_tries 59 = .ok (.aload_n 0, 1) := by decide +kernel
theorem dX11_tries_60 : decode cX11_tries 60 = .ok (.iload_n 1, 1) := by decide +kernel
theorem dX11_tries_61 : decode cX11_tries 61 = .ok (.iload_n 2, 1) := by decide +kernel
theorem dX11_tries_62 : decode cX11_tries 62 = .ok (.iconst 3, 1) := by decide +kernel
theorem dX11_tries_63 : decode cX11_tries 63 = .ok (.iconst 1, 1) := by decide +kernel
theorem dX11_tries_64 : decode cX11_tries 64 = .ok (.invokevirtual 378, 3) := by decide +kernel
theorem dX11_tries_67 : decode cX11_tries 67 = .ok (.aload_n 0, 1) := by decide +kernel
theorem dX11_tries_68 : decode cX11_tries 68 = .ok (.iload_n 1, 1) := by decide +kernel
theorem dX11_tries_69 : decode cX11_tries 69 = .ok (.aload_n 0, 1) := by decide +kernel
theorem dX11_tries_70 : decode cX11_tries 70 = .ok (.iload_n 1, 1) := by decide +kernel
theorem dX11_tries_71 : decode cX11_tries 71 = .ok (.invokevirtual 89, 3) := by decide +kernel
theorem dX11_tries_74 : decode cX11_tries 74 = .ok (.invokevirtual 96, 3) := by decide +kernel
theorem dX11_tries_77 : decode cX11_tries 77 = .ok (.ifCond .ne 5, 3) := by decide +kernel
theorem dX11_tries_80 : decode cX11_tries 80 = .ok (.iconst 1, 1) := by decide +kernel
theorem dX11_tries_81 : decode cX11_tries 81 = .ok (.ireturn, 1) := by decide +kernel
theorem dX11_tries_82 : decode cX11_tries 82 = .ok (.aload_n 0, 1) := by decide +kernel
theorem dX11_tries_83 : decode cX11_tries 83 = .ok (.iload_n 1, 1) := by decide +kernel
theorem dX11_tries_84 : decode cX11_tries 84 = .ok (.iconst 1, 1) := by decide +kernel
theorem dX11_tries_85 : decode cX11_tries 85 = .ok (.iconst 1, 1) := by decide +kernel
theorem dX11_tries_86 : decode cX11_tries 86 = .ok (.invokevirtual 382, 3) := by decide +kernel
theorem dX11_tries_89 : decode cX11_tries 89 = .ok (.iconst 5, 1) := by decide +kernel
theorem dX11_tries_90 : decode cX11_tries 90 = .ok (.aload_n 0, 1) := by decide +kernel
theorem dX11_tries_91 : decode cX11_tries 91 = .ok (.iload_n 1, 1) := by decide +kernel
theorem dX11_tries_92 : decode cX11_tries 92 = .ok (.iconst 2, 1) := by decide +kernel
theorem dX11_tries_93 : decode cX11_tries 93 = .ok (.invokevirtual 68, 3) := by decide +kernel
theorem dX11_tries_96 : decode cX11_tries 96 = .ok (.iadd, 1) := by decide +kernel
theorem dX11_tries_97 : decode cX11_tries 97 = .ok (.istore_n 3, 1) := by decide +kernel
theorem dX11_tries_98 : decode cX11_tries 98 = .ok (.aload_n 0, 1) := by decide +kernel
theorem dX11_tries_99 : decode cX11_tries 99 = .ok (.iload_n 3, 1) := by decide +kernel
theorem dX11_tries_100 : decode cX11_tries 100 = .ok (.aload_n 0, 1) := by decide +kernel
theorem dX11_tries_101 : decode cX11_tries 101 = .ok (.iload_n 3, 1) := by decide +kernel
theorem dX11_tries_102 : decode cX11_tries 102 = .ok (.invokevirtual 53, 3) := by decide +kernel
theorem dX11_tries_105 : decode cX11_tries 105 = .ok (.aload_n 0, 1) := by decide +kernel
theorem dX11_tries_106 : decode cX11_tries 106 = .ok (.iload_n 1, 1) := by decide +kernel
theorem dX11_tries_107 : decode cX11_tries 107 = .ok (.iconst 3, 1) := by decide +kernel
theorem dX11_tries_108 : decode cX11_tries 108 = .ok (.invokevirtual 68, 3) := by decide +kernel
theorem dX11_tries_111 : decode cX11_tries 111 = .ok (.iadd, 1) := by decide +kernel
theorem dX11_tries_112 : decode cX11_tries 112 = .ok (.invokevirtual 60, 3) := by decide +kernel
theorem dX11_tries_115 : decode cX11_tries 115 = .ok (.iconst 2, 1) := by decide +kernel
theorem dX11_tries_116 : decode cX11_tries 116 = .ok (.ireturn, 1) := by decide +kernel
theorem dX11_tries_117 : decode cX11_tries 117 = .ok (.aload_n 0, 1) := by decide +kernel
theorem dX11_tries_118 : decode cX11_tries 118 = .ok (.iload_n 1, 1) := by decide +kernel
theorem dX11_tries_119 : decode cX11_tries 119 = .ok (.iload_n 2, 1) := by decide +kernel
theorem dX11_tries_120 : decode cX11_tries 120 = .ok (.iconst 2, 1) := by decide +kernel
theorem dX11_tries_121 : decode cX11_tries 121 = .ok (.aload_n 0, 1) := by decide +kernel
theorem dX11_tries_122 : decode cX11_tries 122 = .ok (.iload_n 1, 1) := by decide +kernel
theorem dX11_tries_123 : decode cX11_tries 123 = .ok (.iload_n 2, 1) := by decide +kernel
theorem dX11_tries_124 : decode cX11_tries 124 = .ok (.iconst 2, 1) := by decide +kernel
theorem dX11_tries_125 : decode cX11_tries 125 = .ok (.invokevirtual 71, 3) := by decide +kernel
theorem dX11_tries_128 : decode cX11_tries 128 = .ok (.iconst 1, 1) := by decide +kernel
theorem dX11_tries_129 : decode cX11_tries 129 = .ok (.iadd, 1) := by decide +kernel
theorem dX11_tries_130 : decode cX11_tries 130 = .ok (.invokevirtual 378, 3) := by decide +kernel
theorem dX11_tries_133 : decode cX11_tries 133 = .ok (.aload_n 0, 1) := by decide +kernel
theorem dX11_tries_134 : decode cX11_tries 134 = .ok (.iload_n 1, 1) := by decide +kernel
theorem dX11_tries_135 : decode cX11_tries 135 = .ok (.iload_n 2, 1) := by decide +kernel
theorem dX11_tries_136 : decode cX11_tries 136 = .ok (.iconst 5, 1) := by decide +kernel
theorem dX11_tries_137 : decode cX11_tries 137 = .ok (.invokevirtual 71, 3) := by decide +kernel
theorem dX11_tries_140 : decode cX11_tries 140 = .ok (.iconst 1, 1) := by decide +kernel
theorem dX11_tries_141 : decode cX11_tries 141 = .ok (.if_icmp .ne 9, 3) := by decide +kernel
theorem dX11_tries_144 : decode cX11_tries 144 = .ok (.aload_n 0, 1) := by decide +kernel
theorem dX11_tries_145 : decode cX11_tries 145 = .ok (.iload_n 1, 1) := by decide +kernel
theorem dX11_tries_146 : decode cX11_tries 146 = .ok (.iload_n 2, 1) := by decide +kernel
theorem dX11_tries_147 : decode cX11_tries 147 = .ok (.invokevirtual 375, 3) := by decide +kernel
theorem dX11_tries_150 : decode cX11_tries 150 = .ok (.aload_n 0, 1) := by decide +kernel
theorem dX11_tries_151 : decode cX11_tries 151 = .ok (.iload_n 1, 1) := by decide +kernel
theorem dX11_tries_152 : decode cX11_tries 152 = .ok (.iconst 1, 1) := by decide +kernel
theorem dX11_tries_153 : decode cX11_tries 153 = .ok (.aload_n 0, 1) := by decide +kernel
theorem dX11_tries_154 : decode cX11_tries 154 = .ok (.iload_n 1, 1) := by decide +kernel
theorem dX11_tries_155 : decode cX11_tries 155 = .ok (.invokevirtual 75, 3) := by decide +kernel
theorem dX11_tries_158 : decode cX11_tries 158 = .ok (.ishl, 1) := by decide +kernel
theorem dX11_tries_159 : decode cX11_tries 159 = .ok (.iconst 1, 1) := by decide +kernel
theorem dX11_tries_160 : decode cX11_tries 160 = .ok (.isub, 1) := by decide +kernel
theorem dX11_tries_161 : decode cX11_tries 161 = .ok (.aload_n 0, 1) := by decide +kernel
theorem dX11_tries_162 : decode cX11_tries 162 = .ok (.iload_n 1, 1) := by decide +kernel
theorem dX11_tries_163 : decode cX11_tries 163 = .ok (.invokevirtual 386, 3) := by decide +kernel
theorem dX11_tries_166 : decode cX11_tries 166 = .ok (.iconst (-1), 1) := by decide +kernel
theorem dX11_tries_167 : decode cX11_tries 167 = .ok (.ixor, 1) := by decide +kernel
theorem dX11_tries_168 : decode cX11_tries 168 = .ok (.iand, 1) := by decide +kernel
theorem dX11_tries_169 : decode cX11_tries 169 = .ok (.invokevirtual 96, 3) := by decide +kernel
theorem dX11_tries_172 : decode cX11_tries 172 = .ok (.ifCond .eq 5, 3) := by decide +kernel
theorem dX11_tries_175 : decode cX11_tries 175 = .ok (.iconst 0, 1) := by decide +kernel
theorem dX11_tries_176 : decode cX11_tries 176 = .ok (.ireturn, 1) := by decide +kernel
theorem dX11_tries_177 : decode cX11_tries 177 = .ok (.aload_n 0, 1) := by decide +kernel
theorem dX11_tries_178 : decode cX11_tries 178 = .ok (.iload_n 1, 1) := by decide +kernel
theorem dX11_tries_179 : decode cX11_tries 179 = .ok (.iconst 1, 1) := by decide +kernel
theorem dX11_tries_180 : decode cX11_tries 180 = .ok (.iconst 2, 1) := by decide +kernel
theorem dX11_tries_181 : decode cX11_tries 181 = .ok (.invokevirtual 382, 3) := by decide +kernel
theorem dX11_tries_184 : decode cX11_tries 184 = .ok (.iconst 3, 1) := by decide +kernel
theorem dX11_tries_185 : decode cX11_tries 185 = .ok (.ireturn, 1) := by decide +kernel
theorem dX11_attempt_0 : decode cX11_attempt 0 = .ok (.aload_n 0, 1) := by decide +kernel
theorem dX11_attempt_1 : decode cX11_attempt 1 = .ok (.iconst 0, 1) := by decide +kernel
theorem dX11_attempt_2 : decode cX11_attempt 2 = .ok (.putfield 47, 3) := by decide +kernel
theorem dX11_attempt_5 : decode cX11_attempt 5 = .ok (.aload_n 0, 1) := by decide +kernel
theorem dX11_attempt_6 : decode cX11_attempt 6 = .ok (.iload_n 1, 1) := by decide +kernel
theorem dX11_attempt_7 : decode cX11_attempt 7 = .ok (.iload_n 2, 1) := by decide +kernel
theorem dX11_attempt_8 : decode cX11_attempt 8 = .ok (.invokevirtual 357, 3) := by decide +kernel
theorem dX11_attempt_11 : decode cX11_attempt 11 = .ok (.ifCond .eq 29, 3) := by decide +kernel
theorem dX11_attempt_14 : decode cX11_attempt 14 = .ok (.aload_n 0, 1) := by decide +kernel
theorem dX11_attempt_15 : decode cX11_attempt 15 = .ok (.aload_n 0, 1) := by decide +kernel
theorem dX11_attempt_16 : decode cX11_attempt 16 = .ok (.iload_n 1, 1) := by decide +kernel
theorem dX11_attempt_17 : decode cX11_attempt 17 = .ok (.invokevirtual 351, 3) := by decide +kernel
theorem dX11_attempt_20 : decode cX11_attempt 20 = .ok (.iload_n 2, 1) := by decide +kernel
theorem dX11_attempt_21 : decode cX11_attempt 21 = .ok (.ishr, 1) := by decide +kernel
theorem dX11_attempt_22 : decode cX11_attempt 22 = .ok (.iconst 1, 1) := by decide +kernel
theorem dX11_attempt_23 : decode cX11_attempt 23 = .ok (.iand, 1) := by decide +kernel
theorem dX11_attempt_24 : decode cX11_attempt 24 = .ok (.iconst 1, 1) := by decide +kernel
theorem dX11_attempt_25 : decode cX11_attempt 25 = .ok (.if_icmp .ne 7, 3) := by decide +kernel
theorem dX11_attempt_28 : decode cX11_attempt 28 = .ok (.iconst 1, 1) := by decide +kernel
theorem dX11_attempt_29 : decode cX11_attempt 29 = .ok (.goto 4, 3) := by decide +kernel
theorem dX11_attempt_32 : decode cX11_attempt 32 = .ok (.iconst 0, 1) := by decide +kernel
theorem dX11_attempt_33 : decode cX11_attempt 33 = .ok (.iconst 2, 1) := by decide +kernel
theorem dX11_attempt_34 : decode cX11_attempt 34 = .ok (.invokevirtual 326, 3) := by decide +kernel
theorem dX11_attempt_37 : decode cX11_attempt 37 = .ok (.ifCond .ne 5, 3) := by decide +kernel
theorem dX11_attempt_40 : decode cX11_attempt 40 = .ok (.iconst 0, 1) := by decide +kernel
theorem dX11_attempt_41 : decode cX11_attempt 41 = .ok (.ireturn, 1) := by decide +kernel
theorem dX11_attempt_42 : decode cX11_attempt 42 = .ok (.aload_n 0, 1) := by decide +kernel
theorem dX11_attempt_43 : decode cX11_attempt 43 = .ok (.invokevirtual 333, 3) := by decide +kernel
theorem dX11_attempt_46 : decode cX11_attempt 46 = .ok (.aload_n 0, 1) := by decide +kernel
theorem dX11_attempt_47 : decode cX11_attempt 47 = .ok (.iload_n 1, 1) := by decide +kernel
theorem dX11_attempt_48 : decode cX11_attempt 48 = .ok (.iload_n 2, 1) := by decide +kernel
theorem dX11_attempt_49 : decode cX11_attempt 49 = .ok (.invokevirtual 389, 3) := by decide +kernel
theorem dX11_attempt_52 : decode cX11_attempt 52 = .ok (.ireturn, 1) := by decide +kernel
theorem dX11_play_0 : decode cX11_play 0 = .ok (.aload_n 0, 1) := by decide +kernel
theorem dX11_play_1 : decode cX11_play 1 = .ok (.iconst 0, 1) := by decide +kernel
theorem dX11_play_2 : decode cX11_play 2 = .ok (.putfield 47, 3) := by decide +kernel
theorem dX11_play_5 : decode cX11_play 5 = .ok (.aload_n 0, 1) := by decide +kernel
theorem dX11_play_6 : decode cX11_play 6 = .ok (.iload_n 1, 1) := by decide +kernel
theorem dX11_play_7 : decode cX11_play 7 = .ok (.invokevirtual 342, 3) := by decide +kernel
theorem dX11_play_10 : decode cX11_play 10 = .ok (.ifCond .ne 5, 3) := by decide +kernel
theorem dX11_play_13 : decode cX11_play 13 = .ok (.iconst 0, 1) := by decide +kernel
theorem dX11_play_14 : decode cX11_play 14 = .ok (.ireturn, 1) := by decide +kernel
theorem dX11_play_15 : decode cX11_play 15 = .ok (.aload_n 0, 1) := by decide +kernel
theorem dX11_play_16 : decode cX11_play 16 = .ok (.invokevirtual 333, 3) := by decide +kernel
theorem dX11_play_19 : decode cX11_play 19 = .ok (.iconst 0, 1) := by decide +kernel
theorem dX11_play_20 : decode cX11_play 20 = .ok (.istore_n 2, 1) := by decide +kernel
theorem dX11_play_21 : decode cX11_play 21 = .ok (.aload_n 0, 1) := by decide +kernel
theorem dX11_play_22 : decode cX11_play 22 = .ok (.iload_n 1, 1) := by decide +kernel
theorem dX11_play_23 : decode cX11_play 23 = .ok (.invokevirtual 141, 3) := by decide +kernel
theorem dX11_play_26 : decode cX11_play 26 = .ok (.ifCond .eq 21, 3) := by decide +kernel
theorem dX11_play_29 : decode cX11_play 29 = .ok (.aload_n 0, 1) := by decide +kernel
theorem dX11_play_30 : decode cX11_play 30 = .ok (.iload_n 1, 1) := by decide +kernel
theorem dX11_play_31 : decode cX11_play 31 = .ok (.aload_n 0, 1) := by decide +kernel
theorem dX11_play_32 : decode cX11_play 32 = .ok (.getfield 29, 3) := by decide +kernel
theorem dX11_play_35 : decode cX11_play 35 = .ok (.iconst 0, 1) := by decide +kernel
theorem dX11_play_36 : decode cX11_play 36 = .ok (.iaload, 1) := by decide +kernel
theorem dX11_play_37 : decode cX11_play 37 = .ok (.invokevirtual 389, 3) := by decide +kernel
theorem dX11_play_40 : decode cX11_play 40 = .ok (.istore_n 3, 1) := by decide +kernel
theorem dX11_play_41 : decode cX11_play 41 = .ok (.iinc 2 1, 3) := by decide +kernel
theorem dX11_play_44 : decode cX11_play 44 = .ok (.goto (-23), 3) := by decide +kernel
theorem dX11_play_47 : decode cX11_play 47 = .ok (.iload_n 2, 1) := by decide +kernel
theorem dX11_play_48 : decode cX11_play 48 = .ok (.ireturn, 1) := by decide +kernel
theorem dX11_add_0 : decode cX11_add 0 = .ok (.aload_n 0, 1) := by decide +kernel
theorem dX11_add_1 : decode cX11_add 1 = .ok (.iconst 0, 1) := by decide +kernel
theorem dX11_add_2 : decode cX11_add 2 = .ok (.putfield 47, 3) := by decide +kernel
theorem dX11_add_5 : decode cX11_add 5 = .ok (.aload_n 0, 1) := by decide +kernel
theorem dX11_add_6 : decode cX11_add 6 = .ok (.iload_n 1, 1) := by decide +kernel
theorem dX11_add_7 : decode cX11_add 7 = .ok (.invokevirtual 345, 3) := by decide +kernel
theorem dX11_add_10 : decode cX11_add 10 = .ok (.ifCond .eq 46, 3) := by decide +kernel
theorem dX11_add_13 : decode cX11_add 13 = .ok (.aload_n 0, 1) := by decide +kernel
theorem dX11_add_14 : decode cX11_add 14 = .ok (.iload_n 2, 1) := by decide +kernel
theorem dX11_add_15 : decode cX11_add 15 = .ok (.iconst 1, 1) := by decide +kernel
theorem dX11_add_16 : decode cX11_add 16 = .ok (.sipush 999, 3) := by decide +kernel
theorem dX11_add_19 : decode cX11_add 19 = .ok (.invokestatic 199, 3) := by decide +kernel
theorem dX11_add_22 : decode cX11_add 22 = .ok (.iconst 2, 1) := by decide +kernel
theorem dX11_add_23 : decode cX11_add 23 = .ok (.invokevirtual 326, 3) := by decide +kernel
theorem dX11_add_26 : decode cX11_add 26 = .ok (.ifCond .eq 30, 3) := by decide +kernel
theorem dX11_add_29 : decode cX11_add 29 = .ok (.aload_n 0, 1) := by decide +kernel
theorem dX11_add_30 : decode cX11_add 30 = .ok (.aload_n 0, 1) := by decide +kernel
theorem dX11_add_31 : decode cX11_add 31 = .ok (.iconst 5, 1) := by decide +kernel
theorem dX11_add_32 : decode cX11_add 32 = .ok (.iload_n 1, 1) := by decide +kernel
theorem dX11_add_33 : decode cX11_add 33 = .ok (.iadd, 1) := by decide +kernel
theorem dX11_add_34 : decode cX11_add 34 = .ok (.invokevirtual 53, 3) := by decide +kernel
theorem dX11_add_37 : decode cX11_add 37 = .ok (.iload_n 2, 1) := by decide +kernel
theorem dX11_add_38 : decode cX11_add 38 = .ok (.iadd, 1) := by decide +kernel
theorem dX11_add_39 : decode cX11_add 39 = .ok (.ldc 95, 2) := by decide +kernel
theorem dX11_add_41 : decode cX11_add 41 = .ok (.if_icmp .gt 7, 3) := by decide +kernel
theorem dX11_add_44 : decode cX11_add 44 = .ok (.iconst 1, 1) := by decide +kernel
theorem dX11_add_45 : decode cX11_add 45 = .ok (.goto 4, 3) := by decide +kernel
theorem dX11_add_48 : decode cX11_add 48 = .ok (.iconst 0, 1) := by decide +kernel
theorem dX11_add_49 : decode cX11_add 49 = .ok (.iconst 3, 1) := by decide +kernel
theorem dX11_add_50 : decode cX11_add 50 = .ok (.invokevirtual 326, 3) := by decide +kernel
theorem dX11_add_53 : decode cX11_add 53 = .ok (.ifCond .ne 5, 3) := by decide +kernel
theorem dX11_add_56 : decode cX11_add 56 = .ok (.iconst 0, 1) := by decide +kernel
theorem dX11_add_57 : decode cX11_add 57 = .ok (.ireturn, 1) := by decide +kernel
theorem dX11_add_58 : decode cX11_add 58 = .ok (.aload_n 0, 1) := by decide +kernel
theorem dX11_add_59 : decode cX11_add 59 = .ok (.invokevirtual 333, 3) := by decide +kernel
theorem dX11_add_62 : decode cX11_add 62 = .ok (.aload_n 0, 1) := by decide +kernel
theorem dX11_add_63 : decode cX11_add 63 = .ok (.iconst 5, 1) := by decide +kernel
theorem dX11_add_64 : decode cX11_add 64 = .ok (.iload_n 1, 1) := by decide +kernel
theorem dX11_add_65 : decode cX11_add 65 = .ok (.iadd, 1) := by decide +kernel
theorem dX11_add_66 : decode cX11_add 66 = .ok (.aload_n 0, 1) := by decide +kernel
theorem dX11_add_67 : decode cX11_add 67 = .ok (.iconst 5, 1) := by decide +kernel
theorem dX11_add_68 : decode cX11_add 68 = .ok (.iload_n 1, 1) := by decide +kernel
theorem dX11_add_69 : decode cX11_add 69 = .ok (.iadd, 1) := by decide +kernel
theorem dX11_add_70 : decode cX11_add 70 = .ok (.invokevirtual 53, 3) := by decide +kernel
theorem dX11_add_73 : decode cX11_add 73 = .ok (.iload_n 2, 1) := by decide +kernel
theorem dX11_add_74 : decode cX11_add 74 = .ok (.iadd, 1) := by decide +kernel
theorem dX11_add_75 : decode cX11_add 75 = .ok (.invokevirtual 60, 3) := by decide +kernel
theorem dX11_add_78 : decode cX11_add 78 = .ok (.aload_n 0, 1) := by decide +kernel
theorem dX11_add_79 : decode cX11_add 79 = .ok (.iconst 5, 1) := by decide +kernel
theorem dX11_add_80 : decode cX11_add 80 = .ok (.iload_n 1, 1) := by decide +kernel
theorem dX11_add_81 : decode cX11_add 81 = .ok (.iadd, 1) := by decide +kernel
theorem dX11_add_82 : decode cX11_add 82 = .ok (.invokevirtual 53, 3) := by decide +kernel
theorem dX11_add_85 : decode cX11_add 85 = .ok (.ireturn, 1) := by decide +kernel
theorem dX11_spend_0 : decode cX11_spend 0 = .ok (.aload_n 0, 1) := by decide +kernel
theorem dX11_spend_1 : decode cX11_spend 1 = .ok (.iconst 0, 1) := by decide +kernel
theorem dX11_spend_2 : decode cX11_spend 2 = .ok (.putfield 47, 3) := by decide +kernel
theorem dX11_spend_5 : decode cX11_spend 5 = .ok (.aload_n 0, 1) := by decide +kernel
theorem dX11_spend_6 : decode cX11_spend 6 = .ok (.iload_n 1, 1) := by decide +kernel
theorem dX11_spend_7 : decode cX11_spend 7 = .ok (.invokevirtual 345, 3) := by decide +kernel
theorem dX11_spend_10 : decode cX11_spend 10 = .ok (.ifCond .eq 43, 3) := by decide +kernel
theorem dX11_spend_13 : decode cX11_spend 13 = .ok (.aload_n 0, 1) := by decide +kernel
theorem dX11_spend_14 : decode cX11_spend 14 = .ok (.iload_n 2, 1) := by decide +kernel
theorem dX11_spend_15 : decode cX11_spend 15 = .ok (.iconst 1, 1) := by decide +kernel
theorem dX11_spend_16 : decode cX11_spend 16 = .ok (.sipush 999, 3) := by decide +kernel
theorem dX11_spend_19 : decode cX11_spend 19 = .ok (.invokestatic 199, 3) := by decide +kernel
theorem dX11_spend_22 : decode cX11_spend 22 = .ok (.iconst 2, 1) := by decide +kernel
theorem dX11_spend_23 : decode cX11_spend 23 = .ok (.invokevirtual 326, 3) := by decide +kernel
theorem dX11_spend_26 : decode cX11_spend 26 = .ok (.ifCond .eq 27, 3) := by decide +kernel
theorem dX11_spend_29 : decode cX11_spend 29 = .ok (.aload_n 0, 1) := by decide +kernel
theorem dX11_spend_30 : decode cX11_spend 30 = .ok (.aload_n 0, 1) := by decide +kernel
theorem dX11_spend_31 : decode cX11_spend 31 = .ok (.iconst 5, 1) := by decide +kernel
theorem dX11_spend_32 : decode cX11_spend 32 = .ok (.iload_n 1, 1) := by decide +kernel
theorem dX11_spend_33 : decode cX11_spend 33 = .ok (.iadd, 1) := by decide +kernel
theorem dX11_spend_34 : decode cX11_spend 34 = .ok (.invokevirtual 53, 3) := by decide +kernel
theorem dX11_spend_37 : decode cX11_spend 37 = .ok (.iload_n 2, 1) := by decide +kernel
theorem dX11_spend_38 : decode cX11_spend 38 = .ok (.if_icmp .lt 7, 3) := by decide +kernel
theorem dX11_spend_41 : decode cX11_spend 41 = .ok (.iconst 1, 1) := by decide +kernel
theorem dX11_spend_42 : decode cX11_spend 42 = .ok (.goto 4, 3) := by decide +kernel
theorem dX11_spend_45 : decode cX11_spend 45 = .ok (.iconst 0, 1) := by decide +kernel
theorem dX11_spend_46 : decode cX11_spend 46 = .ok (.iconst 3, 1) := by decide +kernel
theorem dX11_spend_47 : decode cX11_spend 47 = .ok (.invokevirtual 326, 3) := by decide +kernel
theorem dX11_spend_50 : decode cX11_spend 50 = .ok (.ifCond .ne 5, 3) := by decide +kernel
theorem dX11_spend_53 : decode cX11_spend 53 = .ok (.iconst 0, 1) := by decide +kernel
theorem dX11_spend_54 : decode cX11_spend 54 = .ok (.ireturn, 1) := by decide +kernel
theorem dX11_spend_55 : decode cX11_spend 55 = .ok (.aload_n 0, 1) := by decide +kernel
theorem dX11_spend_56 : decode cX11_spend 56 = .ok (.invokevirtual 333, 3) := by decide +kernel
theorem dX11_spend_59 : decode cX11_spend 59 = .ok (.aload_n 0, 1) := by decide +kernel
theorem dX11_spend_60 : decode cX11_spend 60 = .ok (.iconst 5, 1) := by decide +kernel
theorem dX11_spend_61 : decode cX11_spend 61 = .ok (.iload_n 1, 1) := by decide +kernel
theorem dX11_spend_62 : decode cX11_spend 62 = .ok (.iadd, 1) := by decide +kernel
theorem dX11_spend_63 : decode cX11_spend 63 = .ok (.aload_n 0, 1) := by decide +kernel
theorem dX11_spend_64 : decode cX11_spend 64 = .ok (.iconst 5, 1) := by decide +kernel
theorem dX11_spend_65 : decode cX11_spend 65 = .ok (.iload_n 1, 1) := by decide +kernel
theorem dX11_spend_66 : decode cX11_spend 66 = .ok (.iadd, 1) := by decide +kernel
theorem dX11_spend_67 : decode cX11_spend 67 = .ok (.invokevirtual 53, 3) := by decide +kernel
theorem dX11_spend_70 : decode cX11_spend 70 = .ok (.iload_n 2, 1) := by decide +kernel
theorem dX11_spend_71 : decode cX11_spend 71 = .ok (.isub, 1) := by decide +kernel
theorem dX11_spend_72 : decode cX11_spend 72 = .ok (.invokevirtual 60, 3) := by decide +kernel
theorem dX11_spend_75 : decode cX11_spend 75 = .ok (.aload_n 0, 1) := by decide +kernel
theorem dX11_spend_76 : decode cX11_spend 76 = .ok (.iconst 5, 1) := by decide +kernel
theorem dX11_spend_77 : decode cX11_spend 77 = .ok (.iload_n 1, 1) := by decide +kernel
theorem dX11_spend_78 : decode cX11_spend 78 = .ok (.iadd, 1) := by decide +kernel
theorem dX11_spend_79 : decode cX11_spend 79 = .ok (.invokevirtual 53, 3) := by decide +kernel
theorem dX11_spend_82 : decode cX11_spend 82 = .ok (.ireturn, 1) := by decide +kernel
theorem dX11_mend_0 : decode cX11_mend 0 = .ok (.aload_n 0, 1) := by decide +kernel
theorem dX11_mend_1 : decode cX11_mend 1 = .ok (.iconst 0, 1) := by decide +kernel
theorem dX11_mend_2 : decode cX11_mend 2 = .ok (.putfield 47, 3) := by decide +kernel
theorem dX11_mend_5 : decode cX11_mend 5 = .ok (.aload_n 0, 1) := by decide +kernel
theorem dX11_mend_6 : decode cX11_mend 6 = .ok (.iload_n 1, 1) := by decide +kernel
theorem dX11_mend_7 : decode cX11_mend 7 = .ok (.iload_n 2, 1) := by decide +kernel
theorem dX11_mend_8 : decode cX11_mend 8 = .ok (.invokevirtual 357, 3) := by decide +kernel
theorem dX11_mend_11 : decode cX11_mend 11 = .ok (.ifCond .ne 5, 3) := by decide +kernel
theorem dX11_mend_14 : decode cX11_mend 14 = .ok (.iconst 0, 1) := by decide +kernel
theorem dX11_mend_15 : decode cX11_mend 15 = .ok (.ireturn, 1) := by decide +kernel
theorem dX11_mend_16 : decode cX11_mend 16 = .ok (.aload_n 0, 1) := by decide +kernel
theorem dX11_mend_17 : decode cX11_mend 17 = .ok (.invokevirtual 333, 3) := by decide +kernel
theorem dX11_mend_20 : decode cX11_mend 20 = .ok (.aload_n 0, 1) := by decide +kernel
theorem dX11_mend_21 : decode cX11_mend 21 = .ok (.iload_n 1, 1) := by decide +kernel
theorem dX11_mend_22 : decode cX11_mend 22 = .ok (.iload_n 2, 1) := by decide +kernel
theorem dX11_mend_23 : decode cX11_mend 23 = .ok (.iconst 2, 1) := by decide +kernel
theorem dX11_mend_24 : decode cX11_mend 24 = .ok (.invokevirtual 71, 3) := by decide +kernel
theorem dX11_mend_27 : decode cX11_mend 27 = .ok (.istore_n 3, 1) := by decide +kernel
theorem dX11_mend_28 : decode cX11_mend 28 = .ok (.aload_n 0, 1) := by decide +kernel
theorem dX11_mend_29 : decode cX11_mend 29 = .ok (.iload_n 1, 1) := by decide +kernel
theorem dX11_mend_30 : decode cX11_mend 30 = .ok (.iload_n 2, 1) := by decide +kernel
theorem dX11_mend_31 : decode cX11_mend 31 = .ok (.iconst 2, 1) := by decide +kernel
theorem dX11_mend_32 : decode cX11_mend 32 = .ok (.iconst 0, 1) := by decide +kernel
theorem dX11_mend_33 : decode cX11_mend 33 = .ok (.invokevirtual 378, 3) := by decide +kernel
theorem dX11_mend_36 : decode cX11_mend 36 = .ok (.iload_n 3, 1) := by decide +kernel
theorem dX11_mend_37 : decode cX11_mend 37 = .ok (.ireturn, 1) := by decide +kernel
theorem dX11_giveUp_0 : decode cX11_giveUp 0 = .ok (.aload_n 0, 1) := by decide +kernel
theorem dX11_giveUp_1 : decode cX11_giveUp 1 = .ok (.iconst 0, 1) := by decide +kernel
theorem dX11_giveUp_2 : decode cX11_giveUp 2 = .ok (.putfield 47, 3) := by decide +kernel
theorem dX11_giveUp_5 : decode cX11_giveUp 5 = .ok (.aload_n 0, 1) := by decide +kernel
theorem dX11_giveUp_6 : decode cX11_giveUp 6 = .ok (.iload_n 1, 1) := by decide +kernel
theorem dX11_giveUp_7 : decode cX11_giveUp 7 = .ok (.invokevirtual 342, 3) := by decide +kernel
theorem dX11_giveUp_10 : decode cX11_giveUp 10 = .ok (.ifCond .eq 16, 3) := by decide +kernel
theorem dX11_giveUp_13 : decode cX11_giveUp 13 = .ok (.aload_n 0, 1) := by decide +kernel
theorem dX11_giveUp_14 : decode cX11_giveUp 14 = .ok (.aload_n 0, 1) := by decide +kernel
theorem dX11_giveUp_15 : decode cX11_giveUp 15 = .ok (.iload_n 1, 1) := by decide +kernel
theorem dX11_giveUp_16 : decode cX11_giveUp 16 = .ok (.invokevirtual 108, 3) := by decide +kernel
theorem dX11_giveUp_19 : decode cX11_giveUp 19 = .ok (.iconst 2, 1) := by decide +kernel
theorem dX11_giveUp_20 : decode cX11_giveUp 20 = .ok (.invokevirtual 326, 3) := by decide +kernel
theorem dX11_giveUp_23 : decode cX11_giveUp 23 = .ok (.ifCond .ne 5, 3) := by decide +kernel
theorem dX11_giveUp_26 : decode cX11_giveUp 26 = .ok (.iconst 0, 1) := by decide +kernel
theorem dX11_giveUp_27 : decode cX11_giveUp 27 = .ok (.ireturn, 1) := by decide +kernel
theorem dX11_giveUp_28 : decode cX11_giveUp 28 = .ok (.aload_n 0, 1) := by decide +kernel
theorem dX11_giveUp_29 : decode cX11_giveUp 29 = .ok (.invokevirtual 333, 3) := by decide +kernel
theorem dX11_giveUp_32 : decode cX11_giveUp 32 = .ok (.aload_n 0, 1) := by decide +kernel
theorem dX11_giveUp_33 : decode cX11_giveUp 33 = .ok (.iload_n 1, 1) := by decide +kernel
theorem dX11_giveUp_34 : decode cX11_giveUp 34 = .ok (.iconst 1, 1) := by decide +kernel
theorem dX11_giveUp_35 : decode cX11_giveUp 35 = .ok (.iconst 2, 1) := by decide +kernel
theorem dX11_giveUp_36 : decode cX11_giveUp 36 = .ok (.invokevirtual 382, 3) := by decide +kernel
theorem dX11_giveUp_39 : decode cX11_giveUp 39 = .ok (.aload_n 0, 1) := by decide +kernel
theorem dX11_giveUp_40 : decode cX11_giveUp 40 = .ok (.iload_n 1, 1) := by decide +kernel
theorem dX11_giveUp_41 : decode cX11_giveUp 41 = .ok (.invokevirtual 89, 3) := by decide +kernel
theorem dX11_giveUp_44 : decode cX11_giveUp 44 = .ok (.ireturn, 1) := by decide +kernel
theorem dX11_reopen_0 : decode cX11_reopen 0 = .ok (.aload_n 0, 1) := by decide +kernel
theorem dX11_reopen_1 : decode cX11_reopen 1 = .ok (.iconst 0, 1) := by decide +kernel
theorem dX11_reopen_2 : decode cX11_reopen 2 = .ok (.putfield 47, 3) := by decide +kernel
theorem dX11_reopen_5 : decode cX11_reopen 5 = .ok (.aload_n 0, 1) := by decide +kernel
theorem dX11_reopen_6 : decode cX11_reopen 6 = .ok (.iload_n 1, 1) := by decide +kernel
theorem dX11_reopen_7 : decode cX11_reopen 7 = .ok (.invokevirtual 342, 3) := by decide +kernel
theorem dX11_reopen_10 : decode cX11_reopen 10 = .ok (.ifCond .ne 5, 3) := by decide +kernel
theorem dX11_reopen_13 : decode cX11_reopen 13 = .ok (.iconst 0, 1) := by decide +kernel
theorem dX11_reopen_14 : decode cX11_reopen 14 = .ok (.ireturn, 1) := by decide +kernel
theorem dX11_reopen_15 : decode cX11_reopen 15 = .ok (.aload_n 0, 1) := by decide +kernel
theorem dX11_reopen_16 : decode cX11_reopen 16 = .ok (.invokevirtual 333, 3) := by decide +kernel
theorem dX11_reopen_19 : decode cX11_reopen 19 = .ok (.aload_n 0, 1) := by decide +kernel
theorem dX11_reopen_20 : decode cX11_reopen 20 = .ok (.iload_n 1, 1) := by decide +kernel
theorem dX11_reopen_21 : decode cX11_reopen 21 = .ok (.iconst 1, 1) := by decide +kernel
theorem dX11_reopen_22 : decode cX11_reopen 22 = .ok (.invokevirtual 68, 3) := by decide +kernel
theorem dX11_reopen_25 : decode cX11_reopen 25 = .ok (.istore_n 2, 1) := by decide +kernel
theorem dX11_reopen_26 : decode cX11_reopen 26 = .ok (.aload_n 0, 1) := by decide +kernel
theorem dX11_reopen_27 : decode cX11_reopen 27 = .ok (.iload_n 1, 1) := by decide +kernel
theorem dX11_reopen_28 : decode cX11_reopen 28 = .ok (.iconst 1, 1) := by decide +kernel
theorem dX11_reopen_29 : decode cX11_reopen 29 = .ok (.iconst 0, 1) := by decide +kernel
theorem dX11_reopen_30 : decode cX11_reopen 30 = .ok (.invokevirtual 382, 3) := by decide +kernel
theorem dX11_reopen_33 : decode cX11_reopen 33 = .ok (.iconst 0, 1) := by decide +kernel
theorem dX11_reopen_34 : decode cX11_reopen 34 = .ok (.istore_n 3, 1) := by decide +kernel
theorem dX11_reopen_35 : decode cX11_reopen 35 = .ok (.iload_n 3, 1) := by decide +kernel
theorem dX11_reopen_36 : decode cX11_reopen 36 = .ok (.aload_n 0, 1) := by decide +kernel
theorem dX11_reopen_37 : decode cX11_reopen 37 = .ok (.iload_n 1, 1) := by decide +kernel
theorem dX11_reopen_38 : decode cX11_reopen 38 = .ok (.invokevirtual 75, 3) := by decide +kernel
theorem dX11_reopen_41 : decode cX11_reopen 41 = .ok (.if_icmp .ge 25, 3) := by decide +kernel
theorem dX11_reopen_44 : decode cX11_reopen 44 = .ok (.aload_n 0, 1) := by decide +kernel
theorem dX11_reopen_45 : decode cX11_reopen 45 = .ok (.iload_n 1, 1) := by decide +kernel
theorem dX11_reopen_46 : decode cX11_reopen 46 = .ok (.iload_n 3, 1) := by decide +kernel
theorem dX11_reopen_47 : decode cX11_reopen 47 = .ok (.iconst 3, 1) := by decide +kernel
theorem dX11_reopen_48 : decode cX11_reopen 48 = .ok (.iconst 0, 1) := by decide +kernel
theorem dX11_reopen_49 : decode cX11_reopen 49 = .ok (.invokevirtual 378, 3) := by decide +kernel
theorem dX11_reopen_52 : decode cX11_reopen 52 = .ok (.aload_n 0, 1) := by decide +kernel
theorem dX11_reopen_53 : decode cX11_reopen 53 = .ok (.iload_n 1, 1) := by decide +kernel
theorem dX11_reopen_54 : decode cX11_reopen 54 = .ok (.iload_n 3, 1) := by decide +kernel
theorem dX11_reopen_55 : decode cX11_reopen 55 = .ok (.iconst 2, 1) := by decide +kernel
theorem dX11_reopen_56 : decode cX11_reopen 56 = .ok (.iconst 0, 1) := by decide +kernel
theorem dX11_reopen_57 : decode cX11_reopen 57 = .ok (.invokevirtual 378, 3) := by decide +kernel
theorem dX11_reopen_60 : decode cX11_reopen 60 = .ok (.iinc 3 1, 3) := by decide +kernel
theorem dX11_reopen_63 : decode cX11_reopen 63 = .ok (.goto (-28), 3) := by decide +kernel
theorem dX11_reopen_66 : decode cX11_reopen 66 = .ok (.iload_n 2, 1) := by decide +kernel
theorem dX11_reopen_67 : decode cX11_reopen 67 = .ok (.ireturn, 1) := by decide +kernel
theorem dX11_undo_0 : decode cX11_undo 0 = .ok (.aload_n 0, 1) := by decide +kernel
theorem dX11_undo_1 : decode cX11_undo 1 = .ok (.iconst 0, 1) := by decide +kernel
theorem dX11_undo_2 : decode cX11_undo 2 = .ok (.putfield 47, 3) := by decide +kernel
theorem dX11_undo_5 : decode cX11_undo 5 = .ok (.aload_n 0, 1) := by decide +kernel
theorem dX11_undo_6 : decode cX11_undo 6 = .ok (.getfield 57, 3) := by decide +kernel
theorem dX11_undo_9 : decode cX11_undo 9 = .ok (.ifCond .ne 5, 3) := by decide +kernel
theorem dX11_undo_12 : decode cX11_undo 12 = .ok (.iconst (-1), 1) := by decide +kernel
theorem dX11_undo_13 : decode cX11_undo 13 = .ok (.ireturn, 1) := by decide +kernel
theorem dX11_undo_14 : decode cX11_undo 14 = .ok (.aload_n 0, 1) := by decide +kernel
theorem dX11_undo_15 : decode cX11_undo 15 = .ok (.dup, 1) := by decide +kernel
theorem dX11_undo_16 : decode cX11_undo 16 = .ok (.getfield 57, 3) := by decide +kernel
theorem dX11_undo_19 : decode cX11_undo 19 = .ok (.iconst 1, 1) := by decide +kernel
theorem dX11_undo_20 : decode cX11_undo 20 = .ok (.isub, 1) := by decide +kernel
theorem dX11_undo_21 : decode cX11_undo 21 = .ok (.putfield 57, 3) := by decide +kernel
theorem dX11_undo_24 : decode cX11_undo 24 = .ok (.aload_n 0, 1) := by decide +kernel
theorem dX11_undo_25 : decode cX11_undo 25 = .ok (.aload_n 0, 1) := by decide +kernel
theorem dX11_undo_26 : decode cX11_undo 26 = .ok (.getfield 50, 3) := by decide +kernel
theorem dX11_undo_29 : decode cX11_undo 29 = .ok (.bipush 9, 2) := by decide +kernel
theorem dX11_undo_31 : decode cX11_undo 31 = .ok (.iadd, 1) := by decide +kernel
theorem dX11_undo_32 : decode cX11_undo 32 = .ok (.iconst 1, 1) := by decide +kernel
theorem dX11_undo_33 : decode cX11_undo 33 = .ok (.isub, 1) := by decide +kernel
theorem dX11_undo_34 : decode cX11_undo 34 = .ok (.bipush 9, 2) := by decide +kernel
theorem dX11_undo_36 : decode cX11_undo 36 = .ok (.irem, 1) := by decide +kernel
theorem dX11_undo_37 : decode cX11_undo 37 = .ok (.putfield 50, 3) := by decide +kernel
theorem dX11_undo_40 : decode cX11_undo 40 = .ok (.aload_n 0, 1) := by decide +kernel
theorem dX11_undo_41 : decode cX11_undo 41 = .ok (.getfield 57, 3) := by decide +kernel
theorem dX11_undo_44 : decode cX11_undo 44 = .ok (.ireturn, 1) := by decide +kernel
theorem dX11_joins_0 : decode cX11_joins 0 = .ok (.ldc2_w 392, 3) := by decide +kernel
theorem dX11_joins_3 : decode cX11_joins 3 = .ok (.lload_n 0, 1) := by decide +kernel
theorem dX11_joins_4 : decode cX11_joins 4 = .ok (.lmul, 1) := by decide +kernel
theorem dX11_joins_5 : decode cX11_joins 5 = .ok (.lload_n 2, 1) := by decide +kernel
theorem dX11_joins_6 : decode cX11_joins 6 = .ok (.ladd, 1) := by decide +kernel
theorem dX11_joins_7 : decode cX11_joins 7 = .ok (.lreturn, 1) := by decide +kernel
theorem dX11_checksum_0 : decode cX11_checksum 0 = .ok (.aload_n 0, 1) := by decide +kernel
theorem dX11_checksum_1 : decode cX11_checksum 1 = .ok (.iconst 0, 1) := by decide +kernel
theorem dX11_checksum_2 : decode cX11_checksum 2 = .ok (.putfield 47, 3) := by decide +kernel
theorem dX11_checksum_5 : decode cX11_checksum 5 = .ok (.lconst 0, 1) := by decide +kernel
theorem dX11_checksum_6 : decode cX11_checksum 6 = .ok (.lstore_n 1, 1) := by decide +kernel
theorem dX11_checksum_7 : decode cX11_checksum 7 = .ok (.iconst 0, 1) := by decide +kernel
theorem dX11_checksum_8 : decode cX11_checksum 8 = .ok (.istore_n 3, 1) := by decide +kernel
theorem dX11_checksum_9 : decode cX11_checksum 9 = .ok (.iload_n 3, 1) := by decide +kernel
theorem dX11_checksum_10 : decode cX11_checksum 10 = .ok (.bipush 9, 2) := by decide +kernel
theorem dX11_checksum_12 : decode cX11_checksum 12 = .ok (.if_icmp .ge 20, 3) := by decide +kernel
theorem dX11_checksum_15 : decode cX11_checksum 15 = .ok (.lload_n 1, 1) := by decide +kernel
theorem dX11_checksum_16 : decode cX11_checksum 16 = .ok (.aload_n 0, 1) := by decide +kernel
theorem dX11_checksum_17 : decode cX11_checksum 17 = .ok (.iload_n 3, 1) := by decide +kernel
theorem dX11_checksum_18 : decode cX11_checksum 18 = .ok (.invokevirtual 339, 3) := by decide +kernel
theorem dX11_checksum_21 : decode cX11_checksum 21 = .ok (.i2l, 1) := by decide +kernel
theorem dX11_checksum_22 : decode cX11_checksum 22 = .ok (.invokestatic 394, 3) := by decide +kernel
theorem dX11_checksum_25 : decode cX11_checksum 25 = .ok (.lstore_n 1, 1) := by decide +kernel
theorem dX11_checksum_26 : decode cX11_checksum 26 = .ok (.iinc 3 1, 3) := by decide +kernel
theorem dX11_checksum_29 : decode cX11_checksum 29 = .ok (.goto (-20), 3) := by decide +kernel
theorem dX11_checksum_32 : decode cX11_checksum 32 = .ok (.iconst 0, 1) := by decide +kernel
theorem dX11_checksum_33 : decode cX11_checksum 33 = .ok (.istore_n 3, 1) := by decide +kernel
theorem dX11_checksum_34 : decode cX11_checksum 34 = .ok (.iload_n 3, 1) := by decide +kernel
theorem dX11_checksum_35 : decode cX11_checksum 35 = .ok (.bipush 8, 2) := by decide +kernel
theorem dX11_checksum_37 : decode cX11_checksum 37 = .ok (.if_icmp .ge 22, 3) := by decide +kernel
theorem dX11_checksum_40 : decode cX11_checksum 40 = .ok (.lload_n 1, 1) := by decide +kernel
theorem dX11_checksum_41 : decode cX11_checksum 41 = .ok (.aload_n 0, 1) := by decide +kernel
theorem dX11_checksum_42 : decode cX11_checksum 42 = .ok (.iconst 5, 1) := by decide +kernel
theorem dX11_checksum_43 : decode cX11_checksum 43 = .ok (.iload_n 3, 1) := by decide +kernel
theorem dX11_checksum_44 : decode cX11_checksum 44 = .ok (.iadd, 1) := by decide +kernel
theorem dX11_checksum_45 : decode cX11_checksum 45 = .ok (.invokevirtual 53, 3) := by decide +kernel
theorem dX11_checksum_48 : decode cX11_checksum 48 = .ok (.i2l, 1) := by decide +kernel
theorem dX11_checksum_49 : decode cX11_checksum 49 = .ok (.invokestatic 394, 3) := by decide +kernel
theorem dX11_checksum_52 : decode cX11_checksum 52 = .ok (.lstore_n 1, 1) := by decide +kernel
theorem dX11_checksum_53 : decode cX11_checksum 53 = .ok (.iinc 3 1, 3) := by decide +kernel
theorem dX11_checksum_56 : decode cX11_checksum 56 = .ok (.goto (-22), 3) := by decide +kernel
theorem dX11_checksum_59 : decode cX11_checksum 59 = .ok (.iconst 0, 1) := by decide +kernel
theorem dX11_checksum_60 : decode cX11_checksum 60 = .ok (.istore_n 3, 1) := by decide +kernel
theorem dX11_checksum_61 : decode cX11_checksum 61 = .ok (.iload_n 3, 1) := by decide +kernel
theorem dX11_checksum_62 : decode cX11_checksum 62 = .ok (.aload_n 0, 1) := by decide +kernel
theorem dX11_checksum_63 : decode cX11_checksum 63 = .ok (.iconst 0, 1) := by decide +kernel
theorem dX11_checksum_64 : decode cX11_checksum 64 = .ok (.invokevirtual 53, 3) := by decide +kernel
theorem dX11_checksum_67 : decode cX11_checksum 67 = .ok (.if_icmp .ge 99, 3) := by decide +kernel
theorem dX11_checksum_70 : decode cX11_checksum 70 = .ok (.iconst 0, 1) := by decide +kernel
theorem dX11_checksum_71 : decode cX11_checksum 71 = .ok (.istore 4, 2) := by decide +kernel
theorem dX11_checksum_73 : decode cX11_checksum 73 = .ok (.iload 4, 2) := by decide +kernel
theorem dX11_checksum_75 : decode cX11_checksum 75 = .ok (.bipush 8, 2) := by decide +kernel
theorem dX11_checksum_77 : decode cX11_checksum 77 = .ok (.if_icmp .ge 22, 3) := by decide +kernel
theorem dX11_checksum_80 : decode cX11_checksum 80 = .ok (.lload_n 1, 1) := by decide +kernel
theorem dX11_checksum_81 : decode cX11_checksum 81 = .ok (.aload_n 0, 1) := by decide +kernel
theorem dX11_checksum_82 : decode cX11_checksum 82 = .ok (.iload_n 3, 1) := by decide +kernel
theorem dX11_checksum_83 : decode cX11_checksum 83 = .ok (.iload 4, 2) := by decide +kernel
theorem dX11_checksum_85 : decode cX11_checksum 85 = .ok (.invokevirtual 354, 3) := by decide +kernel
theorem dX11_checksum_88 : decode cX11_checksum 88 = .ok (.i2l, 1) := by decide +kernel
theorem dX11_checksum_89 : decode cX11_checksum 89 = .ok (.invokestatic 394, 3) := by decide +kernel
theorem dX11_checksum_92 : decode cX11_checksum 92 = .ok (.lstore_n 1, 1) := by decide +kernel
theorem dX11_checksum_93 : decode cX11_checksum 93 = .ok (.iinc 4 1, 3) := by decide +kernel
theorem dX11_checksum_96 : decode cX11_checksum 96 = .ok (.goto (-23), 3) := by decide +kernel
theorem dX11_checksum_99 : decode cX11_checksum 99 = .ok (.lload_n 1, 1) := by decide +kernel
theorem dX11_checksum_100 : decode cX11_checksum 100 = .ok (.aload_n 0, 1) := by decide +kernel
theorem dX11_checksum_101 : decode cX11_checksum 101 = .ok (.iload_n 3, 1) := by decide +kernel
theorem dX11_checksum_102 : decode cX11_checksum 102 = .ok (.invokevirtual 366, 3) := by decide +kernel
theorem dX11_checksum_105 : decode cX11_checksum 105 = .ok (.i2l, 1) := by decide +kernel
theorem dX11_checksum_106 : decode cX11_checksum 106 = .ok (.invokestatic 394, 3) := by decide +kernel
theorem dX11_checksum_109 : decode cX11_checksum 109 = .ok (.lstore_n 1, 1) := by decide +kernel
theorem dX11_checksum_110 : decode cX11_checksum 110 = .ok (.iconst 0, 1) := by decide +kernel
theorem dX11_checksum_111 : decode cX11_checksum 111 = .ok (.istore 4, 2) := by decide +kernel
theorem dX11_checksum_113 : decode cX11_checksum 113 = .ok (.iload 4, 2) := by decide +kernel
theorem dX11_checksum_115 : decode cX11_checksum 115 = .ok (.aload_n 0, 1) := by decide +kernel
theorem dX11_checksum_116 : decode cX11_checksum 116 = .ok (.iload_n 3, 1) := by decide +kernel
theorem dX11_checksum_117 : decode cX11_checksum 117 = .ok (.invokevirtual 75, 3) := by decide +kernel
theorem dX11_checksum_120 : decode cX11_checksum 120 = .ok (.if_icmp .ge 40, 3) := by decide +kernel
theorem dX11_checksum_123 : decode cX11_checksum 123 = .ok (.iconst 0, 1) := by decide +kernel
theorem dX11_checksum_124 : decode cX11_checksum 124 = .ok (.istore 5, 2) := by decide +kernel
theorem dX11_checksum_126 : decode cX11_checksum 126 = .ok (.iload 5, 2) := by decide +kernel
theorem dX11_checksum_128 : decode cX11_checksum 128 = .ok (.bipush 6, 2) := by decide +kernel
theorem dX11_checksum_130 : decode cX11_checksum 130 = .ok (.if_icmp .ge 24, 3) := by decide +kernel
theorem dX11_checksum_133 : decode cX11_checksum 133 = .ok (.lload_n 1, 1) := by decide +kernel
theorem dX11_checksum_134 : decode cX11_checksum 134 = .ok (.aload_n 0, 1) := by decide +kernel
theorem dX11_checksum_135 : decode cX11_checksum 135 = .ok (.iload_n 3, 1) := by decide +kernel
theorem dX11_checksum_136 : decode cX11_checksum 136 = .ok (.iload 4, 2) := by decide +kernel
theorem dX11_checksum_138 : decode cX11_checksum 138 = .ok (.iload 5, 2) := by decide +kernel
theorem dX11_checksum_140 : decode cX11_checksum 140 = .ok (.invokevirtual 360, 3) := by decide +kernel
theorem dX11_checksum_143 : decode cX11_checksum 143 = .ok (.i2l, 1) := by decide +kernel
theorem dX11_checksum_144 : decode cX11_checksum 144 = .ok (.invokestatic 394, 3) := by decide +kernel
theorem dX11_checksum_147 : decode cX11_checksum 147 = .ok (.lstore_n 1, 1) := by decide +kernel
theorem dX11_checksum_148 : decode cX11_checksum 148 = .ok (.iinc 5 1, 3) := by decide +kernel
theorem dX11_checksum_151 : decode cX11_checksum 151 = .ok (.goto (-25), 3) := by decide +kernel
theorem dX11_checksum_154 : decode cX11_checksum 154 = .ok (.iinc 4 1, 3) := by decide +kernel
theorem dX11_checksum_157 : decode cX11_checksum 157 = .ok (.goto (-44), 3) := by decide +kernel
theorem dX11_checksum_160 : decode cX11_checksum 160 = .ok (.iinc 3 1, 3) := by decide +kernel
theorem dX11_checksum_163 : decode cX11_checksum 163 = .ok (.goto (-102), 3) := by decide +kernel
theorem dX11_checksum_166 : decode cX11_checksum 166 = .ok (.lload_n 1, 1) := by decide +kernel
theorem dX11_checksum_167 : decode cX11_checksum 167 = .ok (.lreturn, 1) := by decide +kernel
theorem dJ6_bitCount_0f7a4_0 : decode cJ6_bitCount_0f7a4 0 = .ok (.iload_n 0, 1) := by decide +kernel
theorem dJ6_bitCount_0f7a4_1 : decode cJ6_bitCount_0f7a4 1 = .ok (.iload_n 0, 1) := by decide +kernel
theorem dJ6_bitCount_0f7a4_2 : decode cJ6_bitCount_0f7a4 2 = .ok (.iconst 1, 1) := by decide +kernel
theorem dJ6_bitCount_0f7a4_3 : decode cJ6_bitCount_0f7a4 3 = .ok (.iushr, 1) := by decide +kernel
theorem dJ6_bitCount_0f7a4_4 : decode cJ6_bitCount_0f7a4 4 = .ok (.ldc_w 265, 3) := by decide +kernel
theorem dJ6_bitCount_0f7a4_7 : decode cJ6_bitCount_0f7a4 7 = .ok (.iand, 1) := by decide +kernel
theorem dJ6_bitCount_0f7a4_8 : decode cJ6_bitCount_0f7a4 8 = .ok (.isub, 1) := by decide +kernel
theorem dJ6_bitCount_0f7a4_9 : decode cJ6_bitCount_0f7a4 9 = .ok (.istore_n 0, 1) := by decide +kernel
theorem dJ6_bitCount_0f7a4_10 : decode cJ6_bitCount_0f7a4 10 = .ok (.iload_n 0, 1) := by decide +kernel
theorem dJ6_bitCount_0f7a4_11 : decode cJ6_bitCount_0f7a4 11 = .ok (.ldc_w 266, 3) := by decide +kernel
theorem dJ6_bitCount_0f7a4_14 : decode cJ6_bitCount_0f7a4 14 = .ok (.iand, 1) := by decide +kernel
theorem dJ6_bitCount_0f7a4_15 : decode cJ6_bitCount_0f7a4 15 = .ok (.iload_n 0, 1) := by decide +kernel
theorem dJ6_bitCount_0f7a4_16 : decode cJ6_bitCount_0f7a4 16 = .ok (.iconst 2, 1) := by decide +kernel
theorem dJ6_bitCount_0f7a4_17 : decode cJ6_bitCount_0f7a4 17 = .ok (.iushr, 1) := by decide +kernel
theorem dJ6_bitCount_0f7a4_18 : decode cJ6_bitCount_0f7a4 18 = .ok (.ldc_w 266, 3) := by decide +kernel
theorem dJ6_bitCount_0f7a4_21 : decode cJ6_bitCount_0f7a4 21 = .ok (.iand, 1) := by decide +kernel
theorem dJ6_bitCount_0f7a4_22 : decode cJ6_bitCount_0f7a4 22 = .ok (.iadd, 1) := by decide +kernel
theorem dJ6_bitCount_0f7a4_23 : decode cJ6_bitCount_0f7a4 23 = .ok (.istore_n 0, 1) := by decide +kernel
theorem dJ6_bitCount_0f7a4_24 : decode cJ6_bitCount_0f7a4 24 = .ok (.iload_n 0, 1) := by decide +kernel
theorem dJ6_bitCount_0f7a4_25 : decode cJ6_bitCount_0f7a4 25 = .ok (.iload_n 0, 1) := by decide +kernel
theorem dJ6_bitCount_0f7a4_26 : decode cJ6_bitCount_0f7a4 26 = .ok (.iconst 4, 1) := by decide +kernel
theorem dJ6_bitCount_0f7a4_27 : decode cJ6_bitCount_0f7a4 27 = .ok (.iushr, 1) := by decide +kernel
theorem dJ6_bitCount_0f7a4_28 : decode cJ6_bitCount_0f7a4 28 = .ok (.iadd, 1) := by decide +kernel
theorem dJ6_bitCount_0f7a4_29 : decode cJ6_bitCount_0f7a4 29 = .ok (.ldc_w 267, 3) := by decide +kernel
theorem dJ6_bitCount_0f7a4_32 : decode cJ6_bitCount_0f7a4 32 = .ok (.iand, 1) := by decide +kernel
theorem dJ6_bitCount_0f7a4_33 : decode cJ6_bitCount_0f7a4 33 = .ok (.istore_n 0, 1) := by decide +kernel
theorem dJ6_bitCount_0f7a4_34 : decode cJ6_bitCount_0f7a4 34 = .ok (.iload_n 0, 1) := by decide +kernel
theorem dJ6_bitCount_0f7a4_35 : decode cJ6_bitCount_0f7a4 35 = .ok (.iload_n 0, 1) := by decide +kernel
theorem dJ6_bitCount_0f7a4_36 : decode cJ6_bitCount_0f7a4 36 = .ok (.bipush 8, 2) := by decide +kernel
theorem dJ6_bitCount_0f7a4_38 : decode cJ6_bitCount_0f7a4 38 = .ok (.iushr, 1) := by decide +kernel
theorem dJ6_bitCount_0f7a4_39 : decode cJ6_bitCount_0f7a4 39 = .ok (.iadd, 1) := by decide +kernel
theorem dJ6_bitCount_0f7a4_40 : decode cJ6_bitCount_0f7a4 40 = .ok (.istore_n 0, 1) := by decide +kernel
theorem dJ6_bitCount_0f7a4_41 : decode cJ6_bitCount_0f7a4 41 = .ok (.iload_n 0, 1) := by decide +kernel
theorem dJ6_bitCount_0f7a4_42 : decode cJ6_bitCount_0f7a4 42 = .ok (.iload_n 0, 1) := by decide +kernel
theorem dJ6_bitCount_0f7a4_43 : decode cJ6_bitCount_0f7a4 43 = .ok (.bipush 16, 2) := by decide +kernel
theorem dJ6_bitCount_0f7a4_45 : decode cJ6_bitCount_0f7a4 45 = .ok (.iushr, 1) := by decide +kernel
theorem dJ6_bitCount_0f7a4_46 : decode cJ6_bitCount_0f7a4 46 = .ok (.iadd, 1) := by decide +kernel
theorem dJ6_bitCount_0f7a4_47 : decode cJ6_bitCount_0f7a4 47 = .ok (.istore_n 0, 1) := by decide +kernel
theorem dJ6_bitCount_0f7a4_48 : decode cJ6_bitCount_0f7a4 48 = .ok (.iload_n 0, 1) := by decide +kernel
theorem dJ6_bitCount_0f7a4_49 : decode cJ6_bitCount_0f7a4 49 = .ok (.bipush 63, 2) := by decide +kernel
theorem dJ6_bitCount_0f7a4_51 : decode cJ6_bitCount_0f7a4 51 = .ok (.iand, 1) := by decide +kernel
theorem dJ6_bitCount_0f7a4_52 : decode cJ6_bitCount_0f7a4 52 = .ok (.ireturn, 1) := by decide +kernel
theorem dJ13_bitCount_95d88_0 : decode cJ13_bitCount_95d88 0 = .ok (.lload_n 0, 1) := by decide +kernel
theorem dJ13_bitCount_95d88_1 : decode cJ13_bitCount_95d88 1 = .ok (.lload_n 0, 1) := by decide +kernel
theorem dJ13_bitCount_95d88_2 : decode cJ13_bitCount_95d88 2 = .ok (.iconst 1, 1) := by decide +kernel
theorem dJ13_bitCount_95d88_3 : decode cJ13_bitCount_95d88 3 = .ok (.lushr, 1) := by decide +kernel
theorem dJ13_bitCount_95d88_4 : decode cJ13_bitCount_95d88 4 = .ok (.ldc2_w 314, 3) := by decide +kernel
theorem dJ13_bitCount_95d88_7 : decode cJ13_bitCount_95d88 7 = .ok (.land, 1) := by decide +kernel
theorem dJ13_bitCount_95d88_8 : decode cJ13_bitCount_95d88 8 = .ok (.lsub, 1) := by decide +kernel
theorem dJ13_bitCount_95d88_9 : decode cJ13_bitCount_95d88 9 = .ok (.lstore_n 0, 1) := by decide +kernel
theorem dJ13_bitCount_95d88_10 : decode cJ13_bitCount_95d88 10 = .ok (.lload_n 0, 1) := by decide +kernel
theorem dJ13_bitCount_95d88_11 : decode cJ13_bitCount_95d88 11 = .ok (.ldc2_w 316, 3) := by decide +kernel
theorem dJ13_bitCount_95d88_14 : decode cJ13_bitCount_95d88 14 = .ok (.land, 1) := by decide +kernel
theorem dJ13_bitCount_95d88_15 : decode cJ13_bitCount_95d88 15 = .ok (.lload_n 0, 1) := by decide +kernel
theorem dJ13_bitCount_95d88_16 : decode cJ13_bitCount_95d88 16 = .ok (.iconst 2, 1) := by decide +kernel
theorem dJ13_bitCount_95d88_17 : decode cJ13_bitCount_95d88 17 = .ok (.lushr, 1) := by decide +kernel
theorem dJ13_bitCount_95d88_18 : decode cJ13_bitCount_95d88 18 = .ok (.ldc2_w 316, 3) := by decide +kernel
theorem dJ13_bitCount_95d88_21 : decode cJ13_bitCount_95d88 21 = .ok (.land, 1) := by decide +kernel
theorem dJ13_bitCount_95d88_22 : decode cJ13_bitCount_95d88 22 = .ok (.ladd, 1) := by decide +kernel
theorem dJ13_bitCount_95d88_23 : decode cJ13_bitCount_95d88 23 = .ok (.lstore_n 0, 1) := by decide +kernel
theorem dJ13_bitCount_95d88_24 : decode cJ13_bitCount_95d88 24 = .ok (.lload_n 0, 1) := by decide +kernel
theorem dJ13_bitCount_95d88_25 : decode cJ13_bitCount_95d88 25 = .ok (.lload_n 0, 1) := by decide +kernel
theorem dJ13_bitCount_95d88_26 : decode cJ13_bitCount_95d88 26 = .ok (.iconst 4, 1) := by decide +kernel
theorem dJ13_bitCount_95d88_27 : decode cJ13_bitCount_95d88 27 = .ok (.lushr, 1) := by decide +kernel
theorem dJ13_bitCount_95d88_28 : decode cJ13_bitCount_95d88 28 = .ok (.ladd, 1) := by decide +kernel
theorem dJ13_bitCount_95d88_29 : decode cJ13_bitCount_95d88 29 = .ok (.ldc2_w 318, 3) := by decide +kernel
theorem dJ13_bitCount_95d88_32 : decode cJ13_bitCount_95d88 32 = .ok (.land, 1) := by decide +kernel
theorem dJ13_bitCount_95d88_33 : decode cJ13_bitCount_95d88 33 = .ok (.lstore_n 0, 1) := by decide +kernel
theorem dJ13_bitCount_95d88_34 : decode cJ13_bitCount_95d88 34 = .ok (.lload_n 0, 1) := by decide +kernel
theorem dJ13_bitCount_95d88_35 : decode cJ13_bitCount_95d88 35 = .ok (.lload_n 0, 1) := by decide +kernel
theorem dJ13_bitCount_95d88_36 : decode cJ13_bitCount_95d88 36 = .ok (.bipush 8, 2) := by decide +kernel
theorem dJ13_bitCount_95d88_38 : decode cJ13_bitCount_95d88 38 = .ok (.lushr, 1) := by decide +kernel
theorem dJ13_bitCount_95d88_39 : decode cJ13_bitCount_95d88 39 = .ok (.ladd, 1) := by decide +kernel
theorem dJ13_bitCount_95d88_40 : decode cJ13_bitCount_95d88 40 = .ok (.lstore_n 0, 1) := by decide +kernel
theorem dJ13_bitCount_95d88_41 : decode cJ13_bitCount_95d88 41 = .ok (.lload_n 0, 1) := by decide +kernel
theorem dJ13_bitCount_95d88_42 : decode cJ13_bitCount_95d88 42 = .ok (.lload_n 0, 1) := by decide +kernel
theorem dJ13_bitCount_95d88_43 : decode cJ13_bitCount_95d88 43 = .ok (.bipush 16, 2) := by decide +kernel
theorem dJ13_bitCount_95d88_45 : decode cJ13_bitCount_95d88 45 = .ok (.lushr, 1) := by decide +kernel
theorem dJ13_bitCount_95d88_46 : decode cJ13_bitCount_95d88 46 = .ok (.ladd, 1) := by decide +kernel
theorem dJ13_bitCount_95d88_47 : decode cJ13_bitCount_95d88 47 = .ok (.lstore_n 0, 1) := by decide +kernel
theorem dJ13_bitCount_95d88_48 : decode cJ13_bitCount_95d88 48 = .ok (.lload_n 0, 1) := by decide +kernel
theorem dJ13_bitCount_95d88_49 : decode cJ13_bitCount_95d88 49 = .ok (.lload_n 0, 1) := by decide +kernel
theorem dJ13_bitCount_95d88_50 : decode cJ13_bitCount_95d88 50 = .ok (.bipush 32, 2) := by decide +kernel
theorem dJ13_bitCount_95d88_52 : decode cJ13_bitCount_95d88 52 = .ok (.lushr, 1) := by decide +kernel
theorem dJ13_bitCount_95d88_53 : decode cJ13_bitCount_95d88 53 = .ok (.ladd, 1) := by decide +kernel
theorem dJ13_bitCount_95d88_54 : decode cJ13_bitCount_95d88 54 = .ok (.lstore_n 0, 1) := by decide +kernel
theorem dJ13_bitCount_95d88_55 : decode cJ13_bitCount_95d88 55 = .ok (.lload_n 0, 1) := by decide +kernel
theorem dJ13_bitCount_95d88_56 : decode cJ13_bitCount_95d88 56 = .ok (.l2i, 1) := by decide +kernel
theorem dJ13_bitCount_95d88_57 : decode cJ13_bitCount_95d88 57 = .ok (.bipush 127, 2) := by decide +kernel
theorem dJ13_bitCount_95d88_59 : decode cJ13_bitCount_95d88 59 = .ok (.iand, 1) := by decide +kernel
theorem dJ13_bitCount_95d88_60 : decode cJ13_bitCount_95d88 60 = .ok (.ireturn, 1) := by decide +kernel
theorem dJ9_max_7cf53_0 : decode cJ9_max_7cf53 0 = .ok (.iload_n 0, 1) := by decide +kernel
theorem dJ9_max_7cf53_1 : decode cJ9_max_7cf53 1 = .ok (.iload_n 1, 1) := by decide +kernel
theorem dJ9_max_7cf53_2 : decode cJ9_max_7cf53 2 = .ok (.if_icmp .lt 7, 3) := by decide +kernel
theorem dJ9_max_7cf53_5 : decode cJ9_max_7cf53 5 = .ok (.iload_n 0, 1) := by decide +kernel
theorem dJ9_max_7cf53_6 : decode cJ9_max_7cf53 6 = .ok (.goto 4, 3) := by decide +kernel
theorem dJ9_max_7cf53_9 : decode cJ9_max_7cf53 9 = .ok (.iload_n 1, 1) := by decide +kernel
theorem dJ9_max_7cf53_10 : decode cJ9_max_7cf53 10 = .ok (.ireturn, 1) := by decide +kernel
theorem dJ9_max_f86c9_0 : decode cJ9_max_f86c9 0 = .ok (.lload_n 0, 1) := by decide +kernel
theorem dJ9_max_f86c9_1 : decode cJ9_max_f86c9 1 = .ok (.lload_n 2, 1) := by decide +kernel
theorem dJ9_max_f86c9_2 : decode cJ9_max_f86c9 2 = .ok (.lcmp, 1) := by decide +kernel
theorem dJ9_max_f86c9_3 : decode cJ9_max_f86c9 3 = .ok (.ifCond .lt 7, 3) := by decide +kernel
theorem dJ9_max_f86c9_6 : decode cJ9_max_f86c9 6 = .ok (.lload_n 0, 1) := by decide +kernel
theorem dJ9_max_f86c9_7 : decode cJ9_max_f86c9 7 = .ok (.goto 4, 3) := by decide +kernel
theorem dJ9_max_f86c9_10 : decode cJ9_max_f86c9 10 = .ok (.lload_n 2, 1) := by decide +kernel
theorem dJ9_max_f86c9_11 : decode cJ9_max_f86c9 11 = .ok (.lreturn, 1) := by decide +kernel
theorem dJ9_min_7cf53_0 : decode cJ9_min_7cf53 0 = .ok (.iload_n 0, 1) := by decide +kernel
theorem dJ9_min_7cf53_1 : decode cJ9_min_7cf53 1 = .ok (.iload_n 1, 1) := by decide +kernel
theorem dJ9_min_7cf53_2 : decode cJ9_min_7cf53 2 = .ok (.if_icmp .gt 7, 3) := by decide +kernel
theorem dJ9_min_7cf53_5 : decode cJ9_min_7cf53 5 = .ok (.iload_n 0, 1) := by decide +kernel
theorem dJ9_min_7cf53_6 : decode cJ9_min_7cf53 6 = .ok (.goto 4, 3) := by decide +kernel
theorem dJ9_min_7cf53_9 : decode cJ9_min_7cf53 9 = .ok (.iload_n 1, 1) := by decide +kernel
theorem dJ9_min_7cf53_10 : decode cJ9_min_7cf53 10 = .ok (.ireturn, 1) := by decide +kernel
theorem dJ9_min_f86c9_0 : decode cJ9_min_f86c9 0 = .ok (.lload_n 0, 1) := by decide +kernel
theorem dJ9_min_f86c9_1 : decode cJ9_min_f86c9 1 = .ok (.lload_n 2, 1) := by decide +kernel
theorem dJ9_min_f86c9_2 : decode cJ9_min_f86c9 2 = .ok (.lcmp, 1) := by decide +kernel
theorem dJ9_min_f86c9_3 : decode cJ9_min_f86c9 3 = .ok (.ifCond .gt 7, 3) := by decide +kernel
theorem dJ9_min_f86c9_6 : decode cJ9_min_f86c9 6 = .ok (.lload_n 0, 1) := by decide +kernel
theorem dJ9_min_f86c9_7 : decode cJ9_min_f86c9 7 = .ok (.goto 4, 3) := by decide +kernel
theorem dJ9_min_f86c9_10 : decode cJ9_min_f86c9 10 = .ok (.lload_n 2, 1) := by decide +kernel
theorem dJ9_min_f86c9_11 : decode cJ9_min_f86c9 11 = .ok (.lreturn, 1) := by decide +kernel
theorem dJ0_length_8abf5_0 : decode cJ0_length_8abf5 0 = .ok (.aload_n 0, 1) := by decide +kernel
theorem dJ0_length_8abf5_1 : decode cJ0_length_8abf5 1 = .ok (.getfield 9, 3) := by decide +kernel
theorem dJ0_length_8abf5_4 : decode cJ0_length_8abf5 4 = .ok (.arraylength, 1) := by decide +kernel
theorem dJ0_length_8abf5_5 : decode cJ0_length_8abf5 5 = .ok (.aload_n 0, 1) := by decide +kernel
theorem dJ0_length_8abf5_6 : decode cJ0_length_8abf5 6 = .ok (.invokevirtual 335, 3) := by decide +kernel
theorem dJ0_length_8abf5_9 : decode cJ0_length_8abf5 9 = .ok (.ishr, 1) := by decide +kernel
theorem dJ0_length_8abf5_10 : decode cJ0_length_8abf5 10 = .ok (.ireturn, 1) := by decide +kernel
theorem dJ0_charAt_5068e_0 : decode cJ0_charAt_5068e 0 = .ok (.aload_n 0, 1) := by decide +kernel
theorem dJ0_charAt_5068e_1 : decode cJ0_charAt_5068e 1 = .ok (.invokevirtual 492, 3) := by decide +kernel
theorem dJ0_charAt_5068e_4 : decode cJ0_charAt_5068e 4 = .ok (.ifCond .eq 12, 3) := by decide +kernel
theorem dJ0_charAt_5068e_7 : decode cJ0_charAt_5068e 7 = .ok (.aload_n 0, 1) := by decide +kernel
theorem dJ0_charAt_5068e_8 : decode cJ0_charAt_5068e 8 = .ok (.getfield 9, 3) := by decide +kernel
theorem dJ0_charAt_5068e_11 : decode cJ0_charAt_5068e 11 = .ok (.iload_n 1, 1) := by decide +kernel
theorem dJ0_charAt_5068e_12 : decode cJ0_charAt_5068e 12 = .ok (.invokestatic 495, 3) := by decide +kernel
theorem dJ0_charAt_5068e_15 : decode cJ0_charAt_5068e 15 = .ok (.ireturn, 1) := by decide +kernel
theorem dJ0_charAt_5068e_16 : decode cJ0_charAt_5068e 16 = .ok (.aload_n 0, 1) := by decide +kernel
theorem dJ0_charAt_5068e_17 : decode cJ0_charAt_5068e 17 = .ok (.getfield 9, 3) := by decide +kernel
theorem dJ0_charAt_5068e_20 : decode cJ0_charAt_5068e 20 = .ok (.iload_n 1, 1) := by decide +kernel
theorem dJ0_charAt_5068e_21 : decode cJ0_charAt_5068e 21 = .ok (.invokestatic 498, 3) := by decide +kernel
theorem dJ0_charAt_5068e_24 : decode cJ0_charAt_5068e 24 = .ok (.ireturn, 1) := by decide +kernel
theorem dJ0_coder_7d493_0 : decode cJ0_coder_7d493 0 = .ok (.getstatic 38, 3) := by decide +kernel
theorem dJ0_coder_7d493_3 : decode cJ0_coder_7d493 3 = .ok (.ifCond .eq 10, 3) := by decide +kernel
theorem dJ0_coder_7d493_6 : decode cJ0_coder_7d493 6 = .ok (.aload_n 0, 1) := by decide +kernel
theorem dJ0_coder_7d493_7 : decode cJ0_coder_7d493 7 = .ok (.getfield 15, 3) := by decide +kernel
theorem dJ0_coder_7d493_10 : decode cJ0_coder_7d493 10 = .ok (.goto 4, 3) := by decide +kernel
theorem dJ0_coder_7d493_13 : decode cJ0_coder_7d493 13 = .ok (.iconst 1, 1) := by decide +kernel
theorem dJ0_coder_7d493_14 : decode cJ0_coder_7d493 14 = .ok (.ireturn, 1) := by decide +kernel
theorem dJ0_isLatin1_aae02_0 : decode cJ0_isLatin1_aae02 0 = .ok (.getstatic 38, 3) := by decide +kernel
theorem dJ0_isLatin1_aae02_3 : decode cJ0_isLatin1_aae02 3 = .ok (.ifCond .eq 14, 3) := by decide +kernel
theorem dJ0_isLatin1_aae02_6 : decode cJ0_isLatin1_aae02 6 = .ok (.aload_n 0, 1) := by decide +kernel
theorem dJ0_isLatin1_aae02_7 : decode cJ0_isLatin1_aae02 7 = .ok (.getfield 15, 3) := by decide +kernel
theorem dJ0_isLatin1_aae02_10 : decode cJ0_isLatin1_aae02 10 = .ok (.ifCond .ne 7, 3) := by decide +kernel
theorem dJ0_isLatin1_aae02_13 : decode cJ0_isLatin1_aae02 13 = .ok (.iconst 1, 1) := by decide +kernel
theorem dJ0_isLatin1_aae02_14 : decode cJ0_isLatin1_aae02 14 = .ok (.goto 4, 3) := by decide +kernel
theorem dJ0_isLatin1_aae02_17 : decode cJ0_isLatin1_aae02 17 = .ok (.iconst 0, 1) := by decide +kernel
theorem dJ0_isLatin1_aae02_18 : decode cJ0_isLatin1_aae02 18 = .ok (.ireturn, 1) := by decide +kernel
theorem dJ0_checkIndex_df160_0 : decode cJ0_checkIndex_df160 0 = .ok (.iload_n 0, 1) := by decide +kernel
theorem dJ0_checkIndex_df160_1 : decode cJ0_checkIndex_df160 1 = .ok (.iload_n 1, 1) := by decide +kernel
theorem dJ0_checkIndex_df160_2 : decode cJ0_checkIndex_df160 2 = .ok (.getstatic 1053, 3) := by decide +kernel
theorem dJ0_checkIndex_df160_5 : decode cJ0_checkIndex_df160 5 = .ok (.invokestatic 1059, 3) := by decide +kernel
theorem dJ0_checkIndex_df160_8 : decode cJ0_checkIndex_df160 8 = .ok (.pop, 1) := by decide +kernel
theorem dJ0_checkIndex_df160_9 : decode cJ0_checkIndex_df160 9 = .ok (.return_, 1) := by decide +kernel
theorem dJ1_charAt_3b067_0 : decode cJ1_charAt_3b067 0 = .ok (.iload_n 1, 1) := by decide +kernel
theorem dJ1_charAt_3b067_1 : decode cJ1_charAt_3b067 1 = .ok (.aload_n 0, 1) := by decide +kernel
theorem dJ1_charAt_3b067_2 : decode cJ1_charAt_3b067 2 = .ok (.arraylength, 1) := by decide +kernel
theorem dJ1_charAt_3b067_3 : decode cJ1_charAt_3b067 3 = .ok (.invokestatic 9, 3) := by decide +kernel
theorem dJ1_charAt_3b067_6 : decode cJ1_charAt_3b067 6 = .ok (.aload_n 0, 1) := by decide +kernel
theorem dJ1_charAt_3b067_7 : decode cJ1_charAt_3b067 7 = .ok (.iload_n 1, 1) := by decide +kernel
theorem dJ1_charAt_3b067_8 : decode cJ1_charAt_3b067 8 = .ok (.baload, 1) := by decide +kernel
theorem dJ1_charAt_3b067_9 : decode cJ1_charAt_3b067 9 = .ok (.sipush 255, 3) := by decide +kernel
theorem dJ1_charAt_3b067_12 : decode cJ1_charAt_3b067 12 = .ok (.iand, 1) := by decide +kernel
theorem dJ1_charAt_3b067_13 : decode cJ1_charAt_3b067 13 = .ok (.i2c, 1) := by decide +kernel
theorem dJ1_charAt_3b067_14 : decode cJ1_charAt_3b067 14 = .ok (.ireturn, 1) := by decide +kernel
theorem dJ2_getChar_3b067_0 : decode cJ2_getChar_3b067 0 = .ok (.getstatic 44, 3) := by decide +kernel
theorem dJ2_getChar_3b067_3 : decode cJ2_getChar_3b067 3 = .ok (.ifCond .ne 25, 3) := by decide +kernel
theorem dJ2_getChar_3b067_6 : decode cJ2_getChar_3b067 6 = .ok (.iload_n 1, 1) := by decide +kernel
theorem dJ2_getChar_3b067_7 : decode cJ2_getChar_3b067 7 = .ok (.ifCond .lt 11, 3) := by decide +kernel
theorem dJ2_getChar_3b067_10 : decode cJ2_getChar_3b067 10 = .ok (.iload_n 1, 1) := by decide +kernel
theorem dJ2_getChar_3b067_11 : decode cJ2_getChar_3b067 11 = .ok (.aload_n 0, 1) := by decide +kernel
theorem dJ2_getChar_3b067_12 : decode cJ2_getChar_3b067 12 = .ok (.invokestatic 48, 3) := by decide +kernel
theorem dJ2_getChar_3b067_15 : decode cJ2_getChar_3b067 15 = .ok (.if_icmp .lt 13, 3) := by decide +kernel
theorem dJ2_getChar_3b067_18 : decode cJ2_getChar_3b067 18 = .ok (.new 52, 3) := by decide +kernel
theorem dJ2_getChar_3b067_21 : decode cJ2_getChar_3b067 21 = .ok (.dup, 1) := by decide +kernel
theorem dJ2_getChar_3b067_22 : decode cJ2_getChar_3b067 22 = .ok (.ldc 54, 2) := by decide +kernel
theorem dJ2_getChar_3b067_24 : decode cJ2_getChar_3b067 24 = .ok (.invokespecial 56, 3) := by decide +kernel
theorem dJ2_getChar_3b067_27 : decode cJ2_getChar_3b067 27 = .ok (.athrow, 1) := by decide +kernel
theorem dJ2_getChar_3b067_28 : decode cJ2_getChar_3b067 28 = .ok (.iload_n 1, 1) := by decide +kernel
theorem dJ2_getChar_3b067_29 : decode cJ2_getChar_3b067 29 = .ok (.iconst 1, 1) := by decide +kernel
theorem dJ2_getChar_3b067_30 : decode cJ2_getChar_3b067 30 = .ok (.ishl, 1) := by decide +kernel
theorem dJ2_getChar_3b067_31 : decode cJ2_getChar_3b067 31 = .ok (.istore_n 1, 1) := by decide +kernel
theorem dJ2_getChar_3b067_32 : decode cJ2_getChar_3b067 32 = .ok (.aload_n 0, 1) := by decide +kernel
theorem dJ2_getChar_3b067_33 : decode cJ2_getChar_3b067 33 = .ok (.iload_n 1, 1) := by decide +kernel
theorem dJ2_getChar_3b067_34 : decode cJ2_getChar_3b067 34 = .ok (.iinc 1 1, 3) := by decide +kernel
theorem dJ2_getChar_3b067_37 : decode cJ2_getChar_3b067 37 = .ok (.baload, 1) := by decide +kernel
theorem dJ2_getChar_3b067_38 : decode cJ2_getChar_3b067 38 = .ok (.sipush 255, 3) := by decide +kernel
theorem dJ2_getChar_3b067_41 : decode cJ2_getChar_3b067 41 = .ok (.iand, 1) := by decide +kernel
theorem dJ2_getChar_3b067_42 : decode cJ2_getChar_3b067 42 = .ok (.getstatic 59, 3) := by decide +kernel
theorem dJ2_getChar_3b067_45 : decode cJ2_getChar_3b067 45 = .ok (.ishl, 1) := by decide +kernel
theorem dJ2_getChar_3b067_46 : decode cJ2_getChar_3b067 46 = .ok (.aload_n 0, 1) := by decide +kernel
theorem dJ2_getChar_3b067_47 : decode cJ2_getChar_3b067 47 = .ok (.iload_n 1, 1) := by decide +kernel
theorem dJ2_getChar_3b067_48 : decode cJ2_getChar_3b067 48 = .ok (.baload, 1) := by decide +kernel
theorem dJ2_getChar_3b067_49 : decode cJ2_getChar_3b067 49 = .ok (.sipush 255, 3) := by decide +kernel
theorem dJ2_getChar_3b067_52 : decode cJ2_getChar_3b067 52 = .ok (.iand, 1) := by decide +kernel
theorem dJ2_getChar_3b067_53 : decode cJ2_getChar_3b067 53 = .ok (.getstatic 63, 3) := by decide +kernel
theorem dJ2_getChar_3b067_56 : decode cJ2_getChar_3b067 56 = .ok (.ishl, 1) := by decide +kernel
theorem dJ2_getChar_3b067_57 : decode cJ2_getChar_3b067 57 = .ok (.ior, 1) := by decide +kernel
theorem dJ2_getChar_3b067_58 : decode cJ2_getChar_3b067 58 = .ok (.i2c, 1) := by decide +kernel
theorem dJ2_getChar_3b067_59 : decode cJ2_getChar_3b067 59 = .ok (.ireturn, 1) := by decide +kernel
theorem dJ2_length_9d52b_0 : decode cJ2_length_9d52b 0 = .ok (.aload_n 0, 1) := by decide +kernel
theorem dJ2_length_9d52b_1 : decode cJ2_length_9d52b 1 = .ok (.arraylength, 1) := by decide +kernel
theorem dJ2_length_9d52b_2 : decode cJ2_length_9d52b 2 = .ok (.iconst 1, 1) := by decide +kernel
theorem dJ2_length_9d52b_3 : decode cJ2_length_9d52b 3 = .ok (.ishr, 1) := by decide +kernel
theorem dJ2_length_9d52b_4 : decode cJ2_length_9d52b 4 = .ok (.ireturn, 1) := by decide +kernel
theorem dJ2_charAt_3b067_0 : decode cJ2_charAt_3b067 0 = .ok (.iload_n 1, 1) := by decide +kernel
theorem dJ2_charAt_3b067_1 : decode cJ2_charAt_3b067 1 = .ok (.aload_n 0, 1) := by decide +kernel
theorem dJ2_charAt_3b067_2 : decode cJ2_charAt_3b067 2 = .ok (.invokestatic 67, 3) := by decide +kernel
theorem dJ2_charAt_3b067_5 : decode cJ2_charAt_3b067 5 = .ok (.aload_n 0, 1) := by decide +kernel
theorem dJ2_charAt_3b067_6 : decode cJ2_charAt_3b067 6 = .ok (.iload_n 1, 1) := by decide +kernel
theorem dJ2_charAt_3b067_7 : decode cJ2_charAt_3b067 7 = .ok (.invokestatic 71, 3) := by decide +kernel
theorem dJ2_charAt_3b067_10 : decode cJ2_charAt_3b067 10 = .ok (.ireturn, 1) := by decide +kernel
theorem dJ2_checkIndex_2214a_0 : decode cJ2_checkIndex_2214a 0 = .ok (.iload_n 0, 1) := by decide +kernel
theorem dJ2_checkIndex_2214a_1 : decode cJ2_checkIndex_2214a 1 = .ok (.aload_n 1, 1) := by decide +kernel
theorem dJ2_checkIndex_2214a_2 : decode cJ2_checkIndex_2214a 2 = .ok (.invokestatic 48, 3) := by decide +kernel
theorem dJ2_checkIndex_2214a_5 : decode cJ2_checkIndex_2214a 5 = .ok (.invokestatic 414, 3) := by decide +kernel
theorem dJ2_checkIndex_2214a_8 : decode cJ2_checkIndex_2214a 8 = .ok (.return_, 1) := by decide +kernel
theorem dJ7_fill_53178_0 : decode cJ7_fill_53178 0 = .ok (.iconst 0, 1) := by decide +kernel
theorem dJ7_fill_53178_1 : decode cJ7_fill_53178 1 = .ok (.istore_n 2, 1) := by decide +kernel
theorem dJ7_fill_53178_2 : decode cJ7_fill_53178 2 = .ok (.aload_n 0, 1) := by decide +kernel
theorem dJ7_fill_53178_3 : decode cJ7_fill_53178 3 = .ok (.arraylength, 1) := by decide +kernel
theorem dJ7_fill_53178_4 : decode cJ7_fill_53178 4 = .ok (.istore_n 3, 1) := by decide +kernel
theorem dJ7_fill_53178_5 : decode cJ7_fill_53178 5 = .ok (.iload_n 2, 1) := by decide +kernel
theorem dJ7_fill_53178_6 : decode cJ7_fill_53178 6 = .ok (.iload_n 3, 1) := by decide +kernel
theorem dJ7_fill_53178_7 : decode cJ7_fill_53178 7 = .ok (.if_icmp .ge 13, 3) := by decide +kernel
theorem dJ7_fill_53178_10 : decode cJ7_fill_53178 10 = .ok (.aload_n 0, 1) := by decide +kernel
theorem dJ7_fill_53178_11 : decode cJ7_fill_53178 11 = .ok (.iload_n 2, 1) := by decide +kernel
theorem dJ7_fill_53178_12 : decode cJ7_fill_53178 12 = .ok (.iload_n 1, 1) := by decide +kernel
theorem dJ7_fill_53178_13 : decode cJ7_fill_53178 13 = .ok (.iastore, 1) := by decide +kernel
theorem dJ7_fill_53178_14 : decode cJ7_fill_53178 14 = .ok (.iinc 2 1, 3) := by decide +kernel
theorem dJ7_fill_53178_17 : decode cJ7_fill_53178 17 = .ok (.goto (-12), 3) := by decide +kernel
theorem dJ7_fill_53178_20 : decode cJ7_fill_53178 20 = .ok (.return_, 1) := by decide +kernel
theorem dJ3_checkIndex_8e157_0 : decode cJ3_checkIndex_8e157 0 = .ok (.iload_n 0, 1) := by decide +kernel
theorem dJ3_checkIndex_8e157_1 : decode cJ3_checkIndex_8e157 1 = .ok (.ifCond .lt 8, 3) := by decide +kernel
theorem dJ3_checkIndex_8e157_4 : decode cJ3_checkIndex_8e157 4 = .ok (.iload_n 0, 1) := by decide +kernel
theorem dJ3_checkIndex_8e157_5 : decode cJ3_checkIndex_8e157 5 = .ok (.iload_n 1, 1) := by decide +kernel
theorem dJ3_checkIndex_8e157_6 : decode cJ3_checkIndex_8e157 6 = .ok (.if_icmp .lt 10, 3) := by decide +kernel
theorem dJ3_checkIndex_8e157_9 : decode cJ3_checkIndex_8e157 9 = .ok (.aload_n 2, 1) := by decide +kernel
theorem dJ3_checkIndex_8e157_10 : decode cJ3_checkIndex_8e157 10 = .ok (.iload_n 0, 1) := by decide +kernel
theorem dJ3_checkIndex_8e157_11 : decode cJ3_checkIndex_8e157 11 = .ok (.iload_n 1, 1) := by decide +kernel
theorem dJ3_checkIndex_8e157_12 : decode cJ3_checkIndex_8e157 12 = .ok (.invokestatic 95, 3) := by decide +kernel
theorem dJ3_checkIndex_8e157_15 : decode cJ3_checkIndex_8e157 15 = .ok (.athrow, 1) := by decide +kernel
theorem dJ3_checkIndex_8e157_16 : decode cJ3_checkIndex_8e157 16 = .ok (.iload_n 0, 1) := by decide +kernel
theorem dJ3_checkIndex_8e157_17 : decode cJ3_checkIndex_8e157 17 = .ok (.ireturn, 1) := by decide +kernel
theorem dL_load_0 : decode cL_load 0 = .ok (.aload_n 2, 1) := by decide +kernel
theorem dL_load_1 : decode cL_load 1 = .ok (.iconst 0, 1) := by decide +kernel
theorem dL_load_2 : decode cL_load 2 = .ok (.aload_n 0, 1) := by decide +kernel
theorem dL_load_3 : decode cL_load 3 = .ok (.iload_n 1, 1) := by decide +kernel
theorem dL_load_4 : decode cL_load 4 = .ok (.invokevirtual 7, 3) := by decide +kernel
theorem dL_load_7 : decode cL_load 7 = .ok (.i2l, 1) := by decide +kernel
theorem dL_load_8 : decode cL_load 8 = .ok (.lastore, 1) := by decide +kernel
theorem dL_load_9 : decode cL_load 9 = .ok (.goto 6, 3) := by decide +kernel
theorem dL_load_12 : decode cL_load 12 = .ok (.astore_n 3, 1) := by decide +kernel
theorem dL_load_13 : decode cL_load 13 = .ok (.iconst 1, 1) := by decide +kernel
theorem dL_load_14 : decode cL_load 14 = .ok (.ireturn, 1) := by decide +kernel
theorem dL_load_15 : decode cL_load 15 = .ok (.iconst 0, 1) := by decide +kernel
theorem dL_load_16 : decode cL_load 16 = .ok (.ireturn, 1) := by decide +kernel
theorem dL_state_0 : decode cL_state 0 = .ok (.aload_n 2, 1) := by decide +kernel
theorem dL_state_1 : decode cL_state 1 = .ok (.iconst 0, 1) := by decide +kernel
theorem dL_state_2 : decode cL_state 2 = .ok (.aload_n 0, 1) := by decide +kernel
theorem dL_state_3 : decode cL_state 3 = .ok (.iload_n 1, 1) := by decide +kernel
theorem dL_state_4 : decode cL_state 4 = .ok (.invokevirtual 15, 3) := by decide +kernel
theorem dL_state_7 : decode cL_state 7 = .ok (.i2l, 1) := by decide +kernel
theorem dL_state_8 : decode cL_state 8 = .ok (.lastore, 1) := by decide +kernel
theorem dL_state_9 : decode cL_state 9 = .ok (.goto 6, 3) := by decide +kernel
theorem dL_state_12 : decode cL_state 12 = .ok (.astore_n 3, 1) := by decide +kernel
theorem dL_state_13 : decode cL_state 13 = .ok (.iconst 1, 1) := by decide +kernel
theorem dL_state_14 : decode cL_state 14 = .ok (.ireturn, 1) := by decide +kernel
theorem dL_state_15 : decode cL_state 15 = .ok (.iconst 0, 1) := by decide +kernel
theorem dL_state_16 : decode cL_state 16 = .ok (.ireturn, 1) := by decide +kernel
theorem dL_stock_0 : decode cL_stock 0 = .ok (.aload_n 2, 1) := by decide +kernel
theorem dL_stock_1 : decode cL_stock 1 = .ok (.iconst 0, 1) := by decide +kernel
theorem dL_stock_2 : decode cL_stock 2 = .ok (.aload_n 0, 1) := by decide +kernel
theorem dL_stock_3 : decode cL_stock 3 = .ok (.iload_n 1, 1) := by decide +kernel
theorem dL_stock_4 : decode cL_stock 4 = .ok (.invokevirtual 18, 3) := by decide +kernel
theorem dL_stock_7 : decode cL_stock 7 = .ok (.i2l, 1) := by decide +kernel
theorem dL_stock_8 : decode cL_stock 8 = .ok (.lastore, 1) := by decide +kernel
theorem dL_stock_9 : decode cL_stock 9 = .ok (.goto 6, 3) := by decide +kernel
theorem dL_stock_12 : decode cL_stock 12 = .ok (.astore_n 3, 1) := by decide +kernel
theorem dL_stock_13 : decode cL_stock 13 = .ok (.iconst 1, 1) := by decide +kernel
theorem dL_stock_14 : decode cL_stock 14 = .ok (.ireturn, 1) := by decide +kernel
theorem dL_stock_15 : decode cL_stock 15 = .ok (.iconst 0, 1) := by decide +kernel
theorem dL_stock_16 : decode cL_stock 16 = .ok (.ireturn, 1) := by decide +kernel
theorem dL_quest_0 : decode cL_quest 0 = .ok (.aload_n 3, 1) := by decide +kernel
theorem dL_quest_1 : decode cL_quest 1 = .ok (.iconst 0, 1) := by decide +kernel
theorem dL_quest_2 : decode cL_quest 2 = .ok (.aload_n 0, 1) := by decide +kernel
theorem dL_quest_3 : decode cL_quest 3 = .ok (.iload_n 1, 1) := by decide +kernel
theorem dL_quest_4 : decode cL_quest 4 = .ok (.iload_n 2, 1) := by decide +kernel
theorem dL_quest_5 : decode cL_quest 5 = .ok (.invokevirtual 23, 3) := by decide +kernel
theorem dL_quest_8 : decode cL_quest 8 = .ok (.i2l, 1) := by decide +kernel
theorem dL_quest_9 : decode cL_quest 9 = .ok (.lastore, 1) := by decide +kernel
theorem dL_quest_10 : decode cL_quest 10 = .ok (.goto 11, 3) := by decide +kernel
theorem dL_quest_13 : decode cL_quest 13 = .ok (.astore 4, 2) := by decide +kernel
theorem dL_quest_15 : decode cL_quest 15 = .ok (.iconst 1, 1) := by decide +kernel
theorem dL_quest_16 : decode cL_quest 16 = .ok (.ireturn, 1) := by decide +kernel
theorem dL_quest_17 : decode cL_quest 17 = .ok (.astore 4, 2) := by decide +kernel
theorem dL_quest_19 : decode cL_quest 19 = .ok (.iconst 2, 1) := by decide +kernel
theorem dL_quest_20 : decode cL_quest 20 = .ok (.ireturn, 1) := by decide +kernel
theorem dL_quest_21 : decode cL_quest 21 = .ok (.iconst 0, 1) := by decide +kernel
theorem dL_quest_22 : decode cL_quest 22 = .ok (.ireturn, 1) := by decide +kernel
theorem dL_step_0 : decode cL_step 0 = .ok (.aload 4, 2) := by decide +kernel
theorem dL_step_2 : decode cL_step 2 = .ok (.iconst 0, 1) := by decide +kernel
theorem dL_step_3 : decode cL_step 3 = .ok (.aload_n 0, 1) := by decide +kernel
theorem dL_step_4 : decode cL_step 4 = .ok (.iload_n 1, 1) := by decide +kernel
theorem dL_step_5 : decode cL_step 5 = .ok (.iload_n 2, 1) := by decide +kernel
theorem dL_step_6 : decode cL_step 6 = .ok (.iload_n 3, 1) := by decide +kernel
theorem dL_step_7 : decode cL_step 7 = .ok (.invokevirtual 27, 3) := by decide +kernel
theorem dL_step_10 : decode cL_step 10 = .ok (.i2l, 1) := by decide +kernel
theorem dL_step_11 : decode cL_step 11 = .ok (.lastore, 1) := by decide +kernel
theorem dL_step_12 : decode cL_step 12 = .ok (.goto 11, 3) := by decide +kernel
theorem dL_step_15 : decode cL_step 15 = .ok (.astore 5, 2) := by decide +kernel
theorem dL_step_17 : decode cL_step 17 = .ok (.iconst 1, 1) := by decide +kernel
theorem dL_step_18 : decode cL_step 18 = .ok (.ireturn, 1) := by decide +kernel
theorem dL_step_19 : decode cL_step 19 = .ok (.astore 5, 2) := by decide +kernel
theorem dL_step_21 : decode cL_step 21 = .ok (.iconst 2, 1) := by decide +kernel
theorem dL_step_22 : decode cL_step 22 = .ok (.ireturn, 1) := by decide +kernel
theorem dL_step_23 : decode cL_step 23 = .ok (.iconst 0, 1) := by decide +kernel
theorem dL_step_24 : decode cL_step 24 = .ok (.ireturn, 1) := by decide +kernel
theorem dL_amount_0 : decode cL_amount 0 = .ok (.aload 5, 2) := by decide +kernel
theorem dL_amount_2 : decode cL_amount 2 = .ok (.iconst 0, 1) := by decide +kernel
theorem dL_amount_3 : decode cL_amount 3 = .ok (.aload_n 0, 1) := by decide +kernel
theorem dL_amount_4 : decode cL_amount 4 = .ok (.iload_n 1, 1) := by decide +kernel
theorem dL_amount_5 : decode cL_amount 5 = .ok (.iload_n 2, 1) := by decide +kernel
theorem dL_amount_6 : decode cL_amount 6 = .ok (.iload_n 3, 1) := by decide +kernel
theorem dL_amount_7 : decode cL_amount 7 = .ok (.iload 4, 2) := by decide +kernel
theorem dL_amount_9 : decode cL_amount 9 = .ok (.invokevirtual 31, 3) := by decide +kernel
theorem dL_amount_12 : decode cL_amount 12 = .ok (.i2l, 1) := by decide +kernel
theorem dL_amount_13 : decode cL_amount 13 = .ok (.lastore, 1) := by decide +kernel
theorem dL_amount_14 : decode cL_amount 14 = .ok (.goto 11, 3) := by decide +kernel
theorem dL_amount_17 : decode cL_amount 17 = .ok (.astore 6, 2) := by decide +kernel
theorem dL_amount_19 : decode cL_amount 19 = .ok (.iconst 1, 1) := by decide +kernel
theorem dL_amount_20 : decode cL_amount 20 = .ok (.ireturn, 1) := by decide +kernel
theorem dL_amount_21 : decode cL_amount 21 = .ok (.astore 6, 2) := by decide +kernel
theorem dL_amount_23 : decode cL_amount 23 = .ok (.iconst 2, 1) := by decide +kernel
theorem dL_amount_24 : decode cL_amount 24 = .ok (.ireturn, 1) := by decide +kernel
theorem dL_amount_25 : decode cL_amount 25 = .ok (.iconst 0, 1) := by decide +kernel
theorem dL_amount_26 : decode cL_amount 26 = .ok (.ireturn, 1) := by decide +kernel
theorem dL_why_0 : decode cL_why 0 = .ok (.aload_n 3, 1) := by decide +kernel
theorem dL_why_1 : decode cL_why 1 = .ok (.iconst 0, 1) := by decide +kernel
theorem dL_why_2 : decode cL_why 2 = .ok (.aload_n 0, 1) := by decide +kernel
theorem dL_why_3 : decode cL_why 3 = .ok (.iload_n 1, 1) := by decide +kernel
theorem dL_why_4 : decode cL_why 4 = .ok (.iload_n 2, 1) := by decide +kernel
theorem dL_why_5 : decode cL_why 5 = .ok (.invokevirtual 35, 3) := by decide +kernel
theorem dL_why_8 : decode cL_why 8 = .ok (.i2l, 1) := by decide +kernel
theorem dL_why_9 : decode cL_why 9 = .ok (.lastore, 1) := by decide +kernel
theorem dL_why_10 : decode cL_why 10 = .ok (.goto 7, 3) := by decide +kernel
theorem dL_why_13 : decode cL_why 13 = .ok (.astore 4, 2) := by decide +kernel
theorem dL_why_15 : decode cL_why 15 = .ok (.iconst 1, 1) := by decide +kernel
theorem dL_why_16 : decode cL_why 16 = .ok (.ireturn, 1) := by decide +kernel
theorem dL_why_17 : decode cL_why 17 = .ok (.iconst 0, 1) := by decide +kernel
theorem dL_why_18 : decode cL_why 18 = .ok (.ireturn, 1) := by decide +kernel
theorem dL_holds_0 : decode cL_holds 0 = .ok (.aload_n 3, 1) := by decide +kernel
theorem dL_holds_1 : decode cL_holds 1 = .ok (.iconst 0, 1) := by decide +kernel
theorem dL_holds_2 : decode cL_holds 2 = .ok (.aload_n 0, 1) := by decide +kernel
theorem dL_holds_3 : decode cL_holds 3 = .ok (.iload_n 1, 1) := by decide +kernel
theorem dL_holds_4 : decode cL_holds 4 = .ok (.iload_n 2, 1) := by decide +kernel
theorem dL_holds_5 : decode cL_holds 5 = .ok (.invokevirtual 38, 3) := by decide +kernel
theorem dL_holds_8 : decode cL_holds 8 = .ok (.ifCond .eq 7, 3) := by decide +kernel
theorem dL_holds_11 : decode cL_holds 11 = .ok (.lconst 1, 1) := by decide +kernel
theorem dL_holds_12 : decode cL_holds 12 = .ok (.goto 4, 3) := by decide +kernel
theorem dL_holds_15 : decode cL_holds 15 = .ok (.lconst 0, 1) := by decide +kernel
theorem dL_holds_16 : decode cL_holds 16 = .ok (.lastore, 1) := by decide +kernel
theorem dL_holds_17 : decode cL_holds 17 = .ok (.goto 11, 3) := by decide +kernel
theorem dL_holds_20 : decode cL_holds 20 = .ok (.astore 4, 2) := by decide +kernel
theorem dL_holds_22 : decode cL_holds 22 = .ok (.iconst 1, 1) := by decide +kernel
theorem dL_holds_23 : decode cL_holds 23 = .ok (.ireturn, 1) := by decide +kernel
theorem dL_holds_24 : decode cL_holds 24 = .ok (.astore 4, 2) := by decide +kernel
theorem dL_holds_26 : decode cL_holds 26 = .ok (.iconst 2, 1) := by decide +kernel
theorem dL_holds_27 : decode cL_holds 27 = .ok (.ireturn, 1) := by decide +kernel
theorem dL_holds_28 : decode cL_holds 28 = .ok (.iconst 0, 1) := by decide +kernel
theorem dL_holds_29 : decode cL_holds 29 = .ok (.ireturn, 1) := by decide +kernel
theorem dL_possible_0 : decode cL_possible 0 = .ok (.aload_n 2, 1) := by decide +kernel
theorem dL_possible_1 : decode cL_possible 1 = .ok (.iconst 0, 1) := by decide +kernel
theorem dL_possible_2 : decode cL_possible 2 = .ok (.aload_n 0, 1) := by decide +kernel
theorem dL_possible_3 : decode cL_possible 3 = .ok (.iload_n 1, 1) := by decide +kernel
theorem dL_possible_4 : decode cL_possible 4 = .ok (.invokevirtual 42, 3) := by decide +kernel
theorem dL_possible_7 : decode cL_possible 7 = .ok (.ifCond .eq 7, 3) := by decide +kernel
theorem dL_possible_10 : decode cL_possible 10 = .ok (.lconst 1, 1) := by decide +kernel
theorem dL_possible_11 : decode cL_possible 11 = .ok (.goto 4, 3) := by decide +kernel
theorem dL_possible_14 : decode cL_possible 14 = .ok (.lconst 0, 1) := by decide +kernel
theorem dL_possible_15 : decode cL_possible 15 = .ok (.lastore, 1) := by decide +kernel
theorem dL_possible_16 : decode cL_possible 16 = .ok (.goto 6, 3) := by decide +kernel
theorem dL_possible_19 : decode cL_possible 19 = .ok (.astore_n 3, 1) := by decide +kernel
theorem dL_possible_20 : decode cL_possible 20 = .ok (.iconst 1, 1) := by decide +kernel
theorem dL_possible_21 : decode cL_possible 21 = .ok (.ireturn, 1) := by decide +kernel
theorem dL_possible_22 : decode cL_possible 22 = .ok (.iconst 0, 1) := by decide +kernel
theorem dL_possible_23 : decode cL_possible 23 = .ok (.ireturn, 1) := by decide +kernel
theorem dL_planLength_0 : decode cL_planLength 0 = .ok (.aload_n 2, 1) := by decide +kernel
theorem dL_planLength_1 : decode cL_planLength 1 = .ok (.iconst 0, 1) := by decide +kernel
theorem dL_planLength_2 : decode cL_planLength 2 = .ok (.aload_n 0, 1) := by decide +kernel
theorem dL_planLength_3 : decode cL_planLength 3 = .ok (.iload_n 1, 1) := by decide +kernel
theorem dL_planLength_4 : decode cL_planLength 4 = .ok (.invokevirtual 46, 3) := by decide +kernel
theorem dL_planLength_7 : decode cL_planLength 7 = .ok (.i2l, 1) := by decide +kernel
theorem dL_planLength_8 : decode cL_planLength 8 = .ok (.lastore, 1) := by decide +kernel
theorem dL_planLength_9 : decode cL_planLength 9 = .ok (.goto 6, 3) := by decide +kernel
theorem dL_planLength_12 : decode cL_planLength 12 = .ok (.astore_n 3, 1) := by decide +kernel
theorem dL_planLength_13 : decode cL_planLength 13 = .ok (.iconst 1, 1) := by decide +kernel
theorem dL_planLength_14 : decode cL_planLength 14 = .ok (.ireturn, 1) := by decide +kernel
theorem dL_planLength_15 : decode cL_planLength 15 = .ok (.iconst 0, 1) := by decide +kernel
theorem dL_planLength_16 : decode cL_planLength 16 = .ok (.ireturn, 1) := by decide +kernel
theorem dL_planStep_0 : decode cL_planStep 0 = .ok (.aload_n 3, 1) := by decide +kernel
theorem dL_planStep_1 : decode cL_planStep 1 = .ok (.iconst 0, 1) := by decide +kernel
theorem dL_planStep_2 : decode cL_planStep 2 = .ok (.aload_n 0, 1) := by decide +kernel
theorem dL_planStep_3 : decode cL_planStep 3 = .ok (.iload_n 1, 1) := by decide +kernel
theorem dL_planStep_4 : decode cL_planStep 4 = .ok (.iload_n 2, 1) := by decide +kernel
theorem dL_planStep_5 : decode cL_planStep 5 = .ok (.invokevirtual 49, 3) := by decide +kernel
theorem dL_planStep_8 : decode cL_planStep 8 = .ok (.i2l, 1) := by decide +kernel
theorem dL_planStep_9 : decode cL_planStep 9 = .ok (.lastore, 1) := by decide +kernel
theorem dL_planStep_10 : decode cL_planStep 10 = .ok (.goto 11, 3) := by decide +kernel
theorem dL_planStep_13 : decode cL_planStep 13 = .ok (.astore 4, 2) := by decide +kernel
theorem dL_planStep_15 : decode cL_planStep 15 = .ok (.iconst 1, 1) := by decide +kernel
theorem dL_planStep_16 : decode cL_planStep 16 = .ok (.ireturn, 1) := by decide +kernel
theorem dL_planStep_17 : decode cL_planStep 17 = .ok (.astore 4, 2) := by decide +kernel
theorem dL_planStep_19 : decode cL_planStep 19 = .ok (.iconst 2, 1) := by decide +kernel
theorem dL_planStep_20 : decode cL_planStep 20 = .ok (.ireturn, 1) := by decide +kernel
theorem dL_planStep_21 : decode cL_planStep 21 = .ok (.iconst 0, 1) := by decide +kernel
theorem dL_planStep_22 : decode cL_planStep 22 = .ok (.ireturn, 1) := by decide +kernel
theorem dL_safest_0 : decode cL_safest 0 = .ok (.aload_n 2, 1) := by decide +kernel
theorem dL_safest_1 : decode cL_safest 1 = .ok (.iconst 0, 1) := by decide +kernel
theorem dL_safest_2 : decode cL_safest 2 = .ok (.aload_n 0, 1) := by decide +kernel
theorem dL_safest_3 : decode cL_safest 3 = .ok (.iload_n 1, 1) := by decide +kernel
theorem dL_safest_4 : decode cL_safest 4 = .ok (.invokevirtual 54, 3) := by decide +kernel
theorem dL_safest_7 : decode cL_safest 7 = .ok (.i2l, 1) := by decide +kernel
theorem dL_safest_8 : decode cL_safest 8 = .ok (.lastore, 1) := by decide +kernel
theorem dL_safest_9 : decode cL_safest 9 = .ok (.goto 6, 3) := by decide +kernel
theorem dL_safest_12 : decode cL_safest 12 = .ok (.astore_n 3, 1) := by decide +kernel
theorem dL_safest_13 : decode cL_safest 13 = .ok (.iconst 1, 1) := by decide +kernel
theorem dL_safest_14 : decode cL_safest 14 = .ok (.ireturn, 1) := by decide +kernel
theorem dL_safest_15 : decode cL_safest 15 = .ok (.iconst 0, 1) := by decide +kernel
theorem dL_safest_16 : decode cL_safest 16 = .ok (.ireturn, 1) := by decide +kernel
theorem dL_endings_0 : decode cL_endings 0 = .ok (.aload_n 2, 1) := by decide +kernel
theorem dL_endings_1 : decode cL_endings 1 = .ok (.iconst 0, 1) := by decide +kernel
theorem dL_endings_2 : decode cL_endings 2 = .ok (.aload_n 0, 1) := by decide +kernel
theorem dL_endings_3 : decode cL_endings 3 = .ok (.iload_n 1, 1) := by decide +kernel
theorem dL_endings_4 : decode cL_endings 4 = .ok (.invokevirtual 57, 3) := by decide +kernel
theorem dL_endings_7 : decode cL_endings 7 = .ok (.i2l, 1) := by decide +kernel
theorem dL_endings_8 : decode cL_endings 8 = .ok (.lastore, 1) := by decide +kernel
theorem dL_endings_9 : decode cL_endings 9 = .ok (.goto 6, 3) := by decide +kernel
theorem dL_endings_12 : decode cL_endings 12 = .ok (.astore_n 3, 1) := by decide +kernel
theorem dL_endings_13 : decode cL_endings 13 = .ok (.iconst 1, 1) := by decide +kernel
theorem dL_endings_14 : decode cL_endings 14 = .ok (.ireturn, 1) := by decide +kernel
theorem dL_endings_15 : decode cL_endings 15 = .ok (.iconst 0, 1) := by decide +kernel
theorem dL_endings_16 : decode cL_endings 16 = .ok (.ireturn, 1) := by decide +kernel
theorem dL_lacking_0 : decode cL_lacking 0 = .ok (.aload_n 3, 1) := by decide +kernel
theorem dL_lacking_1 : decode cL_lacking 1 = .ok (.iconst 0, 1) := by decide +kernel
theorem dL_lacking_2 : decode cL_lacking 2 = .ok (.aload_n 0, 1) := by decide +kernel
theorem dL_lacking_3 : decode cL_lacking 3 = .ok (.iload_n 1, 1) := by decide +kernel
theorem dL_lacking_4 : decode cL_lacking 4 = .ok (.iload_n 2, 1) := by decide +kernel
theorem dL_lacking_5 : decode cL_lacking 5 = .ok (.invokevirtual 60, 3) := by decide +kernel
theorem dL_lacking_8 : decode cL_lacking 8 = .ok (.i2l, 1) := by decide +kernel
theorem dL_lacking_9 : decode cL_lacking 9 = .ok (.lastore, 1) := by decide +kernel
theorem dL_lacking_10 : decode cL_lacking 10 = .ok (.goto 7, 3) := by decide +kernel
theorem dL_lacking_13 : decode cL_lacking 13 = .ok (.astore 4, 2) := by decide +kernel
theorem dL_lacking_15 : decode cL_lacking 15 = .ok (.iconst 1, 1) := by decide +kernel
theorem dL_lacking_16 : decode cL_lacking 16 = .ok (.ireturn, 1) := by decide +kernel
theorem dL_lacking_17 : decode cL_lacking 17 = .ok (.iconst 0, 1) := by decide +kernel
theorem dL_lacking_18 : decode cL_lacking 18 = .ok (.ireturn, 1) := by decide +kernel
theorem dL_worth_0 : decode cL_worth 0 = .ok (.aload_n 2, 1) := by decide +kernel
theorem dL_worth_1 : decode cL_worth 1 = .ok (.iconst 0, 1) := by decide +kernel
theorem dL_worth_2 : decode cL_worth 2 = .ok (.aload_n 0, 1) := by decide +kernel
theorem dL_worth_3 : decode cL_worth 3 = .ok (.iload_n 1, 1) := by decide +kernel
theorem dL_worth_4 : decode cL_worth 4 = .ok (.invokevirtual 63, 3) := by decide +kernel
theorem dL_worth_7 : decode cL_worth 7 = .ok (.i2l, 1) := by decide +kernel
theorem dL_worth_8 : decode cL_worth 8 = .ok (.lastore, 1) := by decide +kernel
theorem dL_worth_9 : decode cL_worth 9 = .ok (.goto 6, 3) := by decide +kernel
theorem dL_worth_12 : decode cL_worth 12 = .ok (.astore_n 3, 1) := by decide +kernel
theorem dL_worth_13 : decode cL_worth 13 = .ok (.iconst 1, 1) := by decide +kernel
theorem dL_worth_14 : decode cL_worth 14 = .ok (.ireturn, 1) := by decide +kernel
theorem dL_worth_15 : decode cL_worth 15 = .ok (.iconst 0, 1) := by decide +kernel
theorem dL_worth_16 : decode cL_worth 16 = .ok (.ireturn, 1) := by decide +kernel
theorem dL_chance_0 : decode cL_chance 0 = .ok (.aload_n 2, 1) := by decide +kernel
theorem dL_chance_1 : decode cL_chance 1 = .ok (.iconst 0, 1) := by decide +kernel
theorem dL_chance_2 : decode cL_chance 2 = .ok (.aload_n 0, 1) := by decide +kernel
theorem dL_chance_3 : decode cL_chance 3 = .ok (.iload_n 1, 1) := by decide +kernel
theorem dL_chance_4 : decode cL_chance 4 = .ok (.invokevirtual 66, 3) := by decide +kernel
theorem dL_chance_7 : decode cL_chance 7 = .ok (.dastore, 1) := by decide +kernel
theorem dL_chance_8 : decode cL_chance 8 = .ok (.goto 6, 3) := by decide +kernel
theorem dL_chance_11 : decode cL_chance 11 = .ok (.astore_n 3, 1) := by decide +kernel
theorem dL_chance_12 : decode cL_chance 12 = .ok (.iconst 1, 1) := by decide +kernel
theorem dL_chance_13 : decode cL_chance 13 = .ok (.ireturn, 1) := by decide +kernel
theorem dL_chance_14 : decode cL_chance 14 = .ok (.iconst 0, 1) := by decide +kernel
theorem dL_chance_15 : decode cL_chance 15 = .ok (.ireturn, 1) := by decide +kernel
theorem dL_tell_0 : decode cL_tell 0 = .ok (.aload_n 3, 1) := by decide +kernel
theorem dL_tell_1 : decode cL_tell 1 = .ok (.iconst 0, 1) := by decide +kernel
theorem dL_tell_2 : decode cL_tell 2 = .ok (.aload_n 0, 1) := by decide +kernel
theorem dL_tell_3 : decode cL_tell 3 = .ok (.iload_n 1, 1) := by decide +kernel
theorem dL_tell_4 : decode cL_tell 4 = .ok (.iload_n 2, 1) := by decide +kernel
theorem dL_tell_5 : decode cL_tell 5 = .ok (.invokevirtual 70, 3) := by decide +kernel
theorem dL_tell_8 : decode cL_tell 8 = .ok (.i2l, 1) := by decide +kernel
theorem dL_tell_9 : decode cL_tell 9 = .ok (.lastore, 1) := by decide +kernel
theorem dL_tell_10 : decode cL_tell 10 = .ok (.goto 11, 3) := by decide +kernel
theorem dL_tell_13 : decode cL_tell 13 = .ok (.astore 4, 2) := by decide +kernel
theorem dL_tell_15 : decode cL_tell 15 = .ok (.iconst 1, 1) := by decide +kernel
theorem dL_tell_16 : decode cL_tell 16 = .ok (.ireturn, 1) := by decide +kernel
theorem dL_tell_17 : decode cL_tell 17 = .ok (.astore 4, 2) := by decide +kernel
theorem dL_tell_19 : decode cL_tell 19 = .ok (.iconst 2, 1) := by decide +kernel
theorem dL_tell_20 : decode cL_tell 20 = .ok (.ireturn, 1) := by decide +kernel
theorem dL_tell_21 : decode cL_tell 21 = .ok (.iconst 0, 1) := by decide +kernel
theorem dL_tell_22 : decode cL_tell 22 = .ok (.ireturn, 1) := by decide +kernel
theorem dL_attempt_0 : decode cL_attempt 0 = .ok (.aload_n 3, 1) := by decide +kernel
theorem dL_attempt_1 : decode cL_attempt 1 = .ok (.iconst 0, 1) := by decide +kernel
theorem dL_attempt_2 : decode cL_attempt 2 = .ok (.aload_n 0, 1) := by decide +kernel
theorem dL_attempt_3 : decode cL_attempt 3 = .ok (.iload_n 1, 1) := by decide +kernel
theorem dL_attempt_4 : decode cL_attempt 4 = .ok (.iload_n 2, 1) := by decide +kernel
theorem dL_attempt_5 : decode cL_attempt 5 = .ok (.invokevirtual 75, 3) := by decide +kernel
theorem dL_attempt_8 : decode cL_attempt 8 = .ok (.i2l, 1) := by decide +kernel
theorem dL_attempt_9 : decode cL_attempt 9 = .ok (.lastore, 1) := by decide +kernel
theorem dL_attempt_10 : decode cL_attempt 10 = .ok (.goto 11, 3) := by decide +kernel
theorem dL_attempt_13 : decode cL_attempt 13 = .ok (.astore 4, 2) := by decide +kernel
theorem dL_attempt_15 : decode cL_attempt 15 = .ok (.iconst 1, 1) := by decide +kernel
theorem dL_attempt_16 : decode cL_attempt 16 = .ok (.ireturn, 1) := by decide +kernel
theorem dL_attempt_17 : decode cL_attempt 17 = .ok (.astore 4, 2) := by decide +kernel
theorem dL_attempt_19 : decode cL_attempt 19 = .ok (.iconst 2, 1) := by decide +kernel
theorem dL_attempt_20 : decode cL_attempt 20 = .ok (.ireturn, 1) := by decide +kernel
theorem dL_attempt_21 : decode cL_attempt 21 = .ok (.iconst 0, 1) := by decide +kernel
theorem dL_attempt_22 : decode cL_attempt 22 = .ok (.ireturn, 1) := by decide +kernel
theorem dL_play_0 : decode cL_play 0 = .ok (.aload_n 2, 1) := by decide +kernel
theorem dL_play_1 : decode cL_play 1 = .ok (.iconst 0, 1) := by decide +kernel
theorem dL_play_2 : decode cL_play 2 = .ok (.aload_n 0, 1) := by decide +kernel
theorem dL_play_3 : decode cL_play 3 = .ok (.iload_n 1, 1) := by decide +kernel
theorem dL_play_4 : decode cL_play 4 = .ok (.invokevirtual 78, 3) := by decide +kernel
theorem dL_play_7 : decode cL_play 7 = .ok (.i2l, 1) := by decide +kernel
theorem dL_play_8 : decode cL_play 8 = .ok (.lastore, 1) := by decide +kernel
theorem dL_play_9 : decode cL_play 9 = .ok (.goto 6, 3) := by decide +kernel
theorem dL_play_12 : decode cL_play 12 = .ok (.astore_n 3, 1) := by decide +kernel
theorem dL_play_13 : decode cL_play 13 = .ok (.iconst 1, 1) := by decide +kernel
theorem dL_play_14 : decode cL_play 14 = .ok (.ireturn, 1) := by decide +kernel
theorem dL_play_15 : decode cL_play 15 = .ok (.iconst 0, 1) := by decide +kernel
theorem dL_play_16 : decode cL_play 16 = .ok (.ireturn, 1) := by decide +kernel
theorem dL_add_0 : decode cL_add 0 = .ok (.aload_n 3, 1) := by decide +kernel
theorem dL_add_1 : decode cL_add 1 = .ok (.iconst 0, 1) := by decide +kernel
theorem dL_add_2 : decode cL_add 2 = .ok (.aload_n 0, 1) := by decide +kernel
theorem dL_add_3 : decode cL_add 3 = .ok (.iload_n 1, 1) := by decide +kernel
theorem dL_add_4 : decode cL_add 4 = .ok (.iload_n 2, 1) := by decide +kernel
theorem dL_add_5 : decode cL_add 5 = .ok (.invokevirtual 81, 3) := by decide +kernel
theorem dL_add_8 : decode cL_add 8 = .ok (.i2l, 1) := by decide +kernel
theorem dL_add_9 : decode cL_add 9 = .ok (.lastore, 1) := by decide +kernel
theorem dL_add_10 : decode cL_add 10 = .ok (.goto 15, 3) := by decide +kernel
theorem dL_add_13 : decode cL_add 13 = .ok (.astore 4, 2) := by decide +kernel
theorem dL_add_15 : decode cL_add 15 = .ok (.iconst 1, 1) := by decide +kernel
theorem dL_add_16 : decode cL_add 16 = .ok (.ireturn, 1) := by decide +kernel
theorem dL_add_17 : decode cL_add 17 = .ok (.astore 4, 2) := by decide +kernel
theorem dL_add_19 : decode cL_add 19 = .ok (.iconst 2, 1) := by decide +kernel
theorem dL_add_20 : decode cL_add 20 = .ok (.ireturn, 1) := by decide +kernel
theorem dL_add_21 : decode cL_add 21 = .ok (.astore 4, 2) := by decide +kernel
theorem dL_add_23 : decode cL_add 23 = .ok (.iconst 3, 1) := by decide +kernel
theorem dL_add_24 : decode cL_add 24 = .ok (.ireturn, 1) := by decide +kernel
theorem dL_add_25 : decode cL_add 25 = .ok (.iconst 0, 1) := by decide +kernel
theorem dL_add_26 : decode cL_add 26 = .ok (.ireturn, 1) := by decide +kernel
theorem dL_spend_0 : decode cL_spend 0 = .ok (.aload_n 3, 1) := by decide +kernel
theorem dL_spend_1 : decode cL_spend 1 = .ok (.iconst 0, 1) := by decide +kernel
theorem dL_spend_2 : decode cL_spend 2 = .ok (.aload_n 0, 1) := by decide +kernel
theorem dL_spend_3 : decode cL_spend 3 = .ok (.iload_n 1, 1) := by decide +kernel
theorem dL_spend_4 : decode cL_spend 4 = .ok (.iload_n 2, 1) := by decide +kernel
theorem dL_spend_5 : decode cL_spend 5 = .ok (.invokevirtual 84, 3) := by decide +kernel
theorem dL_spend_8 : decode cL_spend 8 = .ok (.i2l, 1) := by decide +kernel
theorem dL_spend_9 : decode cL_spend 9 = .ok (.lastore, 1) := by decide +kernel
theorem dL_spend_10 : decode cL_spend 10 = .ok (.goto 15, 3) := by decide +kernel
theorem dL_spend_13 : decode cL_spend 13 = .ok (.astore 4, 2) := by decide +kernel
theorem dL_spend_15 : decode cL_spend 15 = .ok (.iconst 1, 1) := by decide +kernel
theorem dL_spend_16 : decode cL_spend 16 = .ok (.ireturn, 1) := by decide +kernel
theorem dL_spend_17 : decode cL_spend 17 = .ok (.astore 4, 2) := by decide +kernel
theorem dL_spend_19 : decode cL_spend 19 = .ok (.iconst 2, 1) := by decide +kernel
theorem dL_spend_20 : decode cL_spend 20 = .ok (.ireturn, 1) := by decide +kernel
theorem dL_spend_21 : decode cL_spend 21 = .ok (.astore 4, 2) := by decide +kernel
theorem dL_spend_23 : decode cL_spend 23 = .ok (.iconst 3, 1) := by decide +kernel
theorem dL_spend_24 : decode cL_spend 24 = .ok (.ireturn, 1) := by decide +kernel
theorem dL_spend_25 : decode cL_spend 25 = .ok (.iconst 0, 1) := by decide +kernel
theorem dL_spend_26 : decode cL_spend 26 = .ok (.ireturn, 1) := by decide +kernel
theorem dL_mend_0 : decode cL_mend 0 = .ok (.aload_n 3, 1) := by decide +kernel
theorem dL_mend_1 : decode cL_mend 1 = .ok (.iconst 0, 1) := by decide +kernel
theorem dL_mend_2 : decode cL_mend 2 = .ok (.aload_n 0, 1) := by decide +kernel
theorem dL_mend_3 : decode cL_mend 3 = .ok (.iload_n 1, 1) := by decide +kernel
theorem dL_mend_4 : decode cL_mend 4 = .ok (.iload_n 2, 1) := by decide +kernel
theorem dL_mend_5 : decode cL_mend 5 = .ok (.invokevirtual 87, 3) := by decide +kernel
theorem dL_mend_8 : decode cL_mend 8 = .ok (.i2l, 1) := by decide +kernel
theorem dL_mend_9 : decode cL_mend 9 = .ok (.lastore, 1) := by decide +kernel
theorem dL_mend_10 : decode cL_mend 10 = .ok (.goto 7, 3) := by decide +kernel
theorem dL_mend_13 : decode cL_mend 13 = .ok (.astore 4, 2) := by decide +kernel
theorem dL_mend_15 : decode cL_mend 15 = .ok (.iconst 1, 1) := by decide +kernel
theorem dL_mend_16 : decode cL_mend 16 = .ok (.ireturn, 1) := by decide +kernel
theorem dL_mend_17 : decode cL_mend 17 = .ok (.iconst 0, 1) := by decide +kernel
theorem dL_mend_18 : decode cL_mend 18 = .ok (.ireturn, 1) := by decide +kernel
theorem dL_giveUp_0 : decode cL_giveUp 0 = .ok (.aload_n 2, 1) := by decide +kernel
theorem dL_giveUp_1 : decode cL_giveUp 1 = .ok (.iconst 0, 1) := by decide +kernel
theorem dL_giveUp_2 : decode cL_giveUp 2 = .ok (.aload_n 0, 1) := by decide +kernel
theorem dL_giveUp_3 : decode cL_giveUp 3 = .ok (.iload_n 1, 1) := by decide +kernel
theorem dL_giveUp_4 : decode cL_giveUp 4 = .ok (.invokevirtual 90, 3) := by decide +kernel
theorem dL_giveUp_7 : decode cL_giveUp 7 = .ok (.i2l, 1) := by decide +kernel
theorem dL_giveUp_8 : decode cL_giveUp 8 = .ok (.lastore, 1) := by decide +kernel
theorem dL_giveUp_9 : decode cL_giveUp 9 = .ok (.goto 9, 3) := by decide +kernel
theorem dL_giveUp_12 : decode cL_giveUp 12 = .ok (.astore_n 3, 1) := by decide +kernel
theorem dL_giveUp_13 : decode cL_giveUp 13 = .ok (.iconst 1, 1) := by decide +kernel
theorem dL_giveUp_14 : decode cL_giveUp 14 = .ok (.ireturn, 1) := by decide +kernel
theorem dL_giveUp_15 : decode cL_giveUp 15 = .ok (.astore_n 3, 1) := by decide +kernel
theorem dL_giveUp_16 : decode cL_giveUp 16 = .ok (.iconst 2, 1) := by decide +kernel
theorem dL_giveUp_17 : decode cL_giveUp 17 = .ok (.ireturn, 1) := by decide +kernel
theorem dL_giveUp_18 : decode cL_giveUp 18 = .ok (.iconst 0, 1) := by decide +kernel
theorem dL_giveUp_19 : decode cL_giveUp 19 = .ok (.ireturn, 1) := by decide +kernel
theorem dL_reopen_0 : decode cL_reopen 0 = .ok (.aload_n 2, 1) := by decide +kernel
theorem dL_reopen_1 : decode cL_reopen 1 = .ok (.iconst 0, 1) := by decide +kernel
theorem dL_reopen_2 : decode cL_reopen 2 = .ok (.aload_n 0, 1) := by decide +kernel
theorem dL_reopen_3 : decode cL_reopen 3 = .ok (.iload_n 1, 1) := by decide +kernel
theorem dL_reopen_4 : decode cL_reopen 4 = .ok (.invokevirtual 93, 3) := by decide +kernel
theorem dL_reopen_7 : decode cL_reopen 7 = .ok (.i2l, 1) := by decide +kernel
theorem dL_reopen_8 : decode cL_reopen 8 = .ok (.lastore, 1) := by decide +kernel
theorem dL_reopen_9 : decode cL_reopen 9 = .ok (.goto 6, 3) := by decide +kernel
theorem dL_reopen_12 : decode cL_reopen 12 = .ok (.astore_n 3, 1) := by decide +kernel
theorem dL_reopen_13 : decode cL_reopen 13 = .ok (.iconst 1, 1) := by decide +kernel
theorem dL_reopen_14 : decode cL_reopen 14 = .ok (.ireturn, 1) := by decide +kernel
theorem dL_reopen_15 : decode cL_reopen 15 = .ok (.iconst 0, 1) := by decide +kernel
theorem dL_reopen_16 : decode cL_reopen 16 = .ok (.ireturn, 1) := by decide +kernel
theorem dL_law_0 : decode cL_law 0 = .ok (.new 8, 3) := by decide +kernel
theorem dL_law_3 : decode cL_law 3 = .ok (.dup, 1) := by decide +kernel
theorem dL_law_4 : decode cL_law 4 = .ok (.invokespecial 96, 3) := by decide +kernel
theorem dL_law_7 : decode cL_law 7 = .ok (.astore_n 1, 1) := by decide +kernel
theorem dL_law_8 : decode cL_law 8 = .ok (.new 97, 3) := by decide +kernel
theorem dL_law_11 : decode cL_law 11 = .ok (.dup, 1) := by decide +kernel
theorem dL_law_12 : decode cL_law 12 = .ok (.invokespecial 99, 3) := by decide +kernel
theorem dL_law_15 : decode cL_law 15 = .ok (.astore_n 2, 1) := by decide +kernel
theorem dL_law_16 : decode cL_law 16 = .ok (.iconst 1, 1) := by decide +kernel
theorem dL_law_17 : decode cL_law 17 = .ok (.newarray .long, 2) := by decide +kernel
theorem dL_law_19 : decode cL_law 19 = .ok (.astore_n 3, 1) := by decide +kernel
theorem dL_law_20 : decode cL_law 20 = .ok (.iconst 1, 1) := by decide +kernel
theorem dL_law_21 : decode cL_law 21 = .ok (.newarray .double, 2) := by decide +kernel
theorem dL_law_23 : decode cL_law 23 = .ok (.astore 4, 2) := by decide +kernel
theorem dL_law_25 : decode cL_law 25 = .ok (.iconst 0, 1) := by decide +kernel
theorem dL_law_26 : decode cL_law 26 = .ok (.istore 5, 2) := by decide +kernel
theorem dL_law_28 : decode cL_law 28 = .ok (.iload 5, 2) := by decide +kernel
theorem dL_law_30 : decode cL_law 30 = .ok (.aload_n 0, 1) := by decide +kernel
theorem dL_law_31 : decode cL_law 31 = .ok (.arraylength, 1) := by decide +kernel
theorem dL_law_32 : decode cL_law 32 = .ok (.bipush 6, 2) := by decide +kernel
theorem dL_law_34 : decode cL_law 34 = .ok (.isub, 1) := by decide +kernel
theorem dL_law_35 : decode cL_law 35 = .ok (.if_icmp .gt 1896, 3) := by decide +kernel
theorem dL_law_38 : decode cL_law 38 = .ok (.aload_n 0, 1) := by decide +kernel
theorem dL_law_39 : decode cL_law 39 = .ok (.iload 5, 2) := by decide +kernel
theorem dL_law_41 : decode cL_law 41 = .ok (.iaload, 1) := by decide +kernel
theorem dL_law_42 : decode cL_law 42 = .ok (.bipush 31, 2) := by decide +kernel
theorem dL_law_44 : decode cL_law 44 = .ok (.iand, 1) := by decide +kernel
theorem dL_law_45 : decode cL_law 45 = .ok (.tableswitch 1880 0 30 #[139, 212, 268, 281, 337, 393, 461, 541, 633, 701, 776, 839, 895, 963, 1019, 1075, 1143, 1156, 1212, 1225, 1302, 1345, 1413, 1481, 1537, 1605, 1673, 1741, 1797, 1853, 1866], 139) := by decide +kernel
theorem dL_law_184 : decode cL_law 184 = .ok (.aload_n 1, 1) := by decide +kernel
theorem dL_law_185 : decode cL_law 185 = .ok (.aload_n 0, 1) := by decide +kernel
theorem dL_law_186 : decode cL_law 186 = .ok (.iload 5, 2) := by decide +kernel
theorem dL_law_188 : decode cL_law 188 = .ok (.iconst 1, 1) := by decide +kernel
theorem dL_law_189 : decode cL_law 189 = .ok (.iadd, 1) := by decide +kernel
theorem dL_law_190 : decode cL_law 190 = .ok (.iaload, 1) := by decide +kernel
theorem dL_law_191 : decode cL_law 191 = .ok (.aload_n 0, 1) := by decide +kernel
theorem dL_law_192 : decode cL_law 192 = .ok (.iload 5, 2) := by decide +kernel
theorem dL_law_194 : decode cL_law 194 = .ok (.iconst 2, 1) := by decide +kernel
theorem dL_law_195 : decode cL_law 195 = .ok (.iadd, 1) := by decide +kernel
theorem dL_law_196 : decode cL_law 196 = .ok (.iaload, 1) := by decide +kernel
theorem dL_law_197 : decode cL_law 197 = .ok (.aload_n 0, 1) := by decide +kernel
theorem dL_law_198 : decode cL_law 198 = .ok (.iload 5, 2) := by decide +kernel
theorem dL_law_200 : decode cL_law 200 = .ok (.iconst 3, 1) := by decide +kernel
theorem dL_law_201 : decode cL_law 201 = .ok (.iadd, 1) := by decide +kernel
theorem dL_law_202 : decode cL_law 202 = .ok (.iaload, 1) := by decide +kernel
theorem dL_law_203 : decode cL_law 203 = .ok (.aload_n 0, 1) := by decide +kernel
theorem dL_law_204 : decode cL_law 204 = .ok (.iload 5, 2) := by decide +kernel
theorem dL_law_206 : decode cL_law 206 = .ok (.iconst 4, 1) := by decide +kernel
theorem dL_law_207 : decode cL_law 207 = .ok (.iadd, 1) := by decide +kernel
theorem dL_law_208 : decode cL_law 208 = .ok (.iaload, 1) := by decide +kernel
theorem dL_law_209 : decode cL_law 209 = .ok (.aload_n 0, 1) := by decide +kernel
theorem dL_law_210 : decode cL_law 210 = .ok (.iload 5, 2) := by decide +kernel
theorem dL_law_212 : decode cL_law 212 = .ok (.iconst 5, 1) := by decide +kernel
theorem dL_law_213 : decode cL_law 213 = .ok (.iadd, 1) := by decide +kernel
theorem dL_law_214 : decode cL_law 214 = .ok (.iaload, 1) := by decide +kernel
theorem dL_law_215 : decode cL_law 215 = .ok (.invokevirtual 100, 3) := by decide +kernel
theorem dL_law_218 : decode cL_law 218 = .ok (.aload_n 2, 1) := by decide +kernel
theorem dL_law_219 : decode cL_law 219 = .ok (.aload_n 0, 1) := by decide +kernel
theorem dL_law_220 : decode cL_law 220 = .ok (.iload 5, 2) := by decide +kernel
theorem dL_law_222 : decode cL_law 222 = .ok (.iconst 1, 1) := by decide +kernel
theorem dL_law_223 : decode cL_law 223 = .ok (.iadd, 1) := by decide +kernel
theorem dL_law_224 : decode cL_law 224 = .ok (.iaload, 1) := by decide +kernel
theorem dL_law_225 : decode cL_law 225 = .ok (.aload_n 0, 1) := by decide +kernel
theorem dL_law_226 : decode cL_law 226 = .ok (.iload 5, 2) := by decide +kernel
theorem dL_law_228 : decode cL_law 228 = .ok (.iconst 2, 1) := by decide +kernel
theorem dL_law_229 : decode cL_law 229 = .ok (.iadd, 1) := by decide +kernel
theorem dL_law_230 : decode cL_law 230 = .ok (.iaload, 1) := by decide +kernel
theorem dL_law_231 : decode cL_law 231 = .ok (.aload_n 0, 1) := by decide +kernel
theorem dL_law_232 : decode cL_law 232 = .ok (.iload 5, 2) := by decide +kernel
theorem dL_law_234 : decode cL_law 234 = .ok (.iconst 3, 1) := by decide +kernel
theorem dL_law_235 : decode cL_law 235 = .ok (.iadd, 1) := by decide +kernel
theorem dL_law_236 : decode cL_law 236 = .ok (.iaload, 1) := by decide +kernel
theorem dL_law_237 : decode cL_law 237 = .ok (.aload_n 0, 1) := by decide +kernel
theorem dL_law_238 : decode cL_law 238 = .ok (.iload 5, 2) := by decide +kernel
theorem dL_law_240 : decode cL_law 240 = .ok (.iconst 4, 1) := by decide +kernel
theorem dL_law_241 : decode cL_law 241 = .ok (.iadd, 1) := by decide +kernel
theorem dL_law_242 : decode cL_law 242 = .ok (.iaload, 1) := by decide +kernel
theorem dL_law_243 : decode cL_law 243 = .ok (.aload_n 0, 1) := by decide +kernel
theorem dL_law_244 : decode cL_law 244 = .ok (.iload 5, 2) := by decide +kernel
theorem dL_law_246 : decode cL_law 246 = .ok (.iconst 5, 1) := by decide +kernel
theorem dL_law_247 : decode cL_law 247 = .ok (.iadd, 1) := by decide +kernel
theorem dL_law_248 : decode cL_law 248 = .ok (.iaload, 1) := by decide +kernel
theorem dL_law_249 : decode cL_law 249 = .ok (.invokevirtual 104, 3) := by decide +kernel
theorem dL_law_252 : decode cL_law 252 = .ok (.if_icmp .eq 1673, 3) := by decide +kernel
theorem dL_law_255 : decode cL_law 255 = .ok (.iconst 0, 1) := by decide +kernel
theorem dL_law_256 : decode cL_law 256 = .ok (.ireturn, 1) := by decide +kernel
theorem dL_law_257 : decode cL_law 257 = .ok (.aload_n 1, 1) := by decide +kernel
theorem dL_law_258 : decode cL_law 258 = .ok (.aload_n 0, 1) := by decide +kernel
theorem dL_law_259 : decode cL_law 259 = .ok (.iload 5, 2) := by decide +kernel
theorem dL_law_261 : decode cL_law 261 = .ok (.iconst 1, 1) := by decide +kernel
theorem dL_law_262 : decode cL_law 262 = .ok (.iadd, 1) := by decide +kernel
theorem dL_law_263 : decode cL_law 263 = .ok (.iaload, 1) := by decide +kernel
theorem dL_law_264 : decode cL_law 264 = .ok (.aload_n 3, 1) := by decide +kernel
theorem dL_law_265 : decode cL_law 265 = .ok (.invokestatic 105, 3) := by decide +kernel
theorem dL_law_268 : decode cL_law 268 = .ok (.istore 6, 2) := by decide +kernel
theorem dL_law_270 : decode cL_law 270 = .ok (.aload_n 2, 1) := by decide +kernel
theorem dL_law_271 : decode cL_law 271 = .ok (.aload_n 0, 1) := by decide +kernel
theorem dL_law_272 : decode cL_law 272 = .ok (.iload 5, 2) := by decide +kernel
theorem dL_law_274 : decode cL_law 274 = .ok (.iconst 1, 1) := by decide +kernel
theorem dL_law_275 : decode cL_law 275 = .ok (.iadd, 1) := by decide +kernel
theorem dL_law_276 : decode cL_law 276 = .ok (.iaload, 1) := by decide +kernel
theorem dL_law_277 : decode cL_law 277 = .ok (.invokevirtual 110, 3) := by decide +kernel
theorem dL_law_280 : decode cL_law 280 = .ok (.istore 7, 2) := by decide +kernel
theorem dL_law_282 : decode cL_law 282 = .ok (.aload_n 2, 1) := by decide +kernel
theorem dL_law_283 : decode cL_law 283 = .ok (.invokevirtual 111, 3) := by decide +kernel
theorem dL_law_286 : decode cL_law 286 = .ok (.iload 6, 2) := by decide +kernel
theorem dL_law_288 : decode cL_law 288 = .ok (.if_icmp .eq 5, 3) := by decide +kernel
theorem dL_law_291 : decode cL_law 291 = .ok (.iconst 0, 1) := by decide +kernel
theorem dL_law_292 : decode cL_law 292 = .ok (.ireturn, 1) := by decide +kernel
theorem dL_law_293 : decode cL_law 293 = .ok (.iload 6, 2) := by decide +kernel
theorem dL_law_295 : decode cL_law 295 = .ok (.ifCond .ne 15, 3) := by decide +kernel
theorem dL_law_298 : decode cL_law 298 = .ok (.aload_n 3, 1) := by decide +kernel
theorem dL_law_299 : decode cL_law 299 = .ok (.iconst 0, 1) := by decide +kernel
theorem dL_law_300 : decode cL_law 300 = .ok (.laload, 1) := by decide +kernel
theorem dL_law_301 : decode cL_law 301 = .ok (.iload 7, 2) := by decide +kernel
theorem dL_law_303 : decode cL_law 303 = .ok (.i2l, 1) := by decide +kernel
theorem dL_law_304 : decode cL_law 304 = .ok (.lcmp, 1) := by decide +kernel
theorem dL_law_305 : decode cL_law 305 = .ok (.ifCond .eq 5, 3) := by decide +kernel
theorem dL_law_308 : decode cL_law 308 = .ok (.iconst 0, 1) := by decide +kernel
theorem dL_law_309 : decode cL_law 309 = .ok (.ireturn, 1) := by decide +kernel
theorem dL_law_310 : decode cL_law 310 = .ok (.goto 1615, 3) := by decide +kernel
theorem dL_law_313 : decode cL_law 313 = .ok (.aload_n 1, 1) := by decide +kernel
theorem dL_law_314 : decode cL_law 314 = .ok (.invokevirtual 115, 3) := by decide +kernel
theorem dL_law_317 : decode cL_law 317 = .ok (.aload_n 2, 1) := by decide +kernel
theorem dL_law_318 : decode cL_law 318 = .ok (.invokevirtual 118, 3) := by decide +kernel
theorem dL_law_321 : decode cL_law 321 = .ok (.if_icmp .eq 1604, 3) := by decide +kernel
theorem dL_law_324 : decode cL_law 324 = .ok (.iconst 0, 1) := by decide +kernel
theorem dL_law_325 : decode cL_law 325 = .ok (.ireturn, 1) := by decide +kernel
theorem dL_law_326 : decode cL_law 326 = .ok (.aload_n 1, 1) := by decide +kernel
theorem dL_law_327 : decode cL_law 327 = .ok (.aload_n 0, 1) := by decide +kernel
theorem dL_law_328 : decode cL_law 328 = .ok (.iload 5, 2) := by decide +kernel
theorem dL_law_330 : decode cL_law 330 = .ok (.iconst 1, 1) := by decide +kernel
theorem dL_law_331 : decode cL_law 331 = .ok (.iadd, 1) := by decide +kernel
theorem dL_law_332 : decode cL_law 332 = .ok (.iaload, 1) := by decide +kernel
theorem dL_law_333 : decode cL_law 333 = .ok (.aload_n 3, 1) := by decide +kernel
theorem dL_law_334 : decode cL_law 334 = .ok (.invokestatic 119, 3) := by decide +kernel
theorem dL_law_337 : decode cL_law 337 = .ok (.istore 6, 2) := by decide +kernel
theorem dL_law_339 : decode cL_law 339 = .ok (.aload_n 2, 1) := by decide +kernel
theorem dL_law_340 : decode cL_law 340 = .ok (.aload_n 0, 1) := by decide +kernel
theorem dL_law_341 : decode cL_law 341 = .ok (.iload 5, 2) := by decide +kernel
theorem dL_law_343 : decode cL_law 343 = .ok (.iconst 1, 1) := by decide +kernel
theorem dL_law_344 : decode cL_law 344 = .ok (.iadd, 1) := by decide +kernel
theorem dL_law_345 : decode cL_law 345 = .ok (.iaload, 1) := by decide +kernel
theorem dL_law_346 : decode cL_law 346 = .ok (.invokevirtual 121, 3) := by decide +kernel
theorem dL_law_349 : decode cL_law 349 = .ok (.istore 7, 2) := by decide +kernel
theorem dL_law_351 : decode cL_law 351 = .ok (.aload_n 2, 1) := by decide +kernel
theorem dL_law_352 : decode cL_law 352 = .ok (.invokevirtual 111, 3) := by decide +kernel
theorem dL_law_355 : decode cL_law 355 = .ok (.iload 6, 2) := by decide +kernel
theorem dL_law_357 : decode cL_law 357 = .ok (.if_icmp .eq 5, 3) := by decide +kernel
theorem dL_law_360 : decode cL_law 360 = .ok (.iconst 0, 1) := by decide +kernel
theorem dL_law_361 : decode cL_law 361 = .ok (.ireturn, 1) := by decide +kernel
theorem dL_law_362 : decode cL_law 362 = .ok (.iload 6, 2) := by decide +kernel
theorem dL_law_364 : decode cL_law 364 = .ok (.ifCond .ne 15, 3) := by decide +kernel
theorem dL_law_367 : decode cL_law 367 = .ok (.aload_n 3, 1) := by decide +kernel
theorem dL_law_368 : decode cL_law 368 = .ok (.iconst 0, 1) := by decide +kernel
theorem dL_law_369 : decode cL_law 369 = .ok (.laload, 1) := by decide +kernel
theorem dL_law_370 : decode cL_law 370 = .ok (.iload 7, 2) := by decide +kernel
theorem dL_law_372 : decode cL_law 372 = .ok (.i2l, 1) := by decide +kernel
theorem dL_law_373 : decode cL_law 373 = .ok (.lcmp, 1) := by decide +kernel
theorem dL_law_374 : decode cL_law 374 = .ok (.ifCond .eq 5, 3) := by decide +kernel
theorem dL_law_377 : decode cL_law 377 = .ok (.iconst 0, 1) := by decide +kernel
theorem dL_law_378 : decode cL_law 378 = .ok (.ireturn, 1) := by decide +kernel
theorem dL_law_379 : decode cL_law 379 = .ok (.goto 1546, 3) := by decide +kernel
theorem dL_law_382 : decode cL_law 382 = .ok (.aload_n 1, 1) := by decide +kernel
theorem dL_law_383 : decode cL_law 383 = .ok (.aload_n 0, 1) := by decide +kernel
theorem dL_law_384 : decode cL_law 384 = .ok (.iload 5, 2) := by decide +kernel
theorem dL_law_386 : decode cL_law 386 = .ok (.iconst 1, 1) := by decide +kernel
theorem dL_law_387 : decode cL_law 387 = .ok (.iadd, 1) := by decide +kernel
theorem dL_law_388 : decode cL_law 388 = .ok (.iaload, 1) := by decide +kernel
theorem dL_law_389 : decode cL_law 389 = .ok (.aload_n 3, 1) := by decide +kernel
theorem dL_law_390 : decode cL_law 390 = .ok (.invokestatic 122, 3) := by decide +kernel
theorem dL_law_393 : decode cL_law 393 = .ok (.istore 6, 2) := by decide +kernel
theorem dL_law_395 : decode cL_law 395 = .ok (.aload_n 2, 1) := by decide +kernel
theorem dL_law_396 : decode cL_law 396 = .ok (.aload_n 0, 1) := by decide +kernel
theorem dL_law_397 : decode cL_law 397 = .ok (.iload 5, 2) := by decide +kernel
theorem dL_law_399 : decode cL_law 399 = .ok (.iconst 1, 1) := by decide +kernel
theorem dL_law_400 : decode cL_law 400 = .ok (.iadd, 1) := by decide +kernel
theorem dL_law_401 : decode cL_law 401 = .ok (.iaload, 1) := by decide +kernel
theorem dL_law_402 : decode cL_law 402 = .ok (.invokevirtual 124, 3) := by decide +kernel
theorem dL_law_405 : decode cL_law 405 = .ok (.istore 7, 2) := by decide +kernel
theorem dL_law_407 : decode cL_law 407 = .ok (.aload_n 2, 1) := by decide +kernel
theorem dL_law_408 : decode cL_law 408 = .ok (.invokevirtual 111, 3) := by decide +kernel
theorem dL_law_411 : decode cL_law 411 = .ok (.iload 6, 2) := by decide +kernel
theorem dL_law_413 : decode cL_law 413 = .ok (.if_icmp .eq 5, 3) := by decide +kernel
theorem dL_law_416 : decode cL_law 416 = .ok (.iconst 0, 1) := by decide +kernel
theorem dL_law_417 : decode cL_law 417 = .ok (.ireturn, 1) := by decide +kernel
theorem dL_law_418 : decode cL_law 418 = .ok (.iload 6, 2) := by decide +kernel
theorem dL_law_420 : decode cL_law 420 = .ok (.ifCond .ne 15, 3) := by decide +kernel
theorem dL_law_423 : decode cL_law 423 = .ok (.aload_n 3, 1) := by decide +kernel
theorem dL_law_424 : decode cL_law 424 = .ok (.iconst 0, 1) := by decide +kernel
theorem dL_law_425 : decode cL_law 425 = .ok (.laload, 1) := by decide +kernel
theorem dL_law_426 : decode cL_law 426 = .ok (.iload 7, 2) := by decide +kernel
theorem dL_law_428 : decode cL_law 428 = .ok (.i2l, 1) := by decide +kernel
theorem dL_law_429 : decode cL_law 429 = .ok (.lcmp, 1) := by decide +kernel
theorem dL_law_430 : decode cL_law 430 = .ok (.ifCond .eq 5, 3) := by decide +kernel
theorem dL_law_433 : decode cL_law 433 = .ok (.iconst 0, 1) := by decide +kernel
theorem dL_law_434 : decode cL_law 434 = .ok (.ireturn, 1) := by decide +kernel
theorem dL_law_435 : decode cL_law 435 = .ok (.goto 1490, 3) := by decide +kernel
theorem dL_law_438 : decode cL_law 438 = .ok (.aload_n 1, 1) := by decide +kernel
theorem dL_law_439 : decode cL_law 439 = .ok (.aload_n 0, 1) := by decide +kernel
theorem dL_law_440 : decode cL_law 440 = .ok (.iload 5, 2) := by decide +kernel
theorem dL_law_442 : decode cL_law 442 = .ok (.iconst 1, 1) := by decide +kernel
theorem dL_law_443 : decode cL_law 443 = .ok (.iadd, 1) := by decide +kernel
theorem dL_law_444 : decode cL_law 444 = .ok (.iaload, 1) := by decide +kernel
theorem dL_law_445 : decode cL_law 445 = .ok (.aload_n 0, 1) := by decide +kernel
theorem dL_law_446 : decode cL_law 446 = .ok (.iload 5, 2) := by decide +kernel
theorem dL_law_448 : decode cL_law 448 = .ok (.iconst 2, 1) := by decide +kernel
theorem dL_law_449 : decode cL_law 449 = .ok (.iadd, 1) := by decide +kernel
theorem dL_law_450 : decode cL_law 450 = .ok (.iaload, 1) := by decide +kernel
theorem dL_law_451 : decode cL_law 451 = .ok (.aload_n 3, 1) := by decide +kernel
theorem dL_law_452 : decode cL_law 452 = .ok (.invokestatic 125, 3) := by decide +kernel
theorem dL_law_455 : decode cL_law 455 = .ok (.istore 6, 2) := by decide +kernel
theorem dL_law_457 : decode cL_law 457 = .ok (.aload_n 2, 1) := by decide +kernel
theorem dL_law_458 : decode cL_law 458 = .ok (.aload_n 0, 1) := by decide +kernel
theorem dL_law_459 : decode cL_law 459 = .ok (.iload 5, 2) := by decide +kernel
theorem dL_law_461 : decode cL_law 461 = .ok (.iconst 1, 1) := by decide +kernel
theorem dL_law_462 : decode cL_law 462 = .ok (.iadd, 1) := by decide +kernel
theorem dL_law_463 : decode cL_law 463 = .ok (.iaload, 1) := by decide +kernel
theorem dL_law_464 : decode cL_law 464 = .ok (.aload_n 0, 1) := by decide +kernel
theorem dL_law_465 : decode cL_law 465 = .ok (.iload 5, 2) := by decide +kernel
theorem dL_law_467 : decode cL_law 467 = .ok (.iconst 2, 1) := by decide +kernel
theorem dL_law_468 : decode cL_law 468 = .ok (.iadd, 1) := by decide +kernel
theorem dL_law_469 : decode cL_law 469 = .ok (.iaload, 1) := by decide +kernel
theorem dL_law_470 : decode cL_law 470 = .ok (.invokevirtual 128, 3) := by decide +kernel
theorem dL_law_473 : decode cL_law 473 = .ok (.istore 7, 2) := by decide +kernel
theorem dL_law_475 : decode cL_law 475 = .ok (.aload_n 2, 1) := by decide +kernel
theorem dL_law_476 : decode cL_law 476 = .ok (.invokevirtual 111, 3) := by decide +kernel
theorem dL_law_479 : decode cL_law 479 = .ok (.iload 6, 2) := by decide +kernel
theorem dL_law_481 : decode cL_law 481 = .ok (.if_icmp .eq 5, 3) := by decide +kernel
theorem dL_law_484 : decode cL_law 484 = .ok (.iconst 0, 1) := by decide +kernel
theorem dL_law_485 : decode cL_law 485 = .ok (.ireturn, 1) := by decide +kernel
theorem dL_law_486 : decode cL_law 486 = .ok (.iload 6, 2) := by decide +kernel
theorem dL_law_488 : decode cL_law 488 = .ok (.ifCond .ne 15, 3) := by decide +kernel
theorem dL_law_491 : decode cL_law 491 = .ok (.aload_n 3, 1) := by decide +kernel
theorem dL_law_492 : decode cL_law 492 = .ok (.iconst 0, 1) := by decide +kernel
theorem dL_law_493 : decode cL_law 493 = .ok (.laload, 1) := by decide +kernel
theorem dL_law_494 : decode cL_law 494 = .ok (.iload 7, 2) := by decide +kernel
theorem dL_law_496 : decode cL_law 496 = .ok (.i2l, 1) := by decide +kernel
theorem dL_law_497 : decode cL_law 497 = .ok (.lcmp, 1) := by decide +kernel
theorem dL_law_498 : decode cL_law 498 = .ok (.ifCond .eq 5, 3) := by decide +kernel
theorem dL_law_501 : decode cL_law 501 = .ok (.iconst 0, 1) := by decide +kernel
theorem dL_law_502 : decode cL_law 502 = .ok (.ireturn, 1) := by decide +kernel
theorem dL_law_503 : decode cL_law 503 = .ok (.goto 1422, 3) := by decide +kernel
theorem dL_law_506 : decode cL_law 506 = .ok (.aload_n 1, 1) := by decide +kernel
theorem dL_law_507 : decode cL_law 507 = .ok (.aload_n 0, 1) := by decide +kernel
theorem dL_law_508 : decode cL_law 508 = .ok (.iload 5, 2) := by decide +kernel
theorem dL_law_510 : decode cL_law 510 = .ok (.iconst 1, 1) := by decide +kernel
theorem dL_law_511 : decode cL_law 511 = .ok (.iadd, 1) := by decide +kernel
theorem dL_law_512 : decode cL_law 512 = .ok (.iaload, 1) := by decide +kernel
theorem dL_law_513 : decode cL_law 513 = .ok (.aload_n 0, 1) := by decide +kernel
theorem dL_law_514 : decode cL_law 514 = .ok (.iload 5, 2) := by decide +kernel
theorem dL_law_516 : decode cL_law 516 = .ok (.iconst 2, 1) := by decide +kernel
theorem dL_law_517 : decode cL_law 517 = .ok (.iadd, 1) := by decide +kernel
theorem dL_law_518 : decode cL_law 518 = .ok (.iaload, 1) := by decide +kernel
theorem dL_law_519 : decode cL_law 519 = .ok (.aload_n 0, 1) := by decide +kernel
theorem dL_law_520 : decode cL_law 520 = .ok (.iload 5, 2) := by decide +kernel
theorem dL_law_522 : decode cL_law 522 = .ok (.iconst 3, 1) := by decide +kernel
theorem dL_law_523 : decode cL_law 523 = .ok (.iadd, 1) := by decide +kernel
theorem dL_law_524 : decode cL_law 524 = .ok (.iaload, 1) := by decide +kernel
theorem dL_law_525 : decode cL_law 525 = .ok (.aload_n 3, 1) := by decide +kernel
theorem dL_law_526 : decode cL_law 526 = .ok (.invokestatic 129, 3) := by decide +kernel
theorem dL_law_529 : decode cL_law 529 = .ok (.istore 6, 2) := by decide +kernel
theorem dL_law_531 : decode cL_law 531 = .ok (.aload_n 2, 1) := by decide +kernel
theorem dL_law_532 : decode cL_law 532 = .ok (.aload_n 0, 1) := by decide +kernel
theorem dL_law_533 : decode cL_law 533 = .ok (.iload 5, 2) := by decide +kernel
theorem dL_law_535 : decode cL_law 535 = .ok (.iconst 1, 1) := by decide +kernel
theorem dL_law_536 : decode cL_law 536 = .ok (.iadd, 1) := by decide +kernel
theorem dL_law_537 : decode cL_law 537 = .ok (.iaload, 1) := by decide +kernel
theorem dL_law_538 : decode cL_law 538 = .ok (.aload_n 0, 1) := by decide +kernel
theorem dL_law_539 : decode cL_law 539 = .ok (.iload 5, 2) := by decide +kernel
theorem dL_law_541 : decode cL_law 541 = .ok (.iconst 2, 1) := by decide +kernel
theorem dL_law_542 : decode cL_law 542 = .ok (.iadd, 1) := by decide +kernel
theorem dL_law_543 : decode cL_law 543 = .ok (.iaload, 1) := by decide +kernel
theorem dL_law_544 : decode cL_law 544 = .ok (.aload_n 0, 1) := by decide +kernel
theorem dL_law_545 : decode cL_law 545 = .ok (.iload 5, 2) := by decide +kernel
theorem dL_law_547 : decode cL_law 547 = .ok (.iconst 3, 1) := by decide +kernel
theorem dL_law_548 : decode cL_law 548 = .ok (.iadd, 1) := by decide +kernel
theorem dL_law_549 : decode cL_law 549 = .ok (.iaload, 1) := by decide +kernel
theorem dL_law_550 : decode cL_law 550 = .ok (.invokevirtual 132, 3) := by decide +kernel
theorem dL_law_553 : decode cL_law 553 = .ok (.istore 7, 2) := by decide +kernel
theorem dL_law_555 : decode cL_law 555 = .ok (.aload_n 2, 1) := by decide +kernel
theorem dL_law_556 : decode cL_law 556 = .ok (.invokevirtual 111, 3) := by decide +kernel
theorem dL_law_559 : decode cL_law 559 = .ok (.iload 6, 2) := by decide +kernel
theorem dL_law_561 : decode cL_law 561 = .ok (.if_icmp .eq 5, 3) := by decide +kernel
theorem dL_law_564 : decode cL_law 564 = .ok (.iconst 0, 1) := by decide +kernel
theorem dL_law_565 : decode cL_law 565 = .ok (.ireturn, 1) := by decide +kernel
theorem dL_law_566 : decode cL_law 566 = .ok (.iload 6, 2) := by decide +kernel
theorem dL_law_568 : decode cL_law 568 = .ok (.ifCond .ne 15, 3) := by decide +kernel
theorem dL_law_571 : decode cL_law 571 = .ok (.aload_n 3, 1) := by decide +kernel
theorem dL_law_572 : decode cL_law 572 = .ok (.iconst 0, 1) := by decide +kernel
theorem dL_law_573 : decode cL_law 573 = .ok (.laload, 1) := by decide +kernel
theorem dL_law_574 : decode cL_law 574 = .ok (.iload 7, 2) := by decide +kernel
theorem dL_law_576 : decode cL_law 576 = .ok (.i2l, 1) := by decide +kernel
theorem dL_law_577 : decode cL_law 577 = .ok (.lcmp, 1) := by decide +kernel
theorem dL_law_578 : decode cL_law 578 = .ok (.ifCond .eq 5, 3) := by decide +kernel
theorem dL_law_581 : decode cL_law 581 = .ok (.iconst 0, 1) := by decide +kernel
theorem dL_law_582 : decode cL_law 582 = .ok (.ireturn, 1) := by decide +kernel
theorem dL_law_583 : decode cL_law 583 = .ok (.goto 1342, 3) := by decide +kernel
theorem dL_law_586 : decode cL_law 586 = .ok (.aload_n 1, 1) := by decide +kernel
theorem dL_law_587 : decode cL_law 587 = .ok (.aload_n 0, 1) := by decide +kernel
theorem dL_law_588 : decode cL_law 588 = .ok (.iload 5, 2) := by decide +kernel
theorem dL_law_590 : decode cL_law 590 = .ok (.iconst 1, 1) := by decide +kernel
theorem dL_law_591 : decode cL_law 591 = .ok (.iadd, 1) := by decide +kernel
theorem dL_law_592 : decode cL_law 592 = .ok (.iaload, 1) := by decide +kernel
theorem dL_law_593 : decode cL_law 593 = .ok (.aload_n 0, 1) := by decide +kernel
theorem dL_law_594 : decode cL_law 594 = .ok (.iload 5, 2) := by decide +kernel
theorem dL_law_596 : decode cL_law 596 = .ok (.iconst 2, 1) := by decide +kernel
theorem dL_law_597 : decode cL_law 597 = .ok (.iadd, 1) := by decide +kernel
theorem dL_law_598 : decode cL_law 598 = .ok (.iaload, 1) := by decide +kernel
theorem dL_law_599 : decode cL_law 599 = .ok (.aload_n 0, 1) := by decide +kernel
theorem dL_law_600 : decode cL_law 600 = .ok (.iload 5, 2) := by decide +kernel
theorem dL_law_602 : decode cL_law 602 = .ok (.iconst 3, 1) := by decide +kernel
theorem dL_law_603 : decode cL_law 603 = .ok (.iadd, 1) := by decide +kernel
theorem dL_law_604 : decode cL_law 604 = .ok (.iaload, 1) := by decide +kernel
theorem dL_law_605 : decode cL_law 605 = .ok (.aload_n 0, 1) := by decide +kernel
theorem dL_law_606 : decode cL_law 606 = .ok (.iload 5, 2) := by decide +kernel
theorem dL_law_608 : decode cL_law 608 = .ok (.iconst 4, 1) := by decide +kernel
theorem dL_law_609 : decode cL_law 609 = .ok (.iadd, 1) := by decide +kernel
theorem dL_law_610 : decode cL_law 610 = .ok (.iaload, 1) := by decide +kernel
theorem dL_law_611 : decode cL_law 611 = .ok (.aload_n 3, 1) := by decide +kernel
theorem dL_law_612 : decode cL_law 612 = .ok (.invokestatic 133, 3) := by decide +kernel
theorem dL_law_615 : decode cL_law 615 = .ok (.istore 6, 2) := by decide +kernel
theorem dL_law_617 : decode cL_law 617 = .ok (.aload_n 2, 1) := by decide +kernel
theorem dL_law_618 : decode cL_law 618 = .ok (.aload_n 0, 1) := by decide +kernel
theorem dL_law_619 : decode cL_law 619 = .ok (.iload 5, 2) := by decide +kernel
theorem dL_law_621 : decode cL_law 621 = .ok (.iconst 1, 1) := by decide +kernel
theorem dL_law_622 : decode cL_law 622 = .ok (.iadd, 1) := by decide +kernel
theorem dL_law_623 : decode cL_law 623 = .ok (.iaload, 1) := by decide +kernel
theorem dL_law_624 : decode cL_law 624 = .ok (.aload_n 0, 1) := by decide +kernel
theorem dL_law_625 : decode cL_law 625 = .ok (.iload 5, 2) := by decide +kernel
theorem dL_law_627 : decode cL_law 627 = .ok (.iconst 2, 1) := by decide +kernel
theorem dL_law_628 : decode cL_law 628 = .ok (.iadd, 1) := by decide +kernel
theorem dL_law_629 : decode cL_law 629 = .ok (.iaload, 1) := by decide +kernel
theorem dL_law_630 : decode cL_law 630 = .ok (.aload_n 0, 1) := by decide +kernel
theorem dL_law_631 : decode cL_law 631 = .ok (.iload 5, 2) := by decide +kernel
theorem dL_law_633 : decode cL_law 633 = .ok (.iconst 3, 1) := by decide +kernel
theorem dL_law_634 : decode cL_law 634 = .ok (.iadd, 1) := by decide +kernel
theorem dL_law_635 : decode cL_law 635 = .ok (.iaload, 1) := by decide +kernel
theorem dL_law_636 : decode cL_law 636 = .ok (.aload_n 0, 1) := by decide +kernel
theorem dL_law_637 : decode cL_law 637 = .ok (.iload 5, 2) := by decide +kernel
theorem dL_law_639 : decode cL_law 639 = .ok (.iconst 4, 1) := by decide +kernel
theorem dL_law_640 : decode cL_law 640 = .ok (.iadd, 1) := by decide +kernel
theorem dL_law_641 : decode cL_law 641 = .ok (.iaload, 1) := by decide +kernel
theorem dL_law_642 : decode cL_law 642 = .ok (.invokevirtual 136, 3) := by decide +kernel
theorem dL_law_645 : decode cL_law 645 = .ok (.istore 7, 2) := by decide +kernel
theorem dL_law_647 : decode cL_law 647 = .ok (.aload_n 2, 1) := by decide +kernel
theorem dL_law_648 : decode cL_law 648 = .ok (.invokevirtual 111, 3) := by decide +kernel
theorem dL_law_651 : decode cL_law 651 = .ok (.iload 6, 2) := by decide +kernel
theorem dL_law_653 : decode cL_law 653 = .ok (.if_icmp .eq 5, 3) := by decide +kernel
theorem dL_law_656 : decode cL_law 656 = .ok (.iconst 0, 1) := by decide +kernel
theorem dL_law_657 : decode cL_law 657 = .ok (.ireturn, 1) := by decide +kernel
theorem dL_law_658 : decode cL_law 658 = .ok (.iload 6, 2) := by decide +kernel
theorem dL_law_660 : decode cL_law 660 = .ok (.ifCond .ne 15, 3) := by decide +kernel
theorem dL_law_663 : decode cL_law 663 = .ok (.aload_n 3, 1) := by decide +kernel
theorem dL_law_664 : decode cL_law 664 = .ok (.iconst 0, 1) := by decide +kernel
theorem dL_law_665 : decode cL_law 665 = .ok (.laload, 1) := by decide +kernel
theorem dL_law_666 : decode cL_law 666 = .ok (.iload 7, 2) := by decide +kernel
theorem dL_law_668 : decode cL_law 668 = .ok (.i2l, 1) := by decide +kernel
theorem dL_law_669 : decode cL_law 669 = .ok (.lcmp, 1) := by decide +kernel
theorem dL_law_670 : decode cL_law 670 = .ok (.ifCond .eq 5, 3) := by decide +kernel
theorem dL_law_673 : decode cL_law 673 = .ok (.iconst 0, 1) := by decide +kernel
theorem dL_law_674 : decode cL_law 674 = .ok (.ireturn, 1) := by decide +kernel
theorem dL_law_675 : decode cL_law 675 = .ok (.goto 1250, 3) := by decide +kernel
theorem dL_law_678 : decode cL_law 678 = .ok (.aload_n 1, 1) := by decide +kernel
theorem dL_law_679 : decode cL_law 679 = .ok (.aload_n 0, 1) := by decide +kernel
theorem dL_law_680 : decode cL_law 680 = .ok (.iload 5, 2) := by decide +kernel
theorem dL_law_682 : decode cL_law 682 = .ok (.iconst 1, 1) := by decide +kernel
theorem dL_law_683 : decode cL_law 683 = .ok (.iadd, 1) := by decide +kernel
theorem dL_law_684 : decode cL_law 684 = .ok (.iaload, 1) := by decide +kernel
theorem dL_law_685 : decode cL_law 685 = .ok (.aload_n 0, 1) := by decide +kernel
theorem dL_law_686 : decode cL_law 686 = .ok (.iload 5, 2) := by decide +kernel
theorem dL_law_688 : decode cL_law 688 = .ok (.iconst 2, 1) := by decide +kernel
theorem dL_law_689 : decode cL_law 689 = .ok (.iadd, 1) := by decide +kernel
theorem dL_law_690 : decode cL_law 690 = .ok (.iaload, 1) := by decide +kernel
theorem dL_law_691 : decode cL_law 691 = .ok (.aload_n 3, 1) := by decide +kernel
theorem dL_law_692 : decode cL_law 692 = .ok (.invokestatic 137, 3) := by decide +kernel
theorem dL_law_695 : decode cL_law 695 = .ok (.istore 6, 2) := by decide +kernel
theorem dL_law_697 : decode cL_law 697 = .ok (.aload_n 2, 1) := by decide +kernel
theorem dL_law_698 : decode cL_law 698 = .ok (.aload_n 0, 1) := by decide +kernel
theorem dL_law_699 : decode cL_law 699 = .ok (.iload 5, 2) := by decide +kernel
theorem dL_law_701 : decode cL_law 701 = .ok (.iconst 1, 1) := by decide +kernel
theorem dL_law_702 : decode cL_law 702 = .ok (.iadd, 1) := by decide +kernel
theorem dL_law_703 : decode cL_law 703 = .ok (.iaload, 1) := by decide +kernel
theorem dL_law_704 : decode cL_law 704 = .ok (.aload_n 0, 1) := by decide +kernel
theorem dL_law_705 : decode cL_law 705 = .ok (.iload 5, 2) := by decide +kernel
theorem dL_law_707 : decode cL_law 707 = .ok (.iconst 2, 1) := by decide +kernel
theorem dL_law_708 : decode cL_law 708 = .ok (.iadd, 1) := by decide +kernel
theorem dL_law_709 : decode cL_law 709 = .ok (.iaload, 1) := by decide +kernel
theorem dL_law_710 : decode cL_law 710 = .ok (.invokevirtual 139, 3) := by decide +kernel
theorem dL_law_713 : decode cL_law 713 = .ok (.istore 7, 2) := by decide +kernel
theorem dL_law_715 : decode cL_law 715 = .ok (.aload_n 2, 1) := by decide +kernel
theorem dL_law_716 : decode cL_law 716 = .ok (.invokevirtual 111, 3) := by decide +kernel
theorem dL_law_719 : decode cL_law 719 = .ok (.iload 6, 2) := by decide +kernel
theorem dL_law_721 : decode cL_law 721 = .ok (.if_icmp .eq 5, 3) := by decide +kernel
theorem dL_law_724 : decode cL_law 724 = .ok (.iconst 0, 1) := by decide +kernel
theorem dL_law_725 : decode cL_law 725 = .ok (.ireturn, 1) := by decide +kernel
theorem dL_law_726 : decode cL_law 726 = .ok (.iload 6, 2) := by decide +kernel
theorem dL_law_728 : decode cL_law 728 = .ok (.ifCond .ne 15, 3) := by decide +kernel
theorem dL_law_731 : decode cL_law 731 = .ok (.aload_n 3, 1) := by decide +kernel
theorem dL_law_732 : decode cL_law 732 = .ok (.iconst 0, 1) := by decide +kernel
theorem dL_law_733 : decode cL_law 733 = .ok (.laload, 1) := by decide +kernel
theorem dL_law_734 : decode cL_law 734 = .ok (.iload 7, 2) := by decide +kernel
theorem dL_law_736 : decode cL_law 736 = .ok (.i2l, 1) := by decide +kernel
theorem dL_law_737 : decode cL_law 737 = .ok (.lcmp, 1) := by decide +kernel
theorem dL_law_738 : decode cL_law 738 = .ok (.ifCond .eq 5, 3) := by decide +kernel
theorem dL_law_741 : decode cL_law 741 = .ok (.iconst 0, 1) := by decide +kernel
theorem dL_law_742 : decode cL_law 742 = .ok (.ireturn, 1) := by decide +kernel
theorem dL_law_743 : decode cL_law 743 = .ok (.goto 1182, 3) := by decide +kernel
theorem dL_law_746 : decode cL_law 746 = .ok (.aload_n 1, 1) := by decide +kernel
theorem dL_law_747 : decode cL_law 747 = .ok (.aload_n 0, 1) := by decide +kernel
theorem dL_law_748 : decode cL_law 748 = .ok (.iload 5, 2) := by decide +kernel
theorem dL_law_750 : decode cL_law 750 = .ok (.iconst 1, 1) := by decide +kernel
theorem dL_law_751 : decode cL_law 751 = .ok (.iadd, 1) := by decide +kernel
theorem dL_law_752 : decode cL_law 752 = .ok (.iaload, 1) := by decide +kernel
theorem dL_law_753 : decode cL_law 753 = .ok (.aload_n 0, 1) := by decide +kernel
theorem dL_law_754 : decode cL_law 754 = .ok (.iload 5, 2) := by decide +kernel
theorem dL_law_756 : decode cL_law 756 = .ok (.iconst 2, 1) := by decide +kernel
theorem dL_law_757 : decode cL_law 757 = .ok (.iadd, 1) := by decide +kernel
theorem dL_law_758 : decode cL_law 758 = .ok (.iaload, 1) := by decide +kernel
theorem dL_law_759 : decode cL_law 759 = .ok (.aload_n 3, 1) := by decide +kernel
theorem dL_law_760 : decode cL_law 760 = .ok (.invokestatic 140, 3) := by decide +kernel
theorem dL_law_763 : decode cL_law 763 = .ok (.istore 6, 2) := by decide +kernel
theorem dL_law_765 : decode cL_law 765 = .ok (.aload_n 2, 1) := by decide +kernel
theorem dL_law_766 : decode cL_law 766 = .ok (.aload_n 0, 1) := by decide +kernel
theorem dL_law_767 : decode cL_law 767 = .ok (.iload 5, 2) := by decide +kernel
theorem dL_law_769 : decode cL_law 769 = .ok (.iconst 1, 1) := by decide +kernel
theorem dL_law_770 : decode cL_law 770 = .ok (.iadd, 1) := by decide +kernel
theorem dL_law_771 : decode cL_law 771 = .ok (.iaload, 1) := by decide +kernel
theorem dL_law_772 : decode cL_law 772 = .ok (.aload_n 0, 1) := by decide +kernel
theorem dL_law_773 : decode cL_law 773 = .ok (.iload 5, 2) := by decide +kernel
theorem dL_law_775 : decode cL_law 775 = .ok (.iconst 2, 1) := by decide +kernel
theorem dL_law_776 : decode cL_law 776 = .ok (.iadd, 1) := by decide +kernel
theorem dL_law_777 : decode cL_law 777 = .ok (.iaload, 1) := by decide +kernel
theorem dL_law_778 : decode cL_law 778 = .ok (.invokevirtual 142, 3) := by decide +kernel
theorem dL_law_781 : decode cL_law 781 = .ok (.istore 7, 2) := by decide +kernel
theorem dL_law_783 : decode cL_law 783 = .ok (.aload_n 2, 1) := by decide +kernel
theorem dL_law_784 : decode cL_law 784 = .ok (.invokevirtual 111, 3) := by decide +kernel
theorem dL_law_787 : decode cL_law 787 = .ok (.iload 6, 2) := by decide +kernel
theorem dL_law_789 : decode cL_law 789 = .ok (.if_icmp .eq 5, 3) := by decide +kernel
theorem dL_law_792 : decode cL_law 792 = .ok (.iconst 0, 1) := by decide +kernel
theorem dL_law_793 : decode cL_law 793 = .ok (.ireturn, 1) := by decide +kernel
theorem dL_law_794 : decode cL_law 794 = .ok (.iload 6, 2) := by decide +kernel
theorem dL_law_796 : decode cL_law 796 = .ok (.ifCond .ne 22, 3) := by decide +kernel
theorem dL_law_799 : decode cL_law 799 = .ok (.aload_n 3, 1) := by decide +kernel
theorem dL_law_800 : decode cL_law 800 = .ok (.iconst 0, 1) := by decide +kernel
theorem dL_law_801 : decode cL_law 801 = .ok (.laload, 1) := by decide +kernel
theorem dL_law_802 : decode cL_law 802 = .ok (.iload 7, 2) := by decide +kernel
theorem dL_law_804 : decode cL_law 804 = .ok (.ifCond .eq 7, 3) := by decide +kernel
theorem dL_law_807 : decode cL_law 807 = .ok (.lconst 1, 1) := by decide +kernel
theorem dL_law_808 : decode cL_law 808 = .ok (.goto 4, 3) := by decide +kernel
theorem dL_law_811 : decode cL_law 811 = .ok (.lconst 0, 1) := by decide +kernel
theorem dL_law_812 : decode cL_law 812 = .ok (.lcmp, 1) := by decide +kernel
theorem dL_law_813 : decode cL_law 813 = .ok (.ifCond .eq 5, 3) := by decide +kernel
theorem dL_law_816 : decode cL_law 816 = .ok (.iconst 0, 1) := by decide +kernel
theorem dL_law_817 : decode cL_law 817 = .ok (.ireturn, 1) := by decide +kernel
theorem dL_law_818 : decode cL_law 818 = .ok (.goto 1107, 3) := by decide +kernel
theorem dL_law_821 : decode cL_law 821 = .ok (.aload_n 1, 1) := by decide +kernel
theorem dL_law_822 : decode cL_law 822 = .ok (.aload_n 0, 1) := by decide +kernel
theorem dL_law_823 : decode cL_law 823 = .ok (.iload 5, 2) := by decide +kernel
theorem dL_law_825 : decode cL_law 825 = .ok (.iconst 1, 1) := by decide +kernel
theorem dL_law_826 : decode cL_law 826 = .ok (.iadd, 1) := by decide +kernel
theorem dL_law_827 : decode cL_law 827 = .ok (.iaload, 1) := by decide +kernel
theorem dL_law_828 : decode cL_law 828 = .ok (.aload_n 3, 1) := by decide +kernel
theorem dL_law_829 : decode cL_law 829 = .ok (.invokestatic 143, 3) := by decide +kernel
theorem dL_law_832 : decode cL_law 832 = .ok (.istore 6, 2) := by decide +kernel
theorem dL_law_834 : decode cL_law 834 = .ok (.aload_n 2, 1) := by decide +kernel
theorem dL_law_835 : decode cL_law 835 = .ok (.aload_n 0, 1) := by decide +kernel
theorem dL_law_836 : decode cL_law 836 = .ok (.iload 5, 2) := by decide +kernel
theorem dL_law_838 : decode cL_law 838 = .ok (.iconst 1, 1) := by decide +kernel
theorem dL_law_839 : decode cL_law 839 = .ok (.iadd, 1) := by decide +kernel
theorem dL_law_840 : decode cL_law 840 = .ok (.iaload, 1) := by decide +kernel
theorem dL_law_841 : decode cL_law 841 = .ok (.invokevirtual 145, 3) := by decide +kernel
theorem dL_law_844 : decode cL_law 844 = .ok (.istore 7, 2) := by decide +kernel
theorem dL_law_846 : decode cL_law 846 = .ok (.aload_n 2, 1) := by decide +kernel
theorem dL_law_847 : decode cL_law 847 = .ok (.invokevirtual 111, 3) := by decide +kernel
theorem dL_law_850 : decode cL_law 850 = .ok (.iload 6, 2) := by decide +kernel
theorem dL_law_852 : decode cL_law 852 = .ok (.if_icmp .eq 5, 3) := by decide +kernel
theorem dL_law_855 : decode cL_law 855 = .ok (.iconst 0, 1) := by decide +kernel
theorem dL_law_856 : decode cL_law 856 = .ok (.ireturn, 1) := by decide +kernel
theorem dL_law_857 : decode cL_law 857 = .ok (.iload 6, 2) := by decide +kernel
theorem dL_law_859 : decode cL_law 859 = .ok (.ifCond .ne 22, 3) := by decide +kernel
theorem dL_law_862 : decode cL_law 862 = .ok (.aload_n 3, 1) := by decide +kernel
theorem dL_law_863 : decode cL_law 863 = .ok (.iconst 0, 1) := by decide +kernel
theorem dL_law_864 : decode cL_law 864 = .ok (.laload, 1) := by decide +kernel
theorem dL_law_865 : decode cL_law 865 = .ok (.iload 7, 2) := by decide +kernel
theorem dL_law_867 : decode cL_law 867 = .ok (.ifCond .eq 7, 3) := by decide +kernel
theorem dL_law_870 : decode cL_law 870 = .ok (.lconst 1, 1) := by decide +kernel
theorem dL_law_871 : decode cL_law 871 = .ok (.goto 4, 3) := by decide +kernel
theorem dL_law_874 : decode cL_law 874 = .ok (.lconst 0, 1) := by decide +kernel
theorem dL_law_875 : decode cL_law 875 = .ok (.lcmp, 1) := by decide +kernel
theorem dL_law_876 : decode cL_law 876 = .ok (.ifCond .eq 5, 3) := by decide +kernel
theorem dL_law_879 : decode cL_law 879 = .ok (.iconst 0, 1) := by decide +kernel
theorem dL_law_880 : decode cL_law 880 = .ok (.ireturn, 1) := by decide +kernel
theorem dL_law_881 : decode cL_law 881 = .ok (.goto 1044, 3) := by decide +kernel
theorem dL_law_884 : decode cL_law 884 = .ok (.aload_n 1, 1) := by decide +kernel
theorem dL_law_885 : decode cL_law 885 = .ok (.aload_n 0, 1) := by decide +kernel
theorem dL_law_886 : decode cL_law 886 = .ok (.iload 5, 2) := by decide +kernel
theorem dL_law_888 : decode cL_law 888 = .ok (.iconst 1, 1) := by decide +kernel
theorem dL_law_889 : decode cL_law 889 = .ok (.iadd, 1) := by decide +kernel
theorem dL_law_890 : decode cL_law 890 = .ok (.iaload, 1) := by decide +kernel
theorem dL_law_891 : decode cL_law 891 = .ok (.aload_n 3, 1) := by decide +kernel
theorem dL_law_892 : decode cL_law 892 = .ok (.invokestatic 146, 3) := by decide +kernel
theorem dL_law_895 : decode cL_law 895 = .ok (.istore 6, 2) := by decide +kernel
theorem dL_law_897 : decode cL_law 897 = .ok (.aload_n 2, 1) := by decide +kernel
theorem dL_law_898 : decode cL_law 898 = .ok (.aload_n 0, 1) := by decide +kernel
theorem dL_law_899 : decode cL_law 899 = .ok (.iload 5, 2) := by decide +kernel
theorem dL_law_901 : decode cL_law 901 = .ok (.iconst 1, 1) := by decide +kernel
theorem dL_law_902 : decode cL_law 902 = .ok (.iadd, 1) := by decide +kernel
theorem dL_law_903 : decode cL_law 903 = .ok (.iaload, 1) := by decide +kernel
theorem dL_law_904 : decode cL_law 904 = .ok (.invokevirtual 148, 3) := by decide +kernel
theorem dL_law_907 : decode cL_law 907 = .ok (.istore 7, 2) := by decide +kernel
theorem dL_law_909 : decode cL_law 909 = .ok (.aload_n 2, 1) := by decide +kernel
theorem dL_law_910 : decode cL_law 910 = .ok (.invokevirtual 111, 3) := by decide +kernel
theorem dL_law_913 : decode cL_law 913 = .ok (.iload 6, 2) := by decide +kernel
theorem dL_law_915 : decode cL_law 915 = .ok (.if_icmp .eq 5, 3) := by decide +kernel
theorem dL_law_918 : decode cL_law 918 = .ok (.iconst 0, 1) := by decide +kernel
theorem dL_law_919 : decode cL_law 919 = .ok (.ireturn, 1) := by decide +kernel
theorem dL_law_920 : decode cL_law 920 = .ok (.iload 6, 2) := by decide +kernel
theorem dL_law_922 : decode cL_law 922 = .ok (.ifCond .ne 15, 3) := by decide +kernel
theorem dL_law_925 : decode cL_law 925 = .ok (.aload_n 3, 1) := by decide +kernel
theorem dL_law_926 : decode cL_law 926 = .ok (.iconst 0, 1) := by decide +kernel
theorem dL_law_927 : decode cL_law 927 = .ok (.laload, 1) := by decide +kernel
theorem dL_law_928 : decode cL_law 928 = .ok (.iload 7, 2) := by decide +kernel
theorem dL_law_930 : decode cL_law 930 = .ok (.i2l, 1) := by decide +kernel
theorem dL_law_931 : decode cL_law 931 = .ok (.lcmp, 1) := by decide +kernel
theorem dL_law_932 : decode cL_law 932 = .ok (.ifCond .eq 5, 3) := by decide +kernel
theorem dL_law_935 : decode cL_law 935 = .ok (.iconst 0, 1) := by decide +kernel
theorem dL_law_936 : decode cL_law 936 = .ok (.ireturn, 1) := by decide +kernel
theorem dL_law_937 : decode cL_law 937 = .ok (.goto 988, 3) := by decide +kernel
theorem dL_law_940 : decode cL_law 940 = .ok (.aload_n 1, 1) := by decide +kernel
theorem dL_law_941 : decode cL_law 941 = .ok (.aload_n 0, 1) := by decide +kernel
theorem dL_law_942 : decode cL_law 942 = .ok (.iload 5, 2) := by decide +kernel
theorem dL_law_944 : decode cL_law 944 = .ok (.iconst 1, 1) := by decide +kernel
theorem dL_law_945 : decode cL_law 945 = .ok (.iadd, 1) := by decide +kernel
theorem dL_law_946 : decode cL_law 946 = .ok (.iaload, 1) := by decide +kernel
theorem dL_law_947 : decode cL_law 947 = .ok (.aload_n 0, 1) := by decide +kernel
theorem dL_law_948 : decode cL_law 948 = .ok (.iload 5, 2) := by decide +kernel
theorem dL_law_950 : decode cL_law 950 = .ok (.iconst 2, 1) := by decide +kernel
theorem dL_law_951 : decode cL_law 951 = .ok (.iadd, 1) := by decide +kernel
theorem dL_law_952 : decode cL_law 952 = .ok (.iaload, 1) := by decide +kernel
theorem dL_law_953 : decode cL_law 953 = .ok (.aload_n 3, 1) := by decide +kernel
theorem dL_law_954 : decode cL_law 954 = .ok (.invokestatic 149, 3) := by decide +kernel
theorem dL_law_957 : decode cL_law 957 = .ok (.istore 6, 2) := by decide +kernel
theorem dL_law_959 : decode cL_law 959 = .ok (.aload_n 2, 1) := by decide +kernel
theorem dL_law_960 : decode cL_law 960 = .ok (.aload_n 0, 1) := by decide +kernel
theorem dL_law_961 : decode cL_law 961 = .ok (.iload 5, 2) := by decide +kernel
theorem dL_law_963 : decode cL_law 963 = .ok (.iconst 1, 1) := by decide +kernel
theorem dL_law_964 : decode cL_law 964 = .ok (.iadd, 1) := by decide +kernel
theorem dL_law_965 : decode cL_law 965 = .ok (.iaload, 1) := by decide +kernel
theorem dL_law_966 : decode cL_law 966 = .ok (.aload_n 0, 1) := by decide +kernel
theorem dL_law_967 : decode cL_law 967 = .ok (.iload 5, 2) := by decide +kernel
theorem dL_law_969 : decode cL_law 969 = .ok (.iconst 2, 1) := by decide +kernel
theorem dL_law_970 : decode cL_law 970 = .ok (.iadd, 1) := by decide +kernel
theorem dL_law_971 : decode cL_law 971 = .ok (.iaload, 1) := by decide +kernel
theorem dL_law_972 : decode cL_law 972 = .ok (.invokevirtual 151, 3) := by decide +kernel
theorem dL_law_975 : decode cL_law 975 = .ok (.istore 7, 2) := by decide +kernel
theorem dL_law_977 : decode cL_law 977 = .ok (.aload_n 2, 1) := by decide +kernel
theorem dL_law_978 : decode cL_law 978 = .ok (.invokevirtual 111, 3) := by decide +kernel
theorem dL_law_981 : decode cL_law 981 = .ok (.iload 6, 2) := by decide +kernel
theorem dL_law_983 : decode cL_law 983 = .ok (.if_icmp .eq 5, 3) := by decide +kernel
theorem dL_law_986 : decode cL_law 986 = .ok (.iconst 0, 1) := by decide +kernel
theorem dL_law_987 : decode cL_law 987 = .ok (.ireturn, 1) := by decide +kernel
theorem dL_law_988 : decode cL_law 988 = .ok (.iload 6, 2) := by decide +kernel
theorem dL_law_990 : decode cL_law 990 = .ok (.ifCond .ne 15, 3) := by decide +kernel
theorem dL_law_993 : decode cL_law 993 = .ok (.aload_n 3, 1) := by decide +kernel
theorem dL_law_994 : decode cL_law 994 = .ok (.iconst 0, 1) := by decide +kernel
theorem dL_law_995 : decode cL_law 995 = .ok (.laload, 1) := by decide +kernel
theorem dL_law_996 : decode cL_law 996 = .ok (.iload 7, 2) := by decide +kernel
theorem dL_law_998 : decode cL_law 998 = .ok (.i2l, 1) := by decide +kernel
theorem dL_law_999 : decode cL_law 999 = .ok (.lcmp, 1) := by decide +kernel
theorem dL_law_1000 : decode cL_law 1000 = .ok (.ifCond .eq 5, 3) := by decide +kernel
theorem dL_law_1003 : decode cL_law 1003 = .ok (.iconst 0, 1) := by decide +kernel

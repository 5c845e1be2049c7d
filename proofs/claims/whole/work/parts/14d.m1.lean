theorem d_M_workOut_0 : decode q_M_workOut.2.1 0 = .ok (.iconst 0, 1) := by decide +kernel
theorem d_M_workOut_1 : decode q_M_workOut.2.1 1 = .ok (.istore 4, 2) := by decide +kernel
theorem d_M_workOut_3 : decode q_M_workOut.2.1 3 = .ok (.sipush 340, 3) := by decide +kernel
theorem d_M_workOut_6 : decode q_M_workOut.2.1 6 = .ok (.iload_n 1, 1) := by decide +kernel
theorem d_M_workOut_7 : decode q_M_workOut.2.1 7 = .ok (.imul, 1) := by decide +kernel
theorem d_M_workOut_8 : decode q_M_workOut.2.1 8 = .ok (.iload_n 2, 1) := by decide +kernel
theorem d_M_workOut_9 : decode q_M_workOut.2.1 9 = .ok (.iadd, 1) := by decide +kernel
theorem d_M_workOut_10 : decode q_M_workOut.2.1 10 = .ok (.istore 5, 2) := by decide +kernel
theorem d_M_workOut_12 : decode q_M_workOut.2.1 12 = .ok (.iload 5, 2) := by decide +kernel
theorem d_M_workOut_14 : decode q_M_workOut.2.1 14 = .ok (.sipush 340, 3) := by decide +kernel
theorem d_M_workOut_17 : decode q_M_workOut.2.1 17 = .ok (.iload_n 1, 1) := by decide +kernel
theorem d_M_workOut_18 : decode q_M_workOut.2.1 18 = .ok (.imul, 1) := by decide +kernel
theorem d_M_workOut_19 : decode q_M_workOut.2.1 19 = .ok (.iload_n 3, 1) := by decide +kernel
theorem d_M_workOut_20 : decode q_M_workOut.2.1 20 = .ok (.iadd, 1) := by decide +kernel
theorem d_M_workOut_21 : decode q_M_workOut.2.1 21 = .ok (.if_icmp .ge 150, 3) := by decide +kernel
theorem d_M_workOut_24 : decode q_M_workOut.2.1 24 = .ok (.aload_n 0, 1) := by decide +kernel
theorem d_M_workOut_25 : decode q_M_workOut.2.1 25 = .ok (.getfield 13, 3) := by decide +kernel
theorem d_M_workOut_28 : decode q_M_workOut.2.1 28 = .ok (.iload 5, 2) := by decide +kernel
theorem d_M_workOut_171 : decode q_M_workOut.2.1 171 = .ok (.aload_n 0, 1) := by decide +kernel
theorem d_M_workOut_172 : decode q_M_workOut.2.1 172 = .ok (.getfield 37, 3) := by decide +kernel
theorem fl_M_37 : rx_F "GlassRoomModel" 37 12 16 := ⟨(RX12, TX12, 45), rfl, by decide, (rx_s5 115 rfl rfl), rx_T12⟩
theorem d_M_workOut_175 : decode q_M_workOut.2.1 175 = .ok (.iconst 0, 1) := by decide +kernel
theorem d_M_workOut_176 : decode q_M_workOut.2.1 176 = .ok (.iaload, 1) := by decide +kernel
theorem d_M_workOut_177 : decode q_M_workOut.2.1 177 = .ok (.ireturn, 1) := by decide +kernel
theorem d_M_workOut_30 : decode q_M_workOut.2.1 30 = .ok (.iaload, 1) := by decide +kernel
theorem d_M_workOut_31 : decode q_M_workOut.2.1 31 = .ok (.ifCond .eq 14, 3) := by decide +kernel
theorem d_M_workOut_45 : decode q_M_workOut.2.1 45 = .ok (.aload_n 0, 1) := by decide +kernel
theorem d_M_workOut_46 : decode q_M_workOut.2.1 46 = .ok (.getfield 37, 3) := by decide +kernel
theorem d_M_workOut_49 : decode q_M_workOut.2.1 49 = .ok (.iload 4, 2) := by decide +kernel
theorem d_M_workOut_51 : decode q_M_workOut.2.1 51 = .ok (.aload_n 0, 1) := by decide +kernel
theorem d_M_workOut_52 : decode q_M_workOut.2.1 52 = .ok (.getfield 13, 3) := by decide +kernel
theorem d_M_workOut_55 : decode q_M_workOut.2.1 55 = .ok (.iload 5, 2) := by decide +kernel
theorem d_M_workOut_57 : decode q_M_workOut.2.1 57 = .ok (.iaload, 1) := by decide +kernel
theorem d_M_workOut_58 : decode q_M_workOut.2.1 58 = .ok (.ifCond .ne 13, 3) := by decide +kernel
theorem d_M_workOut_61 : decode q_M_workOut.2.1 61 = .ok (.aload_n 0, 1) := by decide +kernel
theorem d_M_workOut_62 : decode q_M_workOut.2.1 62 = .ok (.getfield 16, 3) := by decide +kernel
theorem d_M_workOut_65 : decode q_M_workOut.2.1 65 = .ok (.iload 5, 2) := by decide +kernel
theorem d_M_workOut_67 : decode q_M_workOut.2.1 67 = .ok (.iaload, 1) := by decide +kernel
theorem d_M_workOut_68 : decode q_M_workOut.2.1 68 = .ok (.goto 15, 3) := by decide +kernel
theorem d_M_workOut_83 : decode q_M_workOut.2.1 83 = .ok (.iastore, 1) := by decide +kernel
theorem d_M_workOut_84 : decode q_M_workOut.2.1 84 = .ok (.iinc 4 1, 3) := by decide +kernel
theorem d_M_workOut_87 : decode q_M_workOut.2.1 87 = .ok (.goto 78, 3) := by decide +kernel
theorem d_M_workOut_165 : decode q_M_workOut.2.1 165 = .ok (.iinc 5 1, 3) := by decide +kernel
theorem d_M_workOut_168 : decode q_M_workOut.2.1 168 = .ok (.goto (-156), 3) := by decide +kernel
theorem d_M_workOut_34 : decode q_M_workOut.2.1 34 = .ok (.aload_n 0, 1) := by decide +kernel
theorem d_M_workOut_35 : decode q_M_workOut.2.1 35 = .ok (.getfield 13, 3) := by decide +kernel
theorem d_M_workOut_38 : decode q_M_workOut.2.1 38 = .ok (.iload 5, 2) := by decide +kernel
theorem d_M_workOut_40 : decode q_M_workOut.2.1 40 = .ok (.iaload, 1) := by decide +kernel
theorem d_M_workOut_41 : decode q_M_workOut.2.1 41 = .ok (.iconst 1, 1) := by decide +kernel
theorem d_M_workOut_42 : decode q_M_workOut.2.1 42 = .ok (.if_icmp .ne 48, 3) := by decide +kernel
theorem d_M_workOut_71 : decode q_M_workOut.2.1 71 = .ok (.aload_n 0, 1) := by decide +kernel
theorem d_M_workOut_72 : decode q_M_workOut.2.1 72 = .ok (.getfield 34, 3) := by decide +kernel
theorem fl_M_34 : rx_F "GlassRoomModel" 34 12 15 := ⟨(RX12, TX12, 45), rfl, by decide, (rx_s5 114 rfl rfl), rx_T12⟩
theorem d_M_workOut_75 : decode q_M_workOut.2.1 75 = .ok (.aload_n 0, 1) := by decide +kernel
theorem d_M_workOut_76 : decode q_M_workOut.2.1 76 = .ok (.getfield 16, 3) := by decide +kernel
theorem d_M_workOut_79 : decode q_M_workOut.2.1 79 = .ok (.iload 5, 2) := by decide +kernel
theorem d_M_workOut_81 : decode q_M_workOut.2.1 81 = .ok (.iaload, 1) := by decide +kernel
theorem d_M_workOut_82 : decode q_M_workOut.2.1 82 = .ok (.iaload, 1) := by decide +kernel
theorem d_M_workOut_90 : decode q_M_workOut.2.1 90 = .ok (.aload_n 0, 1) := by decide +kernel
theorem d_M_workOut_91 : decode q_M_workOut.2.1 91 = .ok (.getfield 13, 3) := by decide +kernel
theorem d_M_workOut_94 : decode q_M_workOut.2.1 94 = .ok (.iload 5, 2) := by decide +kernel
theorem d_M_workOut_96 : decode q_M_workOut.2.1 96 = .ok (.iaload, 1) := by decide +kernel
theorem d_M_workOut_97 : decode q_M_workOut.2.1 97 = .ok (.bipush 9, 2) := by decide +kernel
theorem d_M_workOut_99 : decode q_M_workOut.2.1 99 = .ok (.if_icmp .ne 26, 3) := by decide +kernel
theorem d_M_workOut_102 : decode q_M_workOut.2.1 102 = .ok (.aload_n 0, 1) := by decide +kernel
theorem d_M_workOut_103 : decode q_M_workOut.2.1 103 = .ok (.getfield 37, 3) := by decide +kernel
theorem d_M_workOut_106 : decode q_M_workOut.2.1 106 = .ok (.iload 4, 2) := by decide +kernel
theorem d_M_workOut_108 : decode q_M_workOut.2.1 108 = .ok (.iconst 1, 1) := by decide +kernel
theorem d_M_workOut_109 : decode q_M_workOut.2.1 109 = .ok (.isub, 1) := by decide +kernel
theorem d_M_workOut_110 : decode q_M_workOut.2.1 110 = .ok (.iconst 1, 1) := by decide +kernel
theorem d_M_workOut_111 : decode q_M_workOut.2.1 111 = .ok (.aload_n 0, 1) := by decide +kernel
theorem d_M_workOut_112 : decode q_M_workOut.2.1 112 = .ok (.getfield 37, 3) := by decide +kernel
theorem d_M_workOut_115 : decode q_M_workOut.2.1 115 = .ok (.iload 4, 2) := by decide +kernel
theorem d_M_workOut_117 : decode q_M_workOut.2.1 117 = .ok (.iconst 1, 1) := by decide +kernel
theorem d_M_workOut_118 : decode q_M_workOut.2.1 118 = .ok (.isub, 1) := by decide +kernel
theorem d_M_workOut_119 : decode q_M_workOut.2.1 119 = .ok (.iaload, 1) := by decide +kernel
theorem d_M_workOut_120 : decode q_M_workOut.2.1 120 = .ok (.isub, 1) := by decide +kernel
theorem d_M_workOut_121 : decode q_M_workOut.2.1 121 = .ok (.iastore, 1) := by decide +kernel
theorem d_M_workOut_122 : decode q_M_workOut.2.1 122 = .ok (.goto 43, 3) := by decide +kernel
theorem d_M_workOut_125 : decode q_M_workOut.2.1 125 = .ok (.iinc 4 (-1), 3) := by decide +kernel
theorem d_M_workOut_128 : decode q_M_workOut.2.1 128 = .ok (.aload_n 0, 1) := by decide +kernel
theorem d_M_workOut_129 : decode q_M_workOut.2.1 129 = .ok (.getfield 37, 3) := by decide +kernel
theorem d_M_workOut_132 : decode q_M_workOut.2.1 132 = .ok (.iload 4, 2) := by decide +kernel
theorem d_M_workOut_134 : decode q_M_workOut.2.1 134 = .ok (.iconst 1, 1) := by decide +kernel
theorem d_M_workOut_135 : decode q_M_workOut.2.1 135 = .ok (.isub, 1) := by decide +kernel
theorem d_M_workOut_136 : decode q_M_workOut.2.1 136 = .ok (.aload_n 0, 1) := by decide +kernel
theorem d_M_workOut_137 : decode q_M_workOut.2.1 137 = .ok (.getfield 13, 3) := by decide +kernel
theorem d_M_workOut_140 : decode q_M_workOut.2.1 140 = .ok (.iload 5, 2) := by decide +kernel
theorem d_M_workOut_142 : decode q_M_workOut.2.1 142 = .ok (.iaload, 1) := by decide +kernel
theorem d_M_workOut_143 : decode q_M_workOut.2.1 143 = .ok (.aload_n 0, 1) := by decide +kernel
theorem d_M_workOut_144 : decode q_M_workOut.2.1 144 = .ok (.getfield 37, 3) := by decide +kernel
theorem d_M_workOut_147 : decode q_M_workOut.2.1 147 = .ok (.iload 4, 2) := by decide +kernel
theorem d_M_workOut_149 : decode q_M_workOut.2.1 149 = .ok (.iconst 1, 1) := by decide +kernel
theorem d_M_workOut_150 : decode q_M_workOut.2.1 150 = .ok (.isub, 1) := by decide +kernel
theorem d_M_workOut_151 : decode q_M_workOut.2.1 151 = .ok (.iaload, 1) := by decide +kernel
theorem d_M_workOut_152 : decode q_M_workOut.2.1 152 = .ok (.i2l, 1) := by decide +kernel
theorem d_M_workOut_153 : decode q_M_workOut.2.1 153 = .ok (.aload_n 0, 1) := by decide +kernel
theorem d_M_workOut_154 : decode q_M_workOut.2.1 154 = .ok (.getfield 37, 3) := by decide +kernel
theorem d_M_workOut_157 : decode q_M_workOut.2.1 157 = .ok (.iload 4, 2) := by decide +kernel
theorem d_M_workOut_159 : decode q_M_workOut.2.1 159 = .ok (.iaload, 1) := by decide +kernel
theorem d_M_workOut_160 : decode q_M_workOut.2.1 160 = .ok (.i2l, 1) := by decide +kernel
theorem d_M_workOut_161 : decode q_M_workOut.2.1 161 = .ok (.invokestatic 190, 3) := by decide +kernel
theorem ml_M_190 : rx_CS "GlassRoomModel" 190 q_M_worked 3 := ⟨⟨(rx_s7 6 rfl rfl), (rx_s7 7 rfl rfl)⟩, ⟨(rx_s1 13 rfl rfl), q_M_worked_k, ⟨by decide, by decide, by decide +kernel⟩, by decide⟩⟩
theorem d_M_workOut_164 : decode q_M_workOut.2.1 164 = .ok (.iastore, 1) := by decide +kernel
theorem d_M_hits_0 : decode q_M_hits.2.1 0 = .ok (.aload_n 0, 1) := by decide +kernel
theorem d_M_hits_1 : decode q_M_hits.2.1 1 = .ok (.iload_n 1, 1) := by decide +kernel
theorem d_M_hits_2 : decode q_M_hits.2.1 2 = .ok (.invokevirtual 267, 3) := by decide +kernel
theorem d_M_hits_5 : decode q_M_hits.2.1 5 = .ok (.ifCond .eq 52, 3) := by decide +kernel
theorem d_M_hits_57 : decode q_M_hits.2.1 57 = .ok (.ldc_w 308, 3) := by decide +kernel
theorem d_M_hits_60 : decode q_M_hits.2.1 60 = .ok (.ireturn, 1) := by decide +kernel
theorem d_M_hits_8 : decode q_M_hits.2.1 8 = .ok (.aload_n 0, 1) := by decide +kernel
theorem d_M_hits_9 : decode q_M_hits.2.1 9 = .ok (.iload 4, 2) := by decide +kernel
theorem d_M_hits_11 : decode q_M_hits.2.1 11 = .ok (.invokevirtual 267, 3) := by decide +kernel
theorem d_M_hits_14 : decode q_M_hits.2.1 14 = .ok (.ifCond .eq 43, 3) := by decide +kernel
theorem d_M_hits_17 : decode q_M_hits.2.1 17 = .ok (.iload_n 2, 1) := by decide +kernel
theorem d_M_hits_18 : decode q_M_hits.2.1 18 = .ok (.bipush (-9), 2) := by decide +kernel
theorem d_M_hits_20 : decode q_M_hits.2.1 20 = .ok (.bipush 9, 2) := by decide +kernel
theorem d_M_hits_22 : decode q_M_hits.2.1 22 = .ok (.invokestatic 198, 3) := by decide +kernel
theorem d_M_hits_25 : decode q_M_hits.2.1 25 = .ok (.ifCond .eq 32, 3) := by decide +kernel
theorem d_M_hits_28 : decode q_M_hits.2.1 28 = .ok (.iload_n 3, 1) := by decide +kernel
theorem d_M_hits_29 : decode q_M_hits.2.1 29 = .ok (.bipush (-9), 2) := by decide +kernel
theorem d_M_hits_31 : decode q_M_hits.2.1 31 = .ok (.bipush 9, 2) := by decide +kernel
theorem d_M_hits_33 : decode q_M_hits.2.1 33 = .ok (.invokestatic 198, 3) := by decide +kernel
theorem d_M_hits_36 : decode q_M_hits.2.1 36 = .ok (.ifCond .eq 21, 3) := by decide +kernel
theorem d_M_hits_39 : decode q_M_hits.2.1 39 = .ok (.iload_n 2, 1) := by decide +kernel
theorem d_M_hits_40 : decode q_M_hits.2.1 40 = .ok (.ifCond .ne 7, 3) := by decide +kernel
theorem d_M_hits_43 : decode q_M_hits.2.1 43 = .ok (.iload_n 3, 1) := by decide +kernel
theorem d_M_hits_44 : decode q_M_hits.2.1 44 = .ok (.ifCond .eq 13, 3) := by decide +kernel
theorem d_M_hits_47 : decode q_M_hits.2.1 47 = .ok (.iload 5, 2) := by decide +kernel
theorem d_M_hits_49 : decode q_M_hits.2.1 49 = .ok (.iconst 0, 1) := by decide +kernel
theorem d_M_hits_50 : decode q_M_hits.2.1 50 = .ok (.iconst 2, 1) := by decide +kernel
theorem d_M_hits_51 : decode q_M_hits.2.1 51 = .ok (.invokestatic 198, 3) := by decide +kernel
theorem d_M_hits_54 : decode q_M_hits.2.1 54 = .ok (.ifCond .ne 7, 3) := by decide +kernel
theorem d_M_hits_61 : decode q_M_hits.2.1 61 = .ok (.iconst 0, 1) := by decide +kernel
theorem d_M_hits_62 : decode q_M_hits.2.1 62 = .ok (.istore 6, 2) := by decide +kernel
theorem d_M_hits_64 : decode q_M_hits.2.1 64 = .ok (.iconst 0, 1) := by decide +kernel
theorem d_M_hits_65 : decode q_M_hits.2.1 65 = .ok (.istore 7, 2) := by decide +kernel
theorem d_M_hits_67 : decode q_M_hits.2.1 67 = .ok (.iconst 0, 1) := by decide +kernel
theorem d_M_hits_68 : decode q_M_hits.2.1 68 = .ok (.istore 8, 2) := by decide +kernel
theorem d_M_hits_70 : decode q_M_hits.2.1 70 = .ok (.iconst 0, 1) := by decide +kernel
theorem d_M_hits_71 : decode q_M_hits.2.1 71 = .ok (.istore 9, 2) := by decide +kernel
theorem d_M_hits_73 : decode q_M_hits.2.1 73 = .ok (.bipush (-10), 2) := by decide +kernel
theorem d_M_hits_75 : decode q_M_hits.2.1 75 = .ok (.istore 10, 2) := by decide +kernel
theorem d_M_hits_77 : decode q_M_hits.2.1 77 = .ok (.iload 10, 2) := by decide +kernel
theorem d_M_hits_79 : decode q_M_hits.2.1 79 = .ok (.bipush 10, 2) := by decide +kernel
theorem d_M_hits_81 : decode q_M_hits.2.1 81 = .ok (.if_icmp .gt 150, 3) := by decide +kernel
theorem d_M_hits_84 : decode q_M_hits.2.1 84 = .ok (.bipush (-10), 2) := by decide +kernel
theorem d_M_hits_86 : decode q_M_hits.2.1 86 = .ok (.istore 11, 2) := by decide +kernel
theorem d_M_hits_231 : decode q_M_hits.2.1 231 = .ok (.iload 6, 2) := by decide +kernel
theorem d_M_hits_233 : decode q_M_hits.2.1 233 = .ok (.ifCond .ne 9, 3) := by decide +kernel
theorem d_M_hits_236 : decode q_M_hits.2.1 236 = .ok (.ldc_w 308, 3) := by decide +kernel
theorem d_M_hits_239 : decode q_M_hits.2.1 239 = .ok (.goto 31, 3) := by decide +kernel
theorem d_M_hits_242 : decode q_M_hits.2.1 242 = .ok (.iload 5, 2) := by decide +kernel
theorem d_M_hits_244 : decode q_M_hits.2.1 244 = .ok (.ifCond .ne 13, 3) := by decide +kernel
theorem d_M_hits_247 : decode q_M_hits.2.1 247 = .ok (.iload 7, 2) := by decide +kernel
theorem d_M_hits_249 : decode q_M_hits.2.1 249 = .ok (.iload 8, 2) := by decide +kernel
theorem d_M_hits_251 : decode q_M_hits.2.1 251 = .ok (.invokestatic 309, 3) := by decide +kernel
theorem d_M_hits_254 : decode q_M_hits.2.1 254 = .ok (.goto 16, 3) := by decide +kernel
theorem d_M_hits_257 : decode q_M_hits.2.1 257 = .ok (.iload 5, 2) := by decide +kernel
theorem d_M_hits_259 : decode q_M_hits.2.1 259 = .ok (.iconst 1, 1) := by decide +kernel
theorem d_M_hits_260 : decode q_M_hits.2.1 260 = .ok (.if_icmp .ne 8, 3) := by decide +kernel
theorem d_M_hits_263 : decode q_M_hits.2.1 263 = .ok (.iload 7, 2) := by decide +kernel
theorem d_M_hits_265 : decode q_M_hits.2.1 265 = .ok (.goto 5, 3) := by decide +kernel
theorem d_M_hits_268 : decode q_M_hits.2.1 268 = .ok (.iload 8, 2) := by decide +kernel
theorem d_M_hits_270 : decode q_M_hits.2.1 270 = .ok (.ireturn, 1) := by decide +kernel
theorem d_M_hits_88 : decode q_M_hits.2.1 88 = .ok (.iload 11, 2) := by decide +kernel
theorem d_M_hits_90 : decode q_M_hits.2.1 90 = .ok (.bipush 10, 2) := by decide +kernel
theorem d_M_hits_92 : decode q_M_hits.2.1 92 = .ok (.if_icmp .gt 133, 3) := by decide +kernel
theorem d_M_hits_95 : decode q_M_hits.2.1 95 = .ok (.aload_n 0, 1) := by decide +kernel
theorem d_M_hits_96 : decode q_M_hits.2.1 96 = .ok (.iload 4, 2) := by decide +kernel
theorem d_M_hits_98 : decode q_M_hits.2.1 98 = .ok (.iload 10, 2) := by decide +kernel
theorem d_M_hits_225 : decode q_M_hits.2.1 225 = .ok (.iinc 10 1, 3) := by decide +kernel
theorem d_M_hits_228 : decode q_M_hits.2.1 228 = .ok (.goto (-151), 3) := by decide +kernel
theorem d_M_hits_100 : decode q_M_hits.2.1 100 = .ok (.invokevirtual 299, 3) := by decide +kernel
theorem d_M_hits_103 : decode q_M_hits.2.1 103 = .ok (.aload_n 0, 1) := by decide +kernel
theorem d_M_hits_104 : decode q_M_hits.2.1 104 = .ok (.getfield 46, 3) := by decide +kernel
theorem d_M_hits_107 : decode q_M_hits.2.1 107 = .ok (.iload_n 1, 1) := by decide +kernel
theorem d_M_hits_108 : decode q_M_hits.2.1 108 = .ok (.iaload, 1) := by decide +kernel
theorem d_M_hits_109 : decode q_M_hits.2.1 109 = .ok (.isub, 1) := by decide +kernel
theorem d_M_hits_110 : decode q_M_hits.2.1 110 = .ok (.istore 12, 2) := by decide +kernel
theorem d_M_hits_112 : decode q_M_hits.2.1 112 = .ok (.aload_n 0, 1) := by decide +kernel
theorem d_M_hits_113 : decode q_M_hits.2.1 113 = .ok (.iload 4, 2) := by decide +kernel
theorem d_M_hits_115 : decode q_M_hits.2.1 115 = .ok (.iload 11, 2) := by decide +kernel
theorem d_M_hits_117 : decode q_M_hits.2.1 117 = .ok (.invokevirtual 302, 3) := by decide +kernel
theorem d_M_hits_120 : decode q_M_hits.2.1 120 = .ok (.aload_n 0, 1) := by decide +kernel
theorem d_M_hits_121 : decode q_M_hits.2.1 121 = .ok (.getfield 49, 3) := by decide +kernel
theorem d_M_hits_124 : decode q_M_hits.2.1 124 = .ok (.iload_n 1, 1) := by decide +kernel
theorem d_M_hits_125 : decode q_M_hits.2.1 125 = .ok (.iaload, 1) := by decide +kernel
theorem d_M_hits_126 : decode q_M_hits.2.1 126 = .ok (.isub, 1) := by decide +kernel
theorem d_M_hits_127 : decode q_M_hits.2.1 127 = .ok (.istore 13, 2) := by decide +kernel
theorem d_M_hits_129 : decode q_M_hits.2.1 129 = .ok (.iload_n 2, 1) := by decide +kernel
theorem d_M_hits_130 : decode q_M_hits.2.1 130 = .ok (.iload 12, 2) := by decide +kernel
theorem d_M_hits_132 : decode q_M_hits.2.1 132 = .ok (.imul, 1) := by decide +kernel
theorem d_M_hits_133 : decode q_M_hits.2.1 133 = .ok (.iload_n 3, 1) := by decide +kernel
theorem d_M_hits_134 : decode q_M_hits.2.1 134 = .ok (.iload 13, 2) := by decide +kernel
theorem d_M_hits_136 : decode q_M_hits.2.1 136 = .ok (.imul, 1) := by decide +kernel
theorem d_M_hits_137 : decode q_M_hits.2.1 137 = .ok (.iadd, 1) := by decide +kernel
theorem d_M_hits_138 : decode q_M_hits.2.1 138 = .ok (.istore 14, 2) := by decide +kernel
theorem d_M_hits_140 : decode q_M_hits.2.1 140 = .ok (.iload_n 2, 1) := by decide +kernel
theorem d_M_hits_141 : decode q_M_hits.2.1 141 = .ok (.iload 13, 2) := by decide +kernel
theorem d_M_hits_143 : decode q_M_hits.2.1 143 = .ok (.imul, 1) := by decide +kernel
theorem d_M_hits_144 : decode q_M_hits.2.1 144 = .ok (.iload_n 3, 1) := by decide +kernel
theorem d_M_hits_145 : decode q_M_hits.2.1 145 = .ok (.iload 12, 2) := by decide +kernel
theorem d_M_hits_147 : decode q_M_hits.2.1 147 = .ok (.imul, 1) := by decide +kernel
theorem d_M_hits_148 : decode q_M_hits.2.1 148 = .ok (.if_icmp .ne 12, 3) := by decide +kernel
theorem d_M_hits_151 : decode q_M_hits.2.1 151 = .ok (.iload 14, 2) := by decide +kernel
theorem d_M_hits_153 : decode q_M_hits.2.1 153 = .ok (.ifCond .le 7, 3) := by decide +kernel
theorem d_M_hits_160 : decode q_M_hits.2.1 160 = .ok (.iconst 0, 1) := by decide +kernel
theorem d_M_hits_156 : decode q_M_hits.2.1 156 = .ok (.iconst 1, 1) := by decide +kernel
theorem d_M_hits_157 : decode q_M_hits.2.1 157 = .ok (.goto 4, 3) := by decide +kernel
theorem d_M_hits_161 : decode q_M_hits.2.1 161 = .ok (.istore 15, 2) := by decide +kernel
theorem d_M_hits_163 : decode q_M_hits.2.1 163 = .ok (.iload 15, 2) := by decide +kernel
theorem d_M_hits_165 : decode q_M_hits.2.1 165 = .ok (.ifCond .eq 54, 3) := by decide +kernel
theorem d_M_hits_168 : decode q_M_hits.2.1 168 = .ok (.iload 6, 2) := by decide +kernel
theorem d_M_hits_170 : decode q_M_hits.2.1 170 = .ok (.ifCond .eq 34, 3) := by decide +kernel
theorem d_M_hits_204 : decode q_M_hits.2.1 204 = .ok (.iconst 1, 1) := by decide +kernel
theorem d_M_hits_205 : decode q_M_hits.2.1 205 = .ok (.istore 6, 2) := by decide +kernel
theorem d_M_hits_207 : decode q_M_hits.2.1 207 = .ok (.iload 10, 2) := by decide +kernel
theorem d_M_hits_209 : decode q_M_hits.2.1 209 = .ok (.istore 7, 2) := by decide +kernel
theorem d_M_hits_211 : decode q_M_hits.2.1 211 = .ok (.iload 11, 2) := by decide +kernel
theorem d_M_hits_213 : decode q_M_hits.2.1 213 = .ok (.istore 8, 2) := by decide +kernel
theorem d_M_hits_215 : decode q_M_hits.2.1 215 = .ok (.iload 14, 2) := by decide +kernel
theorem d_M_hits_217 : decode q_M_hits.2.1 217 = .ok (.istore 9, 2) := by decide +kernel
theorem d_M_hits_173 : decode q_M_hits.2.1 173 = .ok (.iload 14, 2) := by decide +kernel
theorem d_M_hits_175 : decode q_M_hits.2.1 175 = .ok (.iload 9, 2) := by decide +kernel
theorem d_M_hits_177 : decode q_M_hits.2.1 177 = .ok (.if_icmp .lt 27, 3) := by decide +kernel
theorem d_M_hits_180 : decode q_M_hits.2.1 180 = .ok (.iload 14, 2) := by decide +kernel
theorem d_M_hits_182 : decode q_M_hits.2.1 182 = .ok (.iload 9, 2) := by decide +kernel
theorem d_M_hits_184 : decode q_M_hits.2.1 184 = .ok (.if_icmp .ne 35, 3) := by decide +kernel
theorem d_M_hits_187 : decode q_M_hits.2.1 187 = .ok (.iload 10, 2) := by decide +kernel
theorem d_M_hits_189 : decode q_M_hits.2.1 189 = .ok (.iload 11, 2) := by decide +kernel
theorem d_M_hits_191 : decode q_M_hits.2.1 191 = .ok (.invokestatic 309, 3) := by decide +kernel
theorem d_M_hits_194 : decode q_M_hits.2.1 194 = .ok (.iload 7, 2) := by decide +kernel
theorem d_M_hits_196 : decode q_M_hits.2.1 196 = .ok (.iload 8, 2) := by decide +kernel
theorem d_M_hits_198 : decode q_M_hits.2.1 198 = .ok (.invokestatic 309, 3) := by decide +kernel
theorem d_M_hits_201 : decode q_M_hits.2.1 201 = .ok (.if_icmp .ge 18, 3) := by decide +kernel
theorem d_M_hits_219 : decode q_M_hits.2.1 219 = .ok (.iinc 11 1, 3) := by decide +kernel
theorem d_M_hits_222 : decode q_M_hits.2.1 222 = .ok (.goto (-134), 3) := by decide +kernel
set_option maxHeartbeats 4000000 in
set_option maxRecDepth 20000 in
theorem w_M_workOut {G : rx_Gh} {hp : rx_Hp} {F : Int32 → rx_Hp → Prop} (a1 : Int32) (a2 : Int32) (a3 : Int32) (H : Rn wM G 4 q_M_workOut 12 [some (.ref 0), some (.int a1), none, some (.int a3), some (.int 0), some (.int ((340 * a1) + a2))] [] hp (rI F)) : Ev wM G 4 q_M_workOut [.ref 0, .int a1, .int a2, .int a3] hp (rI F) := by
  refine ev_of rfl (Nat.le_of_ble_eq_true rfl) rfl ?_
  show Rn wM G 4 q_M_workOut 0 [some (.ref 0), some (.int a1), some (.int a2), some (.int a3), none, none] [] hp (rI F)
  refine r_iconst d_M_workOut_0 ic_0 ?_
  refine r_istore (lz := [some (.ref 0), some (.int a1), some (.int a2), some (.int a3), some (.int 0), none]) d_M_workOut_1 (by decide) rfl rfl ?_
  refine r_sipush d_M_workOut_3 sp_340 ?_
  refine r_iload_n (i := 1) d_M_workOut_6 rfl rfl ?_
  refine r_imul d_M_workOut_7 ?_
  refine r_iload_n (i := 2) d_M_workOut_8 rfl rfl ?_
  refine r_iadd d_M_workOut_9 ?_
  refine r_istore (lz := [some (.ref 0), some (.int a1), some (.int a2), some (.int a3), some (.int 0), some (.int ((340 * a1) + a2))]) d_M_workOut_10 (by decide) rfl rfl ?_
  exact rx_fgt [false, false, true] H
set_option maxHeartbeats 4000000 in
set_option maxRecDepth 20000 in
theorem w_M_workOut_12 {G : rx_Gh} {hp : rx_Hp} {F : Int32 → rx_Hp → Prop} (x1 : Int32) (x3 : Int32) (x4 : Int32) (x5 : Int32) (H : (((340 * x1) + x3) ≤ x5 → F (hp.2.1 10 0) hp) ∧ (¬ ((340 * x1) + x3) ≤ x5 → vp_in x5 1700 ∧ (((hp.2.1 2 x5.toNatClampNeg) = 0 → vp_in x4 80 ∧ (Rn wM G 4 q_M_workOut 12 [some (.ref 0), some (.int x1), none, some (.int x3), some (.int (x4 + 1)), some (.int (x5 + 1))] [] (rx_pa hp 10 x4.toNatClampNeg (hp.2.1 3 x5.toNatClampNeg)) (rI F))) ∧ (¬ (hp.2.1 2 x5.toNatClampNeg) = 0 → ((hp.2.1 2 x5.toNatClampNeg) = 1 → vp_in (hp.2.1 3 x5.toNatClampNeg) 6 ∧ (vp_in x4 80 ∧ (Rn wM G 4 q_M_workOut 12 [some (.ref 0), some (.int x1), none, some (.int x3), some (.int (x4 + 1)), some (.int (x5 + 1))] [] (rx_pa hp 10 x4.toNatClampNeg (hp.2.1 9 (hp.2.1 3 x5.toNatClampNeg).toNatClampNeg)) (rI F)))) ∧ (¬ (hp.2.1 2 x5.toNatClampNeg) = 1 → ((hp.2.1 2 x5.toNatClampNeg) = 9 → vp_in (x4 - 1) 80 ∧ (Rn wM G 4 q_M_workOut 12 [some (.ref 0), some (.int x1), none, some (.int x3), some (.int x4), some (.int (x5 + 1))] [] (rx_pa hp 10 ((x4 - 1).toNatClampNeg) (1 - (hp.2.1 10 (x4 - 1).toNatClampNeg))) (rI F))) ∧ (¬ (hp.2.1 2 x5.toNatClampNeg) = 9 → vp_in ((x4 + (-1)) - 1) 80 ∧ (vp_in (x4 + (-1)) 80 ∧ (p_M_worked (hp.2.1 2 x5.toNatClampNeg) ((hp.2.1 10 ((x4 + (-1)) - 1).toNatClampNeg).toInt64) ((hp.2.1 10 (x4 + (-1)).toNatClampNeg).toInt64) ∧ (Rn wM G 4 q_M_workOut 12 [some (.ref 0), some (.int x1), none, some (.int x3), some (.int (x4 + (-1))), some (.int (x5 + 1))] [] (rx_pa hp 10 (((x4 + (-1)) - 1).toNatClampNeg) (f_M_worked (hp.2.1 2 x5.toNatClampNeg) ((hp.2.1 10 ((x4 + (-1)) - 1).toNatClampNeg).toInt64) ((hp.2.1 10 (x4 + (-1)).toNatClampNeg).toInt64))) (rI F)))))))))) : Rn wM G 4 q_M_workOut 12 [some (.ref 0), some (.int x1), none, some (.int x3), some (.int x4), some (.int x5)] [] hp (rI F) := by
  refine r_iload d_M_workOut_12 rfl ?_
  refine r_sipush d_M_workOut_14 sp_340 ?_
  refine r_iload_n (i := 1) d_M_workOut_17 rfl rfl ?_
  refine r_imul d_M_workOut_18 ?_
  refine r_iload_n (i := 3) d_M_workOut_19 rfl rfl ?_
  refine r_iadd d_M_workOut_20 ?_
  refine r_icmp_ge (tgt := 171) d_M_workOut_21 (by decide) (fun hc_21 => ?_) (fun hc_21 => ?_)
  · replace H := H.1 hc_21
    refine r_aload_n (i := 0) d_M_workOut_171 rfl rfl ?_
    refine r_getR (b := 0) (r := 10) d_M_workOut_172 fl_M_37 (by decide) rfl rfl rfl ?_
    refine r_iconst d_M_workOut_175 ic_0 ?_
    refine r_iald (b := 10) (v := hp.2.1 10 0) d_M_workOut_176 (by decide) rfl (by unfold vp_in; decide) rfl ?_
    exact rI_ret d_M_workOut_177 rfl H
  · replace H := H.2 hc_21
    refine r_aload_n (i := 0) d_M_workOut_24 rfl rfl ?_
    refine r_getR (b := 0) (r := 2) d_M_workOut_25 fl_M_13 (by decide) rfl rfl rfl ?_
    refine r_iload d_M_workOut_28 rfl ?_
    obtain ⟨hi_30, H⟩ := H
    refine r_iald (b := 2) (v := hp.2.1 2 x5.toNatClampNeg) d_M_workOut_30 (by decide) rfl hi_30 rfl ?_
    refine r_if_eq (tgt := 45) d_M_workOut_31 (by decide) (fun hc_31 => ?_) (fun hc_31 => ?_)
    · replace H := H.1 hc_31
      refine r_aload_n (i := 0) d_M_workOut_45 rfl rfl ?_
      refine r_getR (b := 0) (r := 10) d_M_workOut_46 fl_M_37 (by decide) rfl rfl rfl ?_
      refine r_iload d_M_workOut_49 rfl ?_
      refine r_aload_n (i := 0) d_M_workOut_51 rfl rfl ?_
      refine r_getR (b := 0) (r := 2) d_M_workOut_52 fl_M_13 (by decide) rfl rfl rfl ?_
      refine r_iload d_M_workOut_55 rfl ?_
      refine r_iald (b := 2) (v := hp.2.1 2 x5.toNatClampNeg) d_M_workOut_57 (by decide) rfl hi_30 rfl ?_
      refine r_if_ne (tgt := 71) d_M_workOut_58 (by decide) (fun h => absurd hc_31 h) (fun _ => ?_)
      refine r_aload_n (i := 0) d_M_workOut_61 rfl rfl ?_
      refine r_getR (b := 0) (r := 3) d_M_workOut_62 fl_M_16 (by decide) rfl rfl rfl ?_
      refine r_iload d_M_workOut_65 rfl ?_
      refine r_iald (b := 3) (v := hp.2.1 3 x5.toNatClampNeg) d_M_workOut_67 (by decide) rfl hi_30 rfl ?_
      refine r_goto (tgt := 83) d_M_workOut_68 (by decide) ?_
      obtain ⟨hi_83, H⟩ := H
      refine r_iast (b := 10) (i := x4.toNatClampNeg) d_M_workOut_83 (by decide) rfl hi_83 rfl ?_
      refine r_iinc (v := x4 + 1) (lz := [some (.ref 0), some (.int x1), none, some (.int x3), some (.int (x4 + 1)), some (.int x5)]) d_M_workOut_84 rfl (by rw [ic_1]) (by decide) rfl rfl ?_
      refine r_goto (tgt := 165) d_M_workOut_87 (by decide) ?_
      refine r_iinc (v := x5 + 1) (lz := [some (.ref 0), some (.int x1), none, some (.int x3), some (.int (x4 + 1)), some (.int (x5 + 1))]) d_M_workOut_165 rfl (by rw [ic_1]) (by decide) rfl rfl ?_
      refine r_goto (tgt := 12) d_M_workOut_168 (by decide) ?_
      exact H
    · replace H := H.2 hc_31
      refine r_aload_n (i := 0) d_M_workOut_34 rfl rfl ?_
      refine r_getR (b := 0) (r := 2) d_M_workOut_35 fl_M_13 (by decide) rfl rfl rfl ?_
      refine r_iload d_M_workOut_38 rfl ?_
      refine r_iald (b := 2) (v := hp.2.1 2 x5.toNatClampNeg) d_M_workOut_40 (by decide) rfl hi_30 rfl ?_
      refine r_iconst d_M_workOut_41 ic_1 ?_
      refine r_icmp_ne (tgt := 90) d_M_workOut_42 (by decide) (fun hc_42 => ?_) (fun hc_42 => ?_)
      · replace H := H.2 hc_42
        refine r_aload_n (i := 0) d_M_workOut_90 rfl rfl ?_
        refine r_getR (b := 0) (r := 2) d_M_workOut_91 fl_M_13 (by decide) rfl rfl rfl ?_
        refine r_iload d_M_workOut_94 rfl ?_
        refine r_iald (b := 2) (v := hp.2.1 2 x5.toNatClampNeg) d_M_workOut_96 (by decide) rfl hi_30 rfl ?_
        refine r_bipush d_M_workOut_97 bp_9 ?_
        refine r_icmp_ne (tgt := 125) d_M_workOut_99 (by decide) (fun hc_99 => ?_) (fun hc_99 => ?_)
        · replace H := H.2 hc_99
          refine r_iinc (v := x4 + (-1)) (lz := [some (.ref 0), some (.int x1), none, some (.int x3), some (.int (x4 + (-1))), some (.int x5)]) d_M_workOut_125 rfl (by rw [ic_m1]) (by decide) rfl rfl ?_
          refine r_aload_n (i := 0) d_M_workOut_128 rfl rfl ?_
          refine r_getR (b := 0) (r := 10) d_M_workOut_129 fl_M_37 (by decide) rfl rfl rfl ?_
          refine r_iload d_M_workOut_132 rfl ?_
          refine r_iconst d_M_workOut_134 ic_1 ?_
          refine r_isub d_M_workOut_135 ?_
          refine r_aload_n (i := 0) d_M_workOut_136 rfl rfl ?_
          refine r_getR (b := 0) (r := 2) d_M_workOut_137 fl_M_13 (by decide) rfl rfl rfl ?_
          refine r_iload d_M_workOut_140 rfl ?_
          refine r_iald (b := 2) (v := hp.2.1 2 x5.toNatClampNeg) d_M_workOut_142 (by decide) rfl hi_30 rfl ?_
          refine r_aload_n (i := 0) d_M_workOut_143 rfl rfl ?_
          refine r_getR (b := 0) (r := 10) d_M_workOut_144 fl_M_37 (by decide) rfl rfl rfl ?_
          refine r_iload d_M_workOut_147 rfl ?_
          refine r_iconst d_M_workOut_149 ic_1 ?_
          refine r_isub d_M_workOut_150 ?_
          obtain ⟨hi_151, H⟩ := H
          refine r_iald (b := 10) (v := hp.2.1 10 ((x4 + (-1)) - 1).toNatClampNeg) d_M_workOut_151 (by decide) rfl hi_151 rfl ?_
          refine r_i2l d_M_workOut_152 ?_
          refine r_aload_n (i := 0) d_M_workOut_153 rfl rfl ?_
          refine r_getR (b := 0) (r := 10) d_M_workOut_154 fl_M_37 (by decide) rfl rfl rfl ?_
          refine r_iload d_M_workOut_157 rfl ?_
          obtain ⟨hi_159, H⟩ := H
          refine r_iald (b := 10) (v := hp.2.1 10 (x4 + (-1)).toNatClampNeg) d_M_workOut_159 (by decide) rfl hi_159 rfl ?_
          refine r_i2l d_M_workOut_160 ?_
          obtain ⟨hp_161_0, H⟩ := H
          refine rk_SI (d' := 3) [.int (hp.2.1 2 x5.toNatClampNeg), .long ((hp.2.1 10 ((x4 + (-1)) - 1).toNatClampNeg).toInt64), .long ((hp.2.1 10 (x4 + (-1)).toNatClampNeg).toInt64)] [.int ((x4 + (-1)) - 1), .ref 10] d_M_workOut_161 ml_M_190 rfl rfl (by decide) (Nat.le_of_ble_eq_true rfl) (s_M_worked (hp.2.1 2 x5.toNatClampNeg) ((hp.2.1 10 ((x4 + (-1)) - 1).toNatClampNeg).toInt64) ((hp.2.1 10 (x4 + (-1)).toNatClampNeg).toInt64) hp_161_0 ?_)
          refine r_iast (b := 10) (i := ((x4 + (-1)) - 1).toNatClampNeg) d_M_workOut_164 (by decide) rfl hi_151 rfl ?_
          refine r_iinc (v := x5 + 1) (lz := [some (.ref 0), some (.int x1), none, some (.int x3), some (.int (x4 + (-1))), some (.int (x5 + 1))]) d_M_workOut_165 rfl (by rw [ic_1]) (by decide) rfl rfl ?_
          refine r_goto (tgt := 12) d_M_workOut_168 (by decide) ?_
          exact H
        · replace H := H.1 hc_99
          refine r_aload_n (i := 0) d_M_workOut_102 rfl rfl ?_
          refine r_getR (b := 0) (r := 10) d_M_workOut_103 fl_M_37 (by decide) rfl rfl rfl ?_
          refine r_iload d_M_workOut_106 rfl ?_
          refine r_iconst d_M_workOut_108 ic_1 ?_
          refine r_isub d_M_workOut_109 ?_
          refine r_iconst d_M_workOut_110 ic_1 ?_
          refine r_aload_n (i := 0) d_M_workOut_111 rfl rfl ?_
          refine r_getR (b := 0) (r := 10) d_M_workOut_112 fl_M_37 (by decide) rfl rfl rfl ?_
          refine r_iload d_M_workOut_115 rfl ?_
          refine r_iconst d_M_workOut_117 ic_1 ?_
          refine r_isub d_M_workOut_118 ?_
          obtain ⟨hi_119, H⟩ := H
          refine r_iald (b := 10) (v := hp.2.1 10 (x4 - 1).toNatClampNeg) d_M_workOut_119 (by decide) rfl hi_119 rfl ?_
          refine r_isub d_M_workOut_120 ?_
          refine r_iast (b := 10) (i := (x4 - 1).toNatClampNeg) d_M_workOut_121 (by decide) rfl hi_119 rfl ?_
          refine r_goto (tgt := 165) d_M_workOut_122 (by decide) ?_
          refine r_iinc (v := x5 + 1) (lz := [some (.ref 0), some (.int x1), none, some (.int x3), some (.int x4), some (.int (x5 + 1))]) d_M_workOut_165 rfl (by rw [ic_1]) (by decide) rfl rfl ?_
          refine r_goto (tgt := 12) d_M_workOut_168 (by decide) ?_
          exact H
      · replace H := H.1 hc_42
        refine r_aload_n (i := 0) d_M_workOut_45 rfl rfl ?_
        refine r_getR (b := 0) (r := 10) d_M_workOut_46 fl_M_37 (by decide) rfl rfl rfl ?_
        refine r_iload d_M_workOut_49 rfl ?_
        refine r_aload_n (i := 0) d_M_workOut_51 rfl rfl ?_
        refine r_getR (b := 0) (r := 2) d_M_workOut_52 fl_M_13 (by decide) rfl rfl rfl ?_
        refine r_iload d_M_workOut_55 rfl ?_
        refine r_iald (b := 2) (v := hp.2.1 2 x5.toNatClampNeg) d_M_workOut_57 (by decide) rfl hi_30 rfl ?_
        refine r_if_ne (tgt := 71) d_M_workOut_58 (by decide) (fun _ => ?_) (fun h => absurd h hc_31)
        refine r_aload_n (i := 0) d_M_workOut_71 rfl rfl ?_
        refine r_getR (b := 0) (r := 9) d_M_workOut_72 fl_M_34 (by decide) rfl rfl rfl ?_
        refine r_aload_n (i := 0) d_M_workOut_75 rfl rfl ?_
        refine r_getR (b := 0) (r := 3) d_M_workOut_76 fl_M_16 (by decide) rfl rfl rfl ?_
        refine r_iload d_M_workOut_79 rfl ?_
        refine r_iald (b := 3) (v := hp.2.1 3 x5.toNatClampNeg) d_M_workOut_81 (by decide) rfl hi_30 rfl ?_
        obtain ⟨hi_82, H⟩ := H
        refine r_iald (b := 9) (v := hp.2.1 9 (hp.2.1 3 x5.toNatClampNeg).toNatClampNeg) d_M_workOut_82 (by decide) rfl hi_82 rfl ?_
        obtain ⟨hi_83, H⟩ := H
        refine r_iast (b := 10) (i := x4.toNatClampNeg) d_M_workOut_83 (by decide) rfl hi_83 rfl ?_
        refine r_iinc (v := x4 + 1) (lz := [some (.ref 0), some (.int x1), none, some (.int x3), some (.int (x4 + 1)), some (.int x5)]) d_M_workOut_84 rfl (by rw [ic_1]) (by decide) rfl rfl ?_
        refine r_goto (tgt := 165) d_M_workOut_87 (by decide) ?_
        refine r_iinc (v := x5 + 1) (lz := [some (.ref 0), some (.int x1), none, some (.int x3), some (.int (x4 + 1)), some (.int (x5 + 1))]) d_M_workOut_165 rfl (by rw [ic_1]) (by decide) rfl rfl ?_
        refine r_goto (tgt := 12) d_M_workOut_168 (by decide) ?_
        exact H
set_option maxHeartbeats 4000000 in
set_option maxRecDepth 20000 in
theorem w_M_hits {G : rx_Gh} {hp : rx_Hp} {F : Int32 → rx_Hp → Prop} (a1 : Int32) (a2 : Int32) (a3 : Int32) (a4 : Int32) (a5 : Int32) (H : ((f_M_isBody a1 hp) = 0 → F (-100000000) hp) ∧ (¬ (f_M_isBody a1 hp) = 0 → ((f_M_isBody a4 hp) = 0 → F (-100000000) hp) ∧ (¬ (f_M_isBody a4 hp) = 0 → ((f_M_in a2 (-9) 9) = 0 → F (-100000000) hp) ∧ (¬ (f_M_in a2 (-9) 9) = 0 → ((f_M_in a3 (-9) 9) = 0 → F (-100000000) hp) ∧ (¬ (f_M_in a3 (-9) 9) = 0 → (a2 = 0 → (a3 = 0 → F (-100000000) hp) ∧ (¬ a3 = 0 → ((f_M_in a5 0 2) = 0 → F (-100000000) hp) ∧ (¬ (f_M_in a5 0 2) = 0 → Rn wM G 3 q_M_hits 77 [some (.ref 0), some (.int a1), some (.int a2), some (.int a3), some (.int a4), some (.int a5), some (.int 0), some (.int 0), some (.int 0), some (.int 0), some (.int (-10)), none, none, none, none, none] [] hp (rI F)))) ∧ (¬ a2 = 0 → ((f_M_in a5 0 2) = 0 → F (-100000000) hp) ∧ (¬ (f_M_in a5 0 2) = 0 → Rn wM G 3 q_M_hits 77 [some (.ref 0), some (.int a1), some (.int a2), some (.int a3), some (.int a4), some (.int a5), some (.int 0), some (.int 0), some (.int 0), some (.int 0), some (.int (-10)), none, none, none, none, none] [] hp (rI F)))))))) : Ev wM G 3 q_M_hits [.ref 0, .int a1, .int a2, .int a3, .int a4, .int a5] hp (rI F) := by
  refine ev_of rfl (Nat.le_of_ble_eq_true rfl) rfl ?_
  show Rn wM G 3 q_M_hits 0 [some (.ref 0), some (.int a1), some (.int a2), some (.int a3), some (.int a4), some (.int a5), none, none, none, none, none, none, none, none, none, none] [] hp (rI F)
  refine r_aload_n (i := 0) d_M_hits_0 rfl rfl ?_
  refine r_iload_n (i := 1) d_M_hits_1 rfl rfl ?_
  refine rk_VI (b := 0) (d' := 2) [.int a1] [] d_M_hits_2 ml_M_267 rfl rfl (by decide) (by decide) rfl rfl (Nat.le_of_ble_eq_true rfl) (s_M_isBody a1 ?_)
  refine r_if_eq (tgt := 57) d_M_hits_5 (by decide) (fun hc_5 => ?_) (fun hc_5 => ?_)
  · replace H := H.1 hc_5
    refine r_ldcw d_M_hits_57 ck_M_308 ?_
    exact rI_ret d_M_hits_60 rfl H
  · replace H := H.2 hc_5
    refine r_aload_n (i := 0) d_M_hits_8 rfl rfl ?_
    refine r_iload d_M_hits_9 rfl ?_
    refine rk_VI (b := 0) (d' := 2) [.int a4] [] d_M_hits_11 ml_M_267 rfl rfl (by decide) (by decide) rfl rfl (Nat.le_of_ble_eq_true rfl) (s_M_isBody a4 ?_)
    refine r_if_eq (tgt := 57) d_M_hits_14 (by decide) (fun hc_14 => ?_) (fun hc_14 => ?_)
    · replace H := H.1 hc_14
      refine r_ldcw d_M_hits_57 ck_M_308 ?_
      exact rI_ret d_M_hits_60 rfl H
    · replace H := H.2 hc_14
      refine r_iload_n (i := 2) d_M_hits_17 rfl rfl ?_
      refine r_bipush d_M_hits_18 bp_m9 ?_
      refine r_bipush d_M_hits_20 bp_9 ?_
      refine rk_SI (d' := 1) [.int a2, .int (-9), .int 9] [] d_M_hits_22 ml_M_198 rfl rfl (by decide) (Nat.le_of_ble_eq_true rfl) (s_M_in a2 (-9) 9 ?_)
      refine r_if_eq (tgt := 57) d_M_hits_25 (by decide) (fun hc_25 => ?_) (fun hc_25 => ?_)
      · replace H := H.1 hc_25
        refine r_ldcw d_M_hits_57 ck_M_308 ?_
        exact rI_ret d_M_hits_60 rfl H
      · replace H := H.2 hc_25
        refine r_iload_n (i := 3) d_M_hits_28 rfl rfl ?_
        refine r_bipush d_M_hits_29 bp_m9 ?_
        refine r_bipush d_M_hits_31 bp_9 ?_
        refine rk_SI (d' := 1) [.int a3, .int (-9), .int 9] [] d_M_hits_33 ml_M_198 rfl rfl (by decide) (Nat.le_of_ble_eq_true rfl) (s_M_in a3 (-9) 9 ?_)
        refine r_if_eq (tgt := 57) d_M_hits_36 (by decide) (fun hc_36 => ?_) (fun hc_36 => ?_)
        · replace H := H.1 hc_36
          refine r_ldcw d_M_hits_57 ck_M_308 ?_
          exact rI_ret d_M_hits_60 rfl H
        · replace H := H.2 hc_36
          refine r_iload_n (i := 2) d_M_hits_39 rfl rfl ?_
          refine r_if_ne (tgt := 47) d_M_hits_40 (by decide) (fun hc_40 => ?_) (fun hc_40 => ?_)
          · replace H := H.2 hc_40
            refine r_iload d_M_hits_47 rfl ?_
            refine r_iconst d_M_hits_49 ic_0 ?_
            refine r_iconst d_M_hits_50 ic_2 ?_
            refine rk_SI (d' := 1) [.int a5, .int 0, .int 2] [] d_M_hits_51 ml_M_198 rfl rfl (by decide) (Nat.le_of_ble_eq_true rfl) (s_M_in a5 0 2 ?_)
            refine r_if_ne (tgt := 61) d_M_hits_54 (by decide) (fun hc_54 => ?_) (fun hc_54 => ?_)
            · replace H := H.2 hc_54
              refine r_iconst d_M_hits_61 ic_0 ?_
              refine r_istore (lz := [some (.ref 0), some (.int a1), some (.int a2), some (.int a3), some (.int a4), some (.int a5), some (.int 0), none, none, none, none, none, none, none, none, none]) d_M_hits_62 (by decide) rfl rfl ?_
              refine r_iconst d_M_hits_64 ic_0 ?_
              refine r_istore (lz := [some (.ref 0), some (.int a1), some (.int a2), some (.int a3), some (.int a4), some (.int a5), some (.int 0), some (.int 0), none, none, none, none, none, none, none, none]) d_M_hits_65 (by decide) rfl rfl ?_
              refine r_iconst d_M_hits_67 ic_0 ?_
              refine r_istore (lz := [some (.ref 0), some (.int a1), some (.int a2), some (.int a3), some (.int a4), some (.int a5), some (.int 0), some (.int 0), some (.int 0), none, none, none, none, none, none, none]) d_M_hits_68 (by decide) rfl rfl ?_
              refine r_iconst d_M_hits_70 ic_0 ?_
              refine r_istore (lz := [some (.ref 0), some (.int a1), some (.int a2), some (.int a3), some (.int a4), some (.int a5), some (.int 0), some (.int 0), some (.int 0), some (.int 0), none, none, none, none, none, none]) d_M_hits_71 (by decide) rfl rfl ?_
              refine r_bipush d_M_hits_73 bp_m10 ?_
              refine r_istore (lz := [some (.ref 0), some (.int a1), some (.int a2), some (.int a3), some (.int a4), some (.int a5), some (.int 0), some (.int 0), some (.int 0), some (.int 0), some (.int (-10)), none, none, none, none, none]) d_M_hits_75 (by decide) rfl rfl ?_
              exact H
            · replace H := H.1 hc_54
              refine r_ldcw d_M_hits_57 ck_M_308 ?_
              exact rI_ret d_M_hits_60 rfl H
          · replace H := H.1 hc_40
            refine r_iload_n (i := 3) d_M_hits_43 rfl rfl ?_
            refine r_if_eq (tgt := 57) d_M_hits_44 (by decide) (fun hc_44 => ?_) (fun hc_44 => ?_)
            · replace H := H.1 hc_44
              refine r_ldcw d_M_hits_57 ck_M_308 ?_
              exact rI_ret d_M_hits_60 rfl H
            · replace H := H.2 hc_44
              refine r_iload d_M_hits_47 rfl ?_
              refine r_iconst d_M_hits_49 ic_0 ?_
              refine r_iconst d_M_hits_50 ic_2 ?_
              refine rk_SI (d' := 1) [.int a5, .int 0, .int 2] [] d_M_hits_51 ml_M_198 rfl rfl (by decide) (Nat.le_of_ble_eq_true rfl) (s_M_in a5 0 2 ?_)
              refine r_if_ne (tgt := 61) d_M_hits_54 (by decide) (fun hc_54 => ?_) (fun hc_54 => ?_)
              · replace H := H.2 hc_54
                refine r_iconst d_M_hits_61 ic_0 ?_
                refine r_istore (lz := [some (.ref 0), some (.int a1), some (.int a2), some (.int a3), some (.int a4), some (.int a5), some (.int 0), none, none, none, none, none, none, none, none, none]) d_M_hits_62 (by decide) rfl rfl ?_
                refine r_iconst d_M_hits_64 ic_0 ?_
                refine r_istore (lz := [some (.ref 0), some (.int a1), some (.int a2), some (.int a3), some (.int a4), some (.int a5), some (.int 0), some (.int 0), none, none, none, none, none, none, none, none]) d_M_hits_65 (by decide) rfl rfl ?_
                refine r_iconst d_M_hits_67 ic_0 ?_
                refine r_istore (lz := [some (.ref 0), some (.int a1), some (.int a2), some (.int a3), some (.int a4), some (.int a5), some (.int 0), some (.int 0), some (.int 0), none, none, none, none, none, none, none]) d_M_hits_68 (by decide) rfl rfl ?_
                refine r_iconst d_M_hits_70 ic_0 ?_
                refine r_istore (lz := [some (.ref 0), some (.int a1), some (.int a2), some (.int a3), some (.int a4), some (.int a5), some (.int 0), some (.int 0), some (.int 0), some (.int 0), none, none, none, none, none, none]) d_M_hits_71 (by decide) rfl rfl ?_
                refine r_bipush d_M_hits_73 bp_m10 ?_
                refine r_istore (lz := [some (.ref 0), some (.int a1), some (.int a2), some (.int a3), some (.int a4), some (.int a5), some (.int 0), some (.int 0), some (.int 0), some (.int 0), some (.int (-10)), none, none, none, none, none]) d_M_hits_75 (by decide) rfl rfl ?_
                exact H
              · replace H := H.1 hc_54
                refine r_ldcw d_M_hits_57 ck_M_308 ?_
                exact rI_ret d_M_hits_60 rfl H
set_option maxHeartbeats 4000000 in
set_option maxRecDepth 20000 in
theorem w_M_hits_77 {G : rx_Gh} {hp : rx_Hp} {F : Int32 → rx_Hp → Prop} (x1 : Int32) (x2 : Int32) (x3 : Int32) (x4 : Int32) (x5 : Int32) (x6 : Int32) (x7 : Int32) (x8 : Int32) (x9 : Int32) (x10 : Int32) (H : (10 < x10 → F ((if x6 = 0 then (-100000000) else ((if x5 = 0 then (f_M_glasses x7 x8) else ((if x5 = 1 then x7 else x8) : Int32)) : Int32)) : Int32) hp) ∧ (¬ 10 < x10 → Rn wM G 3 q_M_hits 88 [some (.ref 0), some (.int x1), some (.int x2), some (.int x3), some (.int x4), some (.int x5), some (.int x6), some (.int x7), some (.int x8), some (.int x9), some (.int x10), some (.int (-10)), none, none, none, none] [] hp (rI F))) : Rn wM G 3 q_M_hits 77 [some (.ref 0), some (.int x1), some (.int x2), some (.int x3), some (.int x4), some (.int x5), some (.int x6), some (.int x7), some (.int x8), some (.int x9), some (.int x10), none, none, none, none, none] [] hp (rI F) := by
  refine r_iload d_M_hits_77 rfl ?_
  refine r_bipush d_M_hits_79 bp_10 ?_
  refine r_icmp_gt (tgt := 231) d_M_hits_81 (by decide) (fun hc_81 => ?_) (fun hc_81 => ?_)
  · replace H := H.1 hc_81
    have J233 : ∀ (v233_0 : Int32), v233_0 = ((if x6 = 0 then (-100000000) else ((if x5 = 0 then (f_M_glasses x7 x8) else ((if x5 = 1 then x7 else x8) : Int32)) : Int32)) : Int32) → Rn wM G 3 q_M_hits 270 [some (.ref 0), some (.int x1), some (.int x2), some (.int x3), some (.int x4), some (.int x5), some (.int x6), some (.int x7), some (.int x8), some (.int x9), some (.int x10), none, none, none, none, none] [.int v233_0] hp (rI F) := by
      rintro _ rfl
      exact rI_ret d_M_hits_270 rfl H
    refine r_iload d_M_hits_231 rfl ?_
    refine r_if_ne (tgt := 242) d_M_hits_233 (by decide) (fun hc_233 => ?_) (fun hc_233 => ?_)
    · refine r_iload d_M_hits_242 rfl ?_
      refine r_if_ne (tgt := 257) d_M_hits_244 (by decide) (fun hc_244 => ?_) (fun hc_244 => ?_)
      · refine r_iload d_M_hits_257 rfl ?_
        refine r_iconst d_M_hits_259 ic_1 ?_
        refine r_icmp_ne (tgt := 268) d_M_hits_260 (by decide) (fun hc_260 => ?_) (fun hc_260 => ?_)
        · refine r_iload d_M_hits_268 rfl ?_
          exact J233 _ (((if_neg hc_233).trans ((if_neg hc_244).trans ((if_neg hc_260).trans rfl)))).symm
        · refine r_iload d_M_hits_263 rfl ?_
          refine r_goto (tgt := 270) d_M_hits_265 (by decide) ?_
          exact J233 _ (((if_neg hc_233).trans ((if_neg hc_244).trans ((if_pos hc_260).trans rfl)))).symm
      · refine r_iload d_M_hits_247 rfl ?_
        refine r_iload d_M_hits_249 rfl ?_
        refine rk_SI (d' := 2) [.int x7, .int x8] [] d_M_hits_251 ml_M_309 rfl rfl (by decide) (Nat.le_of_ble_eq_true rfl) (s_M_glasses x7 x8 ?_)
        refine r_goto (tgt := 270) d_M_hits_254 (by decide) ?_
        exact J233 _ (((if_neg hc_233).trans ((if_pos hc_244).trans rfl))).symm
    · refine r_ldcw d_M_hits_236 ck_M_308 ?_
      refine r_goto (tgt := 270) d_M_hits_239 (by decide) ?_
      exact J233 _ (((if_pos hc_233).trans rfl)).symm
  · replace H := H.2 hc_81
    refine r_bipush d_M_hits_84 bp_m10 ?_
    refine r_istore (lz := [some (.ref 0), some (.int x1), some (.int x2), some (.int x3), some (.int x4), some (.int x5), some (.int x6), some (.int x7), some (.int x8), some (.int x9), some (.int x10), some (.int (-10)), none, none, none, none]) d_M_hits_86 (by decide) rfl rfl ?_
    exact H
set_option maxHeartbeats 4000000 in
set_option maxRecDepth 20000 in
theorem w_M_hits_88 {G : rx_Gh} {hp : rx_Hp} {F : Int32 → rx_Hp → Prop} (x1 : Int32) (x2 : Int32) (x3 : Int32) (x4 : Int32) (x5 : Int32) (x6 : Int32) (x7 : Int32) (x8 : Int32) (x9 : Int32) (x10 : Int32) (x11 : Int32) (H : (10 < x11 → Rn wM G 3 q_M_hits 77 [some (.ref 0), some (.int x1), some (.int x2), some (.int x3), some (.int x4), some (.int x5), some (.int x6), some (.int x7), some (.int x8), some (.int x9), some (.int (x10 + 1)), none, none, none, none, none] [] hp (rI F)) ∧ (¬ 10 < x11 → p_M_imageX x4 x10 ∧ (vp_in x1 6 ∧ (p_M_imageY x4 x11 ∧ ((((if (x2 * ((f_M_imageY x4 x11 hp) - (hp.2.1 14 x1.toNatClampNeg))) = (x3 * ((f_M_imageX x4 x10 hp) - (hp.2.1 13 x1.toNatClampNeg))) then ((if ((x2 * ((f_M_imageX x4 x10 hp) - (hp.2.1 13 x1.toNatClampNeg))) + (x3 * ((f_M_imageY x4 x11 hp) - (hp.2.1 14 x1.toNatClampNeg)))) ≤ 0 then 0 else 1) : Int32) else 0) : Int32) = 0 → Rn wM G 3 q_M_hits 88 [some (.ref 0), some (.int x1), some (.int x2), some (.int x3), some (.int x4), some (.int x5), some (.int x6), some (.int x7), some (.int x8), some (.int x9), some (.int x10), some (.int (x11 + 1)), none, none, none, none] [] hp (rI F)) ∧ (¬ ((if (x2 * ((f_M_imageY x4 x11 hp) - (hp.2.1 14 x1.toNatClampNeg))) = (x3 * ((f_M_imageX x4 x10 hp) - (hp.2.1 13 x1.toNatClampNeg))) then ((if ((x2 * ((f_M_imageX x4 x10 hp) - (hp.2.1 13 x1.toNatClampNeg))) + (x3 * ((f_M_imageY x4 x11 hp) - (hp.2.1 14 x1.toNatClampNeg)))) ≤ 0 then 0 else 1) : Int32) else 0) : Int32) = 0 → (x6 = 0 → Rn wM G 3 q_M_hits 88 [some (.ref 0), some (.int x1), some (.int x2), some (.int x3), some (.int x4), some (.int x5), some (.int 1), some (.int x10), some (.int x11), some (.int ((x2 * ((f_M_imageX x4 x10 hp) - (hp.2.1 13 x1.toNatClampNeg))) + (x3 * ((f_M_imageY x4 x11 hp) - (hp.2.1 14 x1.toNatClampNeg))))), some (.int x10), some (.int (x11 + 1)), none, none, none, none] [] hp (rI F)) ∧ (¬ x6 = 0 → (((x2 * ((f_M_imageX x4 x10 hp) - (hp.2.1 13 x1.toNatClampNeg))) + (x3 * ((f_M_imageY x4 x11 hp) - (hp.2.1 14 x1.toNatClampNeg)))) < x9 → Rn wM G 3 q_M_hits 88 [some (.ref 0), some (.int x1), some (.int x2), some (.int x3), some (.int x4), some (.int x5), some (.int 1), some (.int x10), some (.int x11), some (.int ((x2 * ((f_M_imageX x4 x10 hp) - (hp.2.1 13 x1.toNatClampNeg))) + (x3 * ((f_M_imageY x4 x11 hp) - (hp.2.1 14 x1.toNatClampNeg))))), some (.int x10), some (.int (x11 + 1)), none, none, none, none] [] hp (rI F)) ∧ (¬ ((x2 * ((f_M_imageX x4 x10 hp) - (hp.2.1 13 x1.toNatClampNeg))) + (x3 * ((f_M_imageY x4 x11 hp) - (hp.2.1 14 x1.toNatClampNeg)))) < x9 → (((x2 * ((f_M_imageX x4 x10 hp) - (hp.2.1 13 x1.toNatClampNeg))) + (x3 * ((f_M_imageY x4 x11 hp) - (hp.2.1 14 x1.toNatClampNeg)))) = x9 → ((f_M_glasses x7 x8) ≤ (f_M_glasses x10 x11) → Rn wM G 3 q_M_hits 88 [some (.ref 0), some (.int x1), some (.int x2), some (.int x3), some (.int x4), some (.int x5), some (.int x6), some (.int x7), some (.int x8), some (.int x9), some (.int x10), some (.int (x11 + 1)), none, none, none, none] [] hp (rI F)) ∧ (¬ (f_M_glasses x7 x8) ≤ (f_M_glasses x10 x11) → Rn wM G 3 q_M_hits 88 [some (.ref 0), some (.int x1), some (.int x2), some (.int x3), some (.int x4), some (.int x5), some (.int 1), some (.int x10), some (.int x11), some (.int ((x2 * ((f_M_imageX x4 x10 hp) - (hp.2.1 13 x1.toNatClampNeg))) + (x3 * ((f_M_imageY x4 x11 hp) - (hp.2.1 14 x1.toNatClampNeg))))), some (.int x10), some (.int (x11 + 1)), none, none, none, none] [] hp (rI F))) ∧ (¬ ((x2 * ((f_M_imageX x4 x10 hp) - (hp.2.1 13 x1.toNatClampNeg))) + (x3 * ((f_M_imageY x4 x11 hp) - (hp.2.1 14 x1.toNatClampNeg)))) = x9 → Rn wM G 3 q_M_hits 88 [some (.ref 0), some (.int x1), some (.int x2), some (.int x3), some (.int x4), some (.int x5), some (.int x6), some (.int x7), some (.int x8), some (.int x9), some (.int x10), some (.int (x11 + 1)), none, none, none, none] [] hp (rI F)))))))))) : Rn wM G 3 q_M_hits 88 [some (.ref 0), some (.int x1), some (.int x2), some (.int x3), some (.int x4), some (.int x5), some (.int x6), some (.int x7), some (.int x8), some (.int x9), some (.int x10), some (.int x11), none, none, none, none] [] hp (rI F) := by
  refine r_iload d_M_hits_88 rfl ?_
  refine r_bipush d_M_hits_90 bp_10 ?_
  refine r_icmp_gt (tgt := 225) d_M_hits_92 (by decide) (fun hc_92 => ?_) (fun hc_92 => ?_)
  · replace H := H.1 hc_92
    refine r_iinc (v := x10 + 1) (lz := [some (.ref 0), some (.int x1), some (.int x2), some (.int x3), some (.int x4), some (.int x5), some (.int x6), some (.int x7), some (.int x8), some (.int x9), some (.int (x10 + 1)), some (.int x11), none, none, none, none]) d_M_hits_225 rfl (by rw [ic_1]) (by decide) rfl rfl ?_
    refine r_goto (tgt := 77) d_M_hits_228 (by decide) ?_
    exact rx_fgt [false, false, false, false, false, false, false, false, false, false, false, true] H
  · replace H := H.2 hc_92
    refine r_aload_n (i := 0) d_M_hits_95 rfl rfl ?_
    refine r_iload d_M_hits_96 rfl ?_
    refine r_iload d_M_hits_98 rfl ?_
    obtain ⟨hp_100_0, H⟩ := H
    refine rk_VI (b := 0) (d' := 2) [.int x4, .int x10] [] d_M_hits_100 ml_M_299 rfl rfl (by decide) (by decide) rfl rfl (Nat.le_of_ble_eq_true rfl) (s_M_imageX x4 x10 hp_100_0 ?_)
    refine r_aload_n (i := 0) d_M_hits_103 rfl rfl ?_
    refine r_getR (b := 0) (r := 13) d_M_hits_104 fl_M_46 (by decide) rfl rfl rfl ?_
    refine r_iload_n (i := 1) d_M_hits_107 rfl rfl ?_
    obtain ⟨hi_108, H⟩ := H
    refine r_iald (b := 13) (v := hp.2.1 13 x1.toNatClampNeg) d_M_hits_108 (by decide) rfl hi_108 rfl ?_
    refine r_isub d_M_hits_109 ?_
    refine r_istore (lz := [some (.ref 0), some (.int x1), some (.int x2), some (.int x3), some (.int x4), some (.int x5), some (.int x6), some (.int x7), some (.int x8), some (.int x9), some (.int x10), some (.int x11), some (.int ((f_M_imageX x4 x10 hp) - (hp.2.1 13 x1.toNatClampNeg))), none, none, none]) d_M_hits_110 (by decide) rfl rfl ?_
    refine r_aload_n (i := 0) d_M_hits_112 rfl rfl ?_
    refine r_iload d_M_hits_113 rfl ?_
    refine r_iload d_M_hits_115 rfl ?_
    obtain ⟨hp_117_0, H⟩ := H
    refine rk_VI (b := 0) (d' := 2) [.int x4, .int x11] [] d_M_hits_117 ml_M_302 rfl rfl (by decide) (by decide) rfl rfl (Nat.le_of_ble_eq_true rfl) (s_M_imageY x4 x11 hp_117_0 ?_)
    have J148 : ∀ (v148_0 : Int32), v148_0 = ((if (x2 * ((f_M_imageY x4 x11 hp) - (hp.2.1 14 x1.toNatClampNeg))) = (x3 * ((f_M_imageX x4 x10 hp) - (hp.2.1 13 x1.toNatClampNeg))) then ((if ((x2 * ((f_M_imageX x4 x10 hp) - (hp.2.1 13 x1.toNatClampNeg))) + (x3 * ((f_M_imageY x4 x11 hp) - (hp.2.1 14 x1.toNatClampNeg)))) ≤ 0 then 0 else 1) : Int32) else 0) : Int32) → Rn wM G 3 q_M_hits 161 [some (.ref 0), some (.int x1), some (.int x2), some (.int x3), some (.int x4), some (.int x5), some (.int x6), some (.int x7), some (.int x8), some (.int x9), some (.int x10), some (.int x11), some (.int ((f_M_imageX x4 x10 hp) - (hp.2.1 13 x1.toNatClampNeg))), some (.int ((f_M_imageY x4 x11 hp) - (hp.2.1 14 x1.toNatClampNeg))), some (.int ((x2 * ((f_M_imageX x4 x10 hp) - (hp.2.1 13 x1.toNatClampNeg))) + (x3 * ((f_M_imageY x4 x11 hp) - (hp.2.1 14 x1.toNatClampNeg))))), none] [.int v148_0] hp (rI F) := by
      rintro _ rfl
      refine r_istore (lz := [some (.ref 0), some (.int x1), some (.int x2), some (.int x3), some (.int x4), some (.int x5), some (.int x6), some (.int x7), some (.int x8), some (.int x9), some (.int x10), some (.int x11), some (.int ((f_M_imageX x4 x10 hp) - (hp.2.1 13 x1.toNatClampNeg))), some (.int ((f_M_imageY x4 x11 hp) - (hp.2.1 14 x1.toNatClampNeg))), some (.int ((x2 * ((f_M_imageX x4 x10 hp) - (hp.2.1 13 x1.toNatClampNeg))) + (x3 * ((f_M_imageY x4 x11 hp) - (hp.2.1 14 x1.toNatClampNeg))))), some (.int ((if (x2 * ((f_M_imageY x4 x11 hp) - (hp.2.1 14 x1.toNatClampNeg))) = (x3 * ((f_M_imageX x4 x10 hp) - (hp.2.1 13 x1.toNatClampNeg))) then ((if ((x2 * ((f_M_imageX x4 x10 hp) - (hp.2.1 13 x1.toNatClampNeg))) + (x3 * ((f_M_imageY x4 x11 hp) - (hp.2.1 14 x1.toNatClampNeg)))) ≤ 0 then 0 else 1) : Int32) else 0) : Int32))]) d_M_hits_161 (by decide) rfl rfl ?_
      refine r_iload d_M_hits_163 rfl ?_
      refine r_if_eq (tgt := 219) d_M_hits_165 (by decide) (fun hc_165 => ?_) (fun hc_165 => ?_)
      · replace H := H.1 hc_165
        refine r_iinc (v := x11 + 1) (lz := [some (.ref 0), some (.int x1), some (.int x2), some (.int x3), some (.int x4), some (.int x5), some (.int x6), some (.int x7), some (.int x8), some (.int x9), some (.int x10), some (.int (x11 + 1)), some (.int ((f_M_imageX x4 x10 hp) - (hp.2.1 13 x1.toNatClampNeg))), some (.int ((f_M_imageY x4 x11 hp) - (hp.2.1 14 x1.toNatClampNeg))), some (.int ((x2 * ((f_M_imageX x4 x10 hp) - (hp.2.1 13 x1.toNatClampNeg))) + (x3 * ((f_M_imageY x4 x11 hp) - (hp.2.1 14 x1.toNatClampNeg))))), some (.int ((if (x2 * ((f_M_imageY x4 x11 hp) - (hp.2.1 14 x1.toNatClampNeg))) = (x3 * ((f_M_imageX x4 x10 hp) - (hp.2.1 13 x1.toNatClampNeg))) then ((if ((x2 * ((f_M_imageX x4 x10 hp) - (hp.2.1 13 x1.toNatClampNeg))) + (x3 * ((f_M_imageY x4 x11 hp) - (hp.2.1 14 x1.toNatClampNeg)))) ≤ 0 then 0 else 1) : Int32) else 0) : Int32))]) d_M_hits_219 rfl (by rw [ic_1]) (by decide) rfl rfl ?_
        refine r_goto (tgt := 88) d_M_hits_222 (by decide) ?_
        exact rx_fgt [false, false, false, false, false, false, false, false, false, false, false, false, true, true, true, true] H
      · replace H := H.2 hc_165
        refine r_iload d_M_hits_168 rfl ?_
        refine r_if_eq (tgt := 204) d_M_hits_170 (by decide) (fun hc_170 => ?_) (fun hc_170 => ?_)
        · replace H := H.1 hc_170
          refine r_iconst d_M_hits_204 ic_1 ?_
          refine r_istore (lz := [some (.ref 0), some (.int x1), some (.int x2), some (.int x3), some (.int x4), some (.int x5), some (.int 1), some (.int x7), some (.int x8), some (.int x9), some (.int x10), some (.int x11), some (.int ((f_M_imageX x4 x10 hp) - (hp.2.1 13 x1.toNatClampNeg))), some (.int ((f_M_imageY x4 x11 hp) - (hp.2.1 14 x1.toNatClampNeg))), some (.int ((x2 * ((f_M_imageX x4 x10 hp) - (hp.2.1 13 x1.toNatClampNeg))) + (x3 * ((f_M_imageY x4 x11 hp) - (hp.2.1 14 x1.toNatClampNeg))))), some (.int ((if (x2 * ((f_M_imageY x4 x11 hp) - (hp.2.1 14 x1.toNatClampNeg))) = (x3 * ((f_M_imageX x4 x10 hp) - (hp.2.1 13 x1.toNatClampNeg))) then ((if ((x2 * ((f_M_imageX x4 x10 hp) - (hp.2.1 13 x1.toNatClampNeg))) + (x3 * ((f_M_imageY x4 x11 hp) - (hp.2.1 14 x1.toNatClampNeg)))) ≤ 0 then 0 else 1) : Int32) else 0) : Int32))]) d_M_hits_205 (by decide) rfl rfl ?_
          refine r_iload d_M_hits_207 rfl ?_
          refine r_istore (lz := [some (.ref 0), some (.int x1), some (.int x2), some (.int x3), some (.int x4), some (.int x5), some (.int 1), some (.int x10), some (.int x8), some (.int x9), some (.int x10), some (.int x11), some (.int ((f_M_imageX x4 x10 hp) - (hp.2.1 13 x1.toNatClampNeg))), some (.int ((f_M_imageY x4 x11 hp) - (hp.2.1 14 x1.toNatClampNeg))), some (.int ((x2 * ((f_M_imageX x4 x10 hp) - (hp.2.1 13 x1.toNatClampNeg))) + (x3 * ((f_M_imageY x4 x11 hp) - (hp.2.1 14 x1.toNatClampNeg))))), some (.int ((if (x2 * ((f_M_imageY x4 x11 hp) - (hp.2.1 14 x1.toNatClampNeg))) = (x3 * ((f_M_imageX x4 x10 hp) - (hp.2.1 13 x1.toNatClampNeg))) then ((if ((x2 * ((f_M_imageX x4 x10 hp) - (hp.2.1 13 x1.toNatClampNeg))) + (x3 * ((f_M_imageY x4 x11 hp) - (hp.2.1 14 x1.toNatClampNeg)))) ≤ 0 then 0 else 1) : Int32) else 0) : Int32))]) d_M_hits_209 (by decide) rfl rfl ?_
          refine r_iload d_M_hits_211 rfl ?_
          refine r_istore (lz := [some (.ref 0), some (.int x1), some (.int x2), some (.int x3), some (.int x4), some (.int x5), some (.int 1), some (.int x10), some (.int x11), some (.int x9), some (.int x10), some (.int x11), some (.int ((f_M_imageX x4 x10 hp) - (hp.2.1 13 x1.toNatClampNeg))), some (.int ((f_M_imageY x4 x11 hp) - (hp.2.1 14 x1.toNatClampNeg))), some (.int ((x2 * ((f_M_imageX x4 x10 hp) - (hp.2.1 13 x1.toNatClampNeg))) + (x3 * ((f_M_imageY x4 x11 hp) - (hp.2.1 14 x1.toNatClampNeg))))), some (.int ((if (x2 * ((f_M_imageY x4 x11 hp) - (hp.2.1 14 x1.toNatClampNeg))) = (x3 * ((f_M_imageX x4 x10 hp) - (hp.2.1 13 x1.toNatClampNeg))) then ((if ((x2 * ((f_M_imageX x4 x10 hp) - (hp.2.1 13 x1.toNatClampNeg))) + (x3 * ((f_M_imageY x4 x11 hp) - (hp.2.1 14 x1.toNatClampNeg)))) ≤ 0 then 0 else 1) : Int32) else 0) : Int32))]) d_M_hits_213 (by decide) rfl rfl ?_
          refine r_iload d_M_hits_215 rfl ?_
          refine r_istore (lz := [some (.ref 0), some (.int x1), some (.int x2), some (.int x3), some (.int x4), some (.int x5), some (.int 1), some (.int x10), some (.int x11), some (.int ((x2 * ((f_M_imageX x4 x10 hp) - (hp.2.1 13 x1.toNatClampNeg))) + (x3 * ((f_M_imageY x4 x11 hp) - (hp.2.1 14 x1.toNatClampNeg))))), some (.int x10), some (.int x11), some (.int ((f_M_imageX x4 x10 hp) - (hp.2.1 13 x1.toNatClampNeg))), some (.int ((f_M_imageY x4 x11 hp) - (hp.2.1 14 x1.toNatClampNeg))), some (.int ((x2 * ((f_M_imageX x4 x10 hp) - (hp.2.1 13 x1.toNatClampNeg))) + (x3 * ((f_M_imageY x4 x11 hp) - (hp.2.1 14 x1.toNatClampNeg))))), some (.int ((if (x2 * ((f_M_imageY x4 x11 hp) - (hp.2.1 14 x1.toNatClampNeg))) = (x3 * ((f_M_imageX x4 x10 hp) - (hp.2.1 13 x1.toNatClampNeg))) then ((if ((x2 * ((f_M_imageX x4 x10 hp) - (hp.2.1 13 x1.toNatClampNeg))) + (x3 * ((f_M_imageY x4 x11 hp) - (hp.2.1 14 x1.toNatClampNeg)))) ≤ 0 then 0 else 1) : Int32) else 0) : Int32))]) d_M_hits_217 (by decide) rfl rfl ?_
          refine r_iinc (v := x11 + 1) (lz := [some (.ref 0), some (.int x1), some (.int x2), some (.int x3), some (.int x4), some (.int x5), some (.int 1), some (.int x10), some (.int x11), some (.int ((x2 * ((f_M_imageX x4 x10 hp) - (hp.2.1 13 x1.toNatClampNeg))) + (x3 * ((f_M_imageY x4 x11 hp) - (hp.2.1 14 x1.toNatClampNeg))))), some (.int x10), some (.int (x11 + 1)), some (.int ((f_M_imageX x4 x10 hp) - (hp.2.1 13 x1.toNatClampNeg))), some (.int ((f_M_imageY x4 x11 hp) - (hp.2.1 14 x1.toNatClampNeg))), some (.int ((x2 * ((f_M_imageX x4 x10 hp) - (hp.2.1 13 x1.toNatClampNeg))) + (x3 * ((f_M_imageY x4 x11 hp) - (hp.2.1 14 x1.toNatClampNeg))))), some (.int ((if (x2 * ((f_M_imageY x4 x11 hp) - (hp.2.1 14 x1.toNatClampNeg))) = (x3 * ((f_M_imageX x4 x10 hp) - (hp.2.1 13 x1.toNatClampNeg))) then ((if ((x2 * ((f_M_imageX x4 x10 hp) - (hp.2.1 13 x1.toNatClampNeg))) + (x3 * ((f_M_imageY x4 x11 hp) - (hp.2.1 14 x1.toNatClampNeg)))) ≤ 0 then 0 else 1) : Int32) else 0) : Int32))]) d_M_hits_219 rfl (by rw [ic_1]) (by decide) rfl rfl ?_
          refine r_goto (tgt := 88) d_M_hits_222 (by decide) ?_
          exact rx_fgt [false, false, false, false, false, false, false, false, false, false, false, false, true, true, true, true] H
        · replace H := H.2 hc_170
          refine r_iload d_M_hits_173 rfl ?_
          refine r_iload d_M_hits_175 rfl ?_
          refine r_icmp_lt (tgt := 204) d_M_hits_177 (by decide) (fun hc_177 => ?_) (fun hc_177 => ?_)
          · replace H := H.1 hc_177
            refine r_iconst d_M_hits_204 ic_1 ?_
            refine r_istore (lz := [some (.ref 0), some (.int x1), some (.int x2), some (.int x3), some (.int x4), some (.int x5), some (.int 1), some (.int x7), some (.int x8), some (.int x9), some (.int x10), some (.int x11), some (.int ((f_M_imageX x4 x10 hp) - (hp.2.1 13 x1.toNatClampNeg))), some (.int ((f_M_imageY x4 x11 hp) - (hp.2.1 14 x1.toNatClampNeg))), some (.int ((x2 * ((f_M_imageX x4 x10 hp) - (hp.2.1 13 x1.toNatClampNeg))) + (x3 * ((f_M_imageY x4 x11 hp) - (hp.2.1 14 x1.toNatClampNeg))))), some (.int ((if (x2 * ((f_M_imageY x4 x11 hp) - (hp.2.1 14 x1.toNatClampNeg))) = (x3 * ((f_M_imageX x4 x10 hp) - (hp.2.1 13 x1.toNatClampNeg))) then ((if ((x2 * ((f_M_imageX x4 x10 hp) - (hp.2.1 13 x1.toNatClampNeg))) + (x3 * ((f_M_imageY x4 x11 hp) - (hp.2.1 14 x1.toNatClampNeg)))) ≤ 0 then 0 else 1) : Int32) else 0) : Int32))]) d_M_hits_205 (by decide) rfl rfl ?_
            refine r_iload d_M_hits_207 rfl ?_
            refine r_istore (lz := [some (.ref 0), some (.int x1), some (.int x2), some (.int x3), some (.int x4), some (.int x5), some (.int 1), some (.int x10), some (.int x8), some (.int x9), some (.int x10), some (.int x11), some (.int ((f_M_imageX x4 x10 hp) - (hp.2.1 13 x1.toNatClampNeg))), some (.int ((f_M_imageY x4 x11 hp) - (hp.2.1 14 x1.toNatClampNeg))), some (.int ((x2 * ((f_M_imageX x4 x10 hp) - (hp.2.1 13 x1.toNatClampNeg))) + (x3 * ((f_M_imageY x4 x11 hp) - (hp.2.1 14 x1.toNatClampNeg))))), some (.int ((if (x2 * ((f_M_imageY x4 x11 hp) - (hp.2.1 14 x1.toNatClampNeg))) = (x3 * ((f_M_imageX x4 x10 hp) - (hp.2.1 13 x1.toNatClampNeg))) then ((if ((x2 * ((f_M_imageX x4 x10 hp) - (hp.2.1 13 x1.toNatClampNeg))) + (x3 * ((f_M_imageY x4 x11 hp) - (hp.2.1 14 x1.toNatClampNeg)))) ≤ 0 then 0 else 1) : Int32) else 0) : Int32))]) d_M_hits_209 (by decide) rfl rfl ?_
            refine r_iload d_M_hits_211 rfl ?_
            refine r_istore (lz := [some (.ref 0), some (.int x1), some (.int x2), some (.int x3), some (.int x4), some (.int x5), some (.int 1), some (.int x10), some (.int x11), some (.int x9), some (.int x10), some (.int x11), some (.int ((f_M_imageX x4 x10 hp) - (hp.2.1 13 x1.toNatClampNeg))), some (.int ((f_M_imageY x4 x11 hp) - (hp.2.1 14 x1.toNatClampNeg))), some (.int ((x2 * ((f_M_imageX x4 x10 hp) - (hp.2.1 13 x1.toNatClampNeg))) + (x3 * ((f_M_imageY x4 x11 hp) - (hp.2.1 14 x1.toNatClampNeg))))), some (.int ((if (x2 * ((f_M_imageY x4 x11 hp) - (hp.2.1 14 x1.toNatClampNeg))) = (x3 * ((f_M_imageX x4 x10 hp) - (hp.2.1 13 x1.toNatClampNeg))) then ((if ((x2 * ((f_M_imageX x4 x10 hp) - (hp.2.1 13 x1.toNatClampNeg))) + (x3 * ((f_M_imageY x4 x11 hp) - (hp.2.1 14 x1.toNatClampNeg)))) ≤ 0 then 0 else 1) : Int32) else 0) : Int32))]) d_M_hits_213 (by decide) rfl rfl ?_
            refine r_iload d_M_hits_215 rfl ?_
            refine r_istore (lz := [some (.ref 0), some (.int x1), some (.int x2), some (.int x3), some (.int x4), some (.int x5), some (.int 1), some (.int x10), some (.int x11), some (.int ((x2 * ((f_M_imageX x4 x10 hp) - (hp.2.1 13 x1.toNatClampNeg))) + (x3 * ((f_M_imageY x4 x11 hp) - (hp.2.1 14 x1.toNatClampNeg))))), some (.int x10), some (.int x11), some (.int ((f_M_imageX x4 x10 hp) - (hp.2.1 13 x1.toNatClampNeg))), some (.int ((f_M_imageY x4 x11 hp) - (hp.2.1 14 x1.toNatClampNeg))), some (.int ((x2 * ((f_M_imageX x4 x10 hp) - (hp.2.1 13 x1.toNatClampNeg))) + (x3 * ((f_M_imageY x4 x11 hp) - (hp.2.1 14 x1.toNatClampNeg))))), some (.int ((if (x2 * ((f_M_imageY x4 x11 hp) - (hp.2.1 14 x1.toNatClampNeg))) = (x3 * ((f_M_imageX x4 x10 hp) - (hp.2.1 13 x1.toNatClampNeg))) then ((if ((x2 * ((f_M_imageX x4 x10 hp) - (hp.2.1 13 x1.toNatClampNeg))) + (x3 * ((f_M_imageY x4 x11 hp) - (hp.2.1 14 x1.toNatClampNeg)))) ≤ 0 then 0 else 1) : Int32) else 0) : Int32))]) d_M_hits_217 (by decide) rfl rfl ?_
            refine r_iinc (v := x11 + 1) (lz := [some (.ref 0), some (.int x1), some (.int x2), some (.int x3), some (.int x4), some (.int x5), some (.int 1), some (.int x10), some (.int x11), some (.int ((x2 * ((f_M_imageX x4 x10 hp) - (hp.2.1 13 x1.toNatClampNeg))) + (x3 * ((f_M_imageY x4 x11 hp) - (hp.2.1 14 x1.toNatClampNeg))))), some (.int x10), some (.int (x11 + 1)), some (.int ((f_M_imageX x4 x10 hp) - (hp.2.1 13 x1.toNatClampNeg))), some (.int ((f_M_imageY x4 x11 hp) - (hp.2.1 14 x1.toNatClampNeg))), some (.int ((x2 * ((f_M_imageX x4 x10 hp) - (hp.2.1 13 x1.toNatClampNeg))) + (x3 * ((f_M_imageY x4 x11 hp) - (hp.2.1 14 x1.toNatClampNeg))))), some (.int ((if (x2 * ((f_M_imageY x4 x11 hp) - (hp.2.1 14 x1.toNatClampNeg))) = (x3 * ((f_M_imageX x4 x10 hp) - (hp.2.1 13 x1.toNatClampNeg))) then ((if ((x2 * ((f_M_imageX x4 x10 hp) - (hp.2.1 13 x1.toNatClampNeg))) + (x3 * ((f_M_imageY x4 x11 hp) - (hp.2.1 14 x1.toNatClampNeg)))) ≤ 0 then 0 else 1) : Int32) else 0) : Int32))]) d_M_hits_219 rfl (by rw [ic_1]) (by decide) rfl rfl ?_
            refine r_goto (tgt := 88) d_M_hits_222 (by decide) ?_
            exact rx_fgt [false, false, false, false, false, false, false, false, false, false, false, false, true, true, true, true] H
          · replace H := H.2 hc_177
            refine r_iload d_M_hits_180 rfl ?_
            refine r_iload d_M_hits_182 rfl ?_
            refine r_icmp_ne (tgt := 219) d_M_hits_184 (by decide) (fun hc_184 => ?_) (fun hc_184 => ?_)
            · replace H := H.2 hc_184
              refine r_iinc (v := x11 + 1) (lz := [some (.ref 0), some (.int x1), some (.int x2), some (.int x3), some (.int x4), some (.int x5), some (.int x6), some (.int x7), some (.int x8), some (.int x9), some (.int x10), some (.int (x11 + 1)), some (.int ((f_M_imageX x4 x10 hp) - (hp.2.1 13 x1.toNatClampNeg))), some (.int ((f_M_imageY x4 x11 hp) - (hp.2.1 14 x1.toNatClampNeg))), some (.int ((x2 * ((f_M_imageX x4 x10 hp) - (hp.2.1 13 x1.toNatClampNeg))) + (x3 * ((f_M_imageY x4 x11 hp) - (hp.2.1 14 x1.toNatClampNeg))))), some (.int ((if (x2 * ((f_M_imageY x4 x11 hp) - (hp.2.1 14 x1.toNatClampNeg))) = (x3 * ((f_M_imageX x4 x10 hp) - (hp.2.1 13 x1.toNatClampNeg))) then ((if ((x2 * ((f_M_imageX x4 x10 hp) - (hp.2.1 13 x1.toNatClampNeg))) + (x3 * ((f_M_imageY x4 x11 hp) - (hp.2.1 14 x1.toNatClampNeg)))) ≤ 0 then 0 else 1) : Int32) else 0) : Int32))]) d_M_hits_219 rfl (by rw [ic_1]) (by decide) rfl rfl ?_
              refine r_goto (tgt := 88) d_M_hits_222 (by decide) ?_
              exact rx_fgt [false, false, false, false, false, false, false, false, false, false, false, false, true, true, true, true] H
            · replace H := H.1 hc_184
              refine r_iload d_M_hits_187 rfl ?_
              refine r_iload d_M_hits_189 rfl ?_
              refine rk_SI (d' := 2) [.int x10, .int x11] [] d_M_hits_191 ml_M_309 rfl rfl (by decide) (Nat.le_of_ble_eq_true rfl) (s_M_glasses x10 x11 ?_)
              refine r_iload d_M_hits_194 rfl ?_
              refine r_iload d_M_hits_196 rfl ?_
              refine rk_SI (d' := 2) [.int x7, .int x8] [.int (f_M_glasses x10 x11)] d_M_hits_198 ml_M_309 rfl rfl (by decide) (Nat.le_of_ble_eq_true rfl) (s_M_glasses x7 x8 ?_)
              refine r_icmp_ge (tgt := 219) d_M_hits_201 (by decide) (fun hc_201 => ?_) (fun hc_201 => ?_)
              · replace H := H.1 hc_201
                refine r_iinc (v := x11 + 1) (lz := [some (.ref 0), some (.int x1), some (.int x2), some (.int x3), some (.int x4), some (.int x5), some (.int x6), some (.int x7), some (.int x8), some (.int x9), some (.int x10), some (.int (x11 + 1)), some (.int ((f_M_imageX x4 x10 hp) - (hp.2.1 13 x1.toNatClampNeg))), some (.int ((f_M_imageY x4 x11 hp) - (hp.2.1 14 x1.toNatClampNeg))), some (.int ((x2 * ((f_M_imageX x4 x10 hp) - (hp.2.1 13 x1.toNatClampNeg))) + (x3 * ((f_M_imageY x4 x11 hp) - (hp.2.1 14 x1.toNatClampNeg))))), some (.int ((if (x2 * ((f_M_imageY x4 x11 hp) - (hp.2.1 14 x1.toNatClampNeg))) = (x3 * ((f_M_imageX x4 x10 hp) - (hp.2.1 13 x1.toNatClampNeg))) then ((if ((x2 * ((f_M_imageX x4 x10 hp) - (hp.2.1 13 x1.toNatClampNeg))) + (x3 * ((f_M_imageY x4 x11 hp) - (hp.2.1 14 x1.toNatClampNeg)))) ≤ 0 then 0 else 1) : Int32) else 0) : Int32))]) d_M_hits_219 rfl (by rw [ic_1]) (by decide) rfl rfl ?_
                refine r_goto (tgt := 88) d_M_hits_222 (by decide) ?_
                exact rx_fgt [false, false, false, false, false, false, false, false, false, false, false, false, true, true, true, true] H
              · replace H := H.2 hc_201
                refine r_iconst d_M_hits_204 ic_1 ?_
                refine r_istore (lz := [some (.ref 0), some (.int x1), some (.int x2), some (.int x3), some (.int x4), some (.int x5), some (.int 1), some (.int x7), some (.int x8), some (.int x9), some (.int x10), some (.int x11), some (.int ((f_M_imageX x4 x10 hp) - (hp.2.1 13 x1.toNatClampNeg))), some (.int ((f_M_imageY x4 x11 hp) - (hp.2.1 14 x1.toNatClampNeg))), some (.int ((x2 * ((f_M_imageX x4 x10 hp) - (hp.2.1 13 x1.toNatClampNeg))) + (x3 * ((f_M_imageY x4 x11 hp) - (hp.2.1 14 x1.toNatClampNeg))))), some (.int ((if (x2 * ((f_M_imageY x4 x11 hp) - (hp.2.1 14 x1.toNatClampNeg))) = (x3 * ((f_M_imageX x4 x10 hp) - (hp.2.1 13 x1.toNatClampNeg))) then ((if ((x2 * ((f_M_imageX x4 x10 hp) - (hp.2.1 13 x1.toNatClampNeg))) + (x3 * ((f_M_imageY x4 x11 hp) - (hp.2.1 14 x1.toNatClampNeg)))) ≤ 0 then 0 else 1) : Int32) else 0) : Int32))]) d_M_hits_205 (by decide) rfl rfl ?_
                refine r_iload d_M_hits_207 rfl ?_
                refine r_istore (lz := [some (.ref 0), some (.int x1), some (.int x2), some (.int x3), some (.int x4), some (.int x5), some (.int 1), some (.int x10), some (.int x8), some (.int x9), some (.int x10), some (.int x11), some (.int ((f_M_imageX x4 x10 hp) - (hp.2.1 13 x1.toNatClampNeg))), some (.int ((f_M_imageY x4 x11 hp) - (hp.2.1 14 x1.toNatClampNeg))), some (.int ((x2 * ((f_M_imageX x4 x10 hp) - (hp.2.1 13 x1.toNatClampNeg))) + (x3 * ((f_M_imageY x4 x11 hp) - (hp.2.1 14 x1.toNatClampNeg))))), some (.int ((if (x2 * ((f_M_imageY x4 x11 hp) - (hp.2.1 14 x1.toNatClampNeg))) = (x3 * ((f_M_imageX x4 x10 hp) - (hp.2.1 13 x1.toNatClampNeg))) then ((if ((x2 * ((f_M_imageX x4 x10 hp) - (hp.2.1 13 x1.toNatClampNeg))) + (x3 * ((f_M_imageY x4 x11 hp) - (hp.2.1 14 x1.toNatClampNeg)))) ≤ 0 then 0 else 1) : Int32) else 0) : Int32))]) d_M_hits_209 (by decide) rfl rfl ?_
                refine r_iload d_M_hits_211 rfl ?_
                refine r_istore (lz := [some (.ref 0), some (.int x1), some (.int x2), some (.int x3), some (.int x4), some (.int x5), some (.int 1), some (.int x10), some (.int x11), some (.int x9), some (.int x10), some (.int x11), some (.int ((f_M_imageX x4 x10 hp) - (hp.2.1 13 x1.toNatClampNeg))), some (.int ((f_M_imageY x4 x11 hp) - (hp.2.1 14 x1.toNatClampNeg))), some (.int ((x2 * ((f_M_imageX x4 x10 hp) - (hp.2.1 13 x1.toNatClampNeg))) + (x3 * ((f_M_imageY x4 x11 hp) - (hp.2.1 14 x1.toNatClampNeg))))), some (.int ((if (x2 * ((f_M_imageY x4 x11 hp) - (hp.2.1 14 x1.toNatClampNeg))) = (x3 * ((f_M_imageX x4 x10 hp) - (hp.2.1 13 x1.toNatClampNeg))) then ((if ((x2 * ((f_M_imageX x4 x10 hp) - (hp.2.1 13 x1.toNatClampNeg))) + (x3 * ((f_M_imageY x4 x11 hp) - (hp.2.1 14 x1.toNatClampNeg)))) ≤ 0 then 0 else 1) : Int32) else 0) : Int32))]) d_M_hits_213 (by decide) rfl rfl ?_
                refine r_iload d_M_hits_215 rfl ?_
                refine r_istore (lz := [some (.ref 0), some (.int x1), some (.int x2), some (.int x3), some (.int x4), some (.int x5), some (.int 1), some (.int x10), some (.int x11), some (.int ((x2 * ((f_M_imageX x4 x10 hp) - (hp.2.1 13 x1.toNatClampNeg))) + (x3 * ((f_M_imageY x4 x11 hp) - (hp.2.1 14 x1.toNatClampNeg))))), some (.int x10), some (.int x11), some (.int ((f_M_imageX x4 x10 hp) - (hp.2.1 13 x1.toNatClampNeg))), some (.int ((f_M_imageY x4 x11 hp) - (hp.2.1 14 x1.toNatClampNeg))), some (.int ((x2 * ((f_M_imageX x4 x10 hp) - (hp.2.1 13 x1.toNatClampNeg))) + (x3 * ((f_M_imageY x4 x11 hp) - (hp.2.1 14 x1.toNatClampNeg))))), some (.int ((if (x2 * ((f_M_imageY x4 x11 hp) - (hp.2.1 14 x1.toNatClampNeg))) = (x3 * ((f_M_imageX x4 x10 hp) - (hp.2.1 13 x1.toNatClampNeg))) then ((if ((x2 * ((f_M_imageX x4 x10 hp) - (hp.2.1 13 x1.toNatClampNeg))) + (x3 * ((f_M_imageY x4 x11 hp) - (hp.2.1 14 x1.toNatClampNeg)))) ≤ 0 then 0 else 1) : Int32) else 0) : Int32))]) d_M_hits_217 (by decide) rfl rfl ?_
                refine r_iinc (v := x11 + 1) (lz := [some (.ref 0), some (.int x1), some (.int x2), some (.int x3), some (.int x4), some (.int x5), some (.int 1), some (.int x10), some (.int x11), some (.int ((x2 * ((f_M_imageX x4 x10 hp) - (hp.2.1 13 x1.toNatClampNeg))) + (x3 * ((f_M_imageY x4 x11 hp) - (hp.2.1 14 x1.toNatClampNeg))))), some (.int x10), some (.int (x11 + 1)), some (.int ((f_M_imageX x4 x10 hp) - (hp.2.1 13 x1.toNatClampNeg))), some (.int ((f_M_imageY x4 x11 hp) - (hp.2.1 14 x1.toNatClampNeg))), some (.int ((x2 * ((f_M_imageX x4 x10 hp) - (hp.2.1 13 x1.toNatClampNeg))) + (x3 * ((f_M_imageY x4 x11 hp) - (hp.2.1 14 x1.toNatClampNeg))))), some (.int ((if (x2 * ((f_M_imageY x4 x11 hp) - (hp.2.1 14 x1.toNatClampNeg))) = (x3 * ((f_M_imageX x4 x10 hp) - (hp.2.1 13 x1.toNatClampNeg))) then ((if ((x2 * ((f_M_imageX x4 x10 hp) - (hp.2.1 13 x1.toNatClampNeg))) + (x3 * ((f_M_imageY x4 x11 hp) - (hp.2.1 14 x1.toNatClampNeg)))) ≤ 0 then 0 else 1) : Int32) else 0) : Int32))]) d_M_hits_219 rfl (by rw [ic_1]) (by decide) rfl rfl ?_
                refine r_goto (tgt := 88) d_M_hits_222 (by decide) ?_
                exact rx_fgt [false, false, false, false, false, false, false, false, false, false, false, false, true, true, true, true] H
    refine r_aload_n (i := 0) d_M_hits_120 rfl rfl ?_
    refine r_getR (b := 0) (r := 14) d_M_hits_121 fl_M_49 (by decide) rfl rfl rfl ?_
    refine r_iload_n (i := 1) d_M_hits_124 rfl rfl ?_
    refine r_iald (b := 14) (v := hp.2.1 14 x1.toNatClampNeg) d_M_hits_125 (by decide) rfl hi_108 rfl ?_
    refine r_isub d_M_hits_126 ?_
    refine r_istore (lz := [some (.ref 0), some (.int x1), some (.int x2), some (.int x3), some (.int x4), some (.int x5), some (.int x6), some (.int x7), some (.int x8), some (.int x9), some (.int x10), some (.int x11), some (.int ((f_M_imageX x4 x10 hp) - (hp.2.1 13 x1.toNatClampNeg))), some (.int ((f_M_imageY x4 x11 hp) - (hp.2.1 14 x1.toNatClampNeg))), none, none]) d_M_hits_127 (by decide) rfl rfl ?_
    refine r_iload_n (i := 2) d_M_hits_129 rfl rfl ?_
    refine r_iload d_M_hits_130 rfl ?_
    refine r_imul d_M_hits_132 ?_
    refine r_iload_n (i := 3) d_M_hits_133 rfl rfl ?_
    refine r_iload d_M_hits_134 rfl ?_
    refine r_imul d_M_hits_136 ?_
    refine r_iadd d_M_hits_137 ?_
    refine r_istore (lz := [some (.ref 0), some (.int x1), some (.int x2), some (.int x3), some (.int x4), some (.int x5), some (.int x6), some (.int x7), some (.int x8), some (.int x9), some (.int x10), some (.int x11), some (.int ((f_M_imageX x4 x10 hp) - (hp.2.1 13 x1.toNatClampNeg))), some (.int ((f_M_imageY x4 x11 hp) - (hp.2.1 14 x1.toNatClampNeg))), some (.int ((x2 * ((f_M_imageX x4 x10 hp) - (hp.2.1 13 x1.toNatClampNeg))) + (x3 * ((f_M_imageY x4 x11 hp) - (hp.2.1 14 x1.toNatClampNeg))))), none]) d_M_hits_138 (by decide) rfl rfl ?_
    refine r_iload_n (i := 2) d_M_hits_140 rfl rfl ?_
    refine r_iload d_M_hits_141 rfl ?_
    refine r_imul d_M_hits_143 ?_
    refine r_iload_n (i := 3) d_M_hits_144 rfl rfl ?_
    refine r_iload d_M_hits_145 rfl ?_
    refine r_imul d_M_hits_147 ?_
    refine r_icmp_ne (tgt := 160) d_M_hits_148 (by decide) (fun hc_148 => ?_) (fun hc_148 => ?_)
    · refine r_iconst d_M_hits_160 ic_0 ?_
      exact J148 _ (((if_neg hc_148).trans rfl)).symm
    · refine r_iload d_M_hits_151 rfl ?_
      refine r_if_le (tgt := 160) d_M_hits_153 (by decide) (fun hc_153 => ?_) (fun hc_153 => ?_)
      · refine r_iconst d_M_hits_160 ic_0 ?_
        exact J148 _ (((if_pos hc_148).trans ((if_pos hc_153).trans rfl))).symm
      · refine r_iconst d_M_hits_156 ic_1 ?_
        refine r_goto (tgt := 161) d_M_hits_157 (by decide) ?_
        exact J148 _ (((if_pos hc_148).trans ((if_neg hc_153).trans rfl))).symm

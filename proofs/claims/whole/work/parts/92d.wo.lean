theorem d_Li_letterAt_0 : decode q_Li_letterAt.2.1 0 = .ok (.iload_n 1, 1) := by decide +kernel
theorem d_Li_letterAt_1 : decode q_Li_letterAt.2.1 1 = .ok (.ifCond .lt 15, 3) := by decide +kernel
theorem d_Li_letterAt_16 : decode q_Li_letterAt.2.1 16 = .ok (.iconst 0, 1) := by decide +kernel
theorem d_Li_letterAt_4 : decode q_Li_letterAt.2.1 4 = .ok (.iload_n 1, 1) := by decide +kernel
theorem d_Li_letterAt_5 : decode q_Li_letterAt.2.1 5 = .ok (.aload_n 0, 1) := by decide +kernel
theorem d_Li_letterAt_6 : decode q_Li_letterAt.2.1 6 = .ok (.arraylength, 1) := by decide +kernel
theorem al_6 : Int32.ofNat 6 = (6 : Int32) := by decide
theorem d_Li_letterAt_7 : decode q_Li_letterAt.2.1 7 = .ok (.if_icmp .ge 9, 3) := by decide +kernel
theorem d_Li_letterAt_10 : decode q_Li_letterAt.2.1 10 = .ok (.aload_n 0, 1) := by decide +kernel
theorem d_Li_letterAt_11 : decode q_Li_letterAt.2.1 11 = .ok (.iload_n 1, 1) := by decide +kernel
theorem d_Li_letterAt_17 : decode q_Li_letterAt.2.1 17 = .ok (.ireturn, 1) := by decide +kernel
theorem d_Li_letterAt_12 : decode q_Li_letterAt.2.1 12 = .ok (.iaload, 1) := by decide +kernel
theorem d_Li_letterAt_13 : decode q_Li_letterAt.2.1 13 = .ok (.goto 4, 3) := by decide +kernel
theorem d_Li_worth_0 : decode q_Li_worth.2.1 0 = .ok (.iconst 0, 1) := by decide +kernel
theorem d_Li_worth_1 : decode q_Li_worth.2.1 1 = .ok (.istore_n 3, 1) := by decide +kernel
theorem d_Li_worth_2 : decode q_Li_worth.2.1 2 = .ok (.iconst 0, 1) := by decide +kernel
theorem d_Li_worth_3 : decode q_Li_worth.2.1 3 = .ok (.istore 4, 2) := by decide +kernel
theorem d_Li_worth_5 : decode q_Li_worth.2.1 5 = .ok (.iload 4, 2) := by decide +kernel
theorem d_Li_worth_7 : decode q_Li_worth.2.1 7 = .ok (.aload_n 0, 1) := by decide +kernel
theorem d_Li_worth_8 : decode q_Li_worth.2.1 8 = .ok (.getfield 18, 3) := by decide +kernel
theorem d_Li_worth_11 : decode q_Li_worth.2.1 11 = .ok (.if_icmp .ge 180, 3) := by decide +kernel
theorem d_Li_worth_191 : decode q_Li_worth.2.1 191 = .ok (.iconst 0, 1) := by decide +kernel
theorem d_Li_worth_192 : decode q_Li_worth.2.1 192 = .ok (.ireturn, 1) := by decide +kernel
theorem d_Li_worth_14 : decode q_Li_worth.2.1 14 = .ok (.aload_n 0, 1) := by decide +kernel
theorem d_Li_worth_15 : decode q_Li_worth.2.1 15 = .ok (.getfield 9, 3) := by decide +kernel
theorem d_Li_worth_18 : decode q_Li_worth.2.1 18 = .ok (.iload 4, 2) := by decide +kernel
theorem d_Li_worth_20 : decode q_Li_worth.2.1 20 = .ok (.iaload, 1) := by decide +kernel
theorem d_Li_worth_21 : decode q_Li_worth.2.1 21 = .ok (.istore 5, 2) := by decide +kernel
theorem d_Li_worth_23 : decode q_Li_worth.2.1 23 = .ok (.iload 5, 2) := by decide +kernel
theorem d_Li_worth_25 : decode q_Li_worth.2.1 25 = .ok (.bipush 48, 2) := by decide +kernel
theorem d_Li_worth_27 : decode q_Li_worth.2.1 27 = .ok (.if_icmp .eq 10, 3) := by decide +kernel
theorem d_Li_worth_37 : decode q_Li_worth.2.1 37 = .ok (.iload_n 3, 1) := by decide +kernel
theorem d_Li_worth_38 : decode q_Li_worth.2.1 38 = .ok (.aload_n 2, 1) := by decide +kernel
theorem d_Li_worth_39 : decode q_Li_worth.2.1 39 = .ok (.arraylength, 1) := by decide +kernel
theorem d_Li_worth_40 : decode q_Li_worth.2.1 40 = .ok (.if_icmp .lt 5, 3) := by decide +kernel
theorem d_Li_worth_45 : decode q_Li_worth.2.1 45 = .ok (.aload_n 2, 1) := by decide +kernel
theorem d_Li_worth_46 : decode q_Li_worth.2.1 46 = .ok (.iload_n 3, 1) := by decide +kernel
theorem d_Li_worth_47 : decode q_Li_worth.2.1 47 = .ok (.iload 5, 2) := by decide +kernel
theorem d_Li_worth_49 : decode q_Li_worth.2.1 49 = .ok (.bipush 48, 2) := by decide +kernel
theorem d_Li_worth_51 : decode q_Li_worth.2.1 51 = .ok (.if_icmp .ne 13, 3) := by decide +kernel
theorem d_Li_worth_54 : decode q_Li_worth.2.1 54 = .ok (.aload_n 0, 1) := by decide +kernel
theorem d_Li_worth_55 : decode q_Li_worth.2.1 55 = .ok (.getfield 15, 3) := by decide +kernel
theorem d_Li_worth_58 : decode q_Li_worth.2.1 58 = .ok (.iload 4, 2) := by decide +kernel
theorem d_Li_worth_60 : decode q_Li_worth.2.1 60 = .ok (.iaload, 1) := by decide +kernel
theorem d_Li_worth_61 : decode q_Li_worth.2.1 61 = .ok (.goto 14, 3) := by decide +kernel
theorem d_Li_worth_75 : decode q_Li_worth.2.1 75 = .ok (.iastore, 1) := by decide +kernel
theorem d_Li_worth_76 : decode q_Li_worth.2.1 76 = .ok (.iinc 3 1, 3) := by decide +kernel
theorem d_Li_worth_79 : decode q_Li_worth.2.1 79 = .ok (.goto 106, 3) := by decide +kernel
theorem d_Li_worth_185 : decode q_Li_worth.2.1 185 = .ok (.iinc 4 1, 3) := by decide +kernel
theorem d_Li_worth_188 : decode q_Li_worth.2.1 188 = .ok (.goto (-183), 3) := by decide +kernel
theorem d_Li_worth_43 : decode q_Li_worth.2.1 43 = .ok (.iconst 0, 1) := by decide +kernel
theorem d_Li_worth_44 : decode q_Li_worth.2.1 44 = .ok (.ireturn, 1) := by decide +kernel
theorem d_Li_worth_30 : decode q_Li_worth.2.1 30 = .ok (.iload 5, 2) := by decide +kernel
theorem d_Li_worth_32 : decode q_Li_worth.2.1 32 = .ok (.bipush 97, 2) := by decide +kernel
theorem d_Li_worth_34 : decode q_Li_worth.2.1 34 = .ok (.if_icmp .ne 48, 3) := by decide +kernel
theorem d_Li_worth_64 : decode q_Li_worth.2.1 64 = .ok (.aload_n 1, 1) := by decide +kernel
theorem d_Li_worth_65 : decode q_Li_worth.2.1 65 = .ok (.aload_n 0, 1) := by decide +kernel
theorem d_Li_worth_66 : decode q_Li_worth.2.1 66 = .ok (.getfield 15, 3) := by decide +kernel
theorem d_Li_worth_69 : decode q_Li_worth.2.1 69 = .ok (.iload 4, 2) := by decide +kernel
theorem d_Li_worth_71 : decode q_Li_worth.2.1 71 = .ok (.iaload, 1) := by decide +kernel
theorem d_Li_worth_72 : decode q_Li_worth.2.1 72 = .ok (.invokestatic 22, 3) := by decide +kernel
theorem ml_Li_22 : rx_CS "GlassRoom$Light" 22 q_Li_letterAt 2 := ⟨⟨(rx_s3 237 rfl rfl), (rx_s3 238 rfl rfl)⟩, ⟨(rx_s1 6 rfl rfl), q_Li_letterAt_k, ⟨by decide, by decide, by decide +kernel⟩, by decide⟩⟩
theorem d_Li_worth_82 : decode q_Li_worth.2.1 82 = .ok (.iload_n 3, 1) := by decide +kernel
theorem d_Li_worth_83 : decode q_Li_worth.2.1 83 = .ok (.iconst 1, 1) := by decide +kernel
theorem d_Li_worth_84 : decode q_Li_worth.2.1 84 = .ok (.if_icmp .ge 5, 3) := by decide +kernel
theorem d_Li_worth_89 : decode q_Li_worth.2.1 89 = .ok (.iload 5, 2) := by decide +kernel
theorem d_Li_worth_91 : decode q_Li_worth.2.1 91 = .ok (.bipush 59, 2) := by decide +kernel
theorem d_Li_worth_93 : decode q_Li_worth.2.1 93 = .ok (.if_icmp .ne 9, 3) := by decide +kernel
theorem d_Li_worth_96 : decode q_Li_worth.2.1 96 = .ok (.aload_n 2, 1) := by decide +kernel
theorem d_Li_worth_97 : decode q_Li_worth.2.1 97 = .ok (.iload_n 3, 1) := by decide +kernel
theorem d_Li_worth_98 : decode q_Li_worth.2.1 98 = .ok (.iconst 1, 1) := by decide +kernel
theorem d_Li_worth_99 : decode q_Li_worth.2.1 99 = .ok (.isub, 1) := by decide +kernel
theorem d_Li_worth_100 : decode q_Li_worth.2.1 100 = .ok (.iaload, 1) := by decide +kernel
theorem d_Li_worth_101 : decode q_Li_worth.2.1 101 = .ok (.ireturn, 1) := by decide +kernel
theorem d_Li_worth_102 : decode q_Li_worth.2.1 102 = .ok (.iload 5, 2) := by decide +kernel
theorem d_Li_worth_104 : decode q_Li_worth.2.1 104 = .ok (.bipush 33, 2) := by decide +kernel
theorem d_Li_worth_106 : decode q_Li_worth.2.1 106 = .ok (.if_icmp .ne 18, 3) := by decide +kernel
theorem d_Li_worth_109 : decode q_Li_worth.2.1 109 = .ok (.aload_n 2, 1) := by decide +kernel
theorem d_Li_worth_110 : decode q_Li_worth.2.1 110 = .ok (.iload_n 3, 1) := by decide +kernel
theorem d_Li_worth_111 : decode q_Li_worth.2.1 111 = .ok (.iconst 1, 1) := by decide +kernel
theorem d_Li_worth_112 : decode q_Li_worth.2.1 112 = .ok (.isub, 1) := by decide +kernel
theorem d_Li_worth_113 : decode q_Li_worth.2.1 113 = .ok (.iconst 1, 1) := by decide +kernel
theorem d_Li_worth_114 : decode q_Li_worth.2.1 114 = .ok (.aload_n 2, 1) := by decide +kernel
theorem d_Li_worth_115 : decode q_Li_worth.2.1 115 = .ok (.iload_n 3, 1) := by decide +kernel
theorem d_Li_worth_116 : decode q_Li_worth.2.1 116 = .ok (.iconst 1, 1) := by decide +kernel
theorem d_Li_worth_117 : decode q_Li_worth.2.1 117 = .ok (.isub, 1) := by decide +kernel
theorem d_Li_worth_118 : decode q_Li_worth.2.1 118 = .ok (.iaload, 1) := by decide +kernel
theorem d_Li_worth_119 : decode q_Li_worth.2.1 119 = .ok (.isub, 1) := by decide +kernel
theorem d_Li_worth_120 : decode q_Li_worth.2.1 120 = .ok (.iastore, 1) := by decide +kernel
theorem d_Li_worth_121 : decode q_Li_worth.2.1 121 = .ok (.goto 64, 3) := by decide +kernel
theorem d_Li_worth_124 : decode q_Li_worth.2.1 124 = .ok (.iload 5, 2) := by decide +kernel
theorem d_Li_worth_126 : decode q_Li_worth.2.1 126 = .ok (.bipush 63, 2) := by decide +kernel
theorem d_Li_worth_128 : decode q_Li_worth.2.1 128 = .ok (.if_icmp .ne 29, 3) := by decide +kernel
theorem d_Li_worth_131 : decode q_Li_worth.2.1 131 = .ok (.iinc 3 (-1), 3) := by decide +kernel
theorem d_Li_worth_134 : decode q_Li_worth.2.1 134 = .ok (.aload_n 2, 1) := by decide +kernel
theorem d_Li_worth_135 : decode q_Li_worth.2.1 135 = .ok (.iload_n 3, 1) := by decide +kernel
theorem d_Li_worth_136 : decode q_Li_worth.2.1 136 = .ok (.iaload, 1) := by decide +kernel
theorem d_Li_worth_137 : decode q_Li_worth.2.1 137 = .ok (.ifCond .ne 48, 3) := by decide +kernel
theorem d_Li_worth_140 : decode q_Li_worth.2.1 140 = .ok (.iload 4, 2) := by decide +kernel
theorem d_Li_worth_142 : decode q_Li_worth.2.1 142 = .ok (.aload_n 0, 1) := by decide +kernel
theorem d_Li_worth_143 : decode q_Li_worth.2.1 143 = .ok (.getfield 15, 3) := by decide +kernel
theorem d_Li_worth_146 : decode q_Li_worth.2.1 146 = .ok (.iload 4, 2) := by decide +kernel
theorem d_Li_worth_148 : decode q_Li_worth.2.1 148 = .ok (.iaload, 1) := by decide +kernel
theorem d_Li_worth_149 : decode q_Li_worth.2.1 149 = .ok (.invokestatic 26, 3) := by decide +kernel
theorem ml_Li_26 : rx_CS "GlassRoom$Light" 26 q_Mt_max 2 := ⟨⟨(rx_s4 0 rfl rfl), (rx_s2 220 rfl rfl)⟩, ⟨(rx_s1 16 rfl rfl), q_Mt_max_k, ⟨by decide, by decide, by decide +kernel⟩, by decide⟩⟩
theorem d_Li_worth_152 : decode q_Li_worth.2.1 152 = .ok (.istore 4, 2) := by decide +kernel
theorem d_Li_worth_154 : decode q_Li_worth.2.1 154 = .ok (.goto 31, 3) := by decide +kernel
theorem d_Li_worth_157 : decode q_Li_worth.2.1 157 = .ok (.iload_n 3, 1) := by decide +kernel
theorem d_Li_worth_158 : decode q_Li_worth.2.1 158 = .ok (.iconst 2, 1) := by decide +kernel
theorem d_Li_worth_159 : decode q_Li_worth.2.1 159 = .ok (.if_icmp .ge 5, 3) := by decide +kernel
theorem d_Li_worth_164 : decode q_Li_worth.2.1 164 = .ok (.iinc 3 (-1), 3) := by decide +kernel
theorem d_Li_worth_167 : decode q_Li_worth.2.1 167 = .ok (.aload_n 2, 1) := by decide +kernel
theorem d_Li_worth_168 : decode q_Li_worth.2.1 168 = .ok (.iload_n 3, 1) := by decide +kernel
theorem d_Li_worth_169 : decode q_Li_worth.2.1 169 = .ok (.iconst 1, 1) := by decide +kernel
theorem d_Li_worth_170 : decode q_Li_worth.2.1 170 = .ok (.isub, 1) := by decide +kernel
theorem d_Li_worth_171 : decode q_Li_worth.2.1 171 = .ok (.iload 5, 2) := by decide +kernel
theorem d_Li_worth_173 : decode q_Li_worth.2.1 173 = .ok (.aload_n 2, 1) := by decide +kernel
theorem d_Li_worth_174 : decode q_Li_worth.2.1 174 = .ok (.iload_n 3, 1) := by decide +kernel
theorem d_Li_worth_175 : decode q_Li_worth.2.1 175 = .ok (.iconst 1, 1) := by decide +kernel
theorem d_Li_worth_176 : decode q_Li_worth.2.1 176 = .ok (.isub, 1) := by decide +kernel
theorem d_Li_worth_177 : decode q_Li_worth.2.1 177 = .ok (.iaload, 1) := by decide +kernel
theorem d_Li_worth_178 : decode q_Li_worth.2.1 178 = .ok (.aload_n 2, 1) := by decide +kernel
theorem d_Li_worth_179 : decode q_Li_worth.2.1 179 = .ok (.iload_n 3, 1) := by decide +kernel
theorem d_Li_worth_180 : decode q_Li_worth.2.1 180 = .ok (.iaload, 1) := by decide +kernel
theorem d_Li_worth_181 : decode q_Li_worth.2.1 181 = .ok (.invokestatic 32, 3) := by decide +kernel
theorem ml_Li_32 : rx_CS "GlassRoom$Light" 32 q_Li_joined 3 := ⟨⟨(rx_s4 1 rfl rfl), (rx_s4 2 rfl rfl)⟩, ⟨(rx_s1 6 rfl rfl), q_Li_joined_k, ⟨by decide, by decide, by decide +kernel⟩, by decide⟩⟩
theorem d_Li_worth_184 : decode q_Li_worth.2.1 184 = .ok (.iastore, 1) := by decide +kernel
theorem d_Li_worth_162 : decode q_Li_worth.2.1 162 = .ok (.iconst 0, 1) := by decide +kernel
theorem d_Li_worth_163 : decode q_Li_worth.2.1 163 = .ok (.ireturn, 1) := by decide +kernel
theorem d_Li_worth_87 : decode q_Li_worth.2.1 87 = .ok (.iconst 0, 1) := by decide +kernel
theorem d_Li_worth_88 : decode q_Li_worth.2.1 88 = .ok (.ireturn, 1) := by decide +kernel
theorem d_GR_worthOf_0 : decode q_GR_worthOf.2.1 0 = .ok (.iload_n 1, 1) := by decide +kernel
theorem d_GR_worthOf_1 : decode q_GR_worthOf.2.1 1 = .ok (.iload_n 2, 1) := by decide +kernel
theorem d_GR_worthOf_2 : decode q_GR_worthOf.2.1 2 = .ok (.invokestatic 210, 3) := by decide +kernel
theorem d_GR_worthOf_5 : decode q_GR_worthOf.2.1 5 = .ok (.istore 4, 2) := by decide +kernel
theorem d_GR_worthOf_7 : decode q_GR_worthOf.2.1 7 = .ok (.aload_n 0, 1) := by decide +kernel
theorem d_GR_worthOf_8 : decode q_GR_worthOf.2.1 8 = .ok (.getfield 19, 3) := by decide +kernel
theorem d_GR_worthOf_11 : decode q_GR_worthOf.2.1 11 = .ok (.iload 4, 2) := by decide +kernel
theorem d_GR_worthOf_13 : decode q_GR_worthOf.2.1 13 = .ok (.invokevirtual 214, 3) := by decide +kernel
theorem d_GR_worthOf_16 : decode q_GR_worthOf.2.1 16 = .ok (.istore 5, 2) := by decide +kernel
theorem d_GR_worthOf_18 : decode q_GR_worthOf.2.1 18 = .ok (.aload_n 0, 1) := by decide +kernel
theorem d_GR_worthOf_19 : decode q_GR_worthOf.2.1 19 = .ok (.getfield 104, 3) := by decide +kernel
theorem d_GR_worthOf_22 : decode q_GR_worthOf.2.1 22 = .ok (.ifCond .lt 27, 3) := by decide +kernel
theorem d_GR_worthOf_49 : decode q_GR_worthOf.2.1 49 = .ok (.aconst_null, 1) := by decide +kernel
theorem d_GR_worthOf_25 : decode q_GR_worthOf.2.1 25 = .ok (.aload_n 0, 1) := by decide +kernel
theorem d_GR_worthOf_26 : decode q_GR_worthOf.2.1 26 = .ok (.getfield 104, 3) := by decide +kernel
theorem d_GR_worthOf_29 : decode q_GR_worthOf.2.1 29 = .ok (.aload_n 0, 1) := by decide +kernel
theorem d_GR_worthOf_30 : decode q_GR_worthOf.2.1 30 = .ok (.getfield 41, 3) := by decide +kernel
theorem d_GR_worthOf_33 : decode q_GR_worthOf.2.1 33 = .ok (.arraylength, 1) := by decide +kernel
theorem d_GR_worthOf_34 : decode q_GR_worthOf.2.1 34 = .ok (.if_icmp .ge 15, 3) := by decide +kernel
theorem d_GR_worthOf_37 : decode q_GR_worthOf.2.1 37 = .ok (.aload_n 0, 1) := by decide +kernel
theorem d_GR_worthOf_38 : decode q_GR_worthOf.2.1 38 = .ok (.getfield 41, 3) := by decide +kernel
theorem d_GR_worthOf_41 : decode q_GR_worthOf.2.1 41 = .ok (.aload_n 0, 1) := by decide +kernel
theorem d_GR_worthOf_42 : decode q_GR_worthOf.2.1 42 = .ok (.getfield 104, 3) := by decide +kernel
theorem d_GR_worthOf_50 : decode q_GR_worthOf.2.1 50 = .ok (.astore 6, 2) := by decide +kernel
theorem d_GR_worthOf_52 : decode q_GR_worthOf.2.1 52 = .ok (.aload 6, 2) := by decide +kernel
theorem d_GR_worthOf_54 : decode q_GR_worthOf.2.1 54 = .ok (.ifnonnull 6, 3) := by decide +kernel
theorem d_GR_worthOf_57 : decode q_GR_worthOf.2.1 57 = .ok (.iload 5, 2) := by decide +kernel
theorem d_GR_worthOf_59 : decode q_GR_worthOf.2.1 59 = .ok (.ireturn, 1) := by decide +kernel
theorem d_GR_worthOf_45 : decode q_GR_worthOf.2.1 45 = .ok (.aaload, 1) := by decide +kernel
theorem d_GR_worthOf_46 : decode q_GR_worthOf.2.1 46 = .ok (.goto 4, 3) := by decide +kernel
theorem d_GR_worthOf_60 : decode q_GR_worthOf.2.1 60 = .ok (.aload_n 0, 1) := by decide +kernel
theorem d_GR_worthOf_61 : decode q_GR_worthOf.2.1 61 = .ok (.getfield 46, 3) := by decide +kernel
theorem fl_GR_46 : rx_F "GlassRoom" 46 11 5 := ⟨(RX11, TX11, 17), rfl, by decide, (rx_s2 104 rfl rfl), rx_T11⟩
theorem d_GR_worthOf_64 : decode q_GR_worthOf.2.1 64 = .ok (.iconst 0, 1) := by decide +kernel
theorem d_GR_worthOf_65 : decode q_GR_worthOf.2.1 65 = .ok (.iload 4, 2) := by decide +kernel
theorem d_GR_worthOf_67 : decode q_GR_worthOf.2.1 67 = .ok (.iastore, 1) := by decide +kernel
theorem d_GR_worthOf_68 : decode q_GR_worthOf.2.1 68 = .ok (.aload_n 0, 1) := by decide +kernel
theorem d_GR_worthOf_69 : decode q_GR_worthOf.2.1 69 = .ok (.getfield 46, 3) := by decide +kernel
theorem d_GR_worthOf_72 : decode q_GR_worthOf.2.1 72 = .ok (.iconst 1, 1) := by decide +kernel
theorem d_GR_worthOf_73 : decode q_GR_worthOf.2.1 73 = .ok (.iload_n 3, 1) := by decide +kernel
theorem d_GR_worthOf_74 : decode q_GR_worthOf.2.1 74 = .ok (.iastore, 1) := by decide +kernel
theorem d_GR_worthOf_75 : decode q_GR_worthOf.2.1 75 = .ok (.aload_n 0, 1) := by decide +kernel
theorem d_GR_worthOf_76 : decode q_GR_worthOf.2.1 76 = .ok (.getfield 46, 3) := by decide +kernel
theorem d_GR_worthOf_79 : decode q_GR_worthOf.2.1 79 = .ok (.iconst 2, 1) := by decide +kernel
theorem d_GR_worthOf_80 : decode q_GR_worthOf.2.1 80 = .ok (.iload 4, 2) := by decide +kernel
theorem d_GR_worthOf_82 : decode q_GR_worthOf.2.1 82 = .ok (.iconst 1, 1) := by decide +kernel
theorem d_GR_worthOf_83 : decode q_GR_worthOf.2.1 83 = .ok (.iand, 1) := by decide +kernel
theorem d_GR_worthOf_84 : decode q_GR_worthOf.2.1 84 = .ok (.iastore, 1) := by decide +kernel
theorem d_GR_worthOf_85 : decode q_GR_worthOf.2.1 85 = .ok (.aload_n 0, 1) := by decide +kernel
theorem d_GR_worthOf_86 : decode q_GR_worthOf.2.1 86 = .ok (.getfield 46, 3) := by decide +kernel
theorem d_GR_worthOf_89 : decode q_GR_worthOf.2.1 89 = .ok (.iconst 3, 1) := by decide +kernel
theorem d_GR_worthOf_90 : decode q_GR_worthOf.2.1 90 = .ok (.iload_n 1, 1) := by decide +kernel
theorem d_GR_worthOf_91 : decode q_GR_worthOf.2.1 91 = .ok (.iastore, 1) := by decide +kernel
theorem d_GR_worthOf_92 : decode q_GR_worthOf.2.1 92 = .ok (.aload_n 0, 1) := by decide +kernel
theorem d_GR_worthOf_93 : decode q_GR_worthOf.2.1 93 = .ok (.getfield 46, 3) := by decide +kernel
theorem d_GR_worthOf_96 : decode q_GR_worthOf.2.1 96 = .ok (.iconst 4, 1) := by decide +kernel
theorem d_GR_worthOf_97 : decode q_GR_worthOf.2.1 97 = .ok (.iload_n 2, 1) := by decide +kernel
theorem d_GR_worthOf_98 : decode q_GR_worthOf.2.1 98 = .ok (.iastore, 1) := by decide +kernel
theorem d_GR_worthOf_99 : decode q_GR_worthOf.2.1 99 = .ok (.aload_n 0, 1) := by decide +kernel
theorem d_GR_worthOf_100 : decode q_GR_worthOf.2.1 100 = .ok (.getfield 46, 3) := by decide +kernel
theorem d_GR_worthOf_103 : decode q_GR_worthOf.2.1 103 = .ok (.iconst 5, 1) := by decide +kernel
theorem d_GR_worthOf_104 : decode q_GR_worthOf.2.1 104 = .ok (.iload 5, 2) := by decide +kernel
theorem d_GR_worthOf_106 : decode q_GR_worthOf.2.1 106 = .ok (.iastore, 1) := by decide +kernel
theorem d_GR_worthOf_107 : decode q_GR_worthOf.2.1 107 = .ok (.aload 6, 2) := by decide +kernel
theorem d_GR_worthOf_109 : decode q_GR_worthOf.2.1 109 = .ok (.aload_n 0, 1) := by decide +kernel
theorem d_GR_worthOf_110 : decode q_GR_worthOf.2.1 110 = .ok (.getfield 46, 3) := by decide +kernel
theorem d_GR_worthOf_113 : decode q_GR_worthOf.2.1 113 = .ok (.aload_n 0, 1) := by decide +kernel
theorem d_GR_worthOf_114 : decode q_GR_worthOf.2.1 114 = .ok (.getfield 50, 3) := by decide +kernel
theorem fl_GR_50 : rx_F "GlassRoom" 50 11 6 := ⟨(RX11, TX11, 17), rfl, by decide, (rx_s2 105 rfl rfl), rx_T11⟩
theorem d_GR_worthOf_117 : decode q_GR_worthOf.2.1 117 = .ok (.invokevirtual 339, 3) := by decide +kernel
theorem ml_GR_339 : rx_CV "GlassRoom" 339 q_Li_worth 2 := ⟨⟨(rx_s3 233 rfl rfl), (rx_s3 234 rfl rfl), (rx_s3 235 rfl rfl)⟩, ⟨(rx_s1 6 rfl rfl), q_Li_worth_k, ⟨by decide, by decide, by decide +kernel⟩, by decide⟩⟩
theorem d_GR_worthOf_120 : decode q_GR_worthOf.2.1 120 = .ok (.ireturn, 1) := by decide +kernel
theorem d_GR_lightOf_0 : decode q_GR_lightOf.2.1 0 = .ok (.aload_n 0, 1) := by decide +kernel
theorem d_GR_lightOf_1 : decode q_GR_lightOf.2.1 1 = .ok (.iload_n 1, 1) := by decide +kernel
theorem d_GR_lightOf_2 : decode q_GR_lightOf.2.1 2 = .ok (.iload_n 2, 1) := by decide +kernel
theorem d_GR_lightOf_3 : decode q_GR_lightOf.2.1 3 = .ok (.iload_n 3, 1) := by decide +kernel
theorem d_GR_lightOf_4 : decode q_GR_lightOf.2.1 4 = .ok (.invokevirtual 192, 3) := by decide +kernel
theorem d_GR_lightOf_7 : decode q_GR_lightOf.2.1 7 = .ok (.ifCond .eq 15, 3) := by decide +kernel
theorem d_GR_lightOf_22 : decode q_GR_lightOf.2.1 22 = .ok (.ldc 196, 2) := by decide +kernel
theorem d_GR_lightOf_24 : decode q_GR_lightOf.2.1 24 = .ok (.ireturn, 1) := by decide +kernel
theorem d_GR_lightOf_10 : decode q_GR_lightOf.2.1 10 = .ok (.aload_n 0, 1) := by decide +kernel
theorem d_GR_lightOf_11 : decode q_GR_lightOf.2.1 11 = .ok (.getfield 19, 3) := by decide +kernel
theorem d_GR_lightOf_14 : decode q_GR_lightOf.2.1 14 = .ok (.iload 4, 2) := by decide +kernel
theorem d_GR_lightOf_16 : decode q_GR_lightOf.2.1 16 = .ok (.invokevirtual 144, 3) := by decide +kernel
theorem d_GR_lightOf_19 : decode q_GR_lightOf.2.1 19 = .ok (.ifCond .ne 6, 3) := by decide +kernel
theorem d_GR_lightOf_25 : decode q_GR_lightOf.2.1 25 = .ok (.aload_n 0, 1) := by decide +kernel
theorem d_GR_lightOf_26 : decode q_GR_lightOf.2.1 26 = .ok (.iload_n 2, 1) := by decide +kernel
theorem d_GR_lightOf_27 : decode q_GR_lightOf.2.1 27 = .ok (.iload_n 3, 1) := by decide +kernel
theorem d_GR_lightOf_28 : decode q_GR_lightOf.2.1 28 = .ok (.aload_n 0, 1) := by decide +kernel
theorem d_GR_lightOf_29 : decode q_GR_lightOf.2.1 29 = .ok (.getfield 19, 3) := by decide +kernel
theorem d_GR_lightOf_32 : decode q_GR_lightOf.2.1 32 = .ok (.iload 4, 2) := by decide +kernel
theorem d_GR_lightOf_34 : decode q_GR_lightOf.2.1 34 = .ok (.iload_n 1, 1) := by decide +kernel
theorem d_GR_lightOf_35 : decode q_GR_lightOf.2.1 35 = .ok (.iload_n 2, 1) := by decide +kernel
theorem d_GR_lightOf_36 : decode q_GR_lightOf.2.1 36 = .ok (.iload_n 3, 1) := by decide +kernel
theorem d_GR_lightOf_37 : decode q_GR_lightOf.2.1 37 = .ok (.invokevirtual 220, 3) := by decide +kernel
theorem d_GR_lightOf_40 : decode q_GR_lightOf.2.1 40 = .ok (.invokevirtual 224, 3) := by decide +kernel
theorem ml_GR_224 : rx_CV "GlassRoom" 224 q_GR_worthOf 3 := ⟨⟨(rx_s3 229 rfl rfl), (rx_s3 231 rfl rfl), (rx_s0 12 rfl rfl)⟩, ⟨(rx_s1 1 rfl rfl), q_GR_worthOf_k, ⟨by decide, by decide, by decide +kernel⟩, by decide⟩⟩
theorem d_GR_lightOf_43 : decode q_GR_lightOf.2.1 43 = .ok (.ireturn, 1) := by decide +kernel
theorem d_GR_brighter_0 : decode q_GR_brighter.2.1 0 = .ok (.aload_n 0, 1) := by decide +kernel
theorem d_GR_brighter_1 : decode q_GR_brighter.2.1 1 = .ok (.getfield 19, 3) := by decide +kernel
theorem d_GR_brighter_4 : decode q_GR_brighter.2.1 4 = .ok (.iload_n 1, 1) := by decide +kernel
theorem d_GR_brighter_5 : decode q_GR_brighter.2.1 5 = .ok (.invokevirtual 144, 3) := by decide +kernel
theorem d_GR_brighter_8 : decode q_GR_brighter.2.1 8 = .ok (.ifCond .ne 5, 3) := by decide +kernel
theorem d_GR_brighter_11 : decode q_GR_brighter.2.1 11 = .ok (.iconst (-1), 1) := by decide +kernel
theorem d_GR_brighter_12 : decode q_GR_brighter.2.1 12 = .ok (.ireturn, 1) := by decide +kernel
theorem d_GR_brighter_13 : decode q_GR_brighter.2.1 13 = .ok (.iconst 0, 1) := by decide +kernel
theorem d_GR_brighter_14 : decode q_GR_brighter.2.1 14 = .ok (.istore_n 3, 1) := by decide +kernel
theorem d_GR_brighter_15 : decode q_GR_brighter.2.1 15 = .ok (.iconst 0, 1) := by decide +kernel
theorem d_GR_brighter_16 : decode q_GR_brighter.2.1 16 = .ok (.istore 4, 2) := by decide +kernel
theorem d_GR_brighter_18 : decode q_GR_brighter.2.1 18 = .ok (.iload 4, 2) := by decide +kernel
theorem d_GR_brighter_20 : decode q_GR_brighter.2.1 20 = .ok (.aload_n 0, 1) := by decide +kernel
theorem d_GR_brighter_21 : decode q_GR_brighter.2.1 21 = .ok (.getfield 19, 3) := by decide +kernel
theorem d_GR_brighter_24 : decode q_GR_brighter.2.1 24 = .ok (.getfield 141, 3) := by decide +kernel
theorem d_GR_brighter_27 : decode q_GR_brighter.2.1 27 = .ok (.if_icmp .ge 99, 3) := by decide +kernel
theorem d_GR_brighter_30 : decode q_GR_brighter.2.1 30 = .ok (.aload_n 0, 1) := by decide +kernel
theorem d_GR_brighter_31 : decode q_GR_brighter.2.1 31 = .ok (.getfield 68, 3) := by decide +kernel
theorem d_GR_brighter_34 : decode q_GR_brighter.2.1 34 = .ok (.iload 4, 2) := by decide +kernel
theorem d_GR_brighter_36 : decode q_GR_brighter.2.1 36 = .ok (.iload_n 1, 1) := by decide +kernel
theorem d_GR_brighter_126 : decode q_GR_brighter.2.1 126 = .ok (.iload_n 3, 1) := by decide +kernel
theorem d_GR_brighter_127 : decode q_GR_brighter.2.1 127 = .ok (.ireturn, 1) := by decide +kernel
theorem d_GR_brighter_37 : decode q_GR_brighter.2.1 37 = .ok (.invokevirtual 227, 3) := by decide +kernel
theorem d_GR_brighter_40 : decode q_GR_brighter.2.1 40 = .ok (.aload_n 0, 1) := by decide +kernel
theorem d_GR_brighter_41 : decode q_GR_brighter.2.1 41 = .ok (.getfield 68, 3) := by decide +kernel
theorem d_GR_brighter_44 : decode q_GR_brighter.2.1 44 = .ok (.getfield 245, 3) := by decide +kernel
theorem fl_GR_245 : rx_F "GlassRoom" 245 2 3 := ⟨(RX2, TX2, 10), rfl, by decide, (rx_s1 212 rfl rfl), rx_T2⟩
theorem d_GR_brighter_47 : decode q_GR_brighter.2.1 47 = .ok (.istore 5, 2) := by decide +kernel
theorem d_GR_brighter_49 : decode q_GR_brighter.2.1 49 = .ok (.iload 5, 2) := by decide +kernel
theorem d_GR_brighter_51 : decode q_GR_brighter.2.1 51 = .ok (.aload_n 0, 1) := by decide +kernel
theorem d_GR_brighter_52 : decode q_GR_brighter.2.1 52 = .ok (.getfield 68, 3) := by decide +kernel
theorem d_GR_brighter_55 : decode q_GR_brighter.2.1 55 = .ok (.getfield 248, 3) := by decide +kernel
theorem fl_GR_248 : rx_F "GlassRoom" 248 2 4 := ⟨(RX2, TX2, 10), rfl, by decide, (rx_s1 214 rfl rfl), rx_T2⟩
theorem d_GR_brighter_58 : decode q_GR_brighter.2.1 58 = .ok (.if_icmp .gt 62, 3) := by decide +kernel
theorem d_GR_brighter_61 : decode q_GR_brighter.2.1 61 = .ok (.aload_n 0, 1) := by decide +kernel
theorem d_GR_brighter_62 : decode q_GR_brighter.2.1 62 = .ok (.getfield 68, 3) := by decide +kernel
theorem d_GR_brighter_65 : decode q_GR_brighter.2.1 65 = .ok (.getfield 251, 3) := by decide +kernel
theorem fl_GR_251 : rx_F "GlassRoom" 251 2 5 := ⟨(RX2, TX2, 10), rfl, by decide, (rx_s1 216 rfl rfl), rx_T2⟩
theorem d_GR_brighter_68 : decode q_GR_brighter.2.1 68 = .ok (.istore 6, 2) := by decide +kernel
theorem d_GR_brighter_120 : decode q_GR_brighter.2.1 120 = .ok (.iinc 4 1, 3) := by decide +kernel
theorem d_GR_brighter_123 : decode q_GR_brighter.2.1 123 = .ok (.goto (-105), 3) := by decide +kernel
theorem d_GR_brighter_70 : decode q_GR_brighter.2.1 70 = .ok (.iload 6, 2) := by decide +kernel
theorem d_GR_brighter_72 : decode q_GR_brighter.2.1 72 = .ok (.aload_n 0, 1) := by decide +kernel
theorem d_GR_brighter_73 : decode q_GR_brighter.2.1 73 = .ok (.getfield 68, 3) := by decide +kernel
theorem d_GR_brighter_76 : decode q_GR_brighter.2.1 76 = .ok (.getfield 254, 3) := by decide +kernel
theorem fl_GR_254 : rx_F "GlassRoom" 254 2 6 := ⟨(RX2, TX2, 10), rfl, by decide, (rx_s1 218 rfl rfl), rx_T2⟩
theorem d_GR_brighter_79 : decode q_GR_brighter.2.1 79 = .ok (.if_icmp .gt 35, 3) := by decide +kernel
theorem d_GR_brighter_82 : decode q_GR_brighter.2.1 82 = .ok (.aload_n 0, 1) := by decide +kernel
theorem d_GR_brighter_83 : decode q_GR_brighter.2.1 83 = .ok (.iload 5, 2) := by decide +kernel
theorem d_GR_brighter_85 : decode q_GR_brighter.2.1 85 = .ok (.iload 6, 2) := by decide +kernel
theorem d_GR_brighter_87 : decode q_GR_brighter.2.1 87 = .ok (.aload_n 0, 1) := by decide +kernel
theorem d_GR_brighter_88 : decode q_GR_brighter.2.1 88 = .ok (.getfield 68, 3) := by decide +kernel
theorem d_GR_brighter_91 : decode q_GR_brighter.2.1 91 = .ok (.iload 5, 2) := by decide +kernel
theorem d_GR_brighter_93 : decode q_GR_brighter.2.1 93 = .ok (.iload 6, 2) := by decide +kernel
theorem d_GR_brighter_114 : decode q_GR_brighter.2.1 114 = .ok (.iinc 5 1, 3) := by decide +kernel
theorem d_GR_brighter_117 : decode q_GR_brighter.2.1 117 = .ok (.goto (-68), 3) := by decide +kernel
theorem d_GR_brighter_95 : decode q_GR_brighter.2.1 95 = .ok (.invokevirtual 257, 3) := by decide +kernel
theorem ml_GR_257 : rx_CV "GlassRoom" 257 q_Di_farAt 2 := ⟨⟨(rx_s4 54 rfl rfl), (rx_s4 42 rfl rfl), (rx_s4 43 rfl rfl)⟩, ⟨(rx_s1 8 rfl rfl), q_Di_farAt_k, ⟨by decide, by decide, by decide +kernel⟩, by decide⟩⟩
theorem d_GR_brighter_98 : decode q_GR_brighter.2.1 98 = .ok (.invokevirtual 224, 3) := by decide +kernel
theorem d_GR_brighter_101 : decode q_GR_brighter.2.1 101 = .ok (.iload_n 2, 1) := by decide +kernel
theorem d_GR_brighter_102 : decode q_GR_brighter.2.1 102 = .ok (.if_icmp .lt 6, 3) := by decide +kernel
theorem d_GR_brighter_105 : decode q_GR_brighter.2.1 105 = .ok (.iinc 3 1, 3) := by decide +kernel
theorem d_GR_brighter_108 : decode q_GR_brighter.2.1 108 = .ok (.iinc 6 1, 3) := by decide +kernel
theorem d_GR_brighter_111 : decode q_GR_brighter.2.1 111 = .ok (.goto (-41), 3) := by decide +kernel
theorem d_M_worthOf_0 : decode q_M_worthOf.2.1 0 = .ok (.bipush 90, 2) := by decide +kernel
theorem d_M_worthOf_2 : decode q_M_worthOf.2.1 2 = .ok (.iload_n 1, 1) := by decide +kernel
theorem d_M_worthOf_3 : decode q_M_worthOf.2.1 3 = .ok (.imul, 1) := by decide +kernel
theorem d_M_worthOf_4 : decode q_M_worthOf.2.1 4 = .ok (.istore_n 2, 1) := by decide +kernel
theorem d_M_worthOf_5 : decode q_M_worthOf.2.1 5 = .ok (.iload_n 2, 1) := by decide +kernel
theorem d_M_worthOf_6 : decode q_M_worthOf.2.1 6 = .ok (.bipush 90, 2) := by decide +kernel
theorem d_M_worthOf_8 : decode q_M_worthOf.2.1 8 = .ok (.iload_n 1, 1) := by decide +kernel
theorem d_M_worthOf_9 : decode q_M_worthOf.2.1 9 = .ok (.imul, 1) := by decide +kernel
theorem d_M_worthOf_10 : decode q_M_worthOf.2.1 10 = .ok (.aload_n 0, 1) := by decide +kernel
theorem d_M_worthOf_11 : decode q_M_worthOf.2.1 11 = .ok (.getfield 22, 3) := by decide +kernel
theorem d_M_worthOf_14 : decode q_M_worthOf.2.1 14 = .ok (.iload_n 1, 1) := by decide +kernel
theorem d_M_worthOf_15 : decode q_M_worthOf.2.1 15 = .ok (.iaload, 1) := by decide +kernel
theorem d_M_worthOf_16 : decode q_M_worthOf.2.1 16 = .ok (.iadd, 1) := by decide +kernel
theorem d_M_worthOf_17 : decode q_M_worthOf.2.1 17 = .ok (.if_icmp .ge 62, 3) := by decide +kernel
theorem d_M_worthOf_79 : decode q_M_worthOf.2.1 79 = .ok (.iconst 0, 1) := by decide +kernel
theorem d_M_worthOf_80 : decode q_M_worthOf.2.1 80 = .ok (.ireturn, 1) := by decide +kernel
theorem d_M_worthOf_20 : decode q_M_worthOf.2.1 20 = .ok (.aload_n 0, 1) := by decide +kernel
theorem d_M_worthOf_21 : decode q_M_worthOf.2.1 21 = .ok (.getfield 25, 3) := by decide +kernel
theorem d_M_worthOf_24 : decode q_M_worthOf.2.1 24 = .ok (.iload_n 2, 1) := by decide +kernel
theorem d_M_worthOf_25 : decode q_M_worthOf.2.1 25 = .ok (.iaload, 1) := by decide +kernel
theorem d_M_worthOf_26 : decode q_M_worthOf.2.1 26 = .ok (.aload_n 0, 1) := by decide +kernel
theorem d_M_worthOf_27 : decode q_M_worthOf.2.1 27 = .ok (.getfield 28, 3) := by decide +kernel
theorem d_M_worthOf_30 : decode q_M_worthOf.2.1 30 = .ok (.iload_n 2, 1) := by decide +kernel
theorem d_M_worthOf_31 : decode q_M_worthOf.2.1 31 = .ok (.iaload, 1) := by decide +kernel
theorem d_M_worthOf_32 : decode q_M_worthOf.2.1 32 = .ok (.if_icmp .eq 23, 3) := by decide +kernel
theorem d_M_worthOf_55 : decode q_M_worthOf.2.1 55 = .ok (.aload_n 0, 1) := by decide +kernel
theorem d_M_worthOf_56 : decode q_M_worthOf.2.1 56 = .ok (.iload_n 1, 1) := by decide +kernel
theorem d_M_worthOf_57 : decode q_M_worthOf.2.1 57 = .ok (.aload_n 0, 1) := by decide +kernel
theorem d_M_worthOf_58 : decode q_M_worthOf.2.1 58 = .ok (.getfield 28, 3) := by decide +kernel
theorem d_M_worthOf_61 : decode q_M_worthOf.2.1 61 = .ok (.iload_n 2, 1) := by decide +kernel
theorem d_M_worthOf_62 : decode q_M_worthOf.2.1 62 = .ok (.iaload, 1) := by decide +kernel
theorem d_M_worthOf_63 : decode q_M_worthOf.2.1 63 = .ok (.aload_n 0, 1) := by decide +kernel
theorem d_M_worthOf_64 : decode q_M_worthOf.2.1 64 = .ok (.getfield 31, 3) := by decide +kernel
theorem d_M_worthOf_67 : decode q_M_worthOf.2.1 67 = .ok (.iload_n 2, 1) := by decide +kernel
theorem d_M_worthOf_68 : decode q_M_worthOf.2.1 68 = .ok (.iaload, 1) := by decide +kernel
theorem d_M_worthOf_69 : decode q_M_worthOf.2.1 69 = .ok (.invokevirtual 194, 3) := by decide +kernel
theorem ml_M_194 : rx_CV "GlassRoomModel" 194 q_M_workOut 3 := ⟨⟨(rx_s7 2 rfl rfl), (rx_s7 4 rfl rfl), (rx_s0 61 rfl rfl)⟩, ⟨(rx_s1 13 rfl rfl), q_M_workOut_k, ⟨by decide, by decide, by decide +kernel⟩, by decide⟩⟩
theorem d_M_worthOf_72 : decode q_M_worthOf.2.1 72 = .ok (.ireturn, 1) := by decide +kernel
theorem d_M_worthOf_35 : decode q_M_worthOf.2.1 35 = .ok (.aload_n 0, 1) := by decide +kernel
theorem d_M_worthOf_36 : decode q_M_worthOf.2.1 36 = .ok (.iload_n 1, 1) := by decide +kernel
theorem d_M_worthOf_37 : decode q_M_worthOf.2.1 37 = .ok (.aload_n 0, 1) := by decide +kernel
theorem d_M_worthOf_38 : decode q_M_worthOf.2.1 38 = .ok (.getfield 25, 3) := by decide +kernel
theorem d_M_worthOf_41 : decode q_M_worthOf.2.1 41 = .ok (.iload_n 2, 1) := by decide +kernel
theorem d_M_worthOf_42 : decode q_M_worthOf.2.1 42 = .ok (.iaload, 1) := by decide +kernel
theorem d_M_worthOf_43 : decode q_M_worthOf.2.1 43 = .ok (.aload_n 0, 1) := by decide +kernel
theorem d_M_worthOf_44 : decode q_M_worthOf.2.1 44 = .ok (.getfield 28, 3) := by decide +kernel
theorem d_M_worthOf_47 : decode q_M_worthOf.2.1 47 = .ok (.iload_n 2, 1) := by decide +kernel
theorem d_M_worthOf_48 : decode q_M_worthOf.2.1 48 = .ok (.iaload, 1) := by decide +kernel
theorem d_M_worthOf_49 : decode q_M_worthOf.2.1 49 = .ok (.invokevirtual 194, 3) := by decide +kernel
theorem d_M_worthOf_52 : decode q_M_worthOf.2.1 52 = .ok (.ifCond .eq 21, 3) := by decide +kernel
theorem d_M_worthOf_73 : decode q_M_worthOf.2.1 73 = .ok (.iinc 2 1, 3) := by decide +kernel
theorem d_M_worthOf_76 : decode q_M_worthOf.2.1 76 = .ok (.goto (-71), 3) := by decide +kernel
theorem d_M_lightAt_0 : decode q_M_lightAt.2.1 0 = .ok (.iload_n 2, 1) := by decide +kernel
theorem d_M_lightAt_1 : decode q_M_lightAt.2.1 1 = .ok (.iload_n 3, 1) := by decide +kernel
theorem d_M_lightAt_2 : decode q_M_lightAt.2.1 2 = .ok (.invokestatic 309, 3) := by decide +kernel
theorem d_M_lightAt_5 : decode q_M_lightAt.2.1 5 = .ok (.istore 5, 2) := by decide +kernel
theorem d_M_lightAt_7 : decode q_M_lightAt.2.1 7 = .ok (.aload_n 0, 1) := by decide +kernel
theorem d_M_lightAt_8 : decode q_M_lightAt.2.1 8 = .ok (.getfield 55, 3) := by decide +kernel
theorem d_M_lightAt_11 : decode q_M_lightAt.2.1 11 = .ok (.iconst (-1), 1) := by decide +kernel
theorem d_M_lightAt_12 : decode q_M_lightAt.2.1 12 = .ok (.if_icmp .ne 10, 3) := by decide +kernel
theorem d_M_lightAt_15 : decode q_M_lightAt.2.1 15 = .ok (.aload_n 0, 1) := by decide +kernel
theorem d_M_lightAt_16 : decode q_M_lightAt.2.1 16 = .ok (.iload 5, 2) := by decide +kernel
theorem d_M_lightAt_18 : decode q_M_lightAt.2.1 18 = .ok (.invokevirtual 312, 3) := by decide +kernel
theorem d_M_lightAt_21 : decode q_M_lightAt.2.1 21 = .ok (.ireturn, 1) := by decide +kernel
theorem d_M_lightAt_22 : decode q_M_lightAt.2.1 22 = .ok (.aload_n 0, 1) := by decide +kernel
theorem d_M_lightAt_23 : decode q_M_lightAt.2.1 23 = .ok (.getfield 34, 3) := by decide +kernel
theorem d_M_lightAt_26 : decode q_M_lightAt.2.1 26 = .ok (.iconst 0, 1) := by decide +kernel
theorem d_M_lightAt_27 : decode q_M_lightAt.2.1 27 = .ok (.iload 5, 2) := by decide +kernel
theorem d_M_lightAt_29 : decode q_M_lightAt.2.1 29 = .ok (.iastore, 1) := by decide +kernel
theorem d_M_lightAt_30 : decode q_M_lightAt.2.1 30 = .ok (.aload_n 0, 1) := by decide +kernel
theorem d_M_lightAt_31 : decode q_M_lightAt.2.1 31 = .ok (.getfield 34, 3) := by decide +kernel
theorem d_M_lightAt_34 : decode q_M_lightAt.2.1 34 = .ok (.iconst 1, 1) := by decide +kernel
theorem d_M_lightAt_35 : decode q_M_lightAt.2.1 35 = .ok (.aload_n 0, 1) := by decide +kernel
theorem d_M_lightAt_36 : decode q_M_lightAt.2.1 36 = .ok (.iload_n 1, 1) := by decide +kernel
theorem d_M_lightAt_37 : decode q_M_lightAt.2.1 37 = .ok (.iload_n 2, 1) := by decide +kernel
theorem d_M_lightAt_38 : decode q_M_lightAt.2.1 38 = .ok (.iload_n 3, 1) := by decide +kernel
theorem d_M_lightAt_39 : decode q_M_lightAt.2.1 39 = .ok (.iload 4, 2) := by decide +kernel
theorem d_M_lightAt_41 : decode q_M_lightAt.2.1 41 = .ok (.invokevirtual 318, 3) := by decide +kernel
theorem d_M_lightAt_44 : decode q_M_lightAt.2.1 44 = .ok (.iastore, 1) := by decide +kernel
theorem d_M_lightAt_45 : decode q_M_lightAt.2.1 45 = .ok (.aload_n 0, 1) := by decide +kernel
theorem d_M_lightAt_46 : decode q_M_lightAt.2.1 46 = .ok (.getfield 34, 3) := by decide +kernel
theorem d_M_lightAt_49 : decode q_M_lightAt.2.1 49 = .ok (.iconst 2, 1) := by decide +kernel
theorem d_M_lightAt_50 : decode q_M_lightAt.2.1 50 = .ok (.iload 5, 2) := by decide +kernel
theorem d_M_lightAt_52 : decode q_M_lightAt.2.1 52 = .ok (.iconst 2, 1) := by decide +kernel
theorem d_M_lightAt_53 : decode q_M_lightAt.2.1 53 = .ok (.irem, 1) := by decide +kernel
theorem d_M_lightAt_54 : decode q_M_lightAt.2.1 54 = .ok (.iastore, 1) := by decide +kernel
theorem d_M_lightAt_55 : decode q_M_lightAt.2.1 55 = .ok (.aload_n 0, 1) := by decide +kernel
theorem d_M_lightAt_56 : decode q_M_lightAt.2.1 56 = .ok (.getfield 34, 3) := by decide +kernel
theorem d_M_lightAt_59 : decode q_M_lightAt.2.1 59 = .ok (.iconst 3, 1) := by decide +kernel
theorem d_M_lightAt_60 : decode q_M_lightAt.2.1 60 = .ok (.iload_n 2, 1) := by decide +kernel
theorem d_M_lightAt_61 : decode q_M_lightAt.2.1 61 = .ok (.iastore, 1) := by decide +kernel
theorem d_M_lightAt_62 : decode q_M_lightAt.2.1 62 = .ok (.aload_n 0, 1) := by decide +kernel
theorem d_M_lightAt_63 : decode q_M_lightAt.2.1 63 = .ok (.getfield 34, 3) := by decide +kernel
theorem d_M_lightAt_66 : decode q_M_lightAt.2.1 66 = .ok (.iconst 4, 1) := by decide +kernel
theorem d_M_lightAt_67 : decode q_M_lightAt.2.1 67 = .ok (.iload_n 3, 1) := by decide +kernel
theorem d_M_lightAt_68 : decode q_M_lightAt.2.1 68 = .ok (.iastore, 1) := by decide +kernel
theorem d_M_lightAt_69 : decode q_M_lightAt.2.1 69 = .ok (.aload_n 0, 1) := by decide +kernel
theorem d_M_lightAt_70 : decode q_M_lightAt.2.1 70 = .ok (.getfield 34, 3) := by decide +kernel
theorem d_M_lightAt_73 : decode q_M_lightAt.2.1 73 = .ok (.iconst 5, 1) := by decide +kernel
theorem d_M_lightAt_74 : decode q_M_lightAt.2.1 74 = .ok (.aload_n 0, 1) := by decide +kernel
theorem d_M_lightAt_75 : decode q_M_lightAt.2.1 75 = .ok (.iload 5, 2) := by decide +kernel
theorem d_M_lightAt_77 : decode q_M_lightAt.2.1 77 = .ok (.invokevirtual 312, 3) := by decide +kernel
theorem d_M_lightAt_80 : decode q_M_lightAt.2.1 80 = .ok (.iastore, 1) := by decide +kernel
theorem d_M_lightAt_81 : decode q_M_lightAt.2.1 81 = .ok (.aload_n 0, 1) := by decide +kernel
theorem d_M_lightAt_82 : decode q_M_lightAt.2.1 82 = .ok (.aload_n 0, 1) := by decide +kernel
theorem d_M_lightAt_83 : decode q_M_lightAt.2.1 83 = .ok (.getfield 55, 3) := by decide +kernel
theorem d_M_lightAt_86 : decode q_M_lightAt.2.1 86 = .ok (.invokevirtual 322, 3) := by decide +kernel
theorem ml_M_322 : rx_CV "GlassRoomModel" 322 q_M_worthOf 1 := ⟨⟨(rx_s6 238 rfl rfl), (rx_s7 0 rfl rfl), (rx_s0 60 rfl rfl)⟩, ⟨(rx_s1 13 rfl rfl), q_M_worthOf_k, ⟨by decide, by decide, by decide +kernel⟩, by decide⟩⟩
theorem d_M_lightAt_89 : decode q_M_lightAt.2.1 89 = .ok (.ireturn, 1) := by decide +kernel
theorem d_M_lightOf_0 : decode q_M_lightOf.2.1 0 = .ok (.aload_n 0, 1) := by decide +kernel
theorem d_M_lightOf_1 : decode q_M_lightOf.2.1 1 = .ok (.iload_n 1, 1) := by decide +kernel
theorem d_M_lightOf_2 : decode q_M_lightOf.2.1 2 = .ok (.iload_n 2, 1) := by decide +kernel
theorem d_M_lightOf_3 : decode q_M_lightOf.2.1 3 = .ok (.iload_n 3, 1) := by decide +kernel
theorem d_M_lightOf_4 : decode q_M_lightOf.2.1 4 = .ok (.invokevirtual 305, 3) := by decide +kernel
theorem d_M_lightOf_7 : decode q_M_lightOf.2.1 7 = .ok (.ifCond .eq 24, 3) := by decide +kernel
theorem d_M_lightOf_31 : decode q_M_lightOf.2.1 31 = .ok (.ldc_w 308, 3) := by decide +kernel
theorem d_M_lightOf_10 : decode q_M_lightOf.2.1 10 = .ok (.aload_n 0, 1) := by decide +kernel
theorem d_M_lightOf_11 : decode q_M_lightOf.2.1 11 = .ok (.iload 4, 2) := by decide +kernel
theorem d_M_lightOf_13 : decode q_M_lightOf.2.1 13 = .ok (.invokevirtual 267, 3) := by decide +kernel
theorem d_M_lightOf_16 : decode q_M_lightOf.2.1 16 = .ok (.ifCond .eq 15, 3) := by decide +kernel
theorem d_M_lightOf_19 : decode q_M_lightOf.2.1 19 = .ok (.aload_n 0, 1) := by decide +kernel
theorem d_M_lightOf_20 : decode q_M_lightOf.2.1 20 = .ok (.iload_n 1, 1) := by decide +kernel
theorem d_M_lightOf_21 : decode q_M_lightOf.2.1 21 = .ok (.iload_n 2, 1) := by decide +kernel
theorem d_M_lightOf_22 : decode q_M_lightOf.2.1 22 = .ok (.iload_n 3, 1) := by decide +kernel
theorem d_M_lightOf_23 : decode q_M_lightOf.2.1 23 = .ok (.iload 4, 2) := by decide +kernel
theorem d_M_lightOf_34 : decode q_M_lightOf.2.1 34 = .ok (.ireturn, 1) := by decide +kernel
theorem d_M_lightOf_25 : decode q_M_lightOf.2.1 25 = .ok (.invokevirtual 325, 3) := by decide +kernel
theorem ml_M_325 : rx_CV "GlassRoomModel" 325 q_M_lightAt 4 := ⟨⟨(rx_s6 234 rfl rfl), (rx_s6 236 rfl rfl), (rx_s0 59 rfl rfl)⟩, ⟨(rx_s1 13 rfl rfl), q_M_lightAt_k, ⟨by decide, by decide, by decide +kernel⟩, by decide⟩⟩
theorem d_M_lightOf_28 : decode q_M_lightOf.2.1 28 = .ok (.goto 6, 3) := by decide +kernel
theorem d_M_brighter_0 : decode q_M_brighter.2.1 0 = .ok (.aload_n 0, 1) := by decide +kernel
theorem d_M_brighter_1 : decode q_M_brighter.2.1 1 = .ok (.iload_n 1, 1) := by decide +kernel
theorem d_M_brighter_2 : decode q_M_brighter.2.1 2 = .ok (.invokevirtual 267, 3) := by decide +kernel
theorem d_M_brighter_5 : decode q_M_brighter.2.1 5 = .ok (.ifCond .ne 5, 3) := by decide +kernel
theorem d_M_brighter_8 : decode q_M_brighter.2.1 8 = .ok (.iconst (-1), 1) := by decide +kernel
theorem d_M_brighter_9 : decode q_M_brighter.2.1 9 = .ok (.ireturn, 1) := by decide +kernel
theorem d_M_brighter_10 : decode q_M_brighter.2.1 10 = .ok (.iconst 0, 1) := by decide +kernel
theorem d_M_brighter_11 : decode q_M_brighter.2.1 11 = .ok (.istore_n 3, 1) := by decide +kernel
theorem d_M_brighter_12 : decode q_M_brighter.2.1 12 = .ok (.iconst 0, 1) := by decide +kernel
theorem d_M_brighter_13 : decode q_M_brighter.2.1 13 = .ok (.istore 4, 2) := by decide +kernel
theorem d_M_brighter_15 : decode q_M_brighter.2.1 15 = .ok (.iload 4, 2) := by decide +kernel
theorem d_M_brighter_17 : decode q_M_brighter.2.1 17 = .ok (.aload_n 0, 1) := by decide +kernel
theorem d_M_brighter_18 : decode q_M_brighter.2.1 18 = .ok (.getfield 236, 3) := by decide +kernel
theorem d_M_brighter_21 : decode q_M_brighter.2.1 21 = .ok (.if_icmp .ge 77, 3) := by decide +kernel
theorem d_M_brighter_24 : decode q_M_brighter.2.1 24 = .ok (.bipush (-10), 2) := by decide +kernel
theorem d_M_brighter_26 : decode q_M_brighter.2.1 26 = .ok (.istore 5, 2) := by decide +kernel
theorem d_M_brighter_98 : decode q_M_brighter.2.1 98 = .ok (.iload_n 3, 1) := by decide +kernel
theorem d_M_brighter_99 : decode q_M_brighter.2.1 99 = .ok (.ireturn, 1) := by decide +kernel
theorem d_M_brighter_28 : decode q_M_brighter.2.1 28 = .ok (.iload 5, 2) := by decide +kernel
theorem d_M_brighter_30 : decode q_M_brighter.2.1 30 = .ok (.bipush 10, 2) := by decide +kernel
theorem d_M_brighter_32 : decode q_M_brighter.2.1 32 = .ok (.if_icmp .gt 60, 3) := by decide +kernel
theorem d_M_brighter_35 : decode q_M_brighter.2.1 35 = .ok (.bipush (-10), 2) := by decide +kernel
theorem d_M_brighter_37 : decode q_M_brighter.2.1 37 = .ok (.istore 6, 2) := by decide +kernel
theorem d_M_brighter_92 : decode q_M_brighter.2.1 92 = .ok (.iinc 4 1, 3) := by decide +kernel
theorem d_M_brighter_95 : decode q_M_brighter.2.1 95 = .ok (.goto (-80), 3) := by decide +kernel
theorem d_M_brighter_39 : decode q_M_brighter.2.1 39 = .ok (.iload 6, 2) := by decide +kernel
theorem d_M_brighter_41 : decode q_M_brighter.2.1 41 = .ok (.bipush 10, 2) := by decide +kernel
theorem d_M_brighter_43 : decode q_M_brighter.2.1 43 = .ok (.if_icmp .gt 43, 3) := by decide +kernel
theorem d_M_brighter_46 : decode q_M_brighter.2.1 46 = .ok (.iload_n 3, 1) := by decide +kernel
theorem d_M_brighter_47 : decode q_M_brighter.2.1 47 = .ok (.aload_n 0, 1) := by decide +kernel
theorem d_M_brighter_48 : decode q_M_brighter.2.1 48 = .ok (.iload 5, 2) := by decide +kernel
theorem d_M_brighter_50 : decode q_M_brighter.2.1 50 = .ok (.iload 6, 2) := by decide +kernel
theorem d_M_brighter_52 : decode q_M_brighter.2.1 52 = .ok (.invokevirtual 315, 3) := by decide +kernel
theorem d_M_brighter_55 : decode q_M_brighter.2.1 55 = .ok (.ifCond .eq 22, 3) := by decide +kernel
theorem d_M_brighter_77 : decode q_M_brighter.2.1 77 = .ok (.iconst 0, 1) := by decide +kernel
theorem d_M_brighter_78 : decode q_M_brighter.2.1 78 = .ok (.iadd, 1) := by decide +kernel
theorem d_M_brighter_79 : decode q_M_brighter.2.1 79 = .ok (.istore_n 3, 1) := by decide +kernel
theorem d_M_brighter_80 : decode q_M_brighter.2.1 80 = .ok (.iinc 6 1, 3) := by decide +kernel
theorem d_M_brighter_83 : decode q_M_brighter.2.1 83 = .ok (.goto (-44), 3) := by decide +kernel
theorem d_M_brighter_86 : decode q_M_brighter.2.1 86 = .ok (.iinc 5 1, 3) := by decide +kernel
theorem d_M_brighter_89 : decode q_M_brighter.2.1 89 = .ok (.goto (-61), 3) := by decide +kernel
theorem d_M_brighter_58 : decode q_M_brighter.2.1 58 = .ok (.aload_n 0, 1) := by decide +kernel
theorem d_M_brighter_59 : decode q_M_brighter.2.1 59 = .ok (.iload 4, 2) := by decide +kernel
theorem d_M_brighter_61 : decode q_M_brighter.2.1 61 = .ok (.iload 5, 2) := by decide +kernel
theorem d_M_brighter_63 : decode q_M_brighter.2.1 63 = .ok (.iload 6, 2) := by decide +kernel
theorem d_M_brighter_65 : decode q_M_brighter.2.1 65 = .ok (.iload_n 1, 1) := by decide +kernel
theorem d_M_brighter_66 : decode q_M_brighter.2.1 66 = .ok (.invokevirtual 325, 3) := by decide +kernel
theorem d_M_brighter_69 : decode q_M_brighter.2.1 69 = .ok (.iload_n 2, 1) := by decide +kernel
theorem d_M_brighter_70 : decode q_M_brighter.2.1 70 = .ok (.if_icmp .lt 7, 3) := by decide +kernel
theorem d_M_brighter_73 : decode q_M_brighter.2.1 73 = .ok (.iconst 1, 1) := by decide +kernel
theorem d_M_brighter_74 : decode q_M_brighter.2.1 74 = .ok (.goto 4, 3) := by decide +kernel
set_option maxHeartbeats 4000000 in
set_option maxRecDepth 20000 in
theorem w_Li_letterAt {G : rx_Gh} {hp : rx_Hp} {F : Int32 → rx_Hp → Prop} (a2 : Int32) (H : (a2 < 0 → F 0 hp) ∧ (¬ a2 < 0 → (6 ≤ a2 → F 0 hp) ∧ (¬ 6 ≤ a2 → vp_in a2 6 ∧ (F (hp.2.1 35 a2.toNatClampNeg) hp)))) : Ev wC G 1 q_Li_letterAt [.ref 35, .int a2] hp (rI F) := by
  refine ev_of rfl (Nat.le_of_ble_eq_true rfl) rfl ?_
  show Rn wC G 1 q_Li_letterAt 0 [some (.ref 35), some (.int a2)] [] hp (rI F)
  refine r_iload_n (i := 1) d_Li_letterAt_0 rfl rfl ?_
  refine r_if_lt (tgt := 16) d_Li_letterAt_1 (by decide) (fun hc_1 => ?_) (fun hc_1 => ?_)
  · replace H := H.1 hc_1
    refine r_iconst d_Li_letterAt_16 ic_0 ?_
    exact rI_ret d_Li_letterAt_17 rfl H
  · replace H := H.2 hc_1
    refine r_iload_n (i := 1) d_Li_letterAt_4 rfl rfl ?_
    refine r_aload_n (i := 0) d_Li_letterAt_5 rfl rfl ?_
    refine r_alen (b := 35) (n := 6) (v := 6) d_Li_letterAt_6 (by decide) rfl al_6 ?_
    refine r_icmp_ge (tgt := 16) d_Li_letterAt_7 (by decide) (fun hc_7 => ?_) (fun hc_7 => ?_)
    · replace H := H.1 hc_7
      refine r_iconst d_Li_letterAt_16 ic_0 ?_
      exact rI_ret d_Li_letterAt_17 rfl H
    · replace H := H.2 hc_7
      refine r_aload_n (i := 0) d_Li_letterAt_10 rfl rfl ?_
      refine r_iload_n (i := 1) d_Li_letterAt_11 rfl rfl ?_
      obtain ⟨hi_12, H⟩ := H
      refine r_iald (b := 35) (v := hp.2.1 35 a2.toNatClampNeg) d_Li_letterAt_12 (by decide) rfl hi_12 rfl ?_
      refine r_goto (tgt := 17) d_Li_letterAt_13 (by decide) ?_
      exact rI_ret d_Li_letterAt_17 rfl H
def f_Li_letterAt (a2 : Int32) (hp : rx_Hp) : Int32 := (if a2 < 0 then 0 else (if 6 ≤ a2 then 0 else (hp.2.1 35 a2.toNatClampNeg)))
def p_Li_letterAt (a2 : Int32) : Prop := (¬ a2 < 0 → (¬ 6 ≤ a2 → vp_in a2 6))
theorem s_Li_letterAt {G : rx_Gh} {hp : rx_Hp} {F : Int32 → rx_Hp → Prop} (a2 : Int32) (hP : (p_Li_letterAt a2)) (H0 : F (f_Li_letterAt a2 hp) hp) : Ev wC G 1 q_Li_letterAt [.ref 35, .int a2] hp (rI F) := by
  have H : ∀ v h, v = (f_Li_letterAt a2 hp) → h = hp → F v h := by rintro _ _ rfl rfl; exact H0
  unfold p_Li_letterAt at hP
  refine w_Li_letterAt a2  ?_
  refine ⟨fun hc_1 => ?_, fun hc_1 => ?_⟩
  · exact H _ _ (((if_pos hc_1).trans rfl)).symm (rfl).symm
  · refine ⟨fun hc_7 => ?_, fun hc_7 => ?_⟩
    · exact H _ _ (((if_neg hc_1).trans ((if_pos hc_7).trans rfl))).symm (rfl).symm
    · refine ⟨((hP hc_1) hc_7), ?_⟩
      exact H _ _ (((if_neg hc_1).trans ((if_neg hc_7).trans rfl))).symm (rfl).symm
set_option maxHeartbeats 4000000 in
set_option maxRecDepth 20000 in
theorem w_Li_worth {G : rx_Gh} {hp : rx_Hp} {F : Int32 → rx_Hp → Prop} (o : Nat) (ho : isL o) (H : Rn wC G 4 q_Li_worth 5 [some (.ref o), some (.ref 35), some (.ref 36), some (.int 0), some (.int 0), none] [] hp (rI F)) : Ev wC G 4 q_Li_worth [.ref o, .ref 35, .ref 36] hp (rI F) := by
  refine ev_of rfl (Nat.le_of_ble_eq_true rfl) rfl ?_
  show Rn wC G 4 q_Li_worth 0 [some (.ref o), some (.ref 35), some (.ref 36), none, none, none] [] hp (rI F)
  refine r_iconst d_Li_worth_0 ic_0 ?_
  refine r_istore_n (i := 3) (lz := [some (.ref o), some (.ref 35), some (.ref 36), some (.int 0), none, none]) d_Li_worth_1 rfl (by decide) rfl rfl ?_
  refine r_iconst d_Li_worth_2 ic_0 ?_
  refine r_istore (lz := [some (.ref o), some (.ref 35), some (.ref 36), some (.int 0), some (.int 0), none]) d_Li_worth_3 (by decide) rfl rfl ?_
  exact H
set_option maxHeartbeats 4000000 in
set_option maxRecDepth 20000 in
theorem w_Li_worth_5 {o : Nat} {G : rx_Gh} {hp : rx_Hp} {F : Int32 → rx_Hp → Prop} (x3 : Int32) (x4 : Int32) (ho : isL o) (H : ((hp.1 o 2) ≤ x4 → F 0 hp) ∧ (¬ (hp.1 o 2) ≤ x4 → vp_in x4 160 ∧ (((hp.2.1 (o + 1) x4.toNatClampNeg) = 48 → (x3 < 160 → vp_in x3 160 ∧ (Rn wC G 4 q_Li_worth 5 [some (.ref o), some (.ref 35), some (.ref 36), some (.int (x3 + 1)), some (.int (x4 + 1)), none] [] (rx_pa hp 36 x3.toNatClampNeg (hp.2.1 (o + 2) x4.toNatClampNeg)) (rI F))) ∧ (¬ x3 < 160 → F 0 hp)) ∧ (¬ (hp.2.1 (o + 1) x4.toNatClampNeg) = 48 → ((hp.2.1 (o + 1) x4.toNatClampNeg) = 97 → (x3 < 160 → p_Li_letterAt (hp.2.1 (o + 2) x4.toNatClampNeg) ∧ (vp_in x3 160 ∧ (Rn wC G 4 q_Li_worth 5 [some (.ref o), some (.ref 35), some (.ref 36), some (.int (x3 + 1)), some (.int (x4 + 1)), none] [] (rx_pa hp 36 x3.toNatClampNeg (f_Li_letterAt (hp.2.1 (o + 2) x4.toNatClampNeg) hp)) (rI F)))) ∧ (¬ x3 < 160 → F 0 hp)) ∧ (¬ (hp.2.1 (o + 1) x4.toNatClampNeg) = 97 → (1 ≤ x3 → ((hp.2.1 (o + 1) x4.toNatClampNeg) = 59 → vp_in (x3 - 1) 160 ∧ (F (hp.2.1 36 (x3 - 1).toNatClampNeg) hp)) ∧ (¬ (hp.2.1 (o + 1) x4.toNatClampNeg) = 59 → ((hp.2.1 (o + 1) x4.toNatClampNeg) = 33 → vp_in (x3 - 1) 160 ∧ (Rn wC G 4 q_Li_worth 5 [some (.ref o), some (.ref 35), some (.ref 36), some (.int x3), some (.int (x4 + 1)), none] [] (rx_pa hp 36 ((x3 - 1).toNatClampNeg) (1 - (hp.2.1 36 (x3 - 1).toNatClampNeg))) (rI F))) ∧ (¬ (hp.2.1 (o + 1) x4.toNatClampNeg) = 33 → ((hp.2.1 (o + 1) x4.toNatClampNeg) = 63 → vp_in (x3 + (-1)) 160 ∧ (Rn wC G 4 q_Li_worth 5 [some (.ref o), some (.ref 35), some (.ref 36), some (.int (x3 + (-1))), some (.int (((if (hp.2.1 36 (x3 + (-1)).toNatClampNeg) = 0 then (f_Mt_max x4 (hp.2.1 (o + 2) x4.toNatClampNeg)) else x4) : Int32) + 1)), none] [] hp (rI F))) ∧ (¬ (hp.2.1 (o + 1) x4.toNatClampNeg) = 63 → (2 ≤ x3 → vp_in ((x3 + (-1)) - 1) 160 ∧ (vp_in (x3 + (-1)) 160 ∧ (Rn wC G 4 q_Li_worth 5 [some (.ref o), some (.ref 35), some (.ref 36), some (.int (x3 + (-1))), some (.int (x4 + 1)), none] [] (rx_pa hp 36 (((x3 + (-1)) - 1).toNatClampNeg) (f_Li_joined (hp.2.1 (o + 1) x4.toNatClampNeg) (hp.2.1 36 ((x3 + (-1)) - 1).toNatClampNeg) (hp.2.1 36 (x3 + (-1)).toNatClampNeg))) (rI F)))) ∧ (¬ 2 ≤ x3 → F 0 hp))))) ∧ (¬ 1 ≤ x3 → F 0 hp)))))) : Rn wC G 4 q_Li_worth 5 [some (.ref o), some (.ref 35), some (.ref 36), some (.int x3), some (.int x4), none] [] hp (rI F) := by
  refine r_iload d_Li_worth_5 rfl ?_
  refine r_aload_n (i := 0) d_Li_worth_7 rfl rfl ?_
  refine r_getI (b := o) (v := hp.1 o 2) d_Li_worth_8 fl_Li_18 (isL_lt ho) (isL_k ho) rfl rfl ?_
  refine r_icmp_ge (tgt := 191) d_Li_worth_11 (by decide) (fun hc_11 => ?_) (fun hc_11 => ?_)
  · replace H := H.1 hc_11
    refine r_iconst d_Li_worth_191 ic_0 ?_
    exact rI_ret d_Li_worth_192 rfl H
  · replace H := H.2 hc_11
    refine r_aload_n (i := 0) d_Li_worth_14 rfl rfl ?_
    refine r_getR (b := o) (r := (o + 1)) d_Li_worth_15 fl_Li_9 (isL_lt ho) (isL_k ho) rfl (isL_r0 ho) ?_
    refine r_iload d_Li_worth_18 rfl ?_
    obtain ⟨hi_20, H⟩ := H
    refine r_iald (b := (o + 1)) (v := hp.2.1 (o + 1) x4.toNatClampNeg) d_Li_worth_20 (isL_lt1 ho) (isL_k1 ho) hi_20 rfl ?_
    refine r_istore (lz := [some (.ref o), some (.ref 35), some (.ref 36), some (.int x3), some (.int x4), some (.int (hp.2.1 (o + 1) x4.toNatClampNeg))]) d_Li_worth_21 (by decide) rfl rfl ?_
    refine r_iload d_Li_worth_23 rfl ?_
    refine r_bipush d_Li_worth_25 bp_48 ?_
    refine r_icmp_eq (tgt := 37) d_Li_worth_27 (by decide) (fun hc_27 => ?_) (fun hc_27 => ?_)
    · replace H := H.1 hc_27
      refine r_iload_n (i := 3) d_Li_worth_37 rfl rfl ?_
      refine r_aload_n (i := 2) d_Li_worth_38 rfl rfl ?_
      refine r_alen (b := 36) (n := 160) (v := 160) d_Li_worth_39 (by decide) rfl al_160 ?_
      refine r_icmp_lt (tgt := 45) d_Li_worth_40 (by decide) (fun hc_40 => ?_) (fun hc_40 => ?_)
      · replace H := H.1 hc_40
        refine r_aload_n (i := 2) d_Li_worth_45 rfl rfl ?_
        refine r_iload_n (i := 3) d_Li_worth_46 rfl rfl ?_
        refine r_iload d_Li_worth_47 rfl ?_
        refine r_bipush d_Li_worth_49 bp_48 ?_
        refine r_icmp_ne (tgt := 64) d_Li_worth_51 (by decide) (fun h => absurd hc_27 h) (fun _ => ?_)
        refine r_aload_n (i := 0) d_Li_worth_54 rfl rfl ?_
        refine r_getR (b := o) (r := (o + 2)) d_Li_worth_55 fl_Li_15 (isL_lt ho) (isL_k ho) rfl (isL_r1 ho) ?_
        refine r_iload d_Li_worth_58 rfl ?_
        refine r_iald (b := (o + 2)) (v := hp.2.1 (o + 2) x4.toNatClampNeg) d_Li_worth_60 (isL_lt2 ho) (isL_k2 ho) hi_20 rfl ?_
        refine r_goto (tgt := 75) d_Li_worth_61 (by decide) ?_
        obtain ⟨hi_75, H⟩ := H
        refine r_iast (b := 36) (i := x3.toNatClampNeg) d_Li_worth_75 (by decide) rfl hi_75 rfl ?_
        refine r_iinc (v := x3 + 1) (lz := [some (.ref o), some (.ref 35), some (.ref 36), some (.int (x3 + 1)), some (.int x4), some (.int (hp.2.1 (o + 1) x4.toNatClampNeg))]) d_Li_worth_76 rfl (by rw [ic_1]) (by decide) rfl rfl ?_
        refine r_goto (tgt := 185) d_Li_worth_79 (by decide) ?_
        refine r_iinc (v := x4 + 1) (lz := [some (.ref o), some (.ref 35), some (.ref 36), some (.int (x3 + 1)), some (.int (x4 + 1)), some (.int (hp.2.1 (o + 1) x4.toNatClampNeg))]) d_Li_worth_185 rfl (by rw [ic_1]) (by decide) rfl rfl ?_
        refine r_goto (tgt := 5) d_Li_worth_188 (by decide) ?_
        exact rx_fgt [false, false, false, false, false, true] H
      · replace H := H.2 hc_40
        refine r_iconst d_Li_worth_43 ic_0 ?_
        exact rI_ret d_Li_worth_44 rfl H
    · replace H := H.2 hc_27
      refine r_iload d_Li_worth_30 rfl ?_
      refine r_bipush d_Li_worth_32 bp_97 ?_
      refine r_icmp_ne (tgt := 82) d_Li_worth_34 (by decide) (fun hc_34 => ?_) (fun hc_34 => ?_)
      · replace H := H.2 hc_34
        refine r_iload_n (i := 3) d_Li_worth_82 rfl rfl ?_
        refine r_iconst d_Li_worth_83 ic_1 ?_
        refine r_icmp_ge (tgt := 89) d_Li_worth_84 (by decide) (fun hc_84 => ?_) (fun hc_84 => ?_)
        · replace H := H.1 hc_84
          refine r_iload d_Li_worth_89 rfl ?_
          refine r_bipush d_Li_worth_91 bp_59 ?_
          refine r_icmp_ne (tgt := 102) d_Li_worth_93 (by decide) (fun hc_93 => ?_) (fun hc_93 => ?_)
          · replace H := H.2 hc_93
            refine r_iload d_Li_worth_102 rfl ?_
            refine r_bipush d_Li_worth_104 bp_33 ?_
            refine r_icmp_ne (tgt := 124) d_Li_worth_106 (by decide) (fun hc_106 => ?_) (fun hc_106 => ?_)
            · replace H := H.2 hc_106
              refine r_iload d_Li_worth_124 rfl ?_
              refine r_bipush d_Li_worth_126 bp_63 ?_
              refine r_icmp_ne (tgt := 157) d_Li_worth_128 (by decide) (fun hc_128 => ?_) (fun hc_128 => ?_)
              · replace H := H.2 hc_128
                refine r_iload_n (i := 3) d_Li_worth_157 rfl rfl ?_
                refine r_iconst d_Li_worth_158 ic_2 ?_
                refine r_icmp_ge (tgt := 164) d_Li_worth_159 (by decide) (fun hc_159 => ?_) (fun hc_159 => ?_)
                · replace H := H.1 hc_159
                  refine r_iinc (v := x3 + (-1)) (lz := [some (.ref o), some (.ref 35), some (.ref 36), some (.int (x3 + (-1))), some (.int x4), some (.int (hp.2.1 (o + 1) x4.toNatClampNeg))]) d_Li_worth_164 rfl (by rw [ic_m1]) (by decide) rfl rfl ?_
                  refine r_aload_n (i := 2) d_Li_worth_167 rfl rfl ?_
                  refine r_iload_n (i := 3) d_Li_worth_168 rfl rfl ?_
                  refine r_iconst d_Li_worth_169 ic_1 ?_
                  refine r_isub d_Li_worth_170 ?_
                  refine r_iload d_Li_worth_171 rfl ?_
                  refine r_aload_n (i := 2) d_Li_worth_173 rfl rfl ?_
                  refine r_iload_n (i := 3) d_Li_worth_174 rfl rfl ?_
                  refine r_iconst d_Li_worth_175 ic_1 ?_
                  refine r_isub d_Li_worth_176 ?_
                  obtain ⟨hi_177, H⟩ := H
                  refine r_iald (b := 36) (v := hp.2.1 36 ((x3 + (-1)) - 1).toNatClampNeg) d_Li_worth_177 (by decide) rfl hi_177 rfl ?_
                  refine r_aload_n (i := 2) d_Li_worth_178 rfl rfl ?_
                  refine r_iload_n (i := 3) d_Li_worth_179 rfl rfl ?_
                  obtain ⟨hi_180, H⟩ := H
                  refine r_iald (b := 36) (v := hp.2.1 36 (x3 + (-1)).toNatClampNeg) d_Li_worth_180 (by decide) rfl hi_180 rfl ?_
                  refine rk_SI (d' := 3) [.int (hp.2.1 (o + 1) x4.toNatClampNeg), .int (hp.2.1 36 ((x3 + (-1)) - 1).toNatClampNeg), .int (hp.2.1 36 (x3 + (-1)).toNatClampNeg)] [.int ((x3 + (-1)) - 1), .ref 36] d_Li_worth_181 ml_Li_32 rfl rfl (by decide) (Nat.le_of_ble_eq_true rfl) (s_Li_joined (hp.2.1 (o + 1) x4.toNatClampNeg) (hp.2.1 36 ((x3 + (-1)) - 1).toNatClampNeg) (hp.2.1 36 (x3 + (-1)).toNatClampNeg) ?_)
                  refine r_iast (b := 36) (i := ((x3 + (-1)) - 1).toNatClampNeg) d_Li_worth_184 (by decide) rfl hi_177 rfl ?_
                  refine r_iinc (v := x4 + 1) (lz := [some (.ref o), some (.ref 35), some (.ref 36), some (.int (x3 + (-1))), some (.int (x4 + 1)), some (.int (hp.2.1 (o + 1) x4.toNatClampNeg))]) d_Li_worth_185 rfl (by rw [ic_1]) (by decide) rfl rfl ?_
                  refine r_goto (tgt := 5) d_Li_worth_188 (by decide) ?_
                  exact rx_fgt [false, false, false, false, false, true] H
                · replace H := H.2 hc_159
                  refine r_iconst d_Li_worth_162 ic_0 ?_
                  exact rI_ret d_Li_worth_163 rfl H
              · replace H := H.1 hc_128
                refine r_iinc (v := x3 + (-1)) (lz := [some (.ref o), some (.ref 35), some (.ref 36), some (.int (x3 + (-1))), some (.int x4), some (.int (hp.2.1 (o + 1) x4.toNatClampNeg))]) d_Li_worth_131 rfl (by rw [ic_m1]) (by decide) rfl rfl ?_
                refine r_aload_n (i := 2) d_Li_worth_134 rfl rfl ?_
                refine r_iload_n (i := 3) d_Li_worth_135 rfl rfl ?_
                obtain ⟨hi_136, H⟩ := H
                refine r_iald (b := 36) (v := hp.2.1 36 (x3 + (-1)).toNatClampNeg) d_Li_worth_136 (by decide) rfl hi_136 rfl ?_
                have J137 : ∀ (v137_0 : Int32), v137_0 = ((if (hp.2.1 36 (x3 + (-1)).toNatClampNeg) = 0 then (f_Mt_max x4 (hp.2.1 (o + 2) x4.toNatClampNeg)) else x4) : Int32) → Rn wC G 4 q_Li_worth 185 [some (.ref o), some (.ref 35), some (.ref 36), some (.int (x3 + (-1))), some (.int v137_0), some (.int (hp.2.1 (o + 1) x4.toNatClampNeg))] [] hp (rI F) := by
                  rintro _ rfl
                  refine r_iinc (v := ((if (hp.2.1 36 (x3 + (-1)).toNatClampNeg) = 0 then (f_Mt_max x4 (hp.2.1 (o + 2) x4.toNatClampNeg)) else x4) : Int32) + 1) (lz := [some (.ref o), some (.ref 35), some (.ref 36), some (.int (x3 + (-1))), some (.int (((if (hp.2.1 36 (x3 + (-1)).toNatClampNeg) = 0 then (f_Mt_max x4 (hp.2.1 (o + 2) x4.toNatClampNeg)) else x4) : Int32) + 1)), some (.int (hp.2.1 (o + 1) x4.toNatClampNeg))]) d_Li_worth_185 rfl (by rw [ic_1]) (by decide) rfl rfl ?_
                  refine r_goto (tgt := 5) d_Li_worth_188 (by decide) ?_
                  exact rx_fgt [false, false, false, false, false, true] H
                refine r_if_ne (tgt := 185) d_Li_worth_137 (by decide) (fun hc_137 => ?_) (fun hc_137 => ?_)
                · exact J137 _ (((if_neg hc_137).trans rfl)).symm
                · refine r_iload d_Li_worth_140 rfl ?_
                  refine r_aload_n (i := 0) d_Li_worth_142 rfl rfl ?_
                  refine r_getR (b := o) (r := (o + 2)) d_Li_worth_143 fl_Li_15 (isL_lt ho) (isL_k ho) rfl (isL_r1 ho) ?_
                  refine r_iload d_Li_worth_146 rfl ?_
                  refine r_iald (b := (o + 2)) (v := hp.2.1 (o + 2) x4.toNatClampNeg) d_Li_worth_148 (isL_lt2 ho) (isL_k2 ho) hi_20 rfl ?_
                  refine rk_SI (d' := 1) [.int x4, .int (hp.2.1 (o + 2) x4.toNatClampNeg)] [] d_Li_worth_149 ml_Li_26 rfl rfl (by decide) (Nat.le_of_ble_eq_true rfl) (s_Mt_max x4 (hp.2.1 (o + 2) x4.toNatClampNeg) ?_)
                  refine r_istore (lz := [some (.ref o), some (.ref 35), some (.ref 36), some (.int (x3 + (-1))), some (.int (f_Mt_max x4 (hp.2.1 (o + 2) x4.toNatClampNeg))), some (.int (hp.2.1 (o + 1) x4.toNatClampNeg))]) d_Li_worth_152 (by decide) rfl rfl ?_
                  refine r_goto (tgt := 185) d_Li_worth_154 (by decide) ?_
                  exact J137 _ (((if_pos hc_137).trans rfl)).symm
            · replace H := H.1 hc_106
              refine r_aload_n (i := 2) d_Li_worth_109 rfl rfl ?_
              refine r_iload_n (i := 3) d_Li_worth_110 rfl rfl ?_
              refine r_iconst d_Li_worth_111 ic_1 ?_
              refine r_isub d_Li_worth_112 ?_
              refine r_iconst d_Li_worth_113 ic_1 ?_
              refine r_aload_n (i := 2) d_Li_worth_114 rfl rfl ?_
              refine r_iload_n (i := 3) d_Li_worth_115 rfl rfl ?_
              refine r_iconst d_Li_worth_116 ic_1 ?_
              refine r_isub d_Li_worth_117 ?_
              obtain ⟨hi_118, H⟩ := H
              refine r_iald (b := 36) (v := hp.2.1 36 (x3 - 1).toNatClampNeg) d_Li_worth_118 (by decide) rfl hi_118 rfl ?_
              refine r_isub d_Li_worth_119 ?_
              refine r_iast (b := 36) (i := (x3 - 1).toNatClampNeg) d_Li_worth_120 (by decide) rfl hi_118 rfl ?_
              refine r_goto (tgt := 185) d_Li_worth_121 (by decide) ?_
              refine r_iinc (v := x4 + 1) (lz := [some (.ref o), some (.ref 35), some (.ref 36), some (.int x3), some (.int (x4 + 1)), some (.int (hp.2.1 (o + 1) x4.toNatClampNeg))]) d_Li_worth_185 rfl (by rw [ic_1]) (by decide) rfl rfl ?_
              refine r_goto (tgt := 5) d_Li_worth_188 (by decide) ?_
              exact rx_fgt [false, false, false, false, false, true] H
          · replace H := H.1 hc_93
            refine r_aload_n (i := 2) d_Li_worth_96 rfl rfl ?_
            refine r_iload_n (i := 3) d_Li_worth_97 rfl rfl ?_
            refine r_iconst d_Li_worth_98 ic_1 ?_
            refine r_isub d_Li_worth_99 ?_
            obtain ⟨hi_100, H⟩ := H
            refine r_iald (b := 36) (v := hp.2.1 36 (x3 - 1).toNatClampNeg) d_Li_worth_100 (by decide) rfl hi_100 rfl ?_
            exact rI_ret d_Li_worth_101 rfl H
        · replace H := H.2 hc_84
          refine r_iconst d_Li_worth_87 ic_0 ?_
          exact rI_ret d_Li_worth_88 rfl H
      · replace H := H.1 hc_34
        refine r_iload_n (i := 3) d_Li_worth_37 rfl rfl ?_
        refine r_aload_n (i := 2) d_Li_worth_38 rfl rfl ?_
        refine r_alen (b := 36) (n := 160) (v := 160) d_Li_worth_39 (by decide) rfl al_160 ?_
        refine r_icmp_lt (tgt := 45) d_Li_worth_40 (by decide) (fun hc_40 => ?_) (fun hc_40 => ?_)
        · replace H := H.1 hc_40
          refine r_aload_n (i := 2) d_Li_worth_45 rfl rfl ?_
          refine r_iload_n (i := 3) d_Li_worth_46 rfl rfl ?_
          refine r_iload d_Li_worth_47 rfl ?_
          refine r_bipush d_Li_worth_49 bp_48 ?_
          refine r_icmp_ne (tgt := 64) d_Li_worth_51 (by decide) (fun _ => ?_) (fun h => absurd h hc_27)
          refine r_aload_n (i := 1) d_Li_worth_64 rfl rfl ?_
          refine r_aload_n (i := 0) d_Li_worth_65 rfl rfl ?_
          refine r_getR (b := o) (r := (o + 2)) d_Li_worth_66 fl_Li_15 (isL_lt ho) (isL_k ho) rfl (isL_r1 ho) ?_
          refine r_iload d_Li_worth_69 rfl ?_
          refine r_iald (b := (o + 2)) (v := hp.2.1 (o + 2) x4.toNatClampNeg) d_Li_worth_71 (isL_lt2 ho) (isL_k2 ho) hi_20 rfl ?_
          obtain ⟨hp_72_0, H⟩ := H
          refine rk_SI (d' := 1) [.ref 35, .int (hp.2.1 (o + 2) x4.toNatClampNeg)] [.int x3, .ref 36] d_Li_worth_72 ml_Li_22 rfl rfl (by decide) (Nat.le_of_ble_eq_true rfl) (s_Li_letterAt (hp.2.1 (o + 2) x4.toNatClampNeg) hp_72_0 ?_)
          obtain ⟨hi_75, H⟩ := H
          refine r_iast (b := 36) (i := x3.toNatClampNeg) d_Li_worth_75 (by decide) rfl hi_75 rfl ?_
          refine r_iinc (v := x3 + 1) (lz := [some (.ref o), some (.ref 35), some (.ref 36), some (.int (x3 + 1)), some (.int x4), some (.int (hp.2.1 (o + 1) x4.toNatClampNeg))]) d_Li_worth_76 rfl (by rw [ic_1]) (by decide) rfl rfl ?_
          refine r_goto (tgt := 185) d_Li_worth_79 (by decide) ?_
          refine r_iinc (v := x4 + 1) (lz := [some (.ref o), some (.ref 35), some (.ref 36), some (.int (x3 + 1)), some (.int (x4 + 1)), some (.int (hp.2.1 (o + 1) x4.toNatClampNeg))]) d_Li_worth_185 rfl (by rw [ic_1]) (by decide) rfl rfl ?_
          refine r_goto (tgt := 5) d_Li_worth_188 (by decide) ?_
          exact rx_fgt [false, false, false, false, false, true] H
        · replace H := H.2 hc_40
          refine r_iconst d_Li_worth_43 ic_0 ?_
          exact rI_ret d_Li_worth_44 rfl H
set_option maxHeartbeats 4000000 in
set_option maxRecDepth 20000 in
theorem w_GR_worthOf {G : rx_Gh} {hp : rx_Hp} {F : Int32 → rx_Hp → Prop} (a1 : Int32) (a2 : Int32) (a3 : Int32) (H : p_Ha_brightAfter (f_GR_glasses a1 a2) ∧ (((hp.1 0 15) < 0 → F (f_Ha_brightAfter (f_GR_glasses a1 a2) hp) hp) ∧ (¬ (hp.1 0 15) < 0 → (5 ≤ (hp.1 0 15) → F (f_Ha_brightAfter (f_GR_glasses a1 a2) hp) hp) ∧ (¬ 5 ≤ (hp.1 0 15) → ∃ r1, vp_in (hp.1 0 15) 5 ∧ wC_r19 hp.2.2 (hp.1 0 15).toNatClampNeg = some r1 ∧ isL r1 ∧ (Ev wC G 4 q_Li_worth [.ref r1, .ref 35, .ref 36] (rx_pa (rx_pa (rx_pa (rx_pa (rx_pa (rx_pa hp 35 0 (f_GR_glasses a1 a2)) 35 1 a3) 35 2 ((f_GR_glasses a1 a2) &&& 1)) 35 3 a1) 35 4 a2) 35 5 (f_Ha_brightAfter (f_GR_glasses a1 a2) hp)) (rI fun r3 h2 => F r3 h2)))))) : Ev wC G 5 q_GR_worthOf [.ref 0, .int a1, .int a2, .int a3] hp (rI F) := by
  refine ev_of rfl (Nat.le_of_ble_eq_true rfl) rfl ?_
  show Rn wC G 5 q_GR_worthOf 0 [some (.ref 0), some (.int a1), some (.int a2), some (.int a3), none, none, none] [] hp (rI F)
  refine r_iload_n (i := 1) d_GR_worthOf_0 rfl rfl ?_
  refine r_iload_n (i := 2) d_GR_worthOf_1 rfl rfl ?_
  refine rk_SI (d' := 2) [.int a1, .int a2] [] d_GR_worthOf_2 ml_GR_210 rfl rfl (by decide) (Nat.le_of_ble_eq_true rfl) (s_GR_glasses a1 a2 ?_)
  refine r_istore (lz := [some (.ref 0), some (.int a1), some (.int a2), some (.int a3), some (.int (f_GR_glasses a1 a2)), none, none]) d_GR_worthOf_5 (by decide) rfl rfl ?_
  refine r_aload_n (i := 0) d_GR_worthOf_7 rfl rfl ?_
  refine r_getR (b := 0) (r := 3) d_GR_worthOf_8 fl_GR_19 (by decide) rfl rfl rfl ?_
  refine r_iload d_GR_worthOf_11 rfl ?_
  obtain ⟨hp_13_0, H⟩ := H
  refine rk_VI (b := 3) (d' := 1) [.int (f_GR_glasses a1 a2)] [] d_GR_worthOf_13 ml_GR_214 rfl rfl (by decide) (by decide) rfl rfl (Nat.le_of_ble_eq_true rfl) (s_Ha_brightAfter (f_GR_glasses a1 a2) hp_13_0 ?_)
  refine r_istore (lz := [some (.ref 0), some (.int a1), some (.int a2), some (.int a3), some (.int (f_GR_glasses a1 a2)), some (.int (f_Ha_brightAfter (f_GR_glasses a1 a2) hp)), none]) d_GR_worthOf_16 (by decide) rfl rfl ?_
  refine r_aload_n (i := 0) d_GR_worthOf_18 rfl rfl ?_
  refine r_getI (b := 0) (v := hp.1 0 15) d_GR_worthOf_19 fl_GR_104 (by decide) rfl rfl rfl ?_
  refine r_if_lt (tgt := 49) d_GR_worthOf_22 (by decide) (fun hc_22 => ?_) (fun hc_22 => ?_)
  · replace H := H.1 hc_22
    refine r_null d_GR_worthOf_49 ?_
    refine r_astoreN (lz := [some (.ref 0), some (.int a1), some (.int a2), some (.int a3), some (.int (f_GR_glasses a1 a2)), some (.int (f_Ha_brightAfter (f_GR_glasses a1 a2) hp)), some (.null)]) d_GR_worthOf_50 (by decide) rfl rfl ?_
    refine r_aloadN d_GR_worthOf_52 rfl ?_
    refine r_ifnonnullN d_GR_worthOf_54 ?_
    refine r_iload d_GR_worthOf_57 rfl ?_
    exact rI_ret d_GR_worthOf_59 rfl H
  · replace H := H.2 hc_22
    refine r_aload_n (i := 0) d_GR_worthOf_25 rfl rfl ?_
    refine r_getI (b := 0) (v := hp.1 0 15) d_GR_worthOf_26 fl_GR_104 (by decide) rfl rfl rfl ?_
    refine r_aload_n (i := 0) d_GR_worthOf_29 rfl rfl ?_
    refine r_getR (b := 0) (r := 19) d_GR_worthOf_30 fl_GR_41 (by decide) rfl rfl rfl ?_
    refine r_alen (b := 19) (n := 5) (v := 5) d_GR_worthOf_33 (by decide) rfl al_5 ?_
    refine r_icmp_ge (tgt := 49) d_GR_worthOf_34 (by decide) (fun hc_34 => ?_) (fun hc_34 => ?_)
    · replace H := H.1 hc_34
      refine r_null d_GR_worthOf_49 ?_
      refine r_astoreN (lz := [some (.ref 0), some (.int a1), some (.int a2), some (.int a3), some (.int (f_GR_glasses a1 a2)), some (.int (f_Ha_brightAfter (f_GR_glasses a1 a2) hp)), some (.null)]) d_GR_worthOf_50 (by decide) rfl rfl ?_
      refine r_aloadN d_GR_worthOf_52 rfl ?_
      refine r_ifnonnullN d_GR_worthOf_54 ?_
      refine r_iload d_GR_worthOf_57 rfl ?_
      exact rI_ret d_GR_worthOf_59 rfl H
    · replace H := H.2 hc_34
      refine r_aload_n (i := 0) d_GR_worthOf_37 rfl rfl ?_
      refine r_getR (b := 0) (r := 19) d_GR_worthOf_38 fl_GR_41 (by decide) rfl rfl rfl ?_
      refine r_aload_n (i := 0) d_GR_worthOf_41 rfl rfl ?_
      refine r_getI (b := 0) (v := hp.1 0 15) d_GR_worthOf_42 fl_GR_104 (by decide) rfl rfl rfl ?_
      obtain ⟨r1, hi_45, hr_45, hl_45, H⟩ := H
      refine r_aald (b := 19) (n := 5) (t := 0) (r := r1) d_GR_worthOf_45 (by decide) rfl hi_45 hr_45 ?_
      refine r_goto (tgt := 50) d_GR_worthOf_46 (by decide) ?_
      refine r_astore (lz := [some (.ref 0), some (.int a1), some (.int a2), some (.int a3), some (.int (f_GR_glasses a1 a2)), some (.int (f_Ha_brightAfter (f_GR_glasses a1 a2) hp)), some (.ref r1)]) d_GR_worthOf_50 (by decide) rfl rfl ?_
      refine r_aload d_GR_worthOf_52 rfl ?_
      refine r_ifnonnull (tgt := 60) d_GR_worthOf_54 (by decide) ?_
      refine r_aload_n (i := 0) d_GR_worthOf_60 rfl rfl ?_
      refine r_getR (b := 0) (r := 35) d_GR_worthOf_61 fl_GR_46 (by decide) rfl rfl rfl ?_
      refine r_iconst d_GR_worthOf_64 ic_0 ?_
      refine r_iload d_GR_worthOf_65 rfl ?_
      refine r_iast (b := 35) (i := 0) d_GR_worthOf_67 (by decide) rfl (by unfold vp_in; decide) rfl ?_
      refine r_aload_n (i := 0) d_GR_worthOf_68 rfl rfl ?_
      refine r_getR (b := 0) (r := 35) d_GR_worthOf_69 fl_GR_46 (by decide) rfl rfl rfl ?_
      refine r_iconst d_GR_worthOf_72 ic_1 ?_
      refine r_iload_n (i := 3) d_GR_worthOf_73 rfl rfl ?_
      refine r_iast (b := 35) (i := 1) d_GR_worthOf_74 (by decide) rfl (by unfold vp_in; decide) rfl ?_
      refine r_aload_n (i := 0) d_GR_worthOf_75 rfl rfl ?_
      refine r_getR (b := 0) (r := 35) d_GR_worthOf_76 fl_GR_46 (by decide) rfl rfl rfl ?_
      refine r_iconst d_GR_worthOf_79 ic_2 ?_
      refine r_iload d_GR_worthOf_80 rfl ?_
      refine r_iconst d_GR_worthOf_82 ic_1 ?_
      refine r_iand d_GR_worthOf_83 ?_
      refine r_iast (b := 35) (i := 2) d_GR_worthOf_84 (by decide) rfl (by unfold vp_in; decide) rfl ?_
      refine r_aload_n (i := 0) d_GR_worthOf_85 rfl rfl ?_
      refine r_getR (b := 0) (r := 35) d_GR_worthOf_86 fl_GR_46 (by decide) rfl rfl rfl ?_
      refine r_iconst d_GR_worthOf_89 ic_3 ?_
      refine r_iload_n (i := 1) d_GR_worthOf_90 rfl rfl ?_
      refine r_iast (b := 35) (i := 3) d_GR_worthOf_91 (by decide) rfl (by unfold vp_in; decide) rfl ?_
      refine r_aload_n (i := 0) d_GR_worthOf_92 rfl rfl ?_
      refine r_getR (b := 0) (r := 35) d_GR_worthOf_93 fl_GR_46 (by decide) rfl rfl rfl ?_
      refine r_iconst d_GR_worthOf_96 ic_4 ?_
      refine r_iload_n (i := 2) d_GR_worthOf_97 rfl rfl ?_
      refine r_iast (b := 35) (i := 4) d_GR_worthOf_98 (by decide) rfl (by unfold vp_in; decide) rfl ?_
      refine r_aload_n (i := 0) d_GR_worthOf_99 rfl rfl ?_
      refine r_getR (b := 0) (r := 35) d_GR_worthOf_100 fl_GR_46 (by decide) rfl rfl rfl ?_
      refine r_iconst d_GR_worthOf_103 ic_5 ?_
      refine r_iload d_GR_worthOf_104 rfl ?_
      refine r_iast (b := 35) (i := 5) d_GR_worthOf_106 (by decide) rfl (by unfold vp_in; decide) rfl ?_
      refine r_aload d_GR_worthOf_107 rfl ?_
      refine r_aload_n (i := 0) d_GR_worthOf_109 rfl rfl ?_
      refine r_getR (b := 0) (r := 35) d_GR_worthOf_110 fl_GR_46 (by decide) rfl rfl rfl ?_
      refine r_aload_n (i := 0) d_GR_worthOf_113 rfl rfl ?_
      refine r_getR (b := 0) (r := 36) d_GR_worthOf_114 fl_GR_50 (by decide) rfl rfl rfl ?_
      refine rc_VI (b := r1) (d' := 4) [.ref 35, .ref 36] [] d_GR_worthOf_117 ml_GR_339 rfl rfl (by decide) (isL_lt hl_45) (isL_k hl_45) rfl (Nat.le_of_ble_eq_true rfl) H ?_
      intro r3 h2 H
      exact rI_ret d_GR_worthOf_120 rfl H
set_option maxHeartbeats 4000000 in
set_option maxRecDepth 20000 in
theorem w_GR_lightOf {G : rx_Gh} {hp : rx_Hp} {F : Int32 → rx_Hp → Prop} (a1 : Int32) (a2 : Int32) (a3 : Int32) (a4 : Int32) (H : ((f_GR_hasImage a1 a2 a3 hp) = 0 → F (-100000000) hp) ∧ (¬ (f_GR_hasImage a1 a2 a3 hp) = 0 → ((f_Ha_has a4 hp) = 0 → F (-100000000) hp) ∧ (¬ (f_Ha_has a4 hp) = 0 → p_Ha_farFrom a4 a1 a2 a3 ∧ (Ev wC G 5 q_GR_worthOf [.ref 0, .int a2, .int a3, .int (f_Ha_farFrom a4 a1 a2 a3 hp)] hp (rI fun r2 h1 => F r2 h1))))) : Ev wC G 6 q_GR_lightOf [.ref 0, .int a1, .int a2, .int a3, .int a4] hp (rI F) := by
  refine ev_of rfl (Nat.le_of_ble_eq_true rfl) rfl ?_
  show Rn wC G 6 q_GR_lightOf 0 [some (.ref 0), some (.int a1), some (.int a2), some (.int a3), some (.int a4)] [] hp (rI F)
  refine r_aload_n (i := 0) d_GR_lightOf_0 rfl rfl ?_
  refine r_iload_n (i := 1) d_GR_lightOf_1 rfl rfl ?_
  refine r_iload_n (i := 2) d_GR_lightOf_2 rfl rfl ?_
  refine r_iload_n (i := 3) d_GR_lightOf_3 rfl rfl ?_
  refine rk_VI (b := 0) (d' := 2) [.int a1, .int a2, .int a3] [] d_GR_lightOf_4 ml_GR_192 rfl rfl (by decide) (by decide) rfl rfl (Nat.le_of_ble_eq_true rfl) (s_GR_hasImage a1 a2 a3 ?_)
  refine r_if_eq (tgt := 22) d_GR_lightOf_7 (by decide) (fun hc_7 => ?_) (fun hc_7 => ?_)
  · replace H := H.1 hc_7
    refine r_ldc d_GR_lightOf_22 ck_GR_196 ?_
    exact rI_ret d_GR_lightOf_24 rfl H
  · replace H := H.2 hc_7
    refine r_aload_n (i := 0) d_GR_lightOf_10 rfl rfl ?_
    refine r_getR (b := 0) (r := 3) d_GR_lightOf_11 fl_GR_19 (by decide) rfl rfl rfl ?_
    refine r_iload d_GR_lightOf_14 rfl ?_
    refine rk_VI (b := 3) (d' := 1) [.int a4] [] d_GR_lightOf_16 ml_GR_144 rfl rfl (by decide) (by decide) rfl rfl (Nat.le_of_ble_eq_true rfl) (s_Ha_has a4 ?_)
    refine r_if_ne (tgt := 25) d_GR_lightOf_19 (by decide) (fun hc_19 => ?_) (fun hc_19 => ?_)
    · replace H := H.2 hc_19
      refine r_aload_n (i := 0) d_GR_lightOf_25 rfl rfl ?_
      refine r_iload_n (i := 2) d_GR_lightOf_26 rfl rfl ?_
      refine r_iload_n (i := 3) d_GR_lightOf_27 rfl rfl ?_
      refine r_aload_n (i := 0) d_GR_lightOf_28 rfl rfl ?_
      refine r_getR (b := 0) (r := 3) d_GR_lightOf_29 fl_GR_19 (by decide) rfl rfl rfl ?_
      refine r_iload d_GR_lightOf_32 rfl ?_
      refine r_iload_n (i := 1) d_GR_lightOf_34 rfl rfl ?_
      refine r_iload_n (i := 2) d_GR_lightOf_35 rfl rfl ?_
      refine r_iload_n (i := 3) d_GR_lightOf_36 rfl rfl ?_
      obtain ⟨hp_37_0, H⟩ := H
      refine rk_VI (b := 3) (d' := 2) [.int a4, .int a1, .int a2, .int a3] [.int a3, .int a2, .ref 0] d_GR_lightOf_37 ml_GR_220 rfl rfl (by decide) (by decide) rfl rfl (Nat.le_of_ble_eq_true rfl) (s_Ha_farFrom a4 a1 a2 a3 hp_37_0 ?_)
      refine rc_VI (b := 0) (d' := 5) [.int a2, .int a3, .int (f_Ha_farFrom a4 a1 a2 a3 hp)] [] d_GR_lightOf_40 ml_GR_224 rfl rfl (by decide) (by decide) rfl rfl (Nat.le_of_ble_eq_true rfl) H ?_
      intro r2 h1 H
      exact rI_ret d_GR_lightOf_43 rfl H
    · replace H := H.1 hc_19
      refine r_ldc d_GR_lightOf_22 ck_GR_196 ?_
      exact rI_ret d_GR_lightOf_24 rfl H
set_option maxHeartbeats 4000000 in
set_option maxRecDepth 20000 in
theorem w_GR_brighter {G : rx_Gh} {hp : rx_Hp} {F : Int32 → rx_Hp → Prop} (a1 : Int32) (a2 : Int32) (H : ((f_Ha_has a1 hp) = 0 → F (-1) hp) ∧ (¬ (f_Ha_has a1 hp) = 0 → Rn wC G 6 q_GR_brighter 18 [some (.ref 0), some (.int a1), some (.int a2), some (.int 0), some (.int 0), none, none] [] hp (rI F))) : Ev wC G 6 q_GR_brighter [.ref 0, .int a1, .int a2] hp (rI F) := by
  refine ev_of rfl (Nat.le_of_ble_eq_true rfl) rfl ?_
  show Rn wC G 6 q_GR_brighter 0 [some (.ref 0), some (.int a1), some (.int a2), none, none, none, none] [] hp (rI F)
  refine r_aload_n (i := 0) d_GR_brighter_0 rfl rfl ?_
  refine r_getR (b := 0) (r := 3) d_GR_brighter_1 fl_GR_19 (by decide) rfl rfl rfl ?_
  refine r_iload_n (i := 1) d_GR_brighter_4 rfl rfl ?_
  refine rk_VI (b := 3) (d' := 1) [.int a1] [] d_GR_brighter_5 ml_GR_144 rfl rfl (by decide) (by decide) rfl rfl (Nat.le_of_ble_eq_true rfl) (s_Ha_has a1 ?_)
  refine r_if_ne (tgt := 13) d_GR_brighter_8 (by decide) (fun hc_8 => ?_) (fun hc_8 => ?_)
  · replace H := H.2 hc_8
    refine r_iconst d_GR_brighter_13 ic_0 ?_
    refine r_istore_n (i := 3) (lz := [some (.ref 0), some (.int a1), some (.int a2), some (.int 0), none, none, none]) d_GR_brighter_14 rfl (by decide) rfl rfl ?_
    refine r_iconst d_GR_brighter_15 ic_0 ?_
    refine r_istore (lz := [some (.ref 0), some (.int a1), some (.int a2), some (.int 0), some (.int 0), none, none]) d_GR_brighter_16 (by decide) rfl rfl ?_
    exact H
  · replace H := H.1 hc_8
    refine r_iconst d_GR_brighter_11 ic_m1 ?_
    exact rI_ret d_GR_brighter_12 rfl H
set_option maxHeartbeats 4000000 in
set_option maxRecDepth 20000 in
theorem w_GR_brighter_18 {G : rx_Gh} {hp : rx_Hp} {F : Int32 → rx_Hp → Prop} (x1 : Int32) (x2 : Int32) (x3 : Int32) (x4 : Int32) (H : ((hp.1 3 4) ≤ x4 → F x3 hp) ∧ (¬ (hp.1 3 4) ≤ x4 → Ev wC G 3 q_Di_measure [.ref 40, .int x4, .int x1] hp (rV fun h1 => Rn wC G 6 q_GR_brighter 49 [some (.ref 0), some (.int x1), some (.int x2), some (.int x3), some (.int x4), some (.int (h1.1 40 3)), none] [] h1 (rI F)))) : Rn wC G 6 q_GR_brighter 18 [some (.ref 0), some (.int x1), some (.int x2), some (.int x3), some (.int x4), none, none] [] hp (rI F) := by
  refine r_iload d_GR_brighter_18 rfl ?_
  refine r_aload_n (i := 0) d_GR_brighter_20 rfl rfl ?_
  refine r_getR (b := 0) (r := 3) d_GR_brighter_21 fl_GR_19 (by decide) rfl rfl rfl ?_
  refine r_getI (b := 3) (v := hp.1 3 4) d_GR_brighter_24 fl_GR_141 (by decide) rfl rfl rfl ?_
  refine r_icmp_ge (tgt := 126) d_GR_brighter_27 (by decide) (fun hc_27 => ?_) (fun hc_27 => ?_)
  · replace H := H.1 hc_27
    refine r_iload_n (i := 3) d_GR_brighter_126 rfl rfl ?_
    exact rI_ret d_GR_brighter_127 rfl H
  · replace H := H.2 hc_27
    refine r_aload_n (i := 0) d_GR_brighter_30 rfl rfl ?_
    refine r_getR (b := 0) (r := 40) d_GR_brighter_31 fl_GR_68 (by decide) rfl rfl rfl ?_
    refine r_iload d_GR_brighter_34 rfl ?_
    refine r_iload_n (i := 1) d_GR_brighter_36 rfl rfl ?_
    refine rc_VV (b := 40) (d' := 3) [.int x4, .int x1] [] d_GR_brighter_37 ml_GR_227 rfl rfl (by decide) (by decide) rfl rfl (Nat.le_of_ble_eq_true rfl) H ?_
    intro h1 H
    refine r_aload_n (i := 0) d_GR_brighter_40 rfl rfl ?_
    refine r_getR (b := 0) (r := 40) d_GR_brighter_41 fl_GR_68 (by decide) rfl rfl rfl ?_
    refine r_getI (b := 40) (v := h1.1 40 3) d_GR_brighter_44 fl_GR_245 (by decide) rfl rfl rfl ?_
    refine r_istore (lz := [some (.ref 0), some (.int x1), some (.int x2), some (.int x3), some (.int x4), some (.int (h1.1 40 3)), none]) d_GR_brighter_47 (by decide) rfl rfl ?_
    exact H
set_option maxHeartbeats 4000000 in
set_option maxRecDepth 20000 in
theorem w_GR_brighter_49 {G : rx_Gh} {hp : rx_Hp} {F : Int32 → rx_Hp → Prop} (x1 : Int32) (x2 : Int32) (x3 : Int32) (x4 : Int32) (x5 : Int32) (H : ((hp.1 40 4) < x5 → Rn wC G 6 q_GR_brighter 18 [some (.ref 0), some (.int x1), some (.int x2), some (.int x3), some (.int (x4 + 1)), none, none] [] hp (rI F)) ∧ (¬ (hp.1 40 4) < x5 → Rn wC G 6 q_GR_brighter 70 [some (.ref 0), some (.int x1), some (.int x2), some (.int x3), some (.int x4), some (.int x5), some (.int (hp.1 40 5))] [] hp (rI F))) : Rn wC G 6 q_GR_brighter 49 [some (.ref 0), some (.int x1), some (.int x2), some (.int x3), some (.int x4), some (.int x5), none] [] hp (rI F) := by
  refine r_iload d_GR_brighter_49 rfl ?_
  refine r_aload_n (i := 0) d_GR_brighter_51 rfl rfl ?_
  refine r_getR (b := 0) (r := 40) d_GR_brighter_52 fl_GR_68 (by decide) rfl rfl rfl ?_
  refine r_getI (b := 40) (v := hp.1 40 4) d_GR_brighter_55 fl_GR_248 (by decide) rfl rfl rfl ?_
  refine r_icmp_gt (tgt := 120) d_GR_brighter_58 (by decide) (fun hc_58 => ?_) (fun hc_58 => ?_)
  · replace H := H.1 hc_58
    refine r_iinc (v := x4 + 1) (lz := [some (.ref 0), some (.int x1), some (.int x2), some (.int x3), some (.int (x4 + 1)), some (.int x5), none]) d_GR_brighter_120 rfl (by rw [ic_1]) (by decide) rfl rfl ?_
    refine r_goto (tgt := 18) d_GR_brighter_123 (by decide) ?_
    exact rx_fgt [false, false, false, false, false, true] H
  · replace H := H.2 hc_58
    refine r_aload_n (i := 0) d_GR_brighter_61 rfl rfl ?_
    refine r_getR (b := 0) (r := 40) d_GR_brighter_62 fl_GR_68 (by decide) rfl rfl rfl ?_
    refine r_getI (b := 40) (v := hp.1 40 5) d_GR_brighter_65 fl_GR_251 (by decide) rfl rfl rfl ?_
    refine r_istore (lz := [some (.ref 0), some (.int x1), some (.int x2), some (.int x3), some (.int x4), some (.int x5), some (.int (hp.1 40 5))]) d_GR_brighter_68 (by decide) rfl rfl ?_
    exact H
set_option maxHeartbeats 4000000 in
set_option maxRecDepth 20000 in
theorem w_GR_brighter_70 {G : rx_Gh} {hp : rx_Hp} {F : Int32 → rx_Hp → Prop} (x1 : Int32) (x2 : Int32) (x3 : Int32) (x4 : Int32) (x5 : Int32) (x6 : Int32) (H : ((hp.1 40 6) < x6 → Rn wC G 6 q_GR_brighter 49 [some (.ref 0), some (.int x1), some (.int x2), some (.int x3), some (.int x4), some (.int (x5 + 1)), none] [] hp (rI F)) ∧ (¬ (hp.1 40 6) < x6 → p_Di_farAt x5 x6 ∧ (Ev wC G 5 q_GR_worthOf [.ref 0, .int x5, .int x6, .int (f_Di_farAt x5 x6 hp)] hp (rI fun r2 h1 => Rn wC G 6 q_GR_brighter 70 [some (.ref 0), some (.int x1), some (.int x2), some (.int ((if r2 < x2 then x3 else (x3 + 1)) : Int32)), some (.int x4), some (.int x5), some (.int (x6 + 1))] [] h1 (rI F))))) : Rn wC G 6 q_GR_brighter 70 [some (.ref 0), some (.int x1), some (.int x2), some (.int x3), some (.int x4), some (.int x5), some (.int x6)] [] hp (rI F) := by
  refine r_iload d_GR_brighter_70 rfl ?_
  refine r_aload_n (i := 0) d_GR_brighter_72 rfl rfl ?_
  refine r_getR (b := 0) (r := 40) d_GR_brighter_73 fl_GR_68 (by decide) rfl rfl rfl ?_
  refine r_getI (b := 40) (v := hp.1 40 6) d_GR_brighter_76 fl_GR_254 (by decide) rfl rfl rfl ?_
  refine r_icmp_gt (tgt := 114) d_GR_brighter_79 (by decide) (fun hc_79 => ?_) (fun hc_79 => ?_)
  · replace H := H.1 hc_79
    refine r_iinc (v := x5 + 1) (lz := [some (.ref 0), some (.int x1), some (.int x2), some (.int x3), some (.int x4), some (.int (x5 + 1)), some (.int x6)]) d_GR_brighter_114 rfl (by rw [ic_1]) (by decide) rfl rfl ?_
    refine r_goto (tgt := 49) d_GR_brighter_117 (by decide) ?_
    exact rx_fgt [false, false, false, false, false, false, true] H
  · replace H := H.2 hc_79
    refine r_aload_n (i := 0) d_GR_brighter_82 rfl rfl ?_
    refine r_iload d_GR_brighter_83 rfl ?_
    refine r_iload d_GR_brighter_85 rfl ?_
    refine r_aload_n (i := 0) d_GR_brighter_87 rfl rfl ?_
    refine r_getR (b := 0) (r := 40) d_GR_brighter_88 fl_GR_68 (by decide) rfl rfl rfl ?_
    refine r_iload d_GR_brighter_91 rfl ?_
    refine r_iload d_GR_brighter_93 rfl ?_
    obtain ⟨hp_95_0, H⟩ := H
    refine rk_VI (b := 40) (d' := 1) [.int x5, .int x6] [.int x6, .int x5, .ref 0] d_GR_brighter_95 ml_GR_257 rfl rfl (by decide) (by decide) rfl rfl (Nat.le_of_ble_eq_true rfl) (s_Di_farAt x5 x6 hp_95_0 ?_)
    refine rc_VI (b := 0) (d' := 5) [.int x5, .int x6, .int (f_Di_farAt x5 x6 hp)] [] d_GR_brighter_98 ml_GR_224 rfl rfl (by decide) (by decide) rfl rfl (Nat.le_of_ble_eq_true rfl) H ?_
    intro r2 h1 H
    have J102 : ∀ (v102_0 : Int32), v102_0 = ((if r2 < x2 then x3 else (x3 + 1)) : Int32) → Rn wC G 6 q_GR_brighter 108 [some (.ref 0), some (.int x1), some (.int x2), some (.int v102_0), some (.int x4), some (.int x5), some (.int x6)] [] h1 (rI F) := by
      rintro _ rfl
      refine r_iinc (v := x6 + 1) (lz := [some (.ref 0), some (.int x1), some (.int x2), some (.int ((if r2 < x2 then x3 else (x3 + 1)) : Int32)), some (.int x4), some (.int x5), some (.int (x6 + 1))]) d_GR_brighter_108 rfl (by rw [ic_1]) (by decide) rfl rfl ?_
      refine r_goto (tgt := 70) d_GR_brighter_111 (by decide) ?_
      exact H
    refine r_iload_n (i := 2) d_GR_brighter_101 rfl rfl ?_
    refine r_icmp_lt (tgt := 108) d_GR_brighter_102 (by decide) (fun hc_102 => ?_) (fun hc_102 => ?_)
    · exact J102 _ (((if_pos hc_102).trans rfl)).symm
    · refine r_iinc (v := x3 + 1) (lz := [some (.ref 0), some (.int x1), some (.int x2), some (.int (x3 + 1)), some (.int x4), some (.int x5), some (.int x6)]) d_GR_brighter_105 rfl (by rw [ic_1]) (by decide) rfl rfl ?_
      exact J102 _ (((if_neg hc_102).trans rfl)).symm
set_option maxHeartbeats 4000000 in
set_option maxRecDepth 20000 in
theorem w_M_worthOf {G : rx_Gh} {hp : rx_Hp} {F : Int32 → rx_Hp → Prop} (a1 : Int32) (H : Rn wM G 5 q_M_worthOf 5 [some (.ref 0), some (.int a1), some (.int (90 * a1))] [] hp (rI F)) : Ev wM G 5 q_M_worthOf [.ref 0, .int a1] hp (rI F) := by
  refine ev_of rfl (Nat.le_of_ble_eq_true rfl) rfl ?_
  show Rn wM G 5 q_M_worthOf 0 [some (.ref 0), some (.int a1), none] [] hp (rI F)
  refine r_bipush d_M_worthOf_0 bp_90 ?_
  refine r_iload_n (i := 1) d_M_worthOf_2 rfl rfl ?_
  refine r_imul d_M_worthOf_3 ?_
  refine r_istore_n (i := 2) (lz := [some (.ref 0), some (.int a1), some (.int (90 * a1))]) d_M_worthOf_4 rfl (by decide) rfl rfl ?_
  exact H
set_option maxHeartbeats 4000000 in
set_option maxRecDepth 20000 in
theorem w_M_worthOf_5 {G : rx_Gh} {hp : rx_Hp} {F : Int32 → rx_Hp → Prop} (x1 : Int32) (x2 : Int32) (H : vp_in x1 5 ∧ ((((90 * x1) + (hp.2.1 5 x1.toNatClampNeg)) ≤ x2 → F 0 hp) ∧ (¬ ((90 * x1) + (hp.2.1 5 x1.toNatClampNeg)) ≤ x2 → vp_in x2 450 ∧ (((hp.2.1 6 x2.toNatClampNeg) = (hp.2.1 7 x2.toNatClampNeg) → Ev wM G 4 q_M_workOut [.ref 0, .int x1, .int (hp.2.1 7 x2.toNatClampNeg), .int (hp.2.1 8 x2.toNatClampNeg)] hp (rI fun r2 h1 => F r2 h1)) ∧ (¬ (hp.2.1 6 x2.toNatClampNeg) = (hp.2.1 7 x2.toNatClampNeg) → Ev wM G 4 q_M_workOut [.ref 0, .int x1, .int (hp.2.1 6 x2.toNatClampNeg), .int (hp.2.1 7 x2.toNatClampNeg)] hp (rI fun r4 h3 => (r4 = 0 → Rn wM G 5 q_M_worthOf 5 [some (.ref 0), some (.int x1), some (.int (x2 + 1))] [] h3 (rI F)) ∧ (¬ r4 = 0 → Ev wM G 4 q_M_workOut [.ref 0, .int x1, .int (h3.2.1 7 x2.toNatClampNeg), .int (h3.2.1 8 x2.toNatClampNeg)] h3 (rI fun r6 h5 => F r6 h5)))))))) : Rn wM G 5 q_M_worthOf 5 [some (.ref 0), some (.int x1), some (.int x2)] [] hp (rI F) := by
  refine r_iload_n (i := 2) d_M_worthOf_5 rfl rfl ?_
  refine r_bipush d_M_worthOf_6 bp_90 ?_
  refine r_iload_n (i := 1) d_M_worthOf_8 rfl rfl ?_
  refine r_imul d_M_worthOf_9 ?_
  refine r_aload_n (i := 0) d_M_worthOf_10 rfl rfl ?_
  refine r_getR (b := 0) (r := 5) d_M_worthOf_11 fl_M_22 (by decide) rfl rfl rfl ?_
  refine r_iload_n (i := 1) d_M_worthOf_14 rfl rfl ?_
  obtain ⟨hi_15, H⟩ := H
  refine r_iald (b := 5) (v := hp.2.1 5 x1.toNatClampNeg) d_M_worthOf_15 (by decide) rfl hi_15 rfl ?_
  refine r_iadd d_M_worthOf_16 ?_
  refine r_icmp_ge (tgt := 79) d_M_worthOf_17 (by decide) (fun hc_17 => ?_) (fun hc_17 => ?_)
  · replace H := H.1 hc_17
    refine r_iconst d_M_worthOf_79 ic_0 ?_
    exact rI_ret d_M_worthOf_80 rfl H
  · replace H := H.2 hc_17
    refine r_aload_n (i := 0) d_M_worthOf_20 rfl rfl ?_
    refine r_getR (b := 0) (r := 6) d_M_worthOf_21 fl_M_25 (by decide) rfl rfl rfl ?_
    refine r_iload_n (i := 2) d_M_worthOf_24 rfl rfl ?_
    obtain ⟨hi_25, H⟩ := H
    refine r_iald (b := 6) (v := hp.2.1 6 x2.toNatClampNeg) d_M_worthOf_25 (by decide) rfl hi_25 rfl ?_
    refine r_aload_n (i := 0) d_M_worthOf_26 rfl rfl ?_
    refine r_getR (b := 0) (r := 7) d_M_worthOf_27 fl_M_28 (by decide) rfl rfl rfl ?_
    refine r_iload_n (i := 2) d_M_worthOf_30 rfl rfl ?_
    refine r_iald (b := 7) (v := hp.2.1 7 x2.toNatClampNeg) d_M_worthOf_31 (by decide) rfl hi_25 rfl ?_
    refine r_icmp_eq (tgt := 55) d_M_worthOf_32 (by decide) (fun hc_32 => ?_) (fun hc_32 => ?_)
    · replace H := H.1 hc_32
      refine r_aload_n (i := 0) d_M_worthOf_55 rfl rfl ?_
      refine r_iload_n (i := 1) d_M_worthOf_56 rfl rfl ?_
      refine r_aload_n (i := 0) d_M_worthOf_57 rfl rfl ?_
      refine r_getR (b := 0) (r := 7) d_M_worthOf_58 fl_M_28 (by decide) rfl rfl rfl ?_
      refine r_iload_n (i := 2) d_M_worthOf_61 rfl rfl ?_
      refine r_iald (b := 7) (v := hp.2.1 7 x2.toNatClampNeg) d_M_worthOf_62 (by decide) rfl hi_25 rfl ?_
      refine r_aload_n (i := 0) d_M_worthOf_63 rfl rfl ?_
      refine r_getR (b := 0) (r := 8) d_M_worthOf_64 fl_M_31 (by decide) rfl rfl rfl ?_
      refine r_iload_n (i := 2) d_M_worthOf_67 rfl rfl ?_
      refine r_iald (b := 8) (v := hp.2.1 8 x2.toNatClampNeg) d_M_worthOf_68 (by decide) rfl hi_25 rfl ?_
      refine rc_VI (b := 0) (d' := 4) [.int x1, .int (hp.2.1 7 x2.toNatClampNeg), .int (hp.2.1 8 x2.toNatClampNeg)] [] d_M_worthOf_69 ml_M_194 rfl rfl (by decide) (by decide) rfl rfl (Nat.le_of_ble_eq_true rfl) H ?_
      intro r2 h1 H
      exact rI_ret d_M_worthOf_72 rfl H
    · replace H := H.2 hc_32
      refine r_aload_n (i := 0) d_M_worthOf_35 rfl rfl ?_
      refine r_iload_n (i := 1) d_M_worthOf_36 rfl rfl ?_
      refine r_aload_n (i := 0) d_M_worthOf_37 rfl rfl ?_
      refine r_getR (b := 0) (r := 6) d_M_worthOf_38 fl_M_25 (by decide) rfl rfl rfl ?_
      refine r_iload_n (i := 2) d_M_worthOf_41 rfl rfl ?_
      refine r_iald (b := 6) (v := hp.2.1 6 x2.toNatClampNeg) d_M_worthOf_42 (by decide) rfl hi_25 rfl ?_
      refine r_aload_n (i := 0) d_M_worthOf_43 rfl rfl ?_
      refine r_getR (b := 0) (r := 7) d_M_worthOf_44 fl_M_28 (by decide) rfl rfl rfl ?_
      refine r_iload_n (i := 2) d_M_worthOf_47 rfl rfl ?_
      refine r_iald (b := 7) (v := hp.2.1 7 x2.toNatClampNeg) d_M_worthOf_48 (by decide) rfl hi_25 rfl ?_
      refine rc_VI (b := 0) (d' := 4) [.int x1, .int (hp.2.1 6 x2.toNatClampNeg), .int (hp.2.1 7 x2.toNatClampNeg)] [] d_M_worthOf_49 ml_M_194 rfl rfl (by decide) (by decide) rfl rfl (Nat.le_of_ble_eq_true rfl) H ?_
      intro r4 h3 H
      refine r_if_eq (tgt := 73) d_M_worthOf_52 (by decide) (fun hc_52 => ?_) (fun hc_52 => ?_)
      · replace H := H.1 hc_52
        refine r_iinc (v := x2 + 1) (lz := [some (.ref 0), some (.int x1), some (.int (x2 + 1))]) d_M_worthOf_73 rfl (by rw [ic_1]) (by decide) rfl rfl ?_
        refine r_goto (tgt := 5) d_M_worthOf_76 (by decide) ?_
        exact H
      · replace H := H.2 hc_52
        refine r_aload_n (i := 0) d_M_worthOf_55 rfl rfl ?_
        refine r_iload_n (i := 1) d_M_worthOf_56 rfl rfl ?_
        refine r_aload_n (i := 0) d_M_worthOf_57 rfl rfl ?_
        refine r_getR (b := 0) (r := 7) d_M_worthOf_58 fl_M_28 (by decide) rfl rfl rfl ?_
        refine r_iload_n (i := 2) d_M_worthOf_61 rfl rfl ?_
        refine r_iald (b := 7) (v := h3.2.1 7 x2.toNatClampNeg) d_M_worthOf_62 (by decide) rfl hi_25 rfl ?_
        refine r_aload_n (i := 0) d_M_worthOf_63 rfl rfl ?_
        refine r_getR (b := 0) (r := 8) d_M_worthOf_64 fl_M_31 (by decide) rfl rfl rfl ?_
        refine r_iload_n (i := 2) d_M_worthOf_67 rfl rfl ?_
        refine r_iald (b := 8) (v := h3.2.1 8 x2.toNatClampNeg) d_M_worthOf_68 (by decide) rfl hi_25 rfl ?_
        refine rc_VI (b := 0) (d' := 4) [.int x1, .int (h3.2.1 7 x2.toNatClampNeg), .int (h3.2.1 8 x2.toNatClampNeg)] [] d_M_worthOf_69 ml_M_194 rfl rfl (by decide) (by decide) rfl rfl (Nat.le_of_ble_eq_true rfl) H ?_
        intro r6 h5 H
        exact rI_ret d_M_worthOf_72 rfl H
set_option maxHeartbeats 4000000 in
set_option maxRecDepth 20000 in
theorem w_M_lightAt {G : rx_Gh} {hp : rx_Hp} {F : Int32 → rx_Hp → Prop} (a1 : Int32) (a2 : Int32) (a3 : Int32) (a4 : Int32) (H : ((hp.1 0 28) = (-1) → p_M_bright (f_M_glasses a2 a3) hp ∧ (F (f_M_bright (f_M_glasses a2 a3) hp) hp)) ∧ (¬ (hp.1 0 28) = (-1) → p_M_farOf a1 a2 a3 a4 ∧ (p_M_bright (f_M_glasses a2 a3) (rx_pa (rx_pa (rx_pa (rx_pa (rx_pa hp 9 0 (f_M_glasses a2 a3)) 9 1 (f_M_farOf a1 a2 a3 a4 (rx_pa hp 9 0 (f_M_glasses a2 a3)))) 9 2 ((f_M_glasses a2 a3) - (f_M_glasses a2 a3) / 2 * 2)) 9 3 a2) 9 4 a3) ∧ (Ev wM G 5 q_M_worthOf [.ref 0, .int (hp.1 0 28)] (rx_pa (rx_pa (rx_pa (rx_pa (rx_pa (rx_pa hp 9 0 (f_M_glasses a2 a3)) 9 1 (f_M_farOf a1 a2 a3 a4 (rx_pa hp 9 0 (f_M_glasses a2 a3)))) 9 2 ((f_M_glasses a2 a3) - (f_M_glasses a2 a3) / 2 * 2)) 9 3 a2) 9 4 a3) 9 5 (f_M_bright (f_M_glasses a2 a3) (rx_pa (rx_pa (rx_pa (rx_pa (rx_pa hp 9 0 (f_M_glasses a2 a3)) 9 1 (f_M_farOf a1 a2 a3 a4 (rx_pa hp 9 0 (f_M_glasses a2 a3)))) 9 2 ((f_M_glasses a2 a3) - (f_M_glasses a2 a3) / 2 * 2)) 9 3 a2) 9 4 a3))) (rI fun r2 h1 => F r2 h1))))) : Ev wM G 6 q_M_lightAt [.ref 0, .int a1, .int a2, .int a3, .int a4] hp (rI F) := by
  refine ev_of rfl (Nat.le_of_ble_eq_true rfl) rfl ?_
  show Rn wM G 6 q_M_lightAt 0 [some (.ref 0), some (.int a1), some (.int a2), some (.int a3), some (.int a4), none] [] hp (rI F)
  refine r_iload_n (i := 2) d_M_lightAt_0 rfl rfl ?_
  refine r_iload_n (i := 3) d_M_lightAt_1 rfl rfl ?_
  refine rk_SI (d' := 2) [.int a2, .int a3] [] d_M_lightAt_2 ml_M_309 rfl rfl (by decide) (Nat.le_of_ble_eq_true rfl) (s_M_glasses a2 a3 ?_)
  refine r_istore (lz := [some (.ref 0), some (.int a1), some (.int a2), some (.int a3), some (.int a4), some (.int (f_M_glasses a2 a3))]) d_M_lightAt_5 (by decide) rfl rfl ?_
  refine r_aload_n (i := 0) d_M_lightAt_7 rfl rfl ?_
  refine r_getI (b := 0) (v := hp.1 0 28) d_M_lightAt_8 fl_M_55 (by decide) rfl rfl rfl ?_
  refine r_iconst d_M_lightAt_11 ic_m1 ?_
  refine r_icmp_ne (tgt := 22) d_M_lightAt_12 (by decide) (fun hc_12 => ?_) (fun hc_12 => ?_)
  · replace H := H.2 hc_12
    refine r_aload_n (i := 0) d_M_lightAt_22 rfl rfl ?_
    refine r_getR (b := 0) (r := 9) d_M_lightAt_23 fl_M_34 (by decide) rfl rfl rfl ?_
    refine r_iconst d_M_lightAt_26 ic_0 ?_
    refine r_iload d_M_lightAt_27 rfl ?_
    refine r_iast (b := 9) (i := 0) d_M_lightAt_29 (by decide) rfl (by unfold vp_in; decide) rfl ?_
    refine r_aload_n (i := 0) d_M_lightAt_30 rfl rfl ?_
    refine r_getR (b := 0) (r := 9) d_M_lightAt_31 fl_M_34 (by decide) rfl rfl rfl ?_
    refine r_iconst d_M_lightAt_34 ic_1 ?_
    refine r_aload_n (i := 0) d_M_lightAt_35 rfl rfl ?_
    refine r_iload_n (i := 1) d_M_lightAt_36 rfl rfl ?_
    refine r_iload_n (i := 2) d_M_lightAt_37 rfl rfl ?_
    refine r_iload_n (i := 3) d_M_lightAt_38 rfl rfl ?_
    refine r_iload d_M_lightAt_39 rfl ?_
    obtain ⟨hp_41_0, H⟩ := H
    refine rk_VI (b := 0) (d' := 3) [.int a1, .int a2, .int a3, .int a4] [.int 1, .ref 9] d_M_lightAt_41 ml_M_318 rfl rfl (by decide) (by decide) rfl rfl (Nat.le_of_ble_eq_true rfl) (s_M_farOf a1 a2 a3 a4 hp_41_0 ?_)
    refine r_iast (b := 9) (i := 1) d_M_lightAt_44 (by decide) rfl (by unfold vp_in; decide) rfl ?_
    refine r_aload_n (i := 0) d_M_lightAt_45 rfl rfl ?_
    refine r_getR (b := 0) (r := 9) d_M_lightAt_46 fl_M_34 (by decide) rfl rfl rfl ?_
    refine r_iconst d_M_lightAt_49 ic_2 ?_
    refine r_iload d_M_lightAt_50 rfl ?_
    refine r_iconst d_M_lightAt_52 ic_2 ?_
    refine r_irem d_M_lightAt_53 (by decide) ?_
    refine r_iast (b := 9) (i := 2) d_M_lightAt_54 (by decide) rfl (by unfold vp_in; decide) rfl ?_
    refine r_aload_n (i := 0) d_M_lightAt_55 rfl rfl ?_
    refine r_getR (b := 0) (r := 9) d_M_lightAt_56 fl_M_34 (by decide) rfl rfl rfl ?_
    refine r_iconst d_M_lightAt_59 ic_3 ?_
    refine r_iload_n (i := 2) d_M_lightAt_60 rfl rfl ?_
    refine r_iast (b := 9) (i := 3) d_M_lightAt_61 (by decide) rfl (by unfold vp_in; decide) rfl ?_
    refine r_aload_n (i := 0) d_M_lightAt_62 rfl rfl ?_
    refine r_getR (b := 0) (r := 9) d_M_lightAt_63 fl_M_34 (by decide) rfl rfl rfl ?_
    refine r_iconst d_M_lightAt_66 ic_4 ?_
    refine r_iload_n (i := 3) d_M_lightAt_67 rfl rfl ?_
    refine r_iast (b := 9) (i := 4) d_M_lightAt_68 (by decide) rfl (by unfold vp_in; decide) rfl ?_
    refine r_aload_n (i := 0) d_M_lightAt_69 rfl rfl ?_
    refine r_getR (b := 0) (r := 9) d_M_lightAt_70 fl_M_34 (by decide) rfl rfl rfl ?_
    refine r_iconst d_M_lightAt_73 ic_5 ?_
    refine r_aload_n (i := 0) d_M_lightAt_74 rfl rfl ?_
    refine r_iload d_M_lightAt_75 rfl ?_
    obtain ⟨hp_77_0, H⟩ := H
    refine rk_VI (b := 0) (d' := 1) [.int (f_M_glasses a2 a3)] [.int 5, .ref 9] d_M_lightAt_77 ml_M_312 rfl rfl (by decide) (by decide) rfl rfl (Nat.le_of_ble_eq_true rfl) (s_M_bright (f_M_glasses a2 a3) hp_77_0 ?_)
    refine r_iast (b := 9) (i := 5) d_M_lightAt_80 (by decide) rfl (by unfold vp_in; decide) rfl ?_
    refine r_aload_n (i := 0) d_M_lightAt_81 rfl rfl ?_
    refine r_aload_n (i := 0) d_M_lightAt_82 rfl rfl ?_
    refine r_getI (b := 0) (v := hp.1 0 28) d_M_lightAt_83 fl_M_55 (by decide) rfl rfl rfl ?_
    refine rc_VI (b := 0) (d' := 5) [.int (hp.1 0 28)] [] d_M_lightAt_86 ml_M_322 rfl rfl (by decide) (by decide) rfl rfl (Nat.le_of_ble_eq_true rfl) H ?_
    intro r2 h1 H
    exact rI_ret d_M_lightAt_89 rfl H
  · replace H := H.1 hc_12
    refine r_aload_n (i := 0) d_M_lightAt_15 rfl rfl ?_
    refine r_iload d_M_lightAt_16 rfl ?_
    obtain ⟨hp_18_0, H⟩ := H
    refine rk_VI (b := 0) (d' := 1) [.int (f_M_glasses a2 a3)] [] d_M_lightAt_18 ml_M_312 rfl rfl (by decide) (by decide) rfl rfl (Nat.le_of_ble_eq_true rfl) (s_M_bright (f_M_glasses a2 a3) hp_18_0 ?_)
    exact rI_ret d_M_lightAt_21 rfl H
set_option maxHeartbeats 4000000 in
set_option maxRecDepth 20000 in
theorem w_M_lightOf {G : rx_Gh} {hp : rx_Hp} {F : Int32 → rx_Hp → Prop} (a1 : Int32) (a2 : Int32) (a3 : Int32) (a4 : Int32) (H : ((f_M_isImage a1 a2 a3 hp) = 0 → F (-100000000) hp) ∧ (¬ (f_M_isImage a1 a2 a3 hp) = 0 → ((f_M_isBody a4 hp) = 0 → F (-100000000) hp) ∧ (¬ (f_M_isBody a4 hp) = 0 → Ev wM G 6 q_M_lightAt [.ref 0, .int a1, .int a2, .int a3, .int a4] hp (rI fun r2 h1 => F r2 h1)))) : Ev wM G 7 q_M_lightOf [.ref 0, .int a1, .int a2, .int a3, .int a4] hp (rI F) := by
  refine ev_of rfl (Nat.le_of_ble_eq_true rfl) rfl ?_
  show Rn wM G 7 q_M_lightOf 0 [some (.ref 0), some (.int a1), some (.int a2), some (.int a3), some (.int a4)] [] hp (rI F)
  refine r_aload_n (i := 0) d_M_lightOf_0 rfl rfl ?_
  refine r_iload_n (i := 1) d_M_lightOf_1 rfl rfl ?_
  refine r_iload_n (i := 2) d_M_lightOf_2 rfl rfl ?_
  refine r_iload_n (i := 3) d_M_lightOf_3 rfl rfl ?_
  refine rk_VI (b := 0) (d' := 3) [.int a1, .int a2, .int a3] [] d_M_lightOf_4 ml_M_305 rfl rfl (by decide) (by decide) rfl rfl (Nat.le_of_ble_eq_true rfl) (s_M_isImage a1 a2 a3 ?_)
  refine r_if_eq (tgt := 31) d_M_lightOf_7 (by decide) (fun hc_7 => ?_) (fun hc_7 => ?_)
  · replace H := H.1 hc_7
    refine r_ldcw d_M_lightOf_31 ck_M_308 ?_
    exact rI_ret d_M_lightOf_34 rfl H
  · replace H := H.2 hc_7
    refine r_aload_n (i := 0) d_M_lightOf_10 rfl rfl ?_
    refine r_iload d_M_lightOf_11 rfl ?_
    refine rk_VI (b := 0) (d' := 2) [.int a4] [] d_M_lightOf_13 ml_M_267 rfl rfl (by decide) (by decide) rfl rfl (Nat.le_of_ble_eq_true rfl) (s_M_isBody a4 ?_)
    refine r_if_eq (tgt := 31) d_M_lightOf_16 (by decide) (fun hc_16 => ?_) (fun hc_16 => ?_)
    · replace H := H.1 hc_16
      refine r_ldcw d_M_lightOf_31 ck_M_308 ?_
      exact rI_ret d_M_lightOf_34 rfl H
    · replace H := H.2 hc_16
      refine r_aload_n (i := 0) d_M_lightOf_19 rfl rfl ?_
      refine r_iload_n (i := 1) d_M_lightOf_20 rfl rfl ?_
      refine r_iload_n (i := 2) d_M_lightOf_21 rfl rfl ?_
      refine r_iload_n (i := 3) d_M_lightOf_22 rfl rfl ?_
      refine r_iload d_M_lightOf_23 rfl ?_
      refine rc_VI (b := 0) (d' := 6) [.int a1, .int a2, .int a3, .int a4] [] d_M_lightOf_25 ml_M_325 rfl rfl (by decide) (by decide) rfl rfl (Nat.le_of_ble_eq_true rfl) H ?_
      intro r2 h1 H
      refine r_goto (tgt := 34) d_M_lightOf_28 (by decide) ?_
      exact rI_ret d_M_lightOf_34 rfl H
set_option maxHeartbeats 4000000 in
set_option maxRecDepth 20000 in
theorem w_M_brighter {G : rx_Gh} {hp : rx_Hp} {F : Int32 → rx_Hp → Prop} (a1 : Int32) (a2 : Int32) (H : ((f_M_isBody a1 hp) = 0 → F (-1) hp) ∧ (¬ (f_M_isBody a1 hp) = 0 → Rn wM G 7 q_M_brighter 15 [some (.ref 0), some (.int a1), some (.int a2), some (.int 0), some (.int 0), none, none] [] hp (rI F))) : Ev wM G 7 q_M_brighter [.ref 0, .int a1, .int a2] hp (rI F) := by
  refine ev_of rfl (Nat.le_of_ble_eq_true rfl) rfl ?_
  show Rn wM G 7 q_M_brighter 0 [some (.ref 0), some (.int a1), some (.int a2), none, none, none, none] [] hp (rI F)
  refine r_aload_n (i := 0) d_M_brighter_0 rfl rfl ?_
  refine r_iload_n (i := 1) d_M_brighter_1 rfl rfl ?_
  refine rk_VI (b := 0) (d' := 2) [.int a1] [] d_M_brighter_2 ml_M_267 rfl rfl (by decide) (by decide) rfl rfl (Nat.le_of_ble_eq_true rfl) (s_M_isBody a1 ?_)
  refine r_if_ne (tgt := 10) d_M_brighter_5 (by decide) (fun hc_5 => ?_) (fun hc_5 => ?_)
  · replace H := H.2 hc_5
    refine r_iconst d_M_brighter_10 ic_0 ?_
    refine r_istore_n (i := 3) (lz := [some (.ref 0), some (.int a1), some (.int a2), some (.int 0), none, none, none]) d_M_brighter_11 rfl (by decide) rfl rfl ?_
    refine r_iconst d_M_brighter_12 ic_0 ?_
    refine r_istore (lz := [some (.ref 0), some (.int a1), some (.int a2), some (.int 0), some (.int 0), none, none]) d_M_brighter_13 (by decide) rfl rfl ?_
    exact H
  · replace H := H.1 hc_5
    refine r_iconst d_M_brighter_8 ic_m1 ?_
    exact rI_ret d_M_brighter_9 rfl H
set_option maxHeartbeats 4000000 in
set_option maxRecDepth 20000 in
theorem w_M_brighter_15 {G : rx_Gh} {hp : rx_Hp} {F : Int32 → rx_Hp → Prop} (x1 : Int32) (x2 : Int32) (x3 : Int32) (x4 : Int32) (H : ((hp.1 0 23) ≤ x4 → F x3 hp) ∧ (¬ (hp.1 0 23) ≤ x4 → Rn wM G 7 q_M_brighter 28 [some (.ref 0), some (.int x1), some (.int x2), some (.int x3), some (.int x4), some (.int (-10)), none] [] hp (rI F))) : Rn wM G 7 q_M_brighter 15 [some (.ref 0), some (.int x1), some (.int x2), some (.int x3), some (.int x4), none, none] [] hp (rI F) := by
  refine r_iload d_M_brighter_15 rfl ?_
  refine r_aload_n (i := 0) d_M_brighter_17 rfl rfl ?_
  refine r_getI (b := 0) (v := hp.1 0 23) d_M_brighter_18 fl_M_236 (by decide) rfl rfl rfl ?_
  refine r_icmp_ge (tgt := 98) d_M_brighter_21 (by decide) (fun hc_21 => ?_) (fun hc_21 => ?_)
  · replace H := H.1 hc_21
    refine r_iload_n (i := 3) d_M_brighter_98 rfl rfl ?_
    exact rI_ret d_M_brighter_99 rfl H
  · replace H := H.2 hc_21
    refine r_bipush d_M_brighter_24 bp_m10 ?_
    refine r_istore (lz := [some (.ref 0), some (.int x1), some (.int x2), some (.int x3), some (.int x4), some (.int (-10)), none]) d_M_brighter_26 (by decide) rfl rfl ?_
    exact H
set_option maxHeartbeats 4000000 in
set_option maxRecDepth 20000 in
theorem w_M_brighter_28 {G : rx_Gh} {hp : rx_Hp} {F : Int32 → rx_Hp → Prop} (x1 : Int32) (x2 : Int32) (x3 : Int32) (x4 : Int32) (x5 : Int32) (H : (10 < x5 → Rn wM G 7 q_M_brighter 15 [some (.ref 0), some (.int x1), some (.int x2), some (.int x3), some (.int (x4 + 1)), none, none] [] hp (rI F)) ∧ (¬ 10 < x5 → Rn wM G 7 q_M_brighter 39 [some (.ref 0), some (.int x1), some (.int x2), some (.int x3), some (.int x4), some (.int x5), some (.int (-10))] [] hp (rI F))) : Rn wM G 7 q_M_brighter 28 [some (.ref 0), some (.int x1), some (.int x2), some (.int x3), some (.int x4), some (.int x5), none] [] hp (rI F) := by
  refine r_iload d_M_brighter_28 rfl ?_
  refine r_bipush d_M_brighter_30 bp_10 ?_
  refine r_icmp_gt (tgt := 92) d_M_brighter_32 (by decide) (fun hc_32 => ?_) (fun hc_32 => ?_)
  · replace H := H.1 hc_32
    refine r_iinc (v := x4 + 1) (lz := [some (.ref 0), some (.int x1), some (.int x2), some (.int x3), some (.int (x4 + 1)), some (.int x5), none]) d_M_brighter_92 rfl (by rw [ic_1]) (by decide) rfl rfl ?_
    refine r_goto (tgt := 15) d_M_brighter_95 (by decide) ?_
    exact rx_fgt [false, false, false, false, false, true] H
  · replace H := H.2 hc_32
    refine r_bipush d_M_brighter_35 bp_m10 ?_
    refine r_istore (lz := [some (.ref 0), some (.int x1), some (.int x2), some (.int x3), some (.int x4), some (.int x5), some (.int (-10))]) d_M_brighter_37 (by decide) rfl rfl ?_
    exact H
set_option maxHeartbeats 4000000 in
set_option maxRecDepth 20000 in
theorem w_M_brighter_39 {G : rx_Gh} {hp : rx_Hp} {F : Int32 → rx_Hp → Prop} (x1 : Int32) (x2 : Int32) (x3 : Int32) (x4 : Int32) (x5 : Int32) (x6 : Int32) (H : (10 < x6 → Rn wM G 7 q_M_brighter 28 [some (.ref 0), some (.int x1), some (.int x2), some (.int x3), some (.int x4), some (.int (x5 + 1)), none] [] hp (rI F)) ∧ (¬ 10 < x6 → ((f_M_isThere x5 x6 hp) = 0 → Rn wM G 7 q_M_brighter 39 [some (.ref 0), some (.int x1), some (.int x2), some (.int (x3 + 0)), some (.int x4), some (.int x5), some (.int (x6 + 1))] [] hp (rI F)) ∧ (¬ (f_M_isThere x5 x6 hp) = 0 → Ev wM G 6 q_M_lightAt [.ref 0, .int x4, .int x5, .int x6, .int x1] hp (rI fun r2 h1 => Rn wM G 7 q_M_brighter 39 [some (.ref 0), some (.int x1), some (.int x2), some (.int (x3 + ((if r2 < x2 then 0 else 1) : Int32))), some (.int x4), some (.int x5), some (.int (x6 + 1))] [] h1 (rI F))))) : Rn wM G 7 q_M_brighter 39 [some (.ref 0), some (.int x1), some (.int x2), some (.int x3), some (.int x4), some (.int x5), some (.int x6)] [] hp (rI F) := by
  refine r_iload d_M_brighter_39 rfl ?_
  refine r_bipush d_M_brighter_41 bp_10 ?_
  refine r_icmp_gt (tgt := 86) d_M_brighter_43 (by decide) (fun hc_43 => ?_) (fun hc_43 => ?_)
  · replace H := H.1 hc_43
    refine r_iinc (v := x5 + 1) (lz := [some (.ref 0), some (.int x1), some (.int x2), some (.int x3), some (.int x4), some (.int (x5 + 1)), some (.int x6)]) d_M_brighter_86 rfl (by rw [ic_1]) (by decide) rfl rfl ?_
    refine r_goto (tgt := 28) d_M_brighter_89 (by decide) ?_
    exact rx_fgt [false, false, false, false, false, false, true] H
  · replace H := H.2 hc_43
    refine r_iload_n (i := 3) d_M_brighter_46 rfl rfl ?_
    refine r_aload_n (i := 0) d_M_brighter_47 rfl rfl ?_
    refine r_iload d_M_brighter_48 rfl ?_
    refine r_iload d_M_brighter_50 rfl ?_
    refine rk_VI (b := 0) (d' := 3) [.int x5, .int x6] [.int x3] d_M_brighter_52 ml_M_315 rfl rfl (by decide) (by decide) rfl rfl (Nat.le_of_ble_eq_true rfl) (s_M_isThere x5 x6 ?_)
    refine r_if_eq (tgt := 77) d_M_brighter_55 (by decide) (fun hc_55 => ?_) (fun hc_55 => ?_)
    · replace H := H.1 hc_55
      refine r_iconst d_M_brighter_77 ic_0 ?_
      refine r_iadd d_M_brighter_78 ?_
      refine r_istore_n (i := 3) (lz := [some (.ref 0), some (.int x1), some (.int x2), some (.int (x3 + 0)), some (.int x4), some (.int x5), some (.int x6)]) d_M_brighter_79 rfl (by decide) rfl rfl ?_
      refine r_iinc (v := x6 + 1) (lz := [some (.ref 0), some (.int x1), some (.int x2), some (.int (x3 + 0)), some (.int x4), some (.int x5), some (.int (x6 + 1))]) d_M_brighter_80 rfl (by rw [ic_1]) (by decide) rfl rfl ?_
      refine r_goto (tgt := 39) d_M_brighter_83 (by decide) ?_
      exact H
    · replace H := H.2 hc_55
      refine r_aload_n (i := 0) d_M_brighter_58 rfl rfl ?_
      refine r_iload d_M_brighter_59 rfl ?_
      refine r_iload d_M_brighter_61 rfl ?_
      refine r_iload d_M_brighter_63 rfl ?_
      refine r_iload_n (i := 1) d_M_brighter_65 rfl rfl ?_
      refine rc_VI (b := 0) (d' := 6) [.int x4, .int x5, .int x6, .int x1] [.int x3] d_M_brighter_66 ml_M_325 rfl rfl (by decide) (by decide) rfl rfl (Nat.le_of_ble_eq_true rfl) H ?_
      intro r2 h1 H
      have J70 : ∀ (v70_0 : Int32), v70_0 = ((if r2 < x2 then 0 else 1) : Int32) → Rn wM G 7 q_M_brighter 78 [some (.ref 0), some (.int x1), some (.int x2), some (.int x3), some (.int x4), some (.int x5), some (.int x6)] [.int v70_0, .int x3] h1 (rI F) := by
        rintro _ rfl
        refine r_iadd d_M_brighter_78 ?_
        refine r_istore_n (i := 3) (lz := [some (.ref 0), some (.int x1), some (.int x2), some (.int (x3 + ((if r2 < x2 then 0 else 1) : Int32))), some (.int x4), some (.int x5), some (.int x6)]) d_M_brighter_79 rfl (by decide) rfl rfl ?_
        refine r_iinc (v := x6 + 1) (lz := [some (.ref 0), some (.int x1), some (.int x2), some (.int (x3 + ((if r2 < x2 then 0 else 1) : Int32))), some (.int x4), some (.int x5), some (.int (x6 + 1))]) d_M_brighter_80 rfl (by rw [ic_1]) (by decide) rfl rfl ?_
        refine r_goto (tgt := 39) d_M_brighter_83 (by decide) ?_
        exact H
      refine r_iload_n (i := 2) d_M_brighter_69 rfl rfl ?_
      refine r_icmp_lt (tgt := 77) d_M_brighter_70 (by decide) (fun hc_70 => ?_) (fun hc_70 => ?_)
      · refine r_iconst d_M_brighter_77 ic_0 ?_
        exact J70 _ (((if_pos hc_70).trans rfl)).symm
      · refine r_iconst d_M_brighter_73 ic_1 ?_
        refine r_goto (tgt := 78) d_M_brighter_74 (by decide) ?_
        exact J70 _ (((if_neg hc_70).trans rfl)).symm

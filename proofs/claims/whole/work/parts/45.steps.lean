theorem d_M_move_0 : decode q_M_move.2.1 0 = .ok (.aload_n 0, 1) := by decide +kernel
theorem d_M_move_1 : decode q_M_move.2.1 1 = .ok (.iload_n 1, 1) := by decide +kernel
theorem d_M_move_2 : decode q_M_move.2.1 2 = .ok (.invokevirtual 267, 3) := by decide +kernel
theorem d_M_move_5 : decode q_M_move.2.1 5 = .ok (.ifCond .eq 32, 3) := by decide +kernel
theorem d_M_move_37 : decode q_M_move.2.1 37 = .ok (.iconst (-1), 1) := by decide +kernel
theorem d_M_move_38 : decode q_M_move.2.1 38 = .ok (.ireturn, 1) := by decide +kernel
theorem d_M_move_8 : decode q_M_move.2.1 8 = .ok (.aload_n 0, 1) := by decide +kernel
theorem d_M_move_9 : decode q_M_move.2.1 9 = .ok (.iload_n 2, 1) := by decide +kernel
theorem d_M_move_10 : decode q_M_move.2.1 10 = .ok (.iload_n 3, 1) := by decide +kernel
theorem d_M_move_11 : decode q_M_move.2.1 11 = .ok (.invokevirtual 274, 3) := by decide +kernel
theorem ml_M_274 : rx_CV "GlassRoomModel" 274 q_M_isInside 2 := ⟨⟨(rx_s6 154 rfl rfl), (rx_s6 156 rfl rfl), (rx_s0 48 rfl rfl)⟩, ⟨(rx_s1 13 rfl rfl), q_M_isInside_k, ⟨by decide, by decide, by decide +kernel⟩, by decide⟩⟩
theorem d_M_move_14 : decode q_M_move.2.1 14 = .ok (.ifCond .eq 23, 3) := by decide +kernel
theorem d_M_move_17 : decode q_M_move.2.1 17 = .ok (.aload_n 0, 1) := by decide +kernel
theorem d_M_move_18 : decode q_M_move.2.1 18 = .ok (.getfield 46, 3) := by decide +kernel
theorem d_M_move_21 : decode q_M_move.2.1 21 = .ok (.iload_n 1, 1) := by decide +kernel
theorem d_M_move_22 : decode q_M_move.2.1 22 = .ok (.iaload, 1) := by decide +kernel
theorem d_M_move_23 : decode q_M_move.2.1 23 = .ok (.iload_n 2, 1) := by decide +kernel
theorem d_M_move_24 : decode q_M_move.2.1 24 = .ok (.if_icmp .ne 15, 3) := by decide +kernel
theorem d_M_move_27 : decode q_M_move.2.1 27 = .ok (.aload_n 0, 1) := by decide +kernel
theorem d_M_move_28 : decode q_M_move.2.1 28 = .ok (.getfield 49, 3) := by decide +kernel
theorem d_M_move_31 : decode q_M_move.2.1 31 = .ok (.iload_n 1, 1) := by decide +kernel
theorem d_M_move_32 : decode q_M_move.2.1 32 = .ok (.iaload, 1) := by decide +kernel
theorem d_M_move_33 : decode q_M_move.2.1 33 = .ok (.iload_n 3, 1) := by decide +kernel
theorem d_M_move_34 : decode q_M_move.2.1 34 = .ok (.if_icmp .ne 5, 3) := by decide +kernel
theorem d_M_move_39 : decode q_M_move.2.1 39 = .ok (.aload_n 0, 1) := by decide +kernel
theorem d_M_move_40 : decode q_M_move.2.1 40 = .ok (.invokevirtual 277, 3) := by decide +kernel
theorem ml_M_277 : rx_CV "GlassRoomModel" 277 q_M_keepAct 0 := ⟨⟨(rx_s6 158 rfl rfl), (rx_s6 160 rfl rfl), (rx_s0 49 rfl rfl)⟩, ⟨(rx_s1 13 rfl rfl), q_M_keepAct_k, ⟨by decide, by decide, by decide +kernel⟩, by decide⟩⟩
theorem d_M_move_43 : decode q_M_move.2.1 43 = .ok (.aload_n 0, 1) := by decide +kernel
theorem d_M_move_44 : decode q_M_move.2.1 44 = .ok (.getfield 46, 3) := by decide +kernel
theorem d_M_move_47 : decode q_M_move.2.1 47 = .ok (.iload_n 1, 1) := by decide +kernel
theorem d_M_move_48 : decode q_M_move.2.1 48 = .ok (.iload_n 2, 1) := by decide +kernel
theorem d_M_move_49 : decode q_M_move.2.1 49 = .ok (.iastore, 1) := by decide +kernel
theorem d_M_move_50 : decode q_M_move.2.1 50 = .ok (.aload_n 0, 1) := by decide +kernel
theorem d_M_move_51 : decode q_M_move.2.1 51 = .ok (.getfield 49, 3) := by decide +kernel
theorem d_M_move_54 : decode q_M_move.2.1 54 = .ok (.iload_n 1, 1) := by decide +kernel
theorem d_M_move_55 : decode q_M_move.2.1 55 = .ok (.iload_n 3, 1) := by decide +kernel
theorem d_M_move_56 : decode q_M_move.2.1 56 = .ok (.iastore, 1) := by decide +kernel
theorem d_M_move_57 : decode q_M_move.2.1 57 = .ok (.aload_n 0, 1) := by decide +kernel
theorem d_M_move_58 : decode q_M_move.2.1 58 = .ok (.getfield 254, 3) := by decide +kernel
theorem d_M_move_61 : decode q_M_move.2.1 61 = .ok (.ireturn, 1) := by decide +kernel
theorem d_M_glass_0 : decode q_M_glass.2.1 0 = .ok (.aload_n 0, 1) := by decide +kernel
theorem d_M_glass_1 : decode q_M_glass.2.1 1 = .ok (.getfield 236, 3) := by decide +kernel
theorem d_M_glass_4 : decode q_M_glass.2.1 4 = .ok (.ifCond .eq 21, 3) := by decide +kernel
theorem d_M_glass_25 : decode q_M_glass.2.1 25 = .ok (.iconst (-1), 1) := by decide +kernel
theorem d_M_glass_26 : decode q_M_glass.2.1 26 = .ok (.ireturn, 1) := by decide +kernel
theorem d_M_glass_7 : decode q_M_glass.2.1 7 = .ok (.iload_n 1, 1) := by decide +kernel
theorem d_M_glass_8 : decode q_M_glass.2.1 8 = .ok (.iconst 0, 1) := by decide +kernel
theorem d_M_glass_9 : decode q_M_glass.2.1 9 = .ok (.bipush 15, 2) := by decide +kernel
theorem d_M_glass_11 : decode q_M_glass.2.1 11 = .ok (.invokestatic 198, 3) := by decide +kernel
theorem d_M_glass_14 : decode q_M_glass.2.1 14 = .ok (.ifCond .eq 11, 3) := by decide +kernel
theorem d_M_glass_17 : decode q_M_glass.2.1 17 = .ok (.iload_n 1, 1) := by decide +kernel
theorem d_M_glass_18 : decode q_M_glass.2.1 18 = .ok (.aload_n 0, 1) := by decide +kernel
theorem d_M_glass_19 : decode q_M_glass.2.1 19 = .ok (.getfield 245, 3) := by decide +kernel
theorem d_M_glass_22 : decode q_M_glass.2.1 22 = .ok (.if_icmp .ne 5, 3) := by decide +kernel
theorem d_M_glass_27 : decode q_M_glass.2.1 27 = .ok (.aload_n 0, 1) := by decide +kernel
theorem d_M_glass_28 : decode q_M_glass.2.1 28 = .ok (.invokevirtual 277, 3) := by decide +kernel
theorem d_M_glass_31 : decode q_M_glass.2.1 31 = .ok (.aload_n 0, 1) := by decide +kernel
theorem d_M_glass_32 : decode q_M_glass.2.1 32 = .ok (.iload_n 1, 1) := by decide +kernel
theorem d_M_glass_33 : decode q_M_glass.2.1 33 = .ok (.putfield 245, 3) := by decide +kernel
theorem d_M_glass_36 : decode q_M_glass.2.1 36 = .ok (.aload_n 0, 1) := by decide +kernel
theorem d_M_glass_37 : decode q_M_glass.2.1 37 = .ok (.getfield 254, 3) := by decide +kernel
theorem d_M_glass_40 : decode q_M_glass.2.1 40 = .ok (.ireturn, 1) := by decide +kernel
theorem d_M_steps_0 : decode q_M_steps.2.1 0 = .ok (.aload_n 0, 1) := by decide +kernel
theorem d_M_steps_1 : decode q_M_steps.2.1 1 = .ok (.getfield 236, 3) := by decide +kernel
theorem d_M_steps_4 : decode q_M_steps.2.1 4 = .ok (.ifCond .eq 13, 3) := by decide +kernel
theorem d_M_steps_17 : decode q_M_steps.2.1 17 = .ok (.iconst (-1), 1) := by decide +kernel
theorem d_M_steps_18 : decode q_M_steps.2.1 18 = .ok (.ireturn, 1) := by decide +kernel
theorem d_M_steps_7 : decode q_M_steps.2.1 7 = .ok (.iload_n 1, 1) := by decide +kernel
theorem d_M_steps_8 : decode q_M_steps.2.1 8 = .ok (.iconst 1, 1) := by decide +kernel
theorem d_M_steps_9 : decode q_M_steps.2.1 9 = .ok (.bipush 40, 2) := by decide +kernel
theorem d_M_steps_11 : decode q_M_steps.2.1 11 = .ok (.invokestatic 198, 3) := by decide +kernel
theorem d_M_steps_14 : decode q_M_steps.2.1 14 = .ok (.ifCond .ne 5, 3) := by decide +kernel
theorem d_M_steps_19 : decode q_M_steps.2.1 19 = .ok (.lload_n 2, 1) := by decide +kernel
theorem d_M_steps_20 : decode q_M_steps.2.1 20 = .ok (.lstore 4, 2) := by decide +kernel
theorem d_M_steps_22 : decode q_M_steps.2.1 22 = .ok (.iconst 0, 1) := by decide +kernel
theorem d_M_steps_23 : decode q_M_steps.2.1 23 = .ok (.istore 6, 2) := by decide +kernel
theorem d_M_steps_25 : decode q_M_steps.2.1 25 = .ok (.iload 6, 2) := by decide +kernel
theorem d_M_steps_27 : decode q_M_steps.2.1 27 = .ok (.iload_n 1, 1) := by decide +kernel
theorem d_M_steps_28 : decode q_M_steps.2.1 28 = .ok (.if_icmp .ge 146, 3) := by decide +kernel
theorem d_M_steps_31 : decode q_M_steps.2.1 31 = .ok (.aload_n 0, 1) := by decide +kernel
theorem d_M_steps_174 : decode q_M_steps.2.1 174 = .ok (.aload_n 0, 1) := by decide +kernel
theorem d_M_steps_175 : decode q_M_steps.2.1 175 = .ok (.getfield 254, 3) := by decide +kernel
theorem d_M_steps_178 : decode q_M_steps.2.1 178 = .ok (.ireturn, 1) := by decide +kernel
theorem d_M_steps_32 : decode q_M_steps.2.1 32 = .ok (.invokevirtual 277, 3) := by decide +kernel
theorem d_M_steps_35 : decode q_M_steps.2.1 35 = .ok (.iconst 0, 1) := by decide +kernel
theorem d_M_steps_36 : decode q_M_steps.2.1 36 = .ok (.istore 7, 2) := by decide +kernel
theorem d_M_steps_38 : decode q_M_steps.2.1 38 = .ok (.iload 7, 2) := by decide +kernel
theorem d_M_steps_40 : decode q_M_steps.2.1 40 = .ok (.aload_n 0, 1) := by decide +kernel
theorem d_M_steps_41 : decode q_M_steps.2.1 41 = .ok (.getfield 236, 3) := by decide +kernel
theorem d_M_steps_44 : decode q_M_steps.2.1 44 = .ok (.if_icmp .ge 124, 3) := by decide +kernel
theorem d_M_steps_47 : decode q_M_steps.2.1 47 = .ok (.lload 4, 2) := by decide +kernel
theorem d_M_steps_49 : decode q_M_steps.2.1 49 = .ok (.ldc2_w 280, 3) := by decide +kernel
theorem ck_M_280 : Cond.constantLong "GlassRoomModel" 280 (6364136223846793005) ∈ rx_gw := (rx_s6 174 rfl rfl)
theorem d_M_steps_52 : decode q_M_steps.2.1 52 = .ok (.lmul, 1) := by decide +kernel
theorem d_M_steps_53 : decode q_M_steps.2.1 53 = .ok (.ldc2_w 282, 3) := by decide +kernel
theorem ck_M_282 : Cond.constantLong "GlassRoomModel" 282 (1442695040888963407) ∈ rx_gw := (rx_s6 175 rfl rfl)
theorem d_M_steps_56 : decode q_M_steps.2.1 56 = .ok (.ladd, 1) := by decide +kernel
theorem d_M_steps_57 : decode q_M_steps.2.1 57 = .ok (.lstore 4, 2) := by decide +kernel
theorem d_M_steps_59 : decode q_M_steps.2.1 59 = .ok (.lload 4, 2) := by decide +kernel
theorem d_M_steps_61 : decode q_M_steps.2.1 61 = .ok (.bipush 33, 2) := by decide +kernel
theorem bp_33 : (Int8.ofInt (33)).toInt32 = (33 : Int32) := by decide
theorem d_M_steps_63 : decode q_M_steps.2.1 63 = .ok (.lushr, 1) := by decide +kernel
theorem d_M_steps_64 : decode q_M_steps.2.1 64 = .ok (.ldc2_w 284, 3) := by decide +kernel
theorem ck_M_284 : Cond.constantLong "GlassRoomModel" 284 (5) ∈ rx_gw := (rx_s6 176 rfl rfl)
theorem d_M_steps_67 : decode q_M_steps.2.1 67 = .ok (.lrem, 1) := by decide +kernel
theorem d_M_steps_68 : decode q_M_steps.2.1 68 = .ok (.l2i, 1) := by decide +kernel
theorem d_M_steps_69 : decode q_M_steps.2.1 69 = .ok (.istore 8, 2) := by decide +kernel
theorem d_M_steps_71 : decode q_M_steps.2.1 71 = .ok (.aload_n 0, 1) := by decide +kernel
theorem d_M_steps_72 : decode q_M_steps.2.1 72 = .ok (.getfield 46, 3) := by decide +kernel
theorem d_M_steps_75 : decode q_M_steps.2.1 75 = .ok (.iload 7, 2) := by decide +kernel
theorem d_M_steps_168 : decode q_M_steps.2.1 168 = .ok (.iinc 6 1, 3) := by decide +kernel
theorem d_M_steps_171 : decode q_M_steps.2.1 171 = .ok (.goto (-146), 3) := by decide +kernel
theorem d_M_steps_77 : decode q_M_steps.2.1 77 = .ok (.iaload, 1) := by decide +kernel
theorem d_M_steps_78 : decode q_M_steps.2.1 78 = .ok (.iload 8, 2) := by decide +kernel
theorem d_M_steps_80 : decode q_M_steps.2.1 80 = .ok (.iconst 1, 1) := by decide +kernel
theorem d_M_steps_81 : decode q_M_steps.2.1 81 = .ok (.if_icmp .ne 7, 3) := by decide +kernel
theorem d_M_steps_84 : decode q_M_steps.2.1 84 = .ok (.iconst 1, 1) := by decide +kernel
theorem d_M_steps_85 : decode q_M_steps.2.1 85 = .ok (.goto 14, 3) := by decide +kernel
theorem d_M_steps_88 : decode q_M_steps.2.1 88 = .ok (.iload 8, 2) := by decide +kernel
theorem d_M_steps_90 : decode q_M_steps.2.1 90 = .ok (.iconst 3, 1) := by decide +kernel
theorem d_M_steps_91 : decode q_M_steps.2.1 91 = .ok (.if_icmp .ne 7, 3) := by decide +kernel
theorem d_M_steps_94 : decode q_M_steps.2.1 94 = .ok (.iconst (-1), 1) := by decide +kernel
theorem d_M_steps_95 : decode q_M_steps.2.1 95 = .ok (.goto 4, 3) := by decide +kernel
theorem d_M_steps_98 : decode q_M_steps.2.1 98 = .ok (.iconst 0, 1) := by decide +kernel
theorem d_M_steps_99 : decode q_M_steps.2.1 99 = .ok (.iadd, 1) := by decide +kernel
theorem d_M_steps_100 : decode q_M_steps.2.1 100 = .ok (.istore 9, 2) := by decide +kernel
theorem d_M_steps_102 : decode q_M_steps.2.1 102 = .ok (.aload_n 0, 1) := by decide +kernel
theorem d_M_steps_103 : decode q_M_steps.2.1 103 = .ok (.getfield 49, 3) := by decide +kernel
theorem d_M_steps_106 : decode q_M_steps.2.1 106 = .ok (.iload 7, 2) := by decide +kernel
theorem d_M_steps_108 : decode q_M_steps.2.1 108 = .ok (.iaload, 1) := by decide +kernel
theorem d_M_steps_109 : decode q_M_steps.2.1 109 = .ok (.iload 8, 2) := by decide +kernel
theorem d_M_steps_111 : decode q_M_steps.2.1 111 = .ok (.iconst 2, 1) := by decide +kernel
theorem d_M_steps_112 : decode q_M_steps.2.1 112 = .ok (.if_icmp .ne 7, 3) := by decide +kernel
theorem d_M_steps_115 : decode q_M_steps.2.1 115 = .ok (.iconst 1, 1) := by decide +kernel
theorem d_M_steps_116 : decode q_M_steps.2.1 116 = .ok (.goto 14, 3) := by decide +kernel
theorem d_M_steps_119 : decode q_M_steps.2.1 119 = .ok (.iload 8, 2) := by decide +kernel
theorem d_M_steps_121 : decode q_M_steps.2.1 121 = .ok (.iconst 4, 1) := by decide +kernel
theorem d_M_steps_122 : decode q_M_steps.2.1 122 = .ok (.if_icmp .ne 7, 3) := by decide +kernel
theorem d_M_steps_125 : decode q_M_steps.2.1 125 = .ok (.iconst (-1), 1) := by decide +kernel
theorem d_M_steps_126 : decode q_M_steps.2.1 126 = .ok (.goto 4, 3) := by decide +kernel
theorem d_M_steps_129 : decode q_M_steps.2.1 129 = .ok (.iconst 0, 1) := by decide +kernel
theorem d_M_steps_130 : decode q_M_steps.2.1 130 = .ok (.iadd, 1) := by decide +kernel
theorem d_M_steps_131 : decode q_M_steps.2.1 131 = .ok (.istore 10, 2) := by decide +kernel
theorem d_M_steps_133 : decode q_M_steps.2.1 133 = .ok (.aload_n 0, 1) := by decide +kernel
theorem d_M_steps_134 : decode q_M_steps.2.1 134 = .ok (.iload 9, 2) := by decide +kernel
theorem d_M_steps_136 : decode q_M_steps.2.1 136 = .ok (.iload 10, 2) := by decide +kernel
theorem d_M_steps_138 : decode q_M_steps.2.1 138 = .ok (.invokevirtual 274, 3) := by decide +kernel
theorem d_M_steps_141 : decode q_M_steps.2.1 141 = .ok (.ifCond .eq 21, 3) := by decide +kernel
theorem d_M_steps_144 : decode q_M_steps.2.1 144 = .ok (.aload_n 0, 1) := by decide +kernel
theorem d_M_steps_145 : decode q_M_steps.2.1 145 = .ok (.getfield 46, 3) := by decide +kernel
theorem d_M_steps_148 : decode q_M_steps.2.1 148 = .ok (.iload 7, 2) := by decide +kernel
theorem d_M_steps_150 : decode q_M_steps.2.1 150 = .ok (.iload 9, 2) := by decide +kernel
theorem d_M_steps_162 : decode q_M_steps.2.1 162 = .ok (.iinc 7 1, 3) := by decide +kernel
theorem d_M_steps_165 : decode q_M_steps.2.1 165 = .ok (.goto (-127), 3) := by decide +kernel
theorem d_M_steps_152 : decode q_M_steps.2.1 152 = .ok (.iastore, 1) := by decide +kernel
theorem d_M_steps_153 : decode q_M_steps.2.1 153 = .ok (.aload_n 0, 1) := by decide +kernel
theorem d_M_steps_154 : decode q_M_steps.2.1 154 = .ok (.getfield 49, 3) := by decide +kernel
theorem d_M_steps_157 : decode q_M_steps.2.1 157 = .ok (.iload 7, 2) := by decide +kernel
theorem d_M_steps_159 : decode q_M_steps.2.1 159 = .ok (.iload 10, 2) := by decide +kernel
theorem d_M_steps_161 : decode q_M_steps.2.1 161 = .ok (.iastore, 1) := by decide +kernel
theorem d_GR_steps_0 : decode q_GR_steps.2.1 0 = .ok (.aload_n 0, 1) := by decide +kernel
theorem d_GR_steps_1 : decode q_GR_steps.2.1 1 = .ok (.getfield 19, 3) := by decide +kernel
theorem d_GR_steps_4 : decode q_GR_steps.2.1 4 = .ok (.invokevirtual 171, 3) := by decide +kernel
theorem d_GR_steps_7 : decode q_GR_steps.2.1 7 = .ok (.ifCond .eq 14, 3) := by decide +kernel
theorem d_GR_steps_21 : decode q_GR_steps.2.1 21 = .ok (.iconst (-1), 1) := by decide +kernel
theorem d_GR_steps_22 : decode q_GR_steps.2.1 22 = .ok (.ireturn, 1) := by decide +kernel
theorem d_GR_steps_10 : decode q_GR_steps.2.1 10 = .ok (.iload_n 1, 1) := by decide +kernel
theorem d_GR_steps_11 : decode q_GR_steps.2.1 11 = .ok (.iconst 1, 1) := by decide +kernel
theorem d_GR_steps_12 : decode q_GR_steps.2.1 12 = .ok (.if_icmp .lt 9, 3) := by decide +kernel
theorem d_GR_steps_15 : decode q_GR_steps.2.1 15 = .ok (.iload_n 1, 1) := by decide +kernel
theorem d_GR_steps_16 : decode q_GR_steps.2.1 16 = .ok (.bipush 40, 2) := by decide +kernel
theorem d_GR_steps_18 : decode q_GR_steps.2.1 18 = .ok (.if_icmp .le 5, 3) := by decide +kernel
theorem d_GR_steps_23 : decode q_GR_steps.2.1 23 = .ok (.lload_n 2, 1) := by decide +kernel
theorem d_GR_steps_24 : decode q_GR_steps.2.1 24 = .ok (.lstore 4, 2) := by decide +kernel
theorem d_GR_steps_26 : decode q_GR_steps.2.1 26 = .ok (.iconst 0, 1) := by decide +kernel
theorem d_GR_steps_27 : decode q_GR_steps.2.1 27 = .ok (.istore 6, 2) := by decide +kernel
theorem d_GR_steps_29 : decode q_GR_steps.2.1 29 = .ok (.iload 6, 2) := by decide +kernel
theorem d_GR_steps_31 : decode q_GR_steps.2.1 31 = .ok (.iload_n 1, 1) := by decide +kernel
theorem d_GR_steps_32 : decode q_GR_steps.2.1 32 = .ok (.if_icmp .ge 72, 3) := by decide +kernel
theorem d_GR_steps_35 : decode q_GR_steps.2.1 35 = .ok (.aload_n 0, 1) := by decide +kernel
theorem d_GR_steps_36 : decode q_GR_steps.2.1 36 = .ok (.getfield 56, 3) := by decide +kernel
theorem d_GR_steps_39 : decode q_GR_steps.2.1 39 = .ok (.aload_n 0, 1) := by decide +kernel
theorem d_GR_steps_40 : decode q_GR_steps.2.1 40 = .ok (.getfield 19, 3) := by decide +kernel
theorem d_GR_steps_104 : decode q_GR_steps.2.1 104 = .ok (.aload_n 0, 1) := by decide +kernel
theorem d_GR_steps_105 : decode q_GR_steps.2.1 105 = .ok (.getfield 56, 3) := by decide +kernel
theorem d_GR_steps_108 : decode q_GR_steps.2.1 108 = .ok (.getfield 139, 3) := by decide +kernel
theorem d_GR_steps_111 : decode q_GR_steps.2.1 111 = .ok (.ireturn, 1) := by decide +kernel
theorem d_GR_steps_43 : decode q_GR_steps.2.1 43 = .ok (.invokevirtual 168, 3) := by decide +kernel
theorem d_GR_steps_46 : decode q_GR_steps.2.1 46 = .ok (.iconst 0, 1) := by decide +kernel
theorem d_GR_steps_47 : decode q_GR_steps.2.1 47 = .ok (.istore 7, 2) := by decide +kernel
theorem d_GR_steps_49 : decode q_GR_steps.2.1 49 = .ok (.iload 7, 2) := by decide +kernel
theorem d_GR_steps_51 : decode q_GR_steps.2.1 51 = .ok (.aload_n 0, 1) := by decide +kernel
theorem d_GR_steps_52 : decode q_GR_steps.2.1 52 = .ok (.getfield 19, 3) := by decide +kernel
theorem d_GR_steps_55 : decode q_GR_steps.2.1 55 = .ok (.getfield 141, 3) := by decide +kernel
theorem d_GR_steps_58 : decode q_GR_steps.2.1 58 = .ok (.if_icmp .ge 40, 3) := by decide +kernel
theorem d_GR_steps_61 : decode q_GR_steps.2.1 61 = .ok (.lload 4, 2) := by decide +kernel
theorem d_GR_steps_63 : decode q_GR_steps.2.1 63 = .ok (.ldc2_w 178, 3) := by decide +kernel
theorem ck_GR_178 : Cond.constantLong "GlassRoom" 178 (6364136223846793005) ∈ rx_gw := (rx_s3 150 rfl rfl)
theorem d_GR_steps_66 : decode q_GR_steps.2.1 66 = .ok (.lmul, 1) := by decide +kernel
theorem d_GR_steps_67 : decode q_GR_steps.2.1 67 = .ok (.ldc2_w 180, 3) := by decide +kernel
theorem ck_GR_180 : Cond.constantLong "GlassRoom" 180 (1442695040888963407) ∈ rx_gw := (rx_s3 151 rfl rfl)
theorem d_GR_steps_70 : decode q_GR_steps.2.1 70 = .ok (.ladd, 1) := by decide +kernel
theorem d_GR_steps_71 : decode q_GR_steps.2.1 71 = .ok (.lstore 4, 2) := by decide +kernel
theorem d_GR_steps_73 : decode q_GR_steps.2.1 73 = .ok (.aload_n 0, 1) := by decide +kernel
theorem d_GR_steps_74 : decode q_GR_steps.2.1 74 = .ok (.getfield 19, 3) := by decide +kernel
theorem d_GR_steps_77 : decode q_GR_steps.2.1 77 = .ok (.iload 7, 2) := by decide +kernel
theorem d_GR_steps_79 : decode q_GR_steps.2.1 79 = .ok (.lload 4, 2) := by decide +kernel
theorem d_GR_steps_81 : decode q_GR_steps.2.1 81 = .ok (.bipush 33, 2) := by decide +kernel
theorem d_GR_steps_83 : decode q_GR_steps.2.1 83 = .ok (.lushr, 1) := by decide +kernel
theorem d_GR_steps_84 : decode q_GR_steps.2.1 84 = .ok (.ldc2_w 182, 3) := by decide +kernel
theorem ck_GR_182 : Cond.constantLong "GlassRoom" 182 (5) ∈ rx_gw := (rx_s3 152 rfl rfl)
theorem d_GR_steps_87 : decode q_GR_steps.2.1 87 = .ok (.lrem, 1) := by decide +kernel
theorem d_GR_steps_88 : decode q_GR_steps.2.1 88 = .ok (.l2i, 1) := by decide +kernel
theorem d_GR_steps_98 : decode q_GR_steps.2.1 98 = .ok (.iinc 6 1, 3) := by decide +kernel
theorem d_GR_steps_101 : decode q_GR_steps.2.1 101 = .ok (.goto (-72), 3) := by decide +kernel
theorem d_GR_steps_89 : decode q_GR_steps.2.1 89 = .ok (.invokevirtual 184, 3) := by decide +kernel
theorem ml_GR_184 : rx_CV "GlassRoom" 184 q_Ha_wander 2 := ⟨⟨(rx_s3 153 rfl rfl), (rx_s3 154 rfl rfl), (rx_s3 155 rfl rfl)⟩, ⟨(rx_s1 3 rfl rfl), q_Ha_wander_k, ⟨by decide, by decide, by decide +kernel⟩, by decide⟩⟩
theorem d_GR_steps_92 : decode q_GR_steps.2.1 92 = .ok (.iinc 7 1, 3) := by decide +kernel
theorem d_GR_steps_95 : decode q_GR_steps.2.1 95 = .ok (.goto (-46), 3) := by decide +kernel
set_option maxHeartbeats 4000000 in
set_option maxRecDepth 20000 in
theorem w_M_move {G : rx_Gh} {hp : rx_Hp} {F : Int32 → rx_Hp → Prop} (a1 : Int32) (a2 : Int32) (a3 : Int32) (H : ((f_M_isBody a1 hp) = 0 → F (-1) hp) ∧ (¬ (f_M_isBody a1 hp) = 0 → ((f_M_isInside a2 a3 hp) = 0 → F (-1) hp) ∧ (¬ (f_M_isInside a2 a3 hp) = 0 → vp_in a1 6 ∧ (((hp.2.1 13 a1.toNatClampNeg) = a2 → ((hp.2.1 14 a1.toNatClampNeg) = a3 → F (-1) hp) ∧ (¬ (hp.2.1 14 a1.toNatClampNeg) = a3 → Ev wM G 2 q_M_keepAct [.ref 0] hp (rV fun h1 => F (h1.1 0 30) (rx_pa (rx_pa h1 13 a1.toNatClampNeg a2) 14 a1.toNatClampNeg a3)))) ∧ (¬ (hp.2.1 13 a1.toNatClampNeg) = a2 → Ev wM G 2 q_M_keepAct [.ref 0] hp (rV fun h2 => F (h2.1 0 30) (rx_pa (rx_pa h2 13 a1.toNatClampNeg a2) 14 a1.toNatClampNeg a3))))))) : Ev wM G 3 q_M_move [.ref 0, .int a1, .int a2, .int a3] hp (rI F) := by
  refine ev_of rfl (Nat.le_of_ble_eq_true rfl) rfl ?_
  show Rn wM G 3 q_M_move 0 [some (.ref 0), some (.int a1), some (.int a2), some (.int a3)] [] hp (rI F)
  refine r_aload_n (i := 0) d_M_move_0 rfl rfl ?_
  refine r_iload_n (i := 1) d_M_move_1 rfl rfl ?_
  refine rk_VI (b := 0) (d' := 2) [.int a1] [] d_M_move_2 ml_M_267 rfl rfl (by decide) (by decide) rfl rfl (Nat.le_of_ble_eq_true rfl) (s_M_isBody a1 ?_)
  refine r_if_eq (tgt := 37) d_M_move_5 (by decide) (fun hc_5 => ?_) (fun hc_5 => ?_)
  · replace H := H.1 hc_5
    refine r_iconst d_M_move_37 ic_m1 ?_
    exact rI_ret d_M_move_38 rfl H
  · replace H := H.2 hc_5
    refine r_aload_n (i := 0) d_M_move_8 rfl rfl ?_
    refine r_iload_n (i := 2) d_M_move_9 rfl rfl ?_
    refine r_iload_n (i := 3) d_M_move_10 rfl rfl ?_
    refine rk_VI (b := 0) (d' := 2) [.int a2, .int a3] [] d_M_move_11 ml_M_274 rfl rfl (by decide) (by decide) rfl rfl (Nat.le_of_ble_eq_true rfl) (s_M_isInside a2 a3 ?_)
    refine r_if_eq (tgt := 37) d_M_move_14 (by decide) (fun hc_14 => ?_) (fun hc_14 => ?_)
    · replace H := H.1 hc_14
      refine r_iconst d_M_move_37 ic_m1 ?_
      exact rI_ret d_M_move_38 rfl H
    · replace H := H.2 hc_14
      refine r_aload_n (i := 0) d_M_move_17 rfl rfl ?_
      refine r_getR (b := 0) (r := 13) d_M_move_18 fl_M_46 (by decide) rfl rfl rfl ?_
      refine r_iload_n (i := 1) d_M_move_21 rfl rfl ?_
      obtain ⟨hi_22, H⟩ := H
      refine r_iald (b := 13) (v := hp.2.1 13 a1.toNatClampNeg) d_M_move_22 (by decide) rfl hi_22 rfl ?_
      refine r_iload_n (i := 2) d_M_move_23 rfl rfl ?_
      refine r_icmp_ne (tgt := 39) d_M_move_24 (by decide) (fun hc_24 => ?_) (fun hc_24 => ?_)
      · replace H := H.2 hc_24
        refine r_aload_n (i := 0) d_M_move_39 rfl rfl ?_
        refine rc_VV (b := 0) (d' := 2) [] [] d_M_move_40 ml_M_277 rfl rfl (by decide) (by decide) rfl rfl (Nat.le_of_ble_eq_true rfl) H ?_
        intro h2 H
        refine r_aload_n (i := 0) d_M_move_43 rfl rfl ?_
        refine r_getR (b := 0) (r := 13) d_M_move_44 fl_M_46 (by decide) rfl rfl rfl ?_
        refine r_iload_n (i := 1) d_M_move_47 rfl rfl ?_
        refine r_iload_n (i := 2) d_M_move_48 rfl rfl ?_
        refine r_iast (b := 13) (i := a1.toNatClampNeg) d_M_move_49 (by decide) rfl hi_22 rfl ?_
        refine r_aload_n (i := 0) d_M_move_50 rfl rfl ?_
        refine r_getR (b := 0) (r := 14) d_M_move_51 fl_M_49 (by decide) rfl rfl rfl ?_
        refine r_iload_n (i := 1) d_M_move_54 rfl rfl ?_
        refine r_iload_n (i := 3) d_M_move_55 rfl rfl ?_
        refine r_iast (b := 14) (i := a1.toNatClampNeg) d_M_move_56 (by decide) rfl hi_22 rfl ?_
        refine r_aload_n (i := 0) d_M_move_57 rfl rfl ?_
        refine r_getI (b := 0) (v := h2.1 0 30) d_M_move_58 fl_M_254 (by decide) rfl rfl rfl ?_
        exact rI_ret d_M_move_61 rfl H
      · replace H := H.1 hc_24
        refine r_aload_n (i := 0) d_M_move_27 rfl rfl ?_
        refine r_getR (b := 0) (r := 14) d_M_move_28 fl_M_49 (by decide) rfl rfl rfl ?_
        refine r_iload_n (i := 1) d_M_move_31 rfl rfl ?_
        refine r_iald (b := 14) (v := hp.2.1 14 a1.toNatClampNeg) d_M_move_32 (by decide) rfl hi_22 rfl ?_
        refine r_iload_n (i := 3) d_M_move_33 rfl rfl ?_
        refine r_icmp_ne (tgt := 39) d_M_move_34 (by decide) (fun hc_34 => ?_) (fun hc_34 => ?_)
        · replace H := H.2 hc_34
          refine r_aload_n (i := 0) d_M_move_39 rfl rfl ?_
          refine rc_VV (b := 0) (d' := 2) [] [] d_M_move_40 ml_M_277 rfl rfl (by decide) (by decide) rfl rfl (Nat.le_of_ble_eq_true rfl) H ?_
          intro h1 H
          refine r_aload_n (i := 0) d_M_move_43 rfl rfl ?_
          refine r_getR (b := 0) (r := 13) d_M_move_44 fl_M_46 (by decide) rfl rfl rfl ?_
          refine r_iload_n (i := 1) d_M_move_47 rfl rfl ?_
          refine r_iload_n (i := 2) d_M_move_48 rfl rfl ?_
          refine r_iast (b := 13) (i := a1.toNatClampNeg) d_M_move_49 (by decide) rfl hi_22 rfl ?_
          refine r_aload_n (i := 0) d_M_move_50 rfl rfl ?_
          refine r_getR (b := 0) (r := 14) d_M_move_51 fl_M_49 (by decide) rfl rfl rfl ?_
          refine r_iload_n (i := 1) d_M_move_54 rfl rfl ?_
          refine r_iload_n (i := 3) d_M_move_55 rfl rfl ?_
          refine r_iast (b := 14) (i := a1.toNatClampNeg) d_M_move_56 (by decide) rfl hi_22 rfl ?_
          refine r_aload_n (i := 0) d_M_move_57 rfl rfl ?_
          refine r_getI (b := 0) (v := h1.1 0 30) d_M_move_58 fl_M_254 (by decide) rfl rfl rfl ?_
          exact rI_ret d_M_move_61 rfl H
        · replace H := H.1 hc_34
          refine r_iconst d_M_move_37 ic_m1 ?_
          exact rI_ret d_M_move_38 rfl H
set_option maxHeartbeats 4000000 in
set_option maxRecDepth 20000 in
theorem w_M_glass {G : rx_Gh} {hp : rx_Hp} {F : Int32 → rx_Hp → Prop} (a1 : Int32) (H : ((hp.1 0 23) = 0 → F (-1) hp) ∧ (¬ (hp.1 0 23) = 0 → ((f_M_in a1 0 15) = 0 → F (-1) hp) ∧ (¬ (f_M_in a1 0 15) = 0 → (a1 = (hp.1 0 26) → F (-1) hp) ∧ (¬ a1 = (hp.1 0 26) → Ev wM G 2 q_M_keepAct [.ref 0] hp (rV fun h1 => F (h1.1 0 30) (rx_pf h1 0 26 a1)))))) : Ev wM G 3 q_M_glass [.ref 0, .int a1] hp (rI F) := by
  refine ev_of rfl (Nat.le_of_ble_eq_true rfl) rfl ?_
  show Rn wM G 3 q_M_glass 0 [some (.ref 0), some (.int a1)] [] hp (rI F)
  refine r_aload_n (i := 0) d_M_glass_0 rfl rfl ?_
  refine r_getI (b := 0) (v := hp.1 0 23) d_M_glass_1 fl_M_236 (by decide) rfl rfl rfl ?_
  refine r_if_eq (tgt := 25) d_M_glass_4 (by decide) (fun hc_4 => ?_) (fun hc_4 => ?_)
  · replace H := H.1 hc_4
    refine r_iconst d_M_glass_25 ic_m1 ?_
    exact rI_ret d_M_glass_26 rfl H
  · replace H := H.2 hc_4
    refine r_iload_n (i := 1) d_M_glass_7 rfl rfl ?_
    refine r_iconst d_M_glass_8 ic_0 ?_
    refine r_bipush d_M_glass_9 bp_15 ?_
    refine rk_SI (d' := 1) [.int a1, .int 0, .int 15] [] d_M_glass_11 ml_M_198 rfl rfl (by decide) (Nat.le_of_ble_eq_true rfl) (s_M_in a1 0 15 ?_)
    refine r_if_eq (tgt := 25) d_M_glass_14 (by decide) (fun hc_14 => ?_) (fun hc_14 => ?_)
    · replace H := H.1 hc_14
      refine r_iconst d_M_glass_25 ic_m1 ?_
      exact rI_ret d_M_glass_26 rfl H
    · replace H := H.2 hc_14
      refine r_iload_n (i := 1) d_M_glass_17 rfl rfl ?_
      refine r_aload_n (i := 0) d_M_glass_18 rfl rfl ?_
      refine r_getI (b := 0) (v := hp.1 0 26) d_M_glass_19 fl_M_245 (by decide) rfl rfl rfl ?_
      refine r_icmp_ne (tgt := 27) d_M_glass_22 (by decide) (fun hc_22 => ?_) (fun hc_22 => ?_)
      · replace H := H.2 hc_22
        refine r_aload_n (i := 0) d_M_glass_27 rfl rfl ?_
        refine rc_VV (b := 0) (d' := 2) [] [] d_M_glass_28 ml_M_277 rfl rfl (by decide) (by decide) rfl rfl (Nat.le_of_ble_eq_true rfl) H ?_
        intro h1 H
        refine r_aload_n (i := 0) d_M_glass_31 rfl rfl ?_
        refine r_iload_n (i := 1) d_M_glass_32 rfl rfl ?_
        refine r_putI (b := 0) d_M_glass_33 fp_M_245 ⟨rfl, rfl⟩ (by decide) rfl rfl ?_
        refine r_aload_n (i := 0) d_M_glass_36 rfl rfl ?_
        refine r_getI (b := 0) (v := h1.1 0 30) d_M_glass_37 fl_M_254 (by decide) rfl rfl rfl ?_
        exact rI_ret d_M_glass_40 rfl H
      · replace H := H.1 hc_22
        refine r_iconst d_M_glass_25 ic_m1 ?_
        exact rI_ret d_M_glass_26 rfl H
set_option maxHeartbeats 4000000 in
set_option maxRecDepth 20000 in
theorem w_M_steps {G : rx_Gh} {hp : rx_Hp} {F : Int32 → rx_Hp → Prop} (a1 : Int32) (a2 : Int64) (H : ((hp.1 0 23) = 0 → F (-1) hp) ∧ (¬ (hp.1 0 23) = 0 → ((f_M_in a1 1 40) = 0 → F (-1) hp) ∧ (¬ (f_M_in a1 1 40) = 0 → Rn wM G 3 q_M_steps 25 [some (.ref 0), some (.int a1), none, none, some (.long a2), none, some (.int 0), none, none, none, none] [] hp (rI F)))) : Ev wM G 3 q_M_steps [.ref 0, .int a1, .long a2] hp (rI F) := by
  refine ev_of rfl (Nat.le_of_ble_eq_true rfl) rfl ?_
  show Rn wM G 3 q_M_steps 0 [some (.ref 0), some (.int a1), some (.long a2), none, none, none, none, none, none, none, none] [] hp (rI F)
  refine r_aload_n (i := 0) d_M_steps_0 rfl rfl ?_
  refine r_getI (b := 0) (v := hp.1 0 23) d_M_steps_1 fl_M_236 (by decide) rfl rfl rfl ?_
  refine r_if_eq (tgt := 17) d_M_steps_4 (by decide) (fun hc_4 => ?_) (fun hc_4 => ?_)
  · replace H := H.1 hc_4
    refine r_iconst d_M_steps_17 ic_m1 ?_
    exact rI_ret d_M_steps_18 rfl H
  · replace H := H.2 hc_4
    refine r_iload_n (i := 1) d_M_steps_7 rfl rfl ?_
    refine r_iconst d_M_steps_8 ic_1 ?_
    refine r_bipush d_M_steps_9 bp_40 ?_
    refine rk_SI (d' := 1) [.int a1, .int 1, .int 40] [] d_M_steps_11 ml_M_198 rfl rfl (by decide) (Nat.le_of_ble_eq_true rfl) (s_M_in a1 1 40 ?_)
    refine r_if_ne (tgt := 19) d_M_steps_14 (by decide) (fun hc_14 => ?_) (fun hc_14 => ?_)
    · replace H := H.2 hc_14
      refine r_lload_n (i := 2) d_M_steps_19 rfl rfl ?_
      refine r_lstore (lz := [some (.ref 0), some (.int a1), some (.long a2), none, some (.long a2), none, none, none, none, none, none]) d_M_steps_20 (by decide) rfl rfl ?_
      refine r_iconst d_M_steps_22 ic_0 ?_
      refine r_istore (lz := [some (.ref 0), some (.int a1), some (.long a2), none, some (.long a2), none, some (.int 0), none, none, none, none]) d_M_steps_23 (by decide) rfl rfl ?_
      exact rx_fgt [false, false, true] H
    · replace H := H.1 hc_14
      refine r_iconst d_M_steps_17 ic_m1 ?_
      exact rI_ret d_M_steps_18 rfl H
set_option maxHeartbeats 4000000 in
set_option maxRecDepth 20000 in
theorem w_M_steps_25 {G : rx_Gh} {hp : rx_Hp} {F : Int32 → rx_Hp → Prop} (x1 : Int32) (x4 : Int64) (x6 : Int32) (H : (x1 ≤ x6 → F (hp.1 0 30) hp) ∧ (¬ x1 ≤ x6 → Ev wM G 2 q_M_keepAct [.ref 0] hp (rV fun h1 => Rn wM G 3 q_M_steps 38 [some (.ref 0), some (.int x1), none, none, some (.long x4), none, some (.int x6), some (.int 0), none, none, none] [] h1 (rI F)))) : Rn wM G 3 q_M_steps 25 [some (.ref 0), some (.int x1), none, none, some (.long x4), none, some (.int x6), none, none, none, none] [] hp (rI F) := by
  refine r_iload d_M_steps_25 rfl ?_
  refine r_iload_n (i := 1) d_M_steps_27 rfl rfl ?_
  refine r_icmp_ge (tgt := 174) d_M_steps_28 (by decide) (fun hc_28 => ?_) (fun hc_28 => ?_)
  · replace H := H.1 hc_28
    refine r_aload_n (i := 0) d_M_steps_174 rfl rfl ?_
    refine r_getI (b := 0) (v := hp.1 0 30) d_M_steps_175 fl_M_254 (by decide) rfl rfl rfl ?_
    exact rI_ret d_M_steps_178 rfl H
  · replace H := H.2 hc_28
    refine r_aload_n (i := 0) d_M_steps_31 rfl rfl ?_
    refine rc_VV (b := 0) (d' := 2) [] [] d_M_steps_32 ml_M_277 rfl rfl (by decide) (by decide) rfl rfl (Nat.le_of_ble_eq_true rfl) H ?_
    intro h1 H
    refine r_iconst d_M_steps_35 ic_0 ?_
    refine r_istore (lz := [some (.ref 0), some (.int x1), none, none, some (.long x4), none, some (.int x6), some (.int 0), none, none, none]) d_M_steps_36 (by decide) rfl rfl ?_
    exact H
set_option maxHeartbeats 4000000 in
set_option maxRecDepth 20000 in
theorem w_M_steps_38 {G : rx_Gh} {hp : rx_Hp} {F : Int32 → rx_Hp → Prop} (x1 : Int32) (x4 : Int64) (x6 : Int32) (x7 : Int32) (H : ((hp.1 0 23) ≤ x7 → Rn wM G 3 q_M_steps 25 [some (.ref 0), some (.int x1), none, none, some (.long x4), none, some (.int (x6 + 1)), none, none, none, none] [] hp (rI F)) ∧ (¬ (hp.1 0 23) ≤ x7 → vp_in x7 6 ∧ (((f_M_isInside ((hp.2.1 13 x7.toNatClampNeg) + ((if ((((((x4 * 6364136223846793005) + 1442695040888963407).toUInt64 >>> ((33 : Int32).toInt64.toUInt64 &&& Int64.toUInt64 63)).toInt64) - ((((x4 * 6364136223846793005) + 1442695040888963407).toUInt64 >>> ((33 : Int32).toInt64.toUInt64 &&& Int64.toUInt64 63)).toInt64) / 5 * 5).toInt32) = 1 then 1 else ((if ((((((x4 * 6364136223846793005) + 1442695040888963407).toUInt64 >>> ((33 : Int32).toInt64.toUInt64 &&& Int64.toUInt64 63)).toInt64) - ((((x4 * 6364136223846793005) + 1442695040888963407).toUInt64 >>> ((33 : Int32).toInt64.toUInt64 &&& Int64.toUInt64 63)).toInt64) / 5 * 5).toInt32) = 3 then (-1) else 0) : Int32)) : Int32)) ((hp.2.1 14 x7.toNatClampNeg) + ((if ((((((x4 * 6364136223846793005) + 1442695040888963407).toUInt64 >>> ((33 : Int32).toInt64.toUInt64 &&& Int64.toUInt64 63)).toInt64) - ((((x4 * 6364136223846793005) + 1442695040888963407).toUInt64 >>> ((33 : Int32).toInt64.toUInt64 &&& Int64.toUInt64 63)).toInt64) / 5 * 5).toInt32) = 2 then 1 else ((if ((((((x4 * 6364136223846793005) + 1442695040888963407).toUInt64 >>> ((33 : Int32).toInt64.toUInt64 &&& Int64.toUInt64 63)).toInt64) - ((((x4 * 6364136223846793005) + 1442695040888963407).toUInt64 >>> ((33 : Int32).toInt64.toUInt64 &&& Int64.toUInt64 63)).toInt64) / 5 * 5).toInt32) = 4 then (-1) else 0) : Int32)) : Int32)) hp) = 0 → Rn wM G 3 q_M_steps 38 [some (.ref 0), some (.int x1), none, none, some (.long ((x4 * 6364136223846793005) + 1442695040888963407)), none, some (.int x6), some (.int (x7 + 1)), none, none, none] [] hp (rI F)) ∧ (¬ (f_M_isInside ((hp.2.1 13 x7.toNatClampNeg) + ((if ((((((x4 * 6364136223846793005) + 1442695040888963407).toUInt64 >>> ((33 : Int32).toInt64.toUInt64 &&& Int64.toUInt64 63)).toInt64) - ((((x4 * 6364136223846793005) + 1442695040888963407).toUInt64 >>> ((33 : Int32).toInt64.toUInt64 &&& Int64.toUInt64 63)).toInt64) / 5 * 5).toInt32) = 1 then 1 else ((if ((((((x4 * 6364136223846793005) + 1442695040888963407).toUInt64 >>> ((33 : Int32).toInt64.toUInt64 &&& Int64.toUInt64 63)).toInt64) - ((((x4 * 6364136223846793005) + 1442695040888963407).toUInt64 >>> ((33 : Int32).toInt64.toUInt64 &&& Int64.toUInt64 63)).toInt64) / 5 * 5).toInt32) = 3 then (-1) else 0) : Int32)) : Int32)) ((hp.2.1 14 x7.toNatClampNeg) + ((if ((((((x4 * 6364136223846793005) + 1442695040888963407).toUInt64 >>> ((33 : Int32).toInt64.toUInt64 &&& Int64.toUInt64 63)).toInt64) - ((((x4 * 6364136223846793005) + 1442695040888963407).toUInt64 >>> ((33 : Int32).toInt64.toUInt64 &&& Int64.toUInt64 63)).toInt64) / 5 * 5).toInt32) = 2 then 1 else ((if ((((((x4 * 6364136223846793005) + 1442695040888963407).toUInt64 >>> ((33 : Int32).toInt64.toUInt64 &&& Int64.toUInt64 63)).toInt64) - ((((x4 * 6364136223846793005) + 1442695040888963407).toUInt64 >>> ((33 : Int32).toInt64.toUInt64 &&& Int64.toUInt64 63)).toInt64) / 5 * 5).toInt32) = 4 then (-1) else 0) : Int32)) : Int32)) hp) = 0 → Rn wM G 3 q_M_steps 38 [some (.ref 0), some (.int x1), none, none, some (.long ((x4 * 6364136223846793005) + 1442695040888963407)), none, some (.int x6), some (.int (x7 + 1)), none, none, none] [] (rx_pa (rx_pa hp 13 x7.toNatClampNeg ((hp.2.1 13 x7.toNatClampNeg) + ((if ((((((x4 * 6364136223846793005) + 1442695040888963407).toUInt64 >>> ((33 : Int32).toInt64.toUInt64 &&& Int64.toUInt64 63)).toInt64) - ((((x4 * 6364136223846793005) + 1442695040888963407).toUInt64 >>> ((33 : Int32).toInt64.toUInt64 &&& Int64.toUInt64 63)).toInt64) / 5 * 5).toInt32) = 1 then 1 else ((if ((((((x4 * 6364136223846793005) + 1442695040888963407).toUInt64 >>> ((33 : Int32).toInt64.toUInt64 &&& Int64.toUInt64 63)).toInt64) - ((((x4 * 6364136223846793005) + 1442695040888963407).toUInt64 >>> ((33 : Int32).toInt64.toUInt64 &&& Int64.toUInt64 63)).toInt64) / 5 * 5).toInt32) = 3 then (-1) else 0) : Int32)) : Int32))) 14 x7.toNatClampNeg ((hp.2.1 14 x7.toNatClampNeg) + ((if ((((((x4 * 6364136223846793005) + 1442695040888963407).toUInt64 >>> ((33 : Int32).toInt64.toUInt64 &&& Int64.toUInt64 63)).toInt64) - ((((x4 * 6364136223846793005) + 1442695040888963407).toUInt64 >>> ((33 : Int32).toInt64.toUInt64 &&& Int64.toUInt64 63)).toInt64) / 5 * 5).toInt32) = 2 then 1 else ((if ((((((x4 * 6364136223846793005) + 1442695040888963407).toUInt64 >>> ((33 : Int32).toInt64.toUInt64 &&& Int64.toUInt64 63)).toInt64) - ((((x4 * 6364136223846793005) + 1442695040888963407).toUInt64 >>> ((33 : Int32).toInt64.toUInt64 &&& Int64.toUInt64 63)).toInt64) / 5 * 5).toInt32) = 4 then (-1) else 0) : Int32)) : Int32))) (rI F))))) : Rn wM G 3 q_M_steps 38 [some (.ref 0), some (.int x1), none, none, some (.long x4), none, some (.int x6), some (.int x7), none, none, none] [] hp (rI F) := by
  refine r_iload d_M_steps_38 rfl ?_
  refine r_aload_n (i := 0) d_M_steps_40 rfl rfl ?_
  refine r_getI (b := 0) (v := hp.1 0 23) d_M_steps_41 fl_M_236 (by decide) rfl rfl rfl ?_
  refine r_icmp_ge (tgt := 168) d_M_steps_44 (by decide) (fun hc_44 => ?_) (fun hc_44 => ?_)
  · replace H := H.1 hc_44
    refine r_iinc (v := x6 + 1) (lz := [some (.ref 0), some (.int x1), none, none, some (.long x4), none, some (.int (x6 + 1)), some (.int x7), none, none, none]) d_M_steps_168 rfl (by rw [ic_1]) (by decide) rfl rfl ?_
    refine r_goto (tgt := 25) d_M_steps_171 (by decide) ?_
    exact rx_fgt [false, false, false, false, false, false, false, true] H
  · replace H := H.2 hc_44
    refine r_lload d_M_steps_47 rfl ?_
    refine r_ldc2 d_M_steps_49 ck_M_280 ?_
    refine r_lmul d_M_steps_52 ?_
    refine r_ldc2 d_M_steps_53 ck_M_282 ?_
    refine r_ladd d_M_steps_56 ?_
    refine r_lstore (lz := [some (.ref 0), some (.int x1), none, none, some (.long ((x4 * 6364136223846793005) + 1442695040888963407)), none, some (.int x6), some (.int x7), none, none, none]) d_M_steps_57 (by decide) rfl rfl ?_
    refine r_lload d_M_steps_59 rfl ?_
    refine r_bipush d_M_steps_61 bp_33 ?_
    refine r_lushr d_M_steps_63 ?_
    refine r_ldc2 d_M_steps_64 ck_M_284 ?_
    refine r_lrem d_M_steps_67 (by decide) ?_
    refine r_l2i d_M_steps_68 ?_
    refine r_istore (lz := [some (.ref 0), some (.int x1), none, none, some (.long ((x4 * 6364136223846793005) + 1442695040888963407)), none, some (.int x6), some (.int x7), some (.int ((((((x4 * 6364136223846793005) + 1442695040888963407).toUInt64 >>> ((33 : Int32).toInt64.toUInt64 &&& Int64.toUInt64 63)).toInt64) - ((((x4 * 6364136223846793005) + 1442695040888963407).toUInt64 >>> ((33 : Int32).toInt64.toUInt64 &&& Int64.toUInt64 63)).toInt64) / 5 * 5).toInt32)), none, none]) d_M_steps_69 (by decide) rfl rfl ?_
    refine r_aload_n (i := 0) d_M_steps_71 rfl rfl ?_
    refine r_getR (b := 0) (r := 13) d_M_steps_72 fl_M_46 (by decide) rfl rfl rfl ?_
    refine r_iload d_M_steps_75 rfl ?_
    obtain ⟨hi_77, H⟩ := H
    refine r_iald (b := 13) (v := hp.2.1 13 x7.toNatClampNeg) d_M_steps_77 (by decide) rfl hi_77 rfl ?_
    have J81 : ∀ (v81_0 : Int32), v81_0 = ((if ((((((x4 * 6364136223846793005) + 1442695040888963407).toUInt64 >>> ((33 : Int32).toInt64.toUInt64 &&& Int64.toUInt64 63)).toInt64) - ((((x4 * 6364136223846793005) + 1442695040888963407).toUInt64 >>> ((33 : Int32).toInt64.toUInt64 &&& Int64.toUInt64 63)).toInt64) / 5 * 5).toInt32) = 1 then 1 else ((if ((((((x4 * 6364136223846793005) + 1442695040888963407).toUInt64 >>> ((33 : Int32).toInt64.toUInt64 &&& Int64.toUInt64 63)).toInt64) - ((((x4 * 6364136223846793005) + 1442695040888963407).toUInt64 >>> ((33 : Int32).toInt64.toUInt64 &&& Int64.toUInt64 63)).toInt64) / 5 * 5).toInt32) = 3 then (-1) else 0) : Int32)) : Int32) → Rn wM G 3 q_M_steps 99 [some (.ref 0), some (.int x1), none, none, some (.long ((x4 * 6364136223846793005) + 1442695040888963407)), none, some (.int x6), some (.int x7), some (.int ((((((x4 * 6364136223846793005) + 1442695040888963407).toUInt64 >>> ((33 : Int32).toInt64.toUInt64 &&& Int64.toUInt64 63)).toInt64) - ((((x4 * 6364136223846793005) + 1442695040888963407).toUInt64 >>> ((33 : Int32).toInt64.toUInt64 &&& Int64.toUInt64 63)).toInt64) / 5 * 5).toInt32)), none, none] [.int v81_0, .int (hp.2.1 13 x7.toNatClampNeg)] hp (rI F) := by
      rintro _ rfl
      have J112 : ∀ (v112_0 : Int32), v112_0 = ((if ((((((x4 * 6364136223846793005) + 1442695040888963407).toUInt64 >>> ((33 : Int32).toInt64.toUInt64 &&& Int64.toUInt64 63)).toInt64) - ((((x4 * 6364136223846793005) + 1442695040888963407).toUInt64 >>> ((33 : Int32).toInt64.toUInt64 &&& Int64.toUInt64 63)).toInt64) / 5 * 5).toInt32) = 2 then 1 else ((if ((((((x4 * 6364136223846793005) + 1442695040888963407).toUInt64 >>> ((33 : Int32).toInt64.toUInt64 &&& Int64.toUInt64 63)).toInt64) - ((((x4 * 6364136223846793005) + 1442695040888963407).toUInt64 >>> ((33 : Int32).toInt64.toUInt64 &&& Int64.toUInt64 63)).toInt64) / 5 * 5).toInt32) = 4 then (-1) else 0) : Int32)) : Int32) → Rn wM G 3 q_M_steps 130 [some (.ref 0), some (.int x1), none, none, some (.long ((x4 * 6364136223846793005) + 1442695040888963407)), none, some (.int x6), some (.int x7), some (.int ((((((x4 * 6364136223846793005) + 1442695040888963407).toUInt64 >>> ((33 : Int32).toInt64.toUInt64 &&& Int64.toUInt64 63)).toInt64) - ((((x4 * 6364136223846793005) + 1442695040888963407).toUInt64 >>> ((33 : Int32).toInt64.toUInt64 &&& Int64.toUInt64 63)).toInt64) / 5 * 5).toInt32)), some (.int ((hp.2.1 13 x7.toNatClampNeg) + ((if ((((((x4 * 6364136223846793005) + 1442695040888963407).toUInt64 >>> ((33 : Int32).toInt64.toUInt64 &&& Int64.toUInt64 63)).toInt64) - ((((x4 * 6364136223846793005) + 1442695040888963407).toUInt64 >>> ((33 : Int32).toInt64.toUInt64 &&& Int64.toUInt64 63)).toInt64) / 5 * 5).toInt32) = 1 then 1 else ((if ((((((x4 * 6364136223846793005) + 1442695040888963407).toUInt64 >>> ((33 : Int32).toInt64.toUInt64 &&& Int64.toUInt64 63)).toInt64) - ((((x4 * 6364136223846793005) + 1442695040888963407).toUInt64 >>> ((33 : Int32).toInt64.toUInt64 &&& Int64.toUInt64 63)).toInt64) / 5 * 5).toInt32) = 3 then (-1) else 0) : Int32)) : Int32))), none] [.int v112_0, .int (hp.2.1 14 x7.toNatClampNeg)] hp (rI F) := by
        rintro _ rfl
        refine r_iadd d_M_steps_130 ?_
        refine r_istore (lz := [some (.ref 0), some (.int x1), none, none, some (.long ((x4 * 6364136223846793005) + 1442695040888963407)), none, some (.int x6), some (.int x7), some (.int ((((((x4 * 6364136223846793005) + 1442695040888963407).toUInt64 >>> ((33 : Int32).toInt64.toUInt64 &&& Int64.toUInt64 63)).toInt64) - ((((x4 * 6364136223846793005) + 1442695040888963407).toUInt64 >>> ((33 : Int32).toInt64.toUInt64 &&& Int64.toUInt64 63)).toInt64) / 5 * 5).toInt32)), some (.int ((hp.2.1 13 x7.toNatClampNeg) + ((if ((((((x4 * 6364136223846793005) + 1442695040888963407).toUInt64 >>> ((33 : Int32).toInt64.toUInt64 &&& Int64.toUInt64 63)).toInt64) - ((((x4 * 6364136223846793005) + 1442695040888963407).toUInt64 >>> ((33 : Int32).toInt64.toUInt64 &&& Int64.toUInt64 63)).toInt64) / 5 * 5).toInt32) = 1 then 1 else ((if ((((((x4 * 6364136223846793005) + 1442695040888963407).toUInt64 >>> ((33 : Int32).toInt64.toUInt64 &&& Int64.toUInt64 63)).toInt64) - ((((x4 * 6364136223846793005) + 1442695040888963407).toUInt64 >>> ((33 : Int32).toInt64.toUInt64 &&& Int64.toUInt64 63)).toInt64) / 5 * 5).toInt32) = 3 then (-1) else 0) : Int32)) : Int32))), some (.int ((hp.2.1 14 x7.toNatClampNeg) + ((if ((((((x4 * 6364136223846793005) + 1442695040888963407).toUInt64 >>> ((33 : Int32).toInt64.toUInt64 &&& Int64.toUInt64 63)).toInt64) - ((((x4 * 6364136223846793005) + 1442695040888963407).toUInt64 >>> ((33 : Int32).toInt64.toUInt64 &&& Int64.toUInt64 63)).toInt64) / 5 * 5).toInt32) = 2 then 1 else ((if ((((((x4 * 6364136223846793005) + 1442695040888963407).toUInt64 >>> ((33 : Int32).toInt64.toUInt64 &&& Int64.toUInt64 63)).toInt64) - ((((x4 * 6364136223846793005) + 1442695040888963407).toUInt64 >>> ((33 : Int32).toInt64.toUInt64 &&& Int64.toUInt64 63)).toInt64) / 5 * 5).toInt32) = 4 then (-1) else 0) : Int32)) : Int32)))]) d_M_steps_131 (by decide) rfl rfl ?_
        refine r_aload_n (i := 0) d_M_steps_133 rfl rfl ?_
        refine r_iload d_M_steps_134 rfl ?_
        refine r_iload d_M_steps_136 rfl ?_
        refine rk_VI (b := 0) (d' := 2) [.int ((hp.2.1 13 x7.toNatClampNeg) + ((if ((((((x4 * 6364136223846793005) + 1442695040888963407).toUInt64 >>> ((33 : Int32).toInt64.toUInt64 &&& Int64.toUInt64 63)).toInt64) - ((((x4 * 6364136223846793005) + 1442695040888963407).toUInt64 >>> ((33 : Int32).toInt64.toUInt64 &&& Int64.toUInt64 63)).toInt64) / 5 * 5).toInt32) = 1 then 1 else ((if ((((((x4 * 6364136223846793005) + 1442695040888963407).toUInt64 >>> ((33 : Int32).toInt64.toUInt64 &&& Int64.toUInt64 63)).toInt64) - ((((x4 * 6364136223846793005) + 1442695040888963407).toUInt64 >>> ((33 : Int32).toInt64.toUInt64 &&& Int64.toUInt64 63)).toInt64) / 5 * 5).toInt32) = 3 then (-1) else 0) : Int32)) : Int32)), .int ((hp.2.1 14 x7.toNatClampNeg) + ((if ((((((x4 * 6364136223846793005) + 1442695040888963407).toUInt64 >>> ((33 : Int32).toInt64.toUInt64 &&& Int64.toUInt64 63)).toInt64) - ((((x4 * 6364136223846793005) + 1442695040888963407).toUInt64 >>> ((33 : Int32).toInt64.toUInt64 &&& Int64.toUInt64 63)).toInt64) / 5 * 5).toInt32) = 2 then 1 else ((if ((((((x4 * 6364136223846793005) + 1442695040888963407).toUInt64 >>> ((33 : Int32).toInt64.toUInt64 &&& Int64.toUInt64 63)).toInt64) - ((((x4 * 6364136223846793005) + 1442695040888963407).toUInt64 >>> ((33 : Int32).toInt64.toUInt64 &&& Int64.toUInt64 63)).toInt64) / 5 * 5).toInt32) = 4 then (-1) else 0) : Int32)) : Int32))] [] d_M_steps_138 ml_M_274 rfl rfl (by decide) (by decide) rfl rfl (Nat.le_of_ble_eq_true rfl) (s_M_isInside ((hp.2.1 13 x7.toNatClampNeg) + ((if ((((((x4 * 6364136223846793005) + 1442695040888963407).toUInt64 >>> ((33 : Int32).toInt64.toUInt64 &&& Int64.toUInt64 63)).toInt64) - ((((x4 * 6364136223846793005) + 1442695040888963407).toUInt64 >>> ((33 : Int32).toInt64.toUInt64 &&& Int64.toUInt64 63)).toInt64) / 5 * 5).toInt32) = 1 then 1 else ((if ((((((x4 * 6364136223846793005) + 1442695040888963407).toUInt64 >>> ((33 : Int32).toInt64.toUInt64 &&& Int64.toUInt64 63)).toInt64) - ((((x4 * 6364136223846793005) + 1442695040888963407).toUInt64 >>> ((33 : Int32).toInt64.toUInt64 &&& Int64.toUInt64 63)).toInt64) / 5 * 5).toInt32) = 3 then (-1) else 0) : Int32)) : Int32)) ((hp.2.1 14 x7.toNatClampNeg) + ((if ((((((x4 * 6364136223846793005) + 1442695040888963407).toUInt64 >>> ((33 : Int32).toInt64.toUInt64 &&& Int64.toUInt64 63)).toInt64) - ((((x4 * 6364136223846793005) + 1442695040888963407).toUInt64 >>> ((33 : Int32).toInt64.toUInt64 &&& Int64.toUInt64 63)).toInt64) / 5 * 5).toInt32) = 2 then 1 else ((if ((((((x4 * 6364136223846793005) + 1442695040888963407).toUInt64 >>> ((33 : Int32).toInt64.toUInt64 &&& Int64.toUInt64 63)).toInt64) - ((((x4 * 6364136223846793005) + 1442695040888963407).toUInt64 >>> ((33 : Int32).toInt64.toUInt64 &&& Int64.toUInt64 63)).toInt64) / 5 * 5).toInt32) = 4 then (-1) else 0) : Int32)) : Int32)) ?_)
        refine r_if_eq (tgt := 162) d_M_steps_141 (by decide) (fun hc_141 => ?_) (fun hc_141 => ?_)
        · replace H := H.1 hc_141
          refine r_iinc (v := x7 + 1) (lz := [some (.ref 0), some (.int x1), none, none, some (.long ((x4 * 6364136223846793005) + 1442695040888963407)), none, some (.int x6), some (.int (x7 + 1)), some (.int ((((((x4 * 6364136223846793005) + 1442695040888963407).toUInt64 >>> ((33 : Int32).toInt64.toUInt64 &&& Int64.toUInt64 63)).toInt64) - ((((x4 * 6364136223846793005) + 1442695040888963407).toUInt64 >>> ((33 : Int32).toInt64.toUInt64 &&& Int64.toUInt64 63)).toInt64) / 5 * 5).toInt32)), some (.int ((hp.2.1 13 x7.toNatClampNeg) + ((if ((((((x4 * 6364136223846793005) + 1442695040888963407).toUInt64 >>> ((33 : Int32).toInt64.toUInt64 &&& Int64.toUInt64 63)).toInt64) - ((((x4 * 6364136223846793005) + 1442695040888963407).toUInt64 >>> ((33 : Int32).toInt64.toUInt64 &&& Int64.toUInt64 63)).toInt64) / 5 * 5).toInt32) = 1 then 1 else ((if ((((((x4 * 6364136223846793005) + 1442695040888963407).toUInt64 >>> ((33 : Int32).toInt64.toUInt64 &&& Int64.toUInt64 63)).toInt64) - ((((x4 * 6364136223846793005) + 1442695040888963407).toUInt64 >>> ((33 : Int32).toInt64.toUInt64 &&& Int64.toUInt64 63)).toInt64) / 5 * 5).toInt32) = 3 then (-1) else 0) : Int32)) : Int32))), some (.int ((hp.2.1 14 x7.toNatClampNeg) + ((if ((((((x4 * 6364136223846793005) + 1442695040888963407).toUInt64 >>> ((33 : Int32).toInt64.toUInt64 &&& Int64.toUInt64 63)).toInt64) - ((((x4 * 6364136223846793005) + 1442695040888963407).toUInt64 >>> ((33 : Int32).toInt64.toUInt64 &&& Int64.toUInt64 63)).toInt64) / 5 * 5).toInt32) = 2 then 1 else ((if ((((((x4 * 6364136223846793005) + 1442695040888963407).toUInt64 >>> ((33 : Int32).toInt64.toUInt64 &&& Int64.toUInt64 63)).toInt64) - ((((x4 * 6364136223846793005) + 1442695040888963407).toUInt64 >>> ((33 : Int32).toInt64.toUInt64 &&& Int64.toUInt64 63)).toInt64) / 5 * 5).toInt32) = 4 then (-1) else 0) : Int32)) : Int32)))]) d_M_steps_162 rfl (by rw [ic_1]) (by decide) rfl rfl ?_
          refine r_goto (tgt := 38) d_M_steps_165 (by decide) ?_
          exact rx_fgt [false, false, false, false, false, false, false, false, true, true, true] H
        · replace H := H.2 hc_141
          refine r_aload_n (i := 0) d_M_steps_144 rfl rfl ?_
          refine r_getR (b := 0) (r := 13) d_M_steps_145 fl_M_46 (by decide) rfl rfl rfl ?_
          refine r_iload d_M_steps_148 rfl ?_
          refine r_iload d_M_steps_150 rfl ?_
          refine r_iast (b := 13) (i := x7.toNatClampNeg) d_M_steps_152 (by decide) rfl hi_77 rfl ?_
          refine r_aload_n (i := 0) d_M_steps_153 rfl rfl ?_
          refine r_getR (b := 0) (r := 14) d_M_steps_154 fl_M_49 (by decide) rfl rfl rfl ?_
          refine r_iload d_M_steps_157 rfl ?_
          refine r_iload d_M_steps_159 rfl ?_
          refine r_iast (b := 14) (i := x7.toNatClampNeg) d_M_steps_161 (by decide) rfl hi_77 rfl ?_
          refine r_iinc (v := x7 + 1) (lz := [some (.ref 0), some (.int x1), none, none, some (.long ((x4 * 6364136223846793005) + 1442695040888963407)), none, some (.int x6), some (.int (x7 + 1)), some (.int ((((((x4 * 6364136223846793005) + 1442695040888963407).toUInt64 >>> ((33 : Int32).toInt64.toUInt64 &&& Int64.toUInt64 63)).toInt64) - ((((x4 * 6364136223846793005) + 1442695040888963407).toUInt64 >>> ((33 : Int32).toInt64.toUInt64 &&& Int64.toUInt64 63)).toInt64) / 5 * 5).toInt32)), some (.int ((hp.2.1 13 x7.toNatClampNeg) + ((if ((((((x4 * 6364136223846793005) + 1442695040888963407).toUInt64 >>> ((33 : Int32).toInt64.toUInt64 &&& Int64.toUInt64 63)).toInt64) - ((((x4 * 6364136223846793005) + 1442695040888963407).toUInt64 >>> ((33 : Int32).toInt64.toUInt64 &&& Int64.toUInt64 63)).toInt64) / 5 * 5).toInt32) = 1 then 1 else ((if ((((((x4 * 6364136223846793005) + 1442695040888963407).toUInt64 >>> ((33 : Int32).toInt64.toUInt64 &&& Int64.toUInt64 63)).toInt64) - ((((x4 * 6364136223846793005) + 1442695040888963407).toUInt64 >>> ((33 : Int32).toInt64.toUInt64 &&& Int64.toUInt64 63)).toInt64) / 5 * 5).toInt32) = 3 then (-1) else 0) : Int32)) : Int32))), some (.int ((hp.2.1 14 x7.toNatClampNeg) + ((if ((((((x4 * 6364136223846793005) + 1442695040888963407).toUInt64 >>> ((33 : Int32).toInt64.toUInt64 &&& Int64.toUInt64 63)).toInt64) - ((((x4 * 6364136223846793005) + 1442695040888963407).toUInt64 >>> ((33 : Int32).toInt64.toUInt64 &&& Int64.toUInt64 63)).toInt64) / 5 * 5).toInt32) = 2 then 1 else ((if ((((((x4 * 6364136223846793005) + 1442695040888963407).toUInt64 >>> ((33 : Int32).toInt64.toUInt64 &&& Int64.toUInt64 63)).toInt64) - ((((x4 * 6364136223846793005) + 1442695040888963407).toUInt64 >>> ((33 : Int32).toInt64.toUInt64 &&& Int64.toUInt64 63)).toInt64) / 5 * 5).toInt32) = 4 then (-1) else 0) : Int32)) : Int32)))]) d_M_steps_162 rfl (by rw [ic_1]) (by decide) rfl rfl ?_
          refine r_goto (tgt := 38) d_M_steps_165 (by decide) ?_
          exact rx_fgt [false, false, false, false, false, false, false, false, true, true, true] H
      refine r_iadd d_M_steps_99 ?_
      refine r_istore (lz := [some (.ref 0), some (.int x1), none, none, some (.long ((x4 * 6364136223846793005) + 1442695040888963407)), none, some (.int x6), some (.int x7), some (.int ((((((x4 * 6364136223846793005) + 1442695040888963407).toUInt64 >>> ((33 : Int32).toInt64.toUInt64 &&& Int64.toUInt64 63)).toInt64) - ((((x4 * 6364136223846793005) + 1442695040888963407).toUInt64 >>> ((33 : Int32).toInt64.toUInt64 &&& Int64.toUInt64 63)).toInt64) / 5 * 5).toInt32)), some (.int ((hp.2.1 13 x7.toNatClampNeg) + ((if ((((((x4 * 6364136223846793005) + 1442695040888963407).toUInt64 >>> ((33 : Int32).toInt64.toUInt64 &&& Int64.toUInt64 63)).toInt64) - ((((x4 * 6364136223846793005) + 1442695040888963407).toUInt64 >>> ((33 : Int32).toInt64.toUInt64 &&& Int64.toUInt64 63)).toInt64) / 5 * 5).toInt32) = 1 then 1 else ((if ((((((x4 * 6364136223846793005) + 1442695040888963407).toUInt64 >>> ((33 : Int32).toInt64.toUInt64 &&& Int64.toUInt64 63)).toInt64) - ((((x4 * 6364136223846793005) + 1442695040888963407).toUInt64 >>> ((33 : Int32).toInt64.toUInt64 &&& Int64.toUInt64 63)).toInt64) / 5 * 5).toInt32) = 3 then (-1) else 0) : Int32)) : Int32))), none]) d_M_steps_100 (by decide) rfl rfl ?_
      refine r_aload_n (i := 0) d_M_steps_102 rfl rfl ?_
      refine r_getR (b := 0) (r := 14) d_M_steps_103 fl_M_49 (by decide) rfl rfl rfl ?_
      refine r_iload d_M_steps_106 rfl ?_
      refine r_iald (b := 14) (v := hp.2.1 14 x7.toNatClampNeg) d_M_steps_108 (by decide) rfl hi_77 rfl ?_
      refine r_iload d_M_steps_109 rfl ?_
      refine r_iconst d_M_steps_111 ic_2 ?_
      refine r_icmp_ne (tgt := 119) d_M_steps_112 (by decide) (fun hc_112 => ?_) (fun hc_112 => ?_)
      · refine r_iload d_M_steps_119 rfl ?_
        refine r_iconst d_M_steps_121 ic_4 ?_
        refine r_icmp_ne (tgt := 129) d_M_steps_122 (by decide) (fun hc_122 => ?_) (fun hc_122 => ?_)
        · refine r_iconst d_M_steps_129 ic_0 ?_
          exact J112 _ (((if_neg hc_112).trans ((if_neg hc_122).trans rfl))).symm
        · refine r_iconst d_M_steps_125 ic_m1 ?_
          refine r_goto (tgt := 130) d_M_steps_126 (by decide) ?_
          exact J112 _ (((if_neg hc_112).trans ((if_pos hc_122).trans rfl))).symm
      · refine r_iconst d_M_steps_115 ic_1 ?_
        refine r_goto (tgt := 130) d_M_steps_116 (by decide) ?_
        exact J112 _ (((if_pos hc_112).trans rfl)).symm
    refine r_iload d_M_steps_78 rfl ?_
    refine r_iconst d_M_steps_80 ic_1 ?_
    refine r_icmp_ne (tgt := 88) d_M_steps_81 (by decide) (fun hc_81 => ?_) (fun hc_81 => ?_)
    · refine r_iload d_M_steps_88 rfl ?_
      refine r_iconst d_M_steps_90 ic_3 ?_
      refine r_icmp_ne (tgt := 98) d_M_steps_91 (by decide) (fun hc_91 => ?_) (fun hc_91 => ?_)
      · refine r_iconst d_M_steps_98 ic_0 ?_
        exact J81 _ (((if_neg hc_81).trans ((if_neg hc_91).trans rfl))).symm
      · refine r_iconst d_M_steps_94 ic_m1 ?_
        refine r_goto (tgt := 99) d_M_steps_95 (by decide) ?_
        exact J81 _ (((if_neg hc_81).trans ((if_pos hc_91).trans rfl))).symm
    · refine r_iconst d_M_steps_84 ic_1 ?_
      refine r_goto (tgt := 99) d_M_steps_85 (by decide) ?_
      exact J81 _ (((if_pos hc_81).trans rfl)).symm
set_option maxHeartbeats 4000000 in
set_option maxRecDepth 20000 in
theorem w_GR_steps {G : rx_Gh} {hp : rx_Hp} {F : Int32 → rx_Hp → Prop} (a1 : Int32) (a2 : Int64) (H : ((f_Ha_stands hp) = 0 → F (-1) hp) ∧ (¬ (f_Ha_stands hp) = 0 → (a1 < 1 → F (-1) hp) ∧ (¬ a1 < 1 → (a1 ≤ 40 → Rn wC G 3 q_GR_steps 29 [some (.ref 0), some (.int a1), none, none, some (.long a2), none, some (.int 0), none] [] hp (rI F)) ∧ (¬ a1 ≤ 40 → F (-1) hp)))) : Ev wC G 3 q_GR_steps [.ref 0, .int a1, .long a2] hp (rI F) := by
  refine ev_of rfl (Nat.le_of_ble_eq_true rfl) rfl ?_
  show Rn wC G 3 q_GR_steps 0 [some (.ref 0), some (.int a1), some (.long a2), none, none, none, none, none] [] hp (rI F)
  refine r_aload_n (i := 0) d_GR_steps_0 rfl rfl ?_
  refine r_getR (b := 0) (r := 3) d_GR_steps_1 fl_GR_19 (by decide) rfl rfl rfl ?_
  refine rk_VI (b := 3) (d' := 1) [] [] d_GR_steps_4 ml_GR_171 rfl rfl (by decide) (by decide) rfl rfl (Nat.le_of_ble_eq_true rfl) (s_Ha_stands  ?_)
  refine r_if_eq (tgt := 21) d_GR_steps_7 (by decide) (fun hc_7 => ?_) (fun hc_7 => ?_)
  · replace H := H.1 hc_7
    refine r_iconst d_GR_steps_21 ic_m1 ?_
    exact rI_ret d_GR_steps_22 rfl H
  · replace H := H.2 hc_7
    refine r_iload_n (i := 1) d_GR_steps_10 rfl rfl ?_
    refine r_iconst d_GR_steps_11 ic_1 ?_
    refine r_icmp_lt (tgt := 21) d_GR_steps_12 (by decide) (fun hc_12 => ?_) (fun hc_12 => ?_)
    · replace H := H.1 hc_12
      refine r_iconst d_GR_steps_21 ic_m1 ?_
      exact rI_ret d_GR_steps_22 rfl H
    · replace H := H.2 hc_12
      refine r_iload_n (i := 1) d_GR_steps_15 rfl rfl ?_
      refine r_bipush d_GR_steps_16 bp_40 ?_
      refine r_icmp_le (tgt := 23) d_GR_steps_18 (by decide) (fun hc_18 => ?_) (fun hc_18 => ?_)
      · replace H := H.1 hc_18
        refine r_lload_n (i := 2) d_GR_steps_23 rfl rfl ?_
        refine r_lstore (lz := [some (.ref 0), some (.int a1), some (.long a2), none, some (.long a2), none, none, none]) d_GR_steps_24 (by decide) rfl rfl ?_
        refine r_iconst d_GR_steps_26 ic_0 ?_
        refine r_istore (lz := [some (.ref 0), some (.int a1), some (.long a2), none, some (.long a2), none, some (.int 0), none]) d_GR_steps_27 (by decide) rfl rfl ?_
        exact rx_fgt [false, false, true] H
      · replace H := H.2 hc_18
        refine r_iconst d_GR_steps_21 ic_m1 ?_
        exact rI_ret d_GR_steps_22 rfl H
set_option maxHeartbeats 4000000 in
set_option maxRecDepth 20000 in
theorem w_GR_steps_29 {G : rx_Gh} {hp : rx_Hp} {F : Int32 → rx_Hp → Prop} (x1 : Int32) (x4 : Int64) (x6 : Int32) (H : (x1 ≤ x6 → F (hp.1 37 2) hp) ∧ (¬ x1 ≤ x6 → p_Ac_remember hp ∧ (Rn wC G 3 q_GR_steps 49 [some (.ref 0), some (.int x1), none, none, some (.long x4), none, some (.int x6), some (.int 0)] [] (g_Ac_remember hp) (rI F)))) : Rn wC G 3 q_GR_steps 29 [some (.ref 0), some (.int x1), none, none, some (.long x4), none, some (.int x6), none] [] hp (rI F) := by
  refine r_iload d_GR_steps_29 rfl ?_
  refine r_iload_n (i := 1) d_GR_steps_31 rfl rfl ?_
  refine r_icmp_ge (tgt := 104) d_GR_steps_32 (by decide) (fun hc_32 => ?_) (fun hc_32 => ?_)
  · replace H := H.1 hc_32
    refine r_aload_n (i := 0) d_GR_steps_104 rfl rfl ?_
    refine r_getR (b := 0) (r := 37) d_GR_steps_105 fl_GR_56 (by decide) rfl rfl rfl ?_
    refine r_getI (b := 37) (v := hp.1 37 2) d_GR_steps_108 fl_GR_139 (by decide) rfl rfl rfl ?_
    exact rI_ret d_GR_steps_111 rfl H
  · replace H := H.2 hc_32
    refine r_aload_n (i := 0) d_GR_steps_35 rfl rfl ?_
    refine r_getR (b := 0) (r := 37) d_GR_steps_36 fl_GR_56 (by decide) rfl rfl rfl ?_
    refine r_aload_n (i := 0) d_GR_steps_39 rfl rfl ?_
    refine r_getR (b := 0) (r := 3) d_GR_steps_40 fl_GR_19 (by decide) rfl rfl rfl ?_
    obtain ⟨hp_43_0, H⟩ := H
    refine rk_VV (b := 37) (d' := 2) [.ref 3] [] d_GR_steps_43 ml_GR_168 rfl rfl (by decide) (by decide) rfl rfl (Nat.le_of_ble_eq_true rfl) (s_Ac_remember hp_43_0 ?_)
    refine r_iconst d_GR_steps_46 ic_0 ?_
    refine r_istore (lz := [some (.ref 0), some (.int x1), none, none, some (.long x4), none, some (.int x6), some (.int 0)]) d_GR_steps_47 (by decide) rfl rfl ?_
    exact H
set_option maxHeartbeats 4000000 in
set_option maxRecDepth 20000 in
theorem w_GR_steps_49 {G : rx_Gh} {hp : rx_Hp} {F : Int32 → rx_Hp → Prop} (x1 : Int32) (x4 : Int64) (x6 : Int32) (x7 : Int32) (H : ((hp.1 3 4) ≤ x7 → Rn wC G 3 q_GR_steps 29 [some (.ref 0), some (.int x1), none, none, some (.long x4), none, some (.int (x6 + 1)), none] [] hp (rI F)) ∧ (¬ (hp.1 3 4) ≤ x7 → p_Ha_wander x7 ((((((x4 * 6364136223846793005) + 1442695040888963407).toUInt64 >>> ((33 : Int32).toInt64.toUInt64 &&& Int64.toUInt64 63)).toInt64) - ((((x4 * 6364136223846793005) + 1442695040888963407).toUInt64 >>> ((33 : Int32).toInt64.toUInt64 &&& Int64.toUInt64 63)).toInt64) / 5 * 5).toInt32) ∧ (Rn wC G 3 q_GR_steps 49 [some (.ref 0), some (.int x1), none, none, some (.long ((x4 * 6364136223846793005) + 1442695040888963407)), none, some (.int x6), some (.int (x7 + 1))] [] (g_Ha_wander x7 ((((((x4 * 6364136223846793005) + 1442695040888963407).toUInt64 >>> ((33 : Int32).toInt64.toUInt64 &&& Int64.toUInt64 63)).toInt64) - ((((x4 * 6364136223846793005) + 1442695040888963407).toUInt64 >>> ((33 : Int32).toInt64.toUInt64 &&& Int64.toUInt64 63)).toInt64) / 5 * 5).toInt32) hp) (rI F)))) : Rn wC G 3 q_GR_steps 49 [some (.ref 0), some (.int x1), none, none, some (.long x4), none, some (.int x6), some (.int x7)] [] hp (rI F) := by
  refine r_iload d_GR_steps_49 rfl ?_
  refine r_aload_n (i := 0) d_GR_steps_51 rfl rfl ?_
  refine r_getR (b := 0) (r := 3) d_GR_steps_52 fl_GR_19 (by decide) rfl rfl rfl ?_
  refine r_getI (b := 3) (v := hp.1 3 4) d_GR_steps_55 fl_GR_141 (by decide) rfl rfl rfl ?_
  refine r_icmp_ge (tgt := 98) d_GR_steps_58 (by decide) (fun hc_58 => ?_) (fun hc_58 => ?_)
  · replace H := H.1 hc_58
    refine r_iinc (v := x6 + 1) (lz := [some (.ref 0), some (.int x1), none, none, some (.long x4), none, some (.int (x6 + 1)), some (.int x7)]) d_GR_steps_98 rfl (by rw [ic_1]) (by decide) rfl rfl ?_
    refine r_goto (tgt := 29) d_GR_steps_101 (by decide) ?_
    exact rx_fgt [false, false, false, false, false, false, false, true] H
  · replace H := H.2 hc_58
    refine r_lload d_GR_steps_61 rfl ?_
    refine r_ldc2 d_GR_steps_63 ck_GR_178 ?_
    refine r_lmul d_GR_steps_66 ?_
    refine r_ldc2 d_GR_steps_67 ck_GR_180 ?_
    refine r_ladd d_GR_steps_70 ?_
    refine r_lstore (lz := [some (.ref 0), some (.int x1), none, none, some (.long ((x4 * 6364136223846793005) + 1442695040888963407)), none, some (.int x6), some (.int x7)]) d_GR_steps_71 (by decide) rfl rfl ?_
    refine r_aload_n (i := 0) d_GR_steps_73 rfl rfl ?_
    refine r_getR (b := 0) (r := 3) d_GR_steps_74 fl_GR_19 (by decide) rfl rfl rfl ?_
    refine r_iload d_GR_steps_77 rfl ?_
    refine r_lload d_GR_steps_79 rfl ?_
    refine r_bipush d_GR_steps_81 bp_33 ?_
    refine r_lushr d_GR_steps_83 ?_
    refine r_ldc2 d_GR_steps_84 ck_GR_182 ?_
    refine r_lrem d_GR_steps_87 (by decide) ?_
    refine r_l2i d_GR_steps_88 ?_
    obtain ⟨hp_89_0, H⟩ := H
    refine rk_VV (b := 3) (d' := 2) [.int x7, .int ((((((x4 * 6364136223846793005) + 1442695040888963407).toUInt64 >>> ((33 : Int32).toInt64.toUInt64 &&& Int64.toUInt64 63)).toInt64) - ((((x4 * 6364136223846793005) + 1442695040888963407).toUInt64 >>> ((33 : Int32).toInt64.toUInt64 &&& Int64.toUInt64 63)).toInt64) / 5 * 5).toInt32)] [] d_GR_steps_89 ml_GR_184 rfl rfl (by decide) (by decide) rfl rfl (Nat.le_of_ble_eq_true rfl) (s_Ha_wander x7 ((((((x4 * 6364136223846793005) + 1442695040888963407).toUInt64 >>> ((33 : Int32).toInt64.toUInt64 &&& Int64.toUInt64 63)).toInt64) - ((((x4 * 6364136223846793005) + 1442695040888963407).toUInt64 >>> ((33 : Int32).toInt64.toUInt64 &&& Int64.toUInt64 63)).toInt64) / 5 * 5).toInt32) hp_89_0 ?_)
    refine r_iinc (v := x7 + 1) (lz := [some (.ref 0), some (.int x1), none, none, some (.long ((x4 * 6364136223846793005) + 1442695040888963407)), none, some (.int x6), some (.int (x7 + 1))]) d_GR_steps_92 rfl (by rw [ic_1]) (by decide) rfl rfl ?_
    refine r_goto (tgt := 49) d_GR_steps_95 (by decide) ?_
    exact H

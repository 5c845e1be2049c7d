theorem d_Di_farAt_0 : decode q_Di_farAt.2.1 0 = .ok (.aload_n 0, 1) := by decide +kernel
theorem d_Di_farAt_1 : decode q_Di_farAt.2.1 1 = .ok (.getfield 9, 3) := by decide +kernel
theorem fl_Di_9 : rx_F "GlassRoom$Distances" 9 2 1 := ⟨(RX2, TX2, 10), rfl, by decide, (rx_s1 209 rfl rfl), rx_T2⟩
theorem d_Di_farAt_4 : decode q_Di_farAt.2.1 4 = .ok (.iload_n 1, 1) := by decide +kernel
theorem d_Di_farAt_5 : decode q_Di_farAt.2.1 5 = .ok (.bipush 10, 2) := by decide +kernel
theorem d_Di_farAt_7 : decode q_Di_farAt.2.1 7 = .ok (.iadd, 1) := by decide +kernel
theorem d_Di_farAt_8 : decode q_Di_farAt.2.1 8 = .ok (.iaload, 1) := by decide +kernel
theorem d_Di_farAt_9 : decode q_Di_farAt.2.1 9 = .ok (.aload_n 0, 1) := by decide +kernel
theorem d_Di_farAt_10 : decode q_Di_farAt.2.1 10 = .ok (.getfield 15, 3) := by decide +kernel
theorem fl_Di_15 : rx_F "GlassRoom$Distances" 15 2 2 := ⟨(RX2, TX2, 10), rfl, by decide, (rx_s1 210 rfl rfl), rx_T2⟩
theorem d_Di_farAt_13 : decode q_Di_farAt.2.1 13 = .ok (.iload_n 2, 1) := by decide +kernel
theorem d_Di_farAt_14 : decode q_Di_farAt.2.1 14 = .ok (.bipush 10, 2) := by decide +kernel
theorem d_Di_farAt_16 : decode q_Di_farAt.2.1 16 = .ok (.iadd, 1) := by decide +kernel
theorem d_Di_farAt_17 : decode q_Di_farAt.2.1 17 = .ok (.iaload, 1) := by decide +kernel
theorem d_Di_farAt_18 : decode q_Di_farAt.2.1 18 = .ok (.iadd, 1) := by decide +kernel
theorem d_Di_farAt_19 : decode q_Di_farAt.2.1 19 = .ok (.ireturn, 1) := by decide +kernel
theorem d_Li_add_0 : decode q_Li_add.2.1 0 = .ok (.aload_n 0, 1) := by decide +kernel
theorem d_Li_add_1 : decode q_Li_add.2.1 1 = .ok (.getfield 18, 3) := by decide +kernel
theorem fl_Li_18 : rx_F "GlassRoom$Light" 18 6 2 := ⟨(RX6, TX6, 3), rfl, by decide, (rx_s1 166 rfl rfl), rx_T6⟩
theorem d_Li_add_4 : decode q_Li_add.2.1 4 = .ok (.aload_n 0, 1) := by decide +kernel
theorem d_Li_add_5 : decode q_Li_add.2.1 5 = .ok (.getfield 9, 3) := by decide +kernel
theorem fl_Li_9 : rx_F "GlassRoom$Light" 9 6 0 := ⟨(RX6, TX6, 3), rfl, by decide, (rx_s1 164 rfl rfl), rx_T6⟩
theorem d_Li_add_8 : decode q_Li_add.2.1 8 = .ok (.arraylength, 1) := by decide +kernel
theorem al_160 : Int32.ofNat 160 = (160 : Int32) := by decide
theorem d_Li_add_9 : decode q_Li_add.2.1 9 = .ok (.if_icmp .ge 33, 3) := by decide +kernel
theorem d_Li_add_12 : decode q_Li_add.2.1 12 = .ok (.aload_n 0, 1) := by decide +kernel
theorem d_Li_add_13 : decode q_Li_add.2.1 13 = .ok (.getfield 9, 3) := by decide +kernel
theorem d_Li_add_16 : decode q_Li_add.2.1 16 = .ok (.aload_n 0, 1) := by decide +kernel
theorem d_Li_add_17 : decode q_Li_add.2.1 17 = .ok (.getfield 18, 3) := by decide +kernel
theorem d_Li_add_20 : decode q_Li_add.2.1 20 = .ok (.iload_n 1, 1) := by decide +kernel
theorem d_Li_add_42 : decode q_Li_add.2.1 42 = .ok (.return_, 1) := by decide +kernel
theorem d_Li_add_21 : decode q_Li_add.2.1 21 = .ok (.iastore, 1) := by decide +kernel
theorem d_Li_add_22 : decode q_Li_add.2.1 22 = .ok (.aload_n 0, 1) := by decide +kernel
theorem d_Li_add_23 : decode q_Li_add.2.1 23 = .ok (.getfield 15, 3) := by decide +kernel
theorem fl_Li_15 : rx_F "GlassRoom$Light" 15 6 1 := ⟨(RX6, TX6, 3), rfl, by decide, (rx_s1 165 rfl rfl), rx_T6⟩
theorem d_Li_add_26 : decode q_Li_add.2.1 26 = .ok (.aload_n 0, 1) := by decide +kernel
theorem d_Li_add_27 : decode q_Li_add.2.1 27 = .ok (.getfield 18, 3) := by decide +kernel
theorem d_Li_add_30 : decode q_Li_add.2.1 30 = .ok (.iload_n 2, 1) := by decide +kernel
theorem d_Li_add_31 : decode q_Li_add.2.1 31 = .ok (.iastore, 1) := by decide +kernel
theorem d_Li_add_32 : decode q_Li_add.2.1 32 = .ok (.aload_n 0, 1) := by decide +kernel
theorem d_Li_add_33 : decode q_Li_add.2.1 33 = .ok (.dup, 1) := by decide +kernel
theorem d_Li_add_34 : decode q_Li_add.2.1 34 = .ok (.getfield 18, 3) := by decide +kernel
theorem d_Li_add_37 : decode q_Li_add.2.1 37 = .ok (.iconst 1, 1) := by decide +kernel
theorem d_Li_add_38 : decode q_Li_add.2.1 38 = .ok (.iadd, 1) := by decide +kernel
theorem d_Li_add_39 : decode q_Li_add.2.1 39 = .ok (.putfield 18, 3) := by decide +kernel
theorem fp_Li_18 : rx_FP "GlassRoom$Light" 18 6 2 (.int) := ⟨(RX6, TX6, 3), tyX6, rfl, by decide, (rx_s1 166 rfl rfl), rx_T6, tyX6_ok, nmX6, rfl, rfl⟩
theorem d_Li_leadToEnd_0 : decode q_Li_leadToEnd.2.1 0 = .ok (.iload_n 1, 1) := by decide +kernel
theorem d_Li_leadToEnd_1 : decode q_Li_leadToEnd.2.1 1 = .ok (.ifCond .lt 23, 3) := by decide +kernel
theorem d_Li_leadToEnd_4 : decode q_Li_leadToEnd.2.1 4 = .ok (.iload_n 1, 1) := by decide +kernel
theorem d_Li_leadToEnd_5 : decode q_Li_leadToEnd.2.1 5 = .ok (.aload_n 0, 1) := by decide +kernel
theorem d_Li_leadToEnd_6 : decode q_Li_leadToEnd.2.1 6 = .ok (.getfield 18, 3) := by decide +kernel
theorem d_Li_leadToEnd_9 : decode q_Li_leadToEnd.2.1 9 = .ok (.if_icmp .ge 15, 3) := by decide +kernel
theorem d_Li_leadToEnd_12 : decode q_Li_leadToEnd.2.1 12 = .ok (.aload_n 0, 1) := by decide +kernel
theorem d_Li_leadToEnd_13 : decode q_Li_leadToEnd.2.1 13 = .ok (.getfield 15, 3) := by decide +kernel
theorem d_Li_leadToEnd_16 : decode q_Li_leadToEnd.2.1 16 = .ok (.iload_n 1, 1) := by decide +kernel
theorem d_Li_leadToEnd_17 : decode q_Li_leadToEnd.2.1 17 = .ok (.aload_n 0, 1) := by decide +kernel
theorem d_Li_leadToEnd_18 : decode q_Li_leadToEnd.2.1 18 = .ok (.getfield 18, 3) := by decide +kernel
theorem d_Li_leadToEnd_21 : decode q_Li_leadToEnd.2.1 21 = .ok (.iconst 1, 1) := by decide +kernel
theorem d_Li_leadToEnd_22 : decode q_Li_leadToEnd.2.1 22 = .ok (.isub, 1) := by decide +kernel
theorem d_Li_leadToEnd_24 : decode q_Li_leadToEnd.2.1 24 = .ok (.return_, 1) := by decide +kernel
theorem d_Li_leadToEnd_23 : decode q_Li_leadToEnd.2.1 23 = .ok (.iastore, 1) := by decide +kernel
theorem d_Li_bounded_0 : decode q_Li_bounded.2.1 0 = .ok (.ldc2_w 40, 3) := by decide +kernel
theorem ck_Li_40 : Cond.constantLong "GlassRoom$Light" 40 (-1000000) ∈ rx_gw := (rx_s4 7 rfl rfl)
theorem d_Li_bounded_3 : decode q_Li_bounded.2.1 3 = .ok (.ldc2_w 42, 3) := by decide +kernel
theorem ck_Li_42 : Cond.constantLong "GlassRoom$Light" 42 (1000000) ∈ rx_gw := (rx_s4 8 rfl rfl)
theorem d_Li_bounded_6 : decode q_Li_bounded.2.1 6 = .ok (.lload_n 0, 1) := by decide +kernel
theorem d_Li_bounded_7 : decode q_Li_bounded.2.1 7 = .ok (.invokestatic 44, 3) := by decide +kernel
theorem ml_Li_44 : rx_CS "GlassRoom$Light" 44 q_Mt_min1 2 := ⟨⟨(rx_s4 9 rfl rfl), (rx_s4 10 rfl rfl)⟩, ⟨(rx_s1 16 rfl rfl), q_Mt_min1_k, ⟨by decide, by decide, by decide +kernel⟩, by decide⟩⟩
theorem d_Li_bounded_10 : decode q_Li_bounded.2.1 10 = .ok (.invokestatic 48, 3) := by decide +kernel
theorem ml_Li_48 : rx_CS "GlassRoom$Light" 48 q_Mt_max1 2 := ⟨⟨(rx_s4 12 rfl rfl), (rx_s4 13 rfl rfl)⟩, ⟨(rx_s1 16 rfl rfl), q_Mt_max1_k, ⟨by decide, by decide, by decide +kernel⟩, by decide⟩⟩
theorem d_Li_bounded_13 : decode q_Li_bounded.2.1 13 = .ok (.l2i, 1) := by decide +kernel
theorem d_Li_bounded_14 : decode q_Li_bounded.2.1 14 = .ok (.ireturn, 1) := by decide +kernel
theorem d_Li_joined_0 : decode q_Li_joined.2.1 0 = .ok (.iload_n 0, 1) := by decide +kernel
theorem d_Li_joined_1 : decode q_Li_joined.2.1 1 = .ok (.tableswitch 189 38 62 #[185, 189, 189, 189, 131, 115, 189, 123, 189, 140, 189, 189, 189, 189, 189, 189, 189, 189, 189, 189, 189, 189, 163, 152, 174], 115) := by decide +kernel
theorem d_Li_joined_186 : decode q_Li_joined.2.1 186 = .ok (.iload_n 1, 1) := by decide +kernel
theorem d_Li_joined_187 : decode q_Li_joined.2.1 187 = .ok (.iload_n 2, 1) := by decide +kernel
theorem d_Li_joined_188 : decode q_Li_joined.2.1 188 = .ok (.iand, 1) := by decide +kernel
theorem d_Li_joined_189 : decode q_Li_joined.2.1 189 = .ok (.ireturn, 1) := by decide +kernel
theorem d_Li_joined_132 : decode q_Li_joined.2.1 132 = .ok (.iload_n 1, 1) := by decide +kernel
theorem d_Li_joined_133 : decode q_Li_joined.2.1 133 = .ok (.i2l, 1) := by decide +kernel
theorem d_Li_joined_134 : decode q_Li_joined.2.1 134 = .ok (.iload_n 2, 1) := by decide +kernel
theorem d_Li_joined_135 : decode q_Li_joined.2.1 135 = .ok (.i2l, 1) := by decide +kernel
theorem d_Li_joined_136 : decode q_Li_joined.2.1 136 = .ok (.lmul, 1) := by decide +kernel
theorem d_Li_joined_137 : decode q_Li_joined.2.1 137 = .ok (.invokestatic 36, 3) := by decide +kernel
theorem ml_Li_36 : rx_CS "GlassRoom$Light" 36 q_Li_bounded 1 := ⟨⟨(rx_s4 4 rfl rfl), (rx_s4 5 rfl rfl)⟩, ⟨(rx_s1 6 rfl rfl), q_Li_bounded_k, ⟨by decide, by decide, by decide +kernel⟩, by decide⟩⟩
theorem d_Li_joined_140 : decode q_Li_joined.2.1 140 = .ok (.ireturn, 1) := by decide +kernel
theorem d_Li_joined_116 : decode q_Li_joined.2.1 116 = .ok (.iload_n 1, 1) := by decide +kernel
theorem d_Li_joined_117 : decode q_Li_joined.2.1 117 = .ok (.iload_n 2, 1) := by decide +kernel
theorem d_Li_joined_118 : decode q_Li_joined.2.1 118 = .ok (.iadd, 1) := by decide +kernel
theorem d_Li_joined_119 : decode q_Li_joined.2.1 119 = .ok (.i2l, 1) := by decide +kernel
theorem d_Li_joined_120 : decode q_Li_joined.2.1 120 = .ok (.invokestatic 36, 3) := by decide +kernel
theorem d_Li_joined_123 : decode q_Li_joined.2.1 123 = .ok (.ireturn, 1) := by decide +kernel
theorem d_Li_joined_124 : decode q_Li_joined.2.1 124 = .ok (.iload_n 1, 1) := by decide +kernel
theorem d_Li_joined_125 : decode q_Li_joined.2.1 125 = .ok (.iload_n 2, 1) := by decide +kernel
theorem d_Li_joined_126 : decode q_Li_joined.2.1 126 = .ok (.isub, 1) := by decide +kernel
theorem d_Li_joined_127 : decode q_Li_joined.2.1 127 = .ok (.i2l, 1) := by decide +kernel
theorem d_Li_joined_128 : decode q_Li_joined.2.1 128 = .ok (.invokestatic 36, 3) := by decide +kernel
theorem d_Li_joined_131 : decode q_Li_joined.2.1 131 = .ok (.ireturn, 1) := by decide +kernel
theorem d_Li_joined_141 : decode q_Li_joined.2.1 141 = .ok (.iload_n 2, 1) := by decide +kernel
theorem d_Li_joined_142 : decode q_Li_joined.2.1 142 = .ok (.ifCond .ne 7, 3) := by decide +kernel
theorem d_Li_joined_145 : decode q_Li_joined.2.1 145 = .ok (.iconst 0, 1) := by decide +kernel
theorem d_Li_joined_146 : decode q_Li_joined.2.1 146 = .ok (.goto 6, 3) := by decide +kernel
theorem d_Li_joined_149 : decode q_Li_joined.2.1 149 = .ok (.iload_n 1, 1) := by decide +kernel
theorem d_Li_joined_150 : decode q_Li_joined.2.1 150 = .ok (.iload_n 2, 1) := by decide +kernel
theorem d_Li_joined_151 : decode q_Li_joined.2.1 151 = .ok (.idiv, 1) := by decide +kernel
theorem d_Li_joined_152 : decode q_Li_joined.2.1 152 = .ok (.ireturn, 1) := by decide +kernel
theorem d_Li_joined_164 : decode q_Li_joined.2.1 164 = .ok (.iload_n 1, 1) := by decide +kernel
theorem d_Li_joined_165 : decode q_Li_joined.2.1 165 = .ok (.iload_n 2, 1) := by decide +kernel
theorem d_Li_joined_166 : decode q_Li_joined.2.1 166 = .ok (.if_icmp .ge 7, 3) := by decide +kernel
theorem d_Li_joined_173 : decode q_Li_joined.2.1 173 = .ok (.iconst 0, 1) := by decide +kernel
theorem d_Li_joined_169 : decode q_Li_joined.2.1 169 = .ok (.iconst 1, 1) := by decide +kernel
theorem d_Li_joined_170 : decode q_Li_joined.2.1 170 = .ok (.goto 4, 3) := by decide +kernel
theorem d_Li_joined_174 : decode q_Li_joined.2.1 174 = .ok (.ireturn, 1) := by decide +kernel
theorem d_Li_joined_153 : decode q_Li_joined.2.1 153 = .ok (.iload_n 1, 1) := by decide +kernel
theorem d_Li_joined_154 : decode q_Li_joined.2.1 154 = .ok (.iload_n 2, 1) := by decide +kernel
theorem d_Li_joined_155 : decode q_Li_joined.2.1 155 = .ok (.if_icmp .ne 7, 3) := by decide +kernel
theorem d_Li_joined_158 : decode q_Li_joined.2.1 158 = .ok (.iconst 1, 1) := by decide +kernel
theorem d_Li_joined_159 : decode q_Li_joined.2.1 159 = .ok (.goto 4, 3) := by decide +kernel
theorem d_Li_joined_162 : decode q_Li_joined.2.1 162 = .ok (.iconst 0, 1) := by decide +kernel
theorem d_Li_joined_163 : decode q_Li_joined.2.1 163 = .ok (.ireturn, 1) := by decide +kernel
theorem d_Li_joined_175 : decode q_Li_joined.2.1 175 = .ok (.iload_n 1, 1) := by decide +kernel
theorem d_Li_joined_176 : decode q_Li_joined.2.1 176 = .ok (.iload_n 2, 1) := by decide +kernel
theorem d_Li_joined_177 : decode q_Li_joined.2.1 177 = .ok (.if_icmp .le 7, 3) := by decide +kernel
theorem d_Li_joined_184 : decode q_Li_joined.2.1 184 = .ok (.iconst 0, 1) := by decide +kernel
theorem d_Li_joined_180 : decode q_Li_joined.2.1 180 = .ok (.iconst 1, 1) := by decide +kernel
theorem d_Li_joined_181 : decode q_Li_joined.2.1 181 = .ok (.goto 4, 3) := by decide +kernel
theorem d_Li_joined_185 : decode q_Li_joined.2.1 185 = .ok (.ireturn, 1) := by decide +kernel
theorem d_Li_joined_190 : decode q_Li_joined.2.1 190 = .ok (.iload_n 1, 1) := by decide +kernel
theorem d_Li_joined_191 : decode q_Li_joined.2.1 191 = .ok (.iload_n 2, 1) := by decide +kernel
theorem d_Li_joined_192 : decode q_Li_joined.2.1 192 = .ok (.ior, 1) := by decide +kernel
theorem d_Li_joined_193 : decode q_Li_joined.2.1 193 = .ok (.ireturn, 1) := by decide +kernel
theorem d_LR_isComparison_0 : decode q_LR_isComparison.2.1 0 = .ok (.iload_n 0, 1) := by decide +kernel
theorem d_LR_isComparison_1 : decode q_LR_isComparison.2.1 1 = .ok (.bipush 61, 2) := by decide +kernel
theorem d_LR_isComparison_3 : decode q_LR_isComparison.2.1 3 = .ok (.if_icmp .eq 15, 3) := by decide +kernel
theorem d_LR_isComparison_18 : decode q_LR_isComparison.2.1 18 = .ok (.iconst 1, 1) := by decide +kernel
theorem d_LR_isComparison_19 : decode q_LR_isComparison.2.1 19 = .ok (.goto 4, 3) := by decide +kernel
theorem d_LR_isComparison_6 : decode q_LR_isComparison.2.1 6 = .ok (.iload_n 0, 1) := by decide +kernel
theorem d_LR_isComparison_7 : decode q_LR_isComparison.2.1 7 = .ok (.bipush 60, 2) := by decide +kernel
theorem d_LR_isComparison_9 : decode q_LR_isComparison.2.1 9 = .ok (.if_icmp .eq 9, 3) := by decide +kernel
theorem d_LR_isComparison_12 : decode q_LR_isComparison.2.1 12 = .ok (.iload_n 0, 1) := by decide +kernel
theorem d_LR_isComparison_13 : decode q_LR_isComparison.2.1 13 = .ok (.bipush 62, 2) := by decide +kernel
theorem d_LR_isComparison_15 : decode q_LR_isComparison.2.1 15 = .ok (.if_icmp .ne 7, 3) := by decide +kernel
theorem d_LR_isComparison_22 : decode q_LR_isComparison.2.1 22 = .ok (.iconst 0, 1) := by decide +kernel
theorem d_LR_isComparison_23 : decode q_LR_isComparison.2.1 23 = .ok (.ireturn, 1) := by decide +kernel
theorem d_Ph_add_0 : decode q_Ph_add.2.1 0 = .ok (.aload_n 0, 1) := by decide +kernel
theorem d_Ph_add_1 : decode q_Ph_add.2.1 1 = .ok (.getfield 22, 3) := by decide +kernel
theorem fl_Ph_22 : rx_F "GlassRoom$Photos" 22 8 3 := ⟨(RX8, TX8, 4), rfl, by decide, (rx_s2 88 rfl rfl), rx_T8⟩
theorem d_Ph_add_4 : decode q_Ph_add.2.1 4 = .ok (.bipush 12, 2) := by decide +kernel
theorem d_Ph_add_6 : decode q_Ph_add.2.1 6 = .ok (.if_icmp .ge 33, 3) := by decide +kernel
theorem d_Ph_add_9 : decode q_Ph_add.2.1 9 = .ok (.aload_n 0, 1) := by decide +kernel
theorem d_Ph_add_10 : decode q_Ph_add.2.1 10 = .ok (.getfield 9, 3) := by decide +kernel
theorem fl_Ph_9 : rx_F "GlassRoom$Photos" 9 8 1 := ⟨(RX8, TX8, 4), rfl, by decide, (rx_s2 86 rfl rfl), rx_T8⟩
theorem d_Ph_add_13 : decode q_Ph_add.2.1 13 = .ok (.aload_n 0, 1) := by decide +kernel
theorem d_Ph_add_14 : decode q_Ph_add.2.1 14 = .ok (.getfield 22, 3) := by decide +kernel
theorem d_Ph_add_17 : decode q_Ph_add.2.1 17 = .ok (.iload_n 1, 1) := by decide +kernel
theorem d_Ph_add_39 : decode q_Ph_add.2.1 39 = .ok (.return_, 1) := by decide +kernel
theorem d_Ph_add_18 : decode q_Ph_add.2.1 18 = .ok (.iastore, 1) := by decide +kernel
theorem d_Ph_add_19 : decode q_Ph_add.2.1 19 = .ok (.aload_n 0, 1) := by decide +kernel
theorem d_Ph_add_20 : decode q_Ph_add.2.1 20 = .ok (.getfield 15, 3) := by decide +kernel
theorem fl_Ph_15 : rx_F "GlassRoom$Photos" 15 8 2 := ⟨(RX8, TX8, 4), rfl, by decide, (rx_s2 87 rfl rfl), rx_T8⟩
theorem d_Ph_add_23 : decode q_Ph_add.2.1 23 = .ok (.aload_n 0, 1) := by decide +kernel
theorem d_Ph_add_24 : decode q_Ph_add.2.1 24 = .ok (.getfield 22, 3) := by decide +kernel
theorem d_Ph_add_27 : decode q_Ph_add.2.1 27 = .ok (.iload_n 2, 1) := by decide +kernel
theorem d_Ph_add_28 : decode q_Ph_add.2.1 28 = .ok (.iastore, 1) := by decide +kernel
theorem d_Ph_add_29 : decode q_Ph_add.2.1 29 = .ok (.aload_n 0, 1) := by decide +kernel
theorem d_Ph_add_30 : decode q_Ph_add.2.1 30 = .ok (.dup, 1) := by decide +kernel
theorem d_Ph_add_31 : decode q_Ph_add.2.1 31 = .ok (.getfield 22, 3) := by decide +kernel
theorem d_Ph_add_34 : decode q_Ph_add.2.1 34 = .ok (.iconst 1, 1) := by decide +kernel
theorem d_Ph_add_35 : decode q_Ph_add.2.1 35 = .ok (.iadd, 1) := by decide +kernel
theorem d_Ph_add_36 : decode q_Ph_add.2.1 36 = .ok (.putfield 22, 3) := by decide +kernel
theorem fp_Ph_22 : rx_FP "GlassRoom$Photos" 22 8 3 (.int) := ⟨(RX8, TX8, 4), tyX8, rfl, by decide, (rx_s2 88 rfl rfl), rx_T8, tyX8_ok, nmX8, rfl, rfl⟩
theorem d_Si_isBetween_0 : decode q_Si_isBetween.2.1 0 = .ok (.iload_n 1, 1) := by decide +kernel
theorem d_Si_isBetween_1 : decode q_Si_isBetween.2.1 1 = .ok (.ifCond .le 20, 3) := by decide +kernel
theorem d_Si_isBetween_21 : decode q_Si_isBetween.2.1 21 = .ok (.iload_n 0, 1) := by decide +kernel
theorem d_Si_isBetween_22 : decode q_Si_isBetween.2.1 22 = .ok (.ifCond .ge 12, 3) := by decide +kernel
theorem d_Si_isBetween_34 : decode q_Si_isBetween.2.1 34 = .ok (.iconst 0, 1) := by decide +kernel
theorem d_Si_isBetween_25 : decode q_Si_isBetween.2.1 25 = .ok (.iload_n 0, 1) := by decide +kernel
theorem d_Si_isBetween_26 : decode q_Si_isBetween.2.1 26 = .ok (.iload_n 1, 1) := by decide +kernel
theorem d_Si_isBetween_27 : decode q_Si_isBetween.2.1 27 = .ok (.if_icmp .le 7, 3) := by decide +kernel
theorem d_Si_isBetween_30 : decode q_Si_isBetween.2.1 30 = .ok (.iconst 1, 1) := by decide +kernel
theorem d_Si_isBetween_31 : decode q_Si_isBetween.2.1 31 = .ok (.goto 4, 3) := by decide +kernel
theorem d_Si_isBetween_4 : decode q_Si_isBetween.2.1 4 = .ok (.iload_n 0, 1) := by decide +kernel
theorem d_Si_isBetween_5 : decode q_Si_isBetween.2.1 5 = .ok (.ifCond .le 12, 3) := by decide +kernel
theorem d_Si_isBetween_17 : decode q_Si_isBetween.2.1 17 = .ok (.iconst 0, 1) := by decide +kernel
theorem d_Si_isBetween_18 : decode q_Si_isBetween.2.1 18 = .ok (.goto 17, 3) := by decide +kernel
theorem d_Si_isBetween_8 : decode q_Si_isBetween.2.1 8 = .ok (.iload_n 0, 1) := by decide +kernel
theorem d_Si_isBetween_9 : decode q_Si_isBetween.2.1 9 = .ok (.iload_n 1, 1) := by decide +kernel
theorem d_Si_isBetween_10 : decode q_Si_isBetween.2.1 10 = .ok (.if_icmp .ge 7, 3) := by decide +kernel
theorem d_Si_isBetween_13 : decode q_Si_isBetween.2.1 13 = .ok (.iconst 1, 1) := by decide +kernel
theorem d_Si_isBetween_14 : decode q_Si_isBetween.2.1 14 = .ok (.goto 21, 3) := by decide +kernel
theorem d_Si_isBetween_35 : decode q_Si_isBetween.2.1 35 = .ok (.ireturn, 1) := by decide +kernel
theorem d_Hg_offWall_0 : decode q_Hg_offWall.2.1 0 = .ok (.iload_n 2, 1) := by decide +kernel
theorem d_Hg_offWall_1 : decode q_Hg_offWall.2.1 1 = .ok (.tableswitch 65 0 2 #[27, 37, 55], 27) := by decide +kernel
theorem d_Hg_offWall_28 : decode q_Hg_offWall.2.1 28 = .ok (.aload_n 0, 1) := by decide +kernel
theorem d_Hg_offWall_29 : decode q_Hg_offWall.2.1 29 = .ok (.getfield 7, 3) := by decide +kernel
theorem fl_Hg_7 : rx_F "GlassRoom$Hanger" 7 5 0 := ⟨(RX5, TX5, 3), rfl, by decide, (rx_s2 67 rfl rfl), rx_T5⟩
theorem d_Hg_offWall_32 : decode q_Hg_offWall.2.1 32 = .ok (.getfield 45, 3) := by decide +kernel
theorem fl_Hg_45 : rx_F "GlassRoom$Hanger" 45 3 0 := ⟨(RX3, TX3, 9), rfl, by decide, (rx_s1 66 rfl rfl), rx_T3⟩
theorem d_Hg_offWall_35 : decode q_Hg_offWall.2.1 35 = .ok (.iload_n 1, 1) := by decide +kernel
theorem d_Hg_offWall_36 : decode q_Hg_offWall.2.1 36 = .ok (.iaload, 1) := by decide +kernel
theorem d_Hg_offWall_37 : decode q_Hg_offWall.2.1 37 = .ok (.ireturn, 1) := by decide +kernel
theorem d_Hg_offWall_38 : decode q_Hg_offWall.2.1 38 = .ok (.aload_n 0, 1) := by decide +kernel
theorem d_Hg_offWall_39 : decode q_Hg_offWall.2.1 39 = .ok (.getfield 7, 3) := by decide +kernel
theorem d_Hg_offWall_42 : decode q_Hg_offWall.2.1 42 = .ok (.getfield 49, 3) := by decide +kernel
theorem fl_Hg_49 : rx_F "GlassRoom$Hanger" 49 3 5 := ⟨(RX3, TX3, 9), rfl, by decide, (rx_s1 91 rfl rfl), rx_T3⟩
theorem d_Hg_offWall_45 : decode q_Hg_offWall.2.1 45 = .ok (.aload_n 0, 1) := by decide +kernel
theorem d_Hg_offWall_46 : decode q_Hg_offWall.2.1 46 = .ok (.getfield 7, 3) := by decide +kernel
theorem d_Hg_offWall_49 : decode q_Hg_offWall.2.1 49 = .ok (.getfield 45, 3) := by decide +kernel
theorem d_Hg_offWall_52 : decode q_Hg_offWall.2.1 52 = .ok (.iload_n 1, 1) := by decide +kernel
theorem d_Hg_offWall_53 : decode q_Hg_offWall.2.1 53 = .ok (.iaload, 1) := by decide +kernel
theorem d_Hg_offWall_54 : decode q_Hg_offWall.2.1 54 = .ok (.isub, 1) := by decide +kernel
theorem d_Hg_offWall_55 : decode q_Hg_offWall.2.1 55 = .ok (.ireturn, 1) := by decide +kernel
theorem d_Hg_offWall_56 : decode q_Hg_offWall.2.1 56 = .ok (.aload_n 0, 1) := by decide +kernel
theorem d_Hg_offWall_57 : decode q_Hg_offWall.2.1 57 = .ok (.getfield 7, 3) := by decide +kernel
theorem d_Hg_offWall_60 : decode q_Hg_offWall.2.1 60 = .ok (.getfield 52, 3) := by decide +kernel
theorem fl_Hg_52 : rx_F "GlassRoom$Hanger" 52 3 1 := ⟨(RX3, TX3, 9), rfl, by decide, (rx_s1 74 rfl rfl), rx_T3⟩
theorem d_Hg_offWall_63 : decode q_Hg_offWall.2.1 63 = .ok (.iload_n 1, 1) := by decide +kernel
theorem d_Hg_offWall_64 : decode q_Hg_offWall.2.1 64 = .ok (.iaload, 1) := by decide +kernel
theorem d_Hg_offWall_65 : decode q_Hg_offWall.2.1 65 = .ok (.ireturn, 1) := by decide +kernel
theorem d_Hg_offWall_66 : decode q_Hg_offWall.2.1 66 = .ok (.aload_n 0, 1) := by decide +kernel
theorem d_Hg_offWall_67 : decode q_Hg_offWall.2.1 67 = .ok (.getfield 7, 3) := by decide +kernel
theorem d_Hg_offWall_70 : decode q_Hg_offWall.2.1 70 = .ok (.getfield 55, 3) := by decide +kernel
theorem fl_Hg_55 : rx_F "GlassRoom$Hanger" 55 3 6 := ⟨(RX3, TX3, 9), rfl, by decide, (rx_s1 99 rfl rfl), rx_T3⟩
theorem d_Hg_offWall_73 : decode q_Hg_offWall.2.1 73 = .ok (.aload_n 0, 1) := by decide +kernel
theorem d_Hg_offWall_74 : decode q_Hg_offWall.2.1 74 = .ok (.getfield 7, 3) := by decide +kernel
theorem d_Hg_offWall_77 : decode q_Hg_offWall.2.1 77 = .ok (.getfield 52, 3) := by decide +kernel
theorem d_Hg_offWall_80 : decode q_Hg_offWall.2.1 80 = .ok (.iload_n 1, 1) := by decide +kernel
theorem d_Hg_offWall_81 : decode q_Hg_offWall.2.1 81 = .ok (.iaload, 1) := by decide +kernel
theorem d_Hg_offWall_82 : decode q_Hg_offWall.2.1 82 = .ok (.isub, 1) := by decide +kernel
theorem d_Hg_offWall_83 : decode q_Hg_offWall.2.1 83 = .ok (.ireturn, 1) := by decide +kernel
theorem d_Hg_alongWall_0 : decode q_Hg_alongWall.2.1 0 = .ok (.iload_n 2, 1) := by decide +kernel
theorem d_Hg_alongWall_1 : decode q_Hg_alongWall.2.1 1 = .ok (.iconst 1, 1) := by decide +kernel
theorem d_Hg_alongWall_2 : decode q_Hg_alongWall.2.1 2 = .ok (.if_icmp .gt 15, 3) := by decide +kernel
theorem d_Hg_alongWall_17 : decode q_Hg_alongWall.2.1 17 = .ok (.aload_n 0, 1) := by decide +kernel
theorem d_Hg_alongWall_18 : decode q_Hg_alongWall.2.1 18 = .ok (.getfield 7, 3) := by decide +kernel
theorem d_Hg_alongWall_21 : decode q_Hg_alongWall.2.1 21 = .ok (.getfield 45, 3) := by decide +kernel
theorem d_Hg_alongWall_24 : decode q_Hg_alongWall.2.1 24 = .ok (.iload_n 1, 1) := by decide +kernel
theorem d_Hg_alongWall_25 : decode q_Hg_alongWall.2.1 25 = .ok (.iaload, 1) := by decide +kernel
theorem d_Hg_alongWall_26 : decode q_Hg_alongWall.2.1 26 = .ok (.ireturn, 1) := by decide +kernel
theorem d_Hg_alongWall_5 : decode q_Hg_alongWall.2.1 5 = .ok (.aload_n 0, 1) := by decide +kernel
theorem d_Hg_alongWall_6 : decode q_Hg_alongWall.2.1 6 = .ok (.getfield 7, 3) := by decide +kernel
theorem d_Hg_alongWall_9 : decode q_Hg_alongWall.2.1 9 = .ok (.getfield 52, 3) := by decide +kernel
theorem d_Hg_alongWall_12 : decode q_Hg_alongWall.2.1 12 = .ok (.iload_n 1, 1) := by decide +kernel
theorem d_Hg_alongWall_13 : decode q_Hg_alongWall.2.1 13 = .ok (.iaload, 1) := by decide +kernel
theorem d_Hg_alongWall_14 : decode q_Hg_alongWall.2.1 14 = .ok (.goto 12, 3) := by decide +kernel
theorem d_Ba_placeNumber_0 : decode q_Ba_placeNumber.2.1 0 = .ok (.iload_n 0, 1) := by decide +kernel
theorem d_Ba_placeNumber_1 : decode q_Ba_placeNumber.2.1 1 = .ok (.sipush 1000, 3) := by decide +kernel
theorem sp_1000 : (Int16.ofInt (1000)).toInt32 = (1000 : Int32) := by decide
theorem d_Ba_placeNumber_4 : decode q_Ba_placeNumber.2.1 4 = .ok (.imul, 1) := by decide +kernel
theorem d_Ba_placeNumber_5 : decode q_Ba_placeNumber.2.1 5 = .ok (.iload_n 1, 1) := by decide +kernel
theorem d_Ba_placeNumber_6 : decode q_Ba_placeNumber.2.1 6 = .ok (.iadd, 1) := by decide +kernel
theorem d_Ba_placeNumber_7 : decode q_Ba_placeNumber.2.1 7 = .ok (.ireturn, 1) := by decide +kernel
theorem d_GR_glasses_0 : decode q_GR_glasses.2.1 0 = .ok (.iload_n 0, 1) := by decide +kernel
theorem d_GR_glasses_1 : decode q_GR_glasses.2.1 1 = .ok (.invokestatic 288, 3) := by decide +kernel
theorem ml_GR_288 : rx_CS "GlassRoom" 288 q_Mt_abs 1 := ⟨⟨(rx_s3 188 rfl rfl), (rx_s3 189 rfl rfl)⟩, ⟨(rx_s1 16 rfl rfl), q_Mt_abs_k, ⟨by decide, by decide, by decide +kernel⟩, by decide⟩⟩
theorem d_GR_glasses_4 : decode q_GR_glasses.2.1 4 = .ok (.iload_n 1, 1) := by decide +kernel
theorem d_GR_glasses_5 : decode q_GR_glasses.2.1 5 = .ok (.invokestatic 288, 3) := by decide +kernel
theorem d_GR_glasses_8 : decode q_GR_glasses.2.1 8 = .ok (.iadd, 1) := by decide +kernel
theorem d_GR_glasses_9 : decode q_GR_glasses.2.1 9 = .ok (.ireturn, 1) := by decide +kernel
theorem d_GR_isTurned_0 : decode q_GR_isTurned.2.1 0 = .ok (.iload_n 0, 1) := by decide +kernel
theorem d_GR_isTurned_1 : decode q_GR_isTurned.2.1 1 = .ok (.iload_n 1, 1) := by decide +kernel
theorem d_GR_isTurned_2 : decode q_GR_isTurned.2.1 2 = .ok (.invokestatic 210, 3) := by decide +kernel
theorem ml_GR_210 : rx_CS "GlassRoom" 210 q_GR_glasses 2 := ⟨⟨(rx_s3 185 rfl rfl), (rx_s3 186 rfl rfl)⟩, ⟨(rx_s1 1 rfl rfl), q_GR_glasses_k, ⟨by decide, by decide, by decide +kernel⟩, by decide⟩⟩
theorem d_GR_isTurned_5 : decode q_GR_isTurned.2.1 5 = .ok (.iconst 1, 1) := by decide +kernel
theorem d_GR_isTurned_6 : decode q_GR_isTurned.2.1 6 = .ok (.iand, 1) := by decide +kernel
theorem d_GR_isTurned_7 : decode q_GR_isTurned.2.1 7 = .ok (.iconst 1, 1) := by decide +kernel
theorem d_GR_isTurned_8 : decode q_GR_isTurned.2.1 8 = .ok (.if_icmp .ne 7, 3) := by decide +kernel
theorem d_GR_isTurned_11 : decode q_GR_isTurned.2.1 11 = .ok (.iconst 1, 1) := by decide +kernel
theorem d_GR_isTurned_12 : decode q_GR_isTurned.2.1 12 = .ok (.goto 4, 3) := by decide +kernel
theorem d_GR_isTurned_15 : decode q_GR_isTurned.2.1 15 = .ok (.iconst 0, 1) := by decide +kernel
theorem d_GR_isTurned_16 : decode q_GR_isTurned.2.1 16 = .ok (.ireturn, 1) := by decide +kernel
theorem d_GR_isWay_0 : decode q_GR_isWay.2.1 0 = .ok (.iload_n 0, 1) := by decide +kernel
theorem d_GR_isWay_1 : decode q_GR_isWay.2.1 1 = .ok (.bipush (-9), 2) := by decide +kernel
theorem bp_m9 : (Int8.ofInt (-9)).toInt32 = (-9 : Int32) := by decide
theorem d_GR_isWay_3 : decode q_GR_isWay.2.1 3 = .ok (.if_icmp .lt 33, 3) := by decide +kernel
theorem d_GR_isWay_36 : decode q_GR_isWay.2.1 36 = .ok (.iconst 0, 1) := by decide +kernel
theorem d_GR_isWay_6 : decode q_GR_isWay.2.1 6 = .ok (.iload_n 0, 1) := by decide +kernel
theorem d_GR_isWay_7 : decode q_GR_isWay.2.1 7 = .ok (.bipush 9, 2) := by decide +kernel
theorem bp_9 : (Int8.ofInt (9)).toInt32 = (9 : Int32) := by decide
theorem d_GR_isWay_9 : decode q_GR_isWay.2.1 9 = .ok (.if_icmp .gt 27, 3) := by decide +kernel
theorem d_GR_isWay_12 : decode q_GR_isWay.2.1 12 = .ok (.iload_n 1, 1) := by decide +kernel
theorem d_GR_isWay_13 : decode q_GR_isWay.2.1 13 = .ok (.bipush (-9), 2) := by decide +kernel
theorem d_GR_isWay_15 : decode q_GR_isWay.2.1 15 = .ok (.if_icmp .lt 21, 3) := by decide +kernel
theorem d_GR_isWay_18 : decode q_GR_isWay.2.1 18 = .ok (.iload_n 1, 1) := by decide +kernel
theorem d_GR_isWay_19 : decode q_GR_isWay.2.1 19 = .ok (.bipush 9, 2) := by decide +kernel
theorem d_GR_isWay_21 : decode q_GR_isWay.2.1 21 = .ok (.if_icmp .gt 15, 3) := by decide +kernel
theorem d_GR_isWay_24 : decode q_GR_isWay.2.1 24 = .ok (.iload_n 0, 1) := by decide +kernel
theorem d_GR_isWay_25 : decode q_GR_isWay.2.1 25 = .ok (.ifCond .ne 7, 3) := by decide +kernel
theorem d_GR_isWay_28 : decode q_GR_isWay.2.1 28 = .ok (.iload_n 1, 1) := by decide +kernel
theorem d_GR_isWay_29 : decode q_GR_isWay.2.1 29 = .ok (.ifCond .eq 7, 3) := by decide +kernel
theorem d_GR_isWay_32 : decode q_GR_isWay.2.1 32 = .ok (.iconst 1, 1) := by decide +kernel
theorem d_GR_isWay_33 : decode q_GR_isWay.2.1 33 = .ok (.goto 4, 3) := by decide +kernel
theorem d_GR_isWay_37 : decode q_GR_isWay.2.1 37 = .ok (.ireturn, 1) := by decide +kernel
theorem d_GR_isWallPart_0 : decode q_GR_isWallPart.2.1 0 = .ok (.iload_n 0, 1) := by decide +kernel
theorem d_GR_isWallPart_1 : decode q_GR_isWallPart.2.1 1 = .ok (.ifCond .lt 21, 3) := by decide +kernel
theorem d_GR_isWallPart_22 : decode q_GR_isWallPart.2.1 22 = .ok (.iconst 0, 1) := by decide +kernel
theorem d_GR_isWallPart_4 : decode q_GR_isWallPart.2.1 4 = .ok (.iload_n 0, 1) := by decide +kernel
theorem d_GR_isWallPart_5 : decode q_GR_isWallPart.2.1 5 = .ok (.iconst 3, 1) := by decide +kernel
theorem d_GR_isWallPart_6 : decode q_GR_isWallPart.2.1 6 = .ok (.if_icmp .gt 16, 3) := by decide +kernel
theorem d_GR_isWallPart_9 : decode q_GR_isWallPart.2.1 9 = .ok (.iload_n 1, 1) := by decide +kernel
theorem d_GR_isWallPart_10 : decode q_GR_isWallPart.2.1 10 = .ok (.ifCond .lt 12, 3) := by decide +kernel
theorem d_GR_isWallPart_13 : decode q_GR_isWallPart.2.1 13 = .ok (.iload_n 1, 1) := by decide +kernel
theorem d_GR_isWallPart_14 : decode q_GR_isWallPart.2.1 14 = .ok (.iconst 1, 1) := by decide +kernel
theorem d_GR_isWallPart_15 : decode q_GR_isWallPart.2.1 15 = .ok (.if_icmp .gt 7, 3) := by decide +kernel
theorem d_GR_isWallPart_18 : decode q_GR_isWallPart.2.1 18 = .ok (.iconst 1, 1) := by decide +kernel
theorem d_GR_isWallPart_19 : decode q_GR_isWallPart.2.1 19 = .ok (.goto 4, 3) := by decide +kernel
theorem d_GR_isWallPart_23 : decode q_GR_isWallPart.2.1 23 = .ok (.ireturn, 1) := by decide +kernel
theorem d_GR_throwsOf_0 : decode q_GR_throwsOf.2.1 0 = .ok (.iload_n 0, 1) := by decide +kernel
theorem d_GR_throwsOf_1 : decode q_GR_throwsOf.2.1 1 = .ok (.iconst 1, 1) := by decide +kernel
theorem d_GR_throwsOf_2 : decode q_GR_throwsOf.2.1 2 = .ok (.if_icmp .ge 7, 3) := by decide +kernel
theorem d_GR_throwsOf_9 : decode q_GR_throwsOf.2.1 9 = .ok (.sipush 180, 3) := by decide +kernel
theorem sp_180 : (Int16.ofInt (180)).toInt32 = (180 : Int32) := by decide
theorem d_GR_throwsOf_12 : decode q_GR_throwsOf.2.1 12 = .ok (.iload_n 1, 1) := by decide +kernel
theorem d_GR_throwsOf_13 : decode q_GR_throwsOf.2.1 13 = .ok (.isub, 1) := by decide +kernel
theorem d_GR_throwsOf_14 : decode q_GR_throwsOf.2.1 14 = .ok (.iload_n 0, 1) := by decide +kernel
theorem d_GR_throwsOf_15 : decode q_GR_throwsOf.2.1 15 = .ok (.iadd, 1) := by decide +kernel
theorem d_GR_throwsOf_16 : decode q_GR_throwsOf.2.1 16 = .ok (.iconst 1, 1) := by decide +kernel
theorem d_GR_throwsOf_17 : decode q_GR_throwsOf.2.1 17 = .ok (.isub, 1) := by decide +kernel
theorem d_GR_throwsOf_18 : decode q_GR_throwsOf.2.1 18 = .ok (.iload_n 0, 1) := by decide +kernel
theorem d_GR_throwsOf_19 : decode q_GR_throwsOf.2.1 19 = .ok (.idiv, 1) := by decide +kernel
theorem d_GR_throwsOf_20 : decode q_GR_throwsOf.2.1 20 = .ok (.ireturn, 1) := by decide +kernel
theorem d_GR_throwsOf_5 : decode q_GR_throwsOf.2.1 5 = .ok (.iconst 0, 1) := by decide +kernel
theorem d_GR_throwsOf_6 : decode q_GR_throwsOf.2.1 6 = .ok (.goto 14, 3) := by decide +kernel
theorem d_GR_endOf_0 : decode q_GR_endOf.2.1 0 = .ok (.iload_n 0, 1) := by decide +kernel
theorem d_GR_endOf_1 : decode q_GR_endOf.2.1 1 = .ok (.iload_n 1, 1) := by decide +kernel
theorem d_GR_endOf_2 : decode q_GR_endOf.2.1 2 = .ok (.invokestatic 343, 3) := by decide +kernel
theorem ml_GR_343 : rx_CS "GlassRoom" 343 q_GR_throwsOf 2 := ⟨⟨(rx_s4 187 rfl rfl), (rx_s4 188 rfl rfl)⟩, ⟨(rx_s1 1 rfl rfl), q_GR_throwsOf_k, ⟨by decide, by decide, by decide +kernel⟩, by decide⟩⟩
theorem d_GR_endOf_5 : decode q_GR_endOf.2.1 5 = .ok (.istore_n 2, 1) := by decide +kernel
theorem d_GR_endOf_6 : decode q_GR_endOf.2.1 6 = .ok (.iload_n 2, 1) := by decide +kernel
theorem d_GR_endOf_7 : decode q_GR_endOf.2.1 7 = .ok (.iconst 1, 1) := by decide +kernel
theorem d_GR_endOf_8 : decode q_GR_endOf.2.1 8 = .ok (.iand, 1) := by decide +kernel
theorem d_GR_endOf_9 : decode q_GR_endOf.2.1 9 = .ok (.iconst 1, 1) := by decide +kernel
theorem d_GR_endOf_10 : decode q_GR_endOf.2.1 10 = .ok (.if_icmp .ne 14, 3) := by decide +kernel
theorem d_GR_endOf_13 : decode q_GR_endOf.2.1 13 = .ok (.iload_n 1, 1) := by decide +kernel
theorem d_GR_endOf_14 : decode q_GR_endOf.2.1 14 = .ok (.ineg, 1) := by decide +kernel
theorem d_GR_endOf_15 : decode q_GR_endOf.2.1 15 = .ok (.iload_n 2, 1) := by decide +kernel
theorem d_GR_endOf_16 : decode q_GR_endOf.2.1 16 = .ok (.iconst 1, 1) := by decide +kernel
theorem d_GR_endOf_17 : decode q_GR_endOf.2.1 17 = .ok (.isub, 1) := by decide +kernel
theorem d_GR_endOf_18 : decode q_GR_endOf.2.1 18 = .ok (.iload_n 0, 1) := by decide +kernel
theorem d_GR_endOf_19 : decode q_GR_endOf.2.1 19 = .ok (.imul, 1) := by decide +kernel
theorem d_GR_endOf_20 : decode q_GR_endOf.2.1 20 = .ok (.isub, 1) := by decide +kernel
theorem d_GR_endOf_21 : decode q_GR_endOf.2.1 21 = .ok (.goto 8, 3) := by decide +kernel
theorem d_GR_endOf_24 : decode q_GR_endOf.2.1 24 = .ok (.iload_n 1, 1) := by decide +kernel
theorem d_GR_endOf_25 : decode q_GR_endOf.2.1 25 = .ok (.iload_n 2, 1) := by decide +kernel
theorem d_GR_endOf_26 : decode q_GR_endOf.2.1 26 = .ok (.iload_n 0, 1) := by decide +kernel
theorem d_GR_endOf_27 : decode q_GR_endOf.2.1 27 = .ok (.imul, 1) := by decide +kernel
theorem d_GR_endOf_28 : decode q_GR_endOf.2.1 28 = .ok (.iadd, 1) := by decide +kernel
theorem d_GR_endOf_29 : decode q_GR_endOf.2.1 29 = .ok (.ireturn, 1) := by decide +kernel
theorem d_GR_endsMeet_0 : decode q_GR_endsMeet.2.1 0 = .ok (.iload_n 0, 1) := by decide +kernel
theorem d_GR_endsMeet_1 : decode q_GR_endsMeet.2.1 1 = .ok (.iload_n 1, 1) := by decide +kernel
theorem d_GR_endsMeet_2 : decode q_GR_endsMeet.2.1 2 = .ok (.invokestatic 349, 3) := by decide +kernel
theorem ml_GR_349 : rx_CS "GlassRoom" 349 q_GR_endOf 2 := ⟨⟨(rx_s4 193 rfl rfl), (rx_s4 194 rfl rfl)⟩, ⟨(rx_s1 1 rfl rfl), q_GR_endOf_k, ⟨by decide, by decide, by decide +kernel⟩, by decide⟩⟩
theorem d_GR_endsMeet_5 : decode q_GR_endsMeet.2.1 5 = .ok (.iload_n 0, 1) := by decide +kernel
theorem d_GR_endsMeet_6 : decode q_GR_endsMeet.2.1 6 = .ok (.iload_n 0, 1) := by decide +kernel
theorem d_GR_endsMeet_7 : decode q_GR_endsMeet.2.1 7 = .ok (.iload_n 0, 1) := by decide +kernel
theorem d_GR_endsMeet_8 : decode q_GR_endsMeet.2.1 8 = .ok (.iload_n 1, 1) := by decide +kernel
theorem d_GR_endsMeet_9 : decode q_GR_endsMeet.2.1 9 = .ok (.isub, 1) := by decide +kernel
theorem d_GR_endsMeet_10 : decode q_GR_endsMeet.2.1 10 = .ok (.invokestatic 349, 3) := by decide +kernel
theorem d_GR_endsMeet_13 : decode q_GR_endsMeet.2.1 13 = .ok (.isub, 1) := by decide +kernel
theorem d_GR_endsMeet_14 : decode q_GR_endsMeet.2.1 14 = .ok (.isub, 1) := by decide +kernel
theorem d_GR_endsMeet_15 : decode q_GR_endsMeet.2.1 15 = .ok (.sipush 360, 3) := by decide +kernel
theorem sp_360 : (Int16.ofInt (360)).toInt32 = (360 : Int32) := by decide
theorem d_GR_endsMeet_18 : decode q_GR_endsMeet.2.1 18 = .ok (.invokestatic 352, 3) := by decide +kernel
theorem ml_GR_352 : rx_CS "GlassRoom" 352 q_Mt_floorMod 2 := ⟨⟨(rx_s4 196 rfl rfl), (rx_s4 197 rfl rfl)⟩, ⟨(rx_s1 16 rfl rfl), q_Mt_floorMod_k, ⟨by decide, by decide, by decide +kernel⟩, by decide⟩⟩
theorem d_GR_endsMeet_21 : decode q_GR_endsMeet.2.1 21 = .ok (.ifCond .ne 7, 3) := by decide +kernel
theorem d_GR_endsMeet_24 : decode q_GR_endsMeet.2.1 24 = .ok (.iconst 1, 1) := by decide +kernel
theorem d_GR_endsMeet_25 : decode q_GR_endsMeet.2.1 25 = .ok (.goto 4, 3) := by decide +kernel
theorem d_GR_endsMeet_28 : decode q_GR_endsMeet.2.1 28 = .ok (.iconst 0, 1) := by decide +kernel
theorem d_GR_endsMeet_29 : decode q_GR_endsMeet.2.1 29 = .ok (.ireturn, 1) := by decide +kernel
theorem d_GR_unlikePlaces_0 : decode q_GR_unlikePlaces.2.1 0 = .ok (.iload_n 0, 1) := by decide +kernel
theorem d_GR_unlikePlaces_1 : decode q_GR_unlikePlaces.2.1 1 = .ok (.iload_n 1, 1) := by decide +kernel
theorem d_GR_unlikePlaces_2 : decode q_GR_unlikePlaces.2.1 2 = .ok (.invokestatic 343, 3) := by decide +kernel
theorem d_GR_unlikePlaces_5 : decode q_GR_unlikePlaces.2.1 5 = .ok (.iload_n 0, 1) := by decide +kernel
theorem d_GR_unlikePlaces_6 : decode q_GR_unlikePlaces.2.1 6 = .ok (.iload_n 0, 1) := by decide +kernel
theorem d_GR_unlikePlaces_7 : decode q_GR_unlikePlaces.2.1 7 = .ok (.iload_n 1, 1) := by decide +kernel
theorem d_GR_unlikePlaces_8 : decode q_GR_unlikePlaces.2.1 8 = .ok (.isub, 1) := by decide +kernel
theorem d_GR_unlikePlaces_9 : decode q_GR_unlikePlaces.2.1 9 = .ok (.invokestatic 343, 3) := by decide +kernel
theorem d_GR_unlikePlaces_12 : decode q_GR_unlikePlaces.2.1 12 = .ok (.iadd, 1) := by decide +kernel
theorem d_GR_unlikePlaces_13 : decode q_GR_unlikePlaces.2.1 13 = .ok (.iload_n 0, 1) := by decide +kernel
theorem d_GR_unlikePlaces_14 : decode q_GR_unlikePlaces.2.1 14 = .ok (.iload_n 1, 1) := by decide +kernel
theorem d_GR_unlikePlaces_15 : decode q_GR_unlikePlaces.2.1 15 = .ok (.invokestatic 346, 3) := by decide +kernel
theorem ml_GR_346 : rx_CS "GlassRoom" 346 q_GR_endsMeet 2 := ⟨⟨(rx_s4 190 rfl rfl), (rx_s4 191 rfl rfl)⟩, ⟨(rx_s1 1 rfl rfl), q_GR_endsMeet_k, ⟨by decide, by decide, by decide +kernel⟩, by decide⟩⟩
theorem d_GR_unlikePlaces_18 : decode q_GR_unlikePlaces.2.1 18 = .ok (.ifCond .eq 7, 3) := by decide +kernel
theorem d_GR_unlikePlaces_25 : decode q_GR_unlikePlaces.2.1 25 = .ok (.iconst 0, 1) := by decide +kernel
theorem d_GR_unlikePlaces_21 : decode q_GR_unlikePlaces.2.1 21 = .ok (.iconst 1, 1) := by decide +kernel
theorem d_GR_unlikePlaces_22 : decode q_GR_unlikePlaces.2.1 22 = .ok (.goto 4, 3) := by decide +kernel
theorem d_GR_unlikePlaces_26 : decode q_GR_unlikePlaces.2.1 26 = .ok (.isub, 1) := by decide +kernel
theorem d_GR_unlikePlaces_27 : decode q_GR_unlikePlaces.2.1 27 = .ok (.ireturn, 1) := by decide +kernel
theorem d_GR_turnedPlaces_0 : decode q_GR_turnedPlaces.2.1 0 = .ok (.iload_n 0, 1) := by decide +kernel
theorem d_GR_turnedPlaces_1 : decode q_GR_turnedPlaces.2.1 1 = .ok (.iload_n 0, 1) := by decide +kernel
theorem d_GR_turnedPlaces_2 : decode q_GR_turnedPlaces.2.1 2 = .ok (.iload_n 1, 1) := by decide +kernel
theorem d_GR_turnedPlaces_3 : decode q_GR_turnedPlaces.2.1 3 = .ok (.isub, 1) := by decide +kernel
theorem d_GR_turnedPlaces_4 : decode q_GR_turnedPlaces.2.1 4 = .ok (.invokestatic 343, 3) := by decide +kernel
theorem d_GR_turnedPlaces_7 : decode q_GR_turnedPlaces.2.1 7 = .ok (.istore_n 2, 1) := by decide +kernel
theorem d_GR_turnedPlaces_8 : decode q_GR_turnedPlaces.2.1 8 = .ok (.iload_n 0, 1) := by decide +kernel
theorem d_GR_turnedPlaces_9 : decode q_GR_turnedPlaces.2.1 9 = .ok (.iload_n 1, 1) := by decide +kernel
theorem d_GR_turnedPlaces_10 : decode q_GR_turnedPlaces.2.1 10 = .ok (.invokestatic 343, 3) := by decide +kernel
theorem d_GR_turnedPlaces_13 : decode q_GR_turnedPlaces.2.1 13 = .ok (.iconst 1, 1) := by decide +kernel
theorem d_GR_turnedPlaces_14 : decode q_GR_turnedPlaces.2.1 14 = .ok (.iadd, 1) := by decide +kernel
theorem d_GR_turnedPlaces_15 : decode q_GR_turnedPlaces.2.1 15 = .ok (.iconst 2, 1) := by decide +kernel
theorem d_GR_turnedPlaces_16 : decode q_GR_turnedPlaces.2.1 16 = .ok (.idiv, 1) := by decide +kernel
theorem d_GR_turnedPlaces_17 : decode q_GR_turnedPlaces.2.1 17 = .ok (.iload_n 2, 1) := by decide +kernel
theorem d_GR_turnedPlaces_18 : decode q_GR_turnedPlaces.2.1 18 = .ok (.iconst 1, 1) := by decide +kernel
theorem d_GR_turnedPlaces_19 : decode q_GR_turnedPlaces.2.1 19 = .ok (.iadd, 1) := by decide +kernel
theorem d_GR_turnedPlaces_20 : decode q_GR_turnedPlaces.2.1 20 = .ok (.iconst 2, 1) := by decide +kernel
theorem d_GR_turnedPlaces_21 : decode q_GR_turnedPlaces.2.1 21 = .ok (.idiv, 1) := by decide +kernel
theorem d_GR_turnedPlaces_22 : decode q_GR_turnedPlaces.2.1 22 = .ok (.iadd, 1) := by decide +kernel
theorem d_GR_turnedPlaces_23 : decode q_GR_turnedPlaces.2.1 23 = .ok (.istore_n 3, 1) := by decide +kernel
theorem d_GR_turnedPlaces_24 : decode q_GR_turnedPlaces.2.1 24 = .ok (.iload_n 0, 1) := by decide +kernel
theorem d_GR_turnedPlaces_25 : decode q_GR_turnedPlaces.2.1 25 = .ok (.iload_n 1, 1) := by decide +kernel
theorem d_GR_turnedPlaces_26 : decode q_GR_turnedPlaces.2.1 26 = .ok (.invokestatic 346, 3) := by decide +kernel
theorem d_GR_turnedPlaces_29 : decode q_GR_turnedPlaces.2.1 29 = .ok (.ifCond .eq 11, 3) := by decide +kernel
theorem d_GR_turnedPlaces_40 : decode q_GR_turnedPlaces.2.1 40 = .ok (.iload_n 3, 1) := by decide +kernel
theorem d_GR_turnedPlaces_32 : decode q_GR_turnedPlaces.2.1 32 = .ok (.iload_n 3, 1) := by decide +kernel
theorem d_GR_turnedPlaces_33 : decode q_GR_turnedPlaces.2.1 33 = .ok (.iload_n 2, 1) := by decide +kernel
theorem d_GR_turnedPlaces_34 : decode q_GR_turnedPlaces.2.1 34 = .ok (.iconst 1, 1) := by decide +kernel
theorem d_GR_turnedPlaces_35 : decode q_GR_turnedPlaces.2.1 35 = .ok (.iand, 1) := by decide +kernel
theorem d_GR_turnedPlaces_36 : decode q_GR_turnedPlaces.2.1 36 = .ok (.isub, 1) := by decide +kernel
theorem d_GR_turnedPlaces_37 : decode q_GR_turnedPlaces.2.1 37 = .ok (.goto 4, 3) := by decide +kernel
theorem d_GR_turnedPlaces_41 : decode q_GR_turnedPlaces.2.1 41 = .ok (.ireturn, 1) := by decide +kernel
theorem d_GR_hasImage_0 : decode q_GR_hasImage.2.1 0 = .ok (.aload_n 0, 1) := by decide +kernel
theorem d_GR_hasImage_1 : decode q_GR_hasImage.2.1 1 = .ok (.getfield 19, 3) := by decide +kernel
theorem fl_GR_19 : rx_F "GlassRoom" 19 11 1 := ⟨(RX11, TX11, 17), rfl, by decide, (rx_s2 100 rfl rfl), rx_T11⟩
theorem d_GR_hasImage_4 : decode q_GR_hasImage.2.1 4 = .ok (.iload_n 1, 1) := by decide +kernel
theorem d_GR_hasImage_5 : decode q_GR_hasImage.2.1 5 = .ok (.invokevirtual 144, 3) := by decide +kernel
theorem ml_GR_144 : rx_CV "GlassRoom" 144 q_Ha_has 1 := ⟨⟨(rx_s3 128 rfl rfl), (rx_s3 129 rfl rfl), (rx_s3 130 rfl rfl)⟩, ⟨(rx_s1 3 rfl rfl), q_Ha_has_k, ⟨by decide, by decide, by decide +kernel⟩, by decide⟩⟩
theorem d_GR_hasImage_8 : decode q_GR_hasImage.2.1 8 = .ok (.ifCond .eq 31, 3) := by decide +kernel
theorem d_GR_hasImage_39 : decode q_GR_hasImage.2.1 39 = .ok (.iconst 0, 1) := by decide +kernel
theorem d_GR_hasImage_11 : decode q_GR_hasImage.2.1 11 = .ok (.iload_n 2, 1) := by decide +kernel
theorem d_GR_hasImage_12 : decode q_GR_hasImage.2.1 12 = .ok (.bipush (-10), 2) := by decide +kernel
theorem d_GR_hasImage_14 : decode q_GR_hasImage.2.1 14 = .ok (.if_icmp .lt 25, 3) := by decide +kernel
theorem d_GR_hasImage_17 : decode q_GR_hasImage.2.1 17 = .ok (.iload_n 2, 1) := by decide +kernel
theorem d_GR_hasImage_18 : decode q_GR_hasImage.2.1 18 = .ok (.bipush 10, 2) := by decide +kernel
theorem d_GR_hasImage_20 : decode q_GR_hasImage.2.1 20 = .ok (.if_icmp .gt 19, 3) := by decide +kernel
theorem d_GR_hasImage_23 : decode q_GR_hasImage.2.1 23 = .ok (.iload_n 3, 1) := by decide +kernel
theorem d_GR_hasImage_24 : decode q_GR_hasImage.2.1 24 = .ok (.bipush (-10), 2) := by decide +kernel
theorem d_GR_hasImage_26 : decode q_GR_hasImage.2.1 26 = .ok (.if_icmp .lt 13, 3) := by decide +kernel
theorem d_GR_hasImage_29 : decode q_GR_hasImage.2.1 29 = .ok (.iload_n 3, 1) := by decide +kernel
theorem d_GR_hasImage_30 : decode q_GR_hasImage.2.1 30 = .ok (.bipush 10, 2) := by decide +kernel
theorem d_GR_hasImage_32 : decode q_GR_hasImage.2.1 32 = .ok (.if_icmp .gt 7, 3) := by decide +kernel
theorem d_GR_hasImage_35 : decode q_GR_hasImage.2.1 35 = .ok (.iconst 1, 1) := by decide +kernel
theorem d_GR_hasImage_36 : decode q_GR_hasImage.2.1 36 = .ok (.goto 4, 3) := by decide +kernel
theorem d_GR_hasImage_40 : decode q_GR_hasImage.2.1 40 = .ok (.ireturn, 1) := by decide +kernel
theorem d_GR_end_0 : decode q_GR_end.2.1 0 = .ok (.iload_n 1, 1) := by decide +kernel
theorem d_GR_end_1 : decode q_GR_end.2.1 1 = .ok (.ifCond .lt 14, 3) := by decide +kernel
theorem d_GR_end_15 : decode q_GR_end.2.1 15 = .ok (.iconst 0, 1) := by decide +kernel
theorem d_GR_end_16 : decode q_GR_end.2.1 16 = .ok (.ireturn, 1) := by decide +kernel
theorem d_GR_end_4 : decode q_GR_end.2.1 4 = .ok (.iload_n 1, 1) := by decide +kernel
theorem d_GR_end_5 : decode q_GR_end.2.1 5 = .ok (.aload_n 0, 1) := by decide +kernel
theorem d_GR_end_6 : decode q_GR_end.2.1 6 = .ok (.getfield 12, 3) := by decide +kernel
theorem fl_GR_12 : rx_F "GlassRoom" 12 11 0 := ⟨(RX11, TX11, 17), rfl, by decide, (rx_s2 99 rfl rfl), rx_T11⟩
theorem d_GR_end_9 : decode q_GR_end.2.1 9 = .ok (.getfield 115, 3) := by decide +kernel
theorem fl_GR_115 : rx_F "GlassRoom" 115 10 1 := ⟨(RX10, TX10, 3), rfl, by decide, (rx_s1 40 rfl rfl), rx_T10⟩
theorem d_GR_end_12 : decode q_GR_end.2.1 12 = .ok (.if_icmp .le 5, 3) := by decide +kernel
theorem d_GR_end_17 : decode q_GR_end.2.1 17 = .ok (.aload_n 0, 1) := by decide +kernel
theorem d_GR_end_18 : decode q_GR_end.2.1 18 = .ok (.getfield 12, 3) := by decide +kernel
theorem d_GR_end_21 : decode q_GR_end.2.1 21 = .ok (.iload_n 1, 1) := by decide +kernel
theorem d_GR_end_22 : decode q_GR_end.2.1 22 = .ok (.putfield 115, 3) := by decide +kernel
theorem fp_GR_115 : rx_FP "GlassRoom" 115 10 1 (.int) := ⟨(RX10, TX10, 3), tyX10, rfl, by decide, (rx_s1 40 rfl rfl), rx_T10, tyX10_ok, nmX10, rfl, rfl⟩
theorem d_GR_end_25 : decode q_GR_end.2.1 25 = .ok (.iconst 1, 1) := by decide +kernel
theorem d_GR_end_26 : decode q_GR_end.2.1 26 = .ok (.ireturn, 1) := by decide +kernel
theorem d_GR_light_0 : decode q_GR_light.2.1 0 = .ok (.iload_n 1, 1) := by decide +kernel
theorem d_GR_light_1 : decode q_GR_light.2.1 1 = .ok (.iconst (-1), 1) := by decide +kernel
theorem d_GR_light_2 : decode q_GR_light.2.1 2 = .ok (.if_icmp .lt 11, 3) := by decide +kernel
theorem d_GR_light_13 : decode q_GR_light.2.1 13 = .ok (.iconst 0, 1) := by decide +kernel
theorem d_GR_light_14 : decode q_GR_light.2.1 14 = .ok (.ireturn, 1) := by decide +kernel
theorem d_GR_light_5 : decode q_GR_light.2.1 5 = .ok (.iload_n 1, 1) := by decide +kernel
theorem d_GR_light_6 : decode q_GR_light.2.1 6 = .ok (.aload_n 0, 1) := by decide +kernel
theorem d_GR_light_7 : decode q_GR_light.2.1 7 = .ok (.getfield 100, 3) := by decide +kernel
theorem fl_GR_100 : rx_F "GlassRoom" 100 11 14 := ⟨(RX11, TX11, 17), rfl, by decide, (rx_s2 113 rfl rfl), rx_T11⟩
theorem d_GR_light_10 : decode q_GR_light.2.1 10 = .ok (.if_icmp .lt 5, 3) := by decide +kernel
theorem d_GR_light_15 : decode q_GR_light.2.1 15 = .ok (.aload_n 0, 1) := by decide +kernel
theorem d_GR_light_16 : decode q_GR_light.2.1 16 = .ok (.iload_n 1, 1) := by decide +kernel
theorem d_GR_light_17 : decode q_GR_light.2.1 17 = .ok (.putfield 104, 3) := by decide +kernel
theorem fp_GR_104 : rx_FP "GlassRoom" 104 11 15 (.int) := ⟨(RX11, TX11, 17), tyX11, rfl, by decide, (rx_s2 114 rfl rfl), rx_T11, tyX11_ok, nmX11, rfl, rfl⟩
theorem d_GR_light_20 : decode q_GR_light.2.1 20 = .ok (.iconst 1, 1) := by decide +kernel
theorem d_GR_light_21 : decode q_GR_light.2.1 21 = .ok (.ireturn, 1) := by decide +kernel
theorem d_GR_image_0 : decode q_GR_image.2.1 0 = .ok (.aload_n 0, 1) := by decide +kernel
theorem d_GR_image_1 : decode q_GR_image.2.1 1 = .ok (.iload_n 1, 1) := by decide +kernel
theorem d_GR_image_2 : decode q_GR_image.2.1 2 = .ok (.iload_n 2, 1) := by decide +kernel
theorem d_GR_image_3 : decode q_GR_image.2.1 3 = .ok (.iload_n 3, 1) := by decide +kernel
theorem d_GR_image_4 : decode q_GR_image.2.1 4 = .ok (.invokevirtual 192, 3) := by decide +kernel
theorem ml_GR_192 : rx_CV "GlassRoom" 192 q_GR_hasImage 3 := ⟨⟨(rx_s3 174 rfl rfl), (rx_s3 176 rfl rfl), (rx_s0 11 rfl rfl)⟩, ⟨(rx_s1 1 rfl rfl), q_GR_hasImage_k, ⟨by decide, by decide, by decide +kernel⟩, by decide⟩⟩
theorem d_GR_image_7 : decode q_GR_image.2.1 7 = .ok (.ifCond .ne 6, 3) := by decide +kernel
theorem d_GR_image_10 : decode q_GR_image.2.1 10 = .ok (.ldc 196, 2) := by decide +kernel
theorem ck_GR_196 : Cond.constant "GlassRoom" 196 (-100000000) ∈ rx_gw := (rx_s3 178 rfl rfl)
theorem d_GR_image_12 : decode q_GR_image.2.1 12 = .ok (.ireturn, 1) := by decide +kernel
theorem d_GR_image_13 : decode q_GR_image.2.1 13 = .ok (.iload 4, 2) := by decide +kernel
theorem d_GR_image_15 : decode q_GR_image.2.1 15 = .ok (.tableswitch 141 0 4 #[33, 54, 75, 107, 120], 33) := by decide +kernel
theorem d_GR_image_48 : decode q_GR_image.2.1 48 = .ok (.iload_n 2, 1) := by decide +kernel
theorem d_GR_image_49 : decode q_GR_image.2.1 49 = .ok (.aload_n 0, 1) := by decide +kernel
theorem d_GR_image_50 : decode q_GR_image.2.1 50 = .ok (.getfield 19, 3) := by decide +kernel
theorem d_GR_image_53 : decode q_GR_image.2.1 53 = .ok (.getfield 197, 3) := by decide +kernel
theorem fl_GR_197 : rx_F "GlassRoom" 197 3 5 := ⟨(RX3, TX3, 9), rfl, by decide, (rx_s1 92 rfl rfl), rx_T3⟩
theorem d_GR_image_56 : decode q_GR_image.2.1 56 = .ok (.aload_n 0, 1) := by decide +kernel
theorem d_GR_image_57 : decode q_GR_image.2.1 57 = .ok (.getfield 19, 3) := by decide +kernel
theorem d_GR_image_60 : decode q_GR_image.2.1 60 = .ok (.getfield 155, 3) := by decide +kernel
theorem fl_GR_155 : rx_F "GlassRoom" 155 3 0 := ⟨(RX3, TX3, 9), rfl, by decide, (rx_s1 67 rfl rfl), rx_T3⟩
theorem d_GR_image_63 : decode q_GR_image.2.1 63 = .ok (.iload_n 1, 1) := by decide +kernel
theorem d_GR_image_64 : decode q_GR_image.2.1 64 = .ok (.iaload, 1) := by decide +kernel
theorem d_GR_image_65 : decode q_GR_image.2.1 65 = .ok (.invokestatic 200, 3) := by decide +kernel
theorem ml_GR_200 : rx_CS "GlassRoom" 200 q_Ha_spot 3 := ⟨⟨(rx_s3 179 rfl rfl), (rx_s3 180 rfl rfl)⟩, ⟨(rx_s1 3 rfl rfl), q_Ha_spot_k, ⟨by decide, by decide, by decide +kernel⟩, by decide⟩⟩
theorem d_GR_image_68 : decode q_GR_image.2.1 68 = .ok (.ireturn, 1) := by decide +kernel
theorem d_GR_image_69 : decode q_GR_image.2.1 69 = .ok (.iload_n 3, 1) := by decide +kernel
theorem d_GR_image_70 : decode q_GR_image.2.1 70 = .ok (.aload_n 0, 1) := by decide +kernel
theorem d_GR_image_71 : decode q_GR_image.2.1 71 = .ok (.getfield 19, 3) := by decide +kernel
theorem d_GR_image_74 : decode q_GR_image.2.1 74 = .ok (.getfield 204, 3) := by decide +kernel
theorem fl_GR_204 : rx_F "GlassRoom" 204 3 6 := ⟨(RX3, TX3, 9), rfl, by decide, (rx_s1 100 rfl rfl), rx_T3⟩
theorem d_GR_image_77 : decode q_GR_image.2.1 77 = .ok (.aload_n 0, 1) := by decide +kernel
theorem d_GR_image_78 : decode q_GR_image.2.1 78 = .ok (.getfield 19, 3) := by decide +kernel
theorem d_GR_image_81 : decode q_GR_image.2.1 81 = .ok (.getfield 158, 3) := by decide +kernel
theorem fl_GR_158 : rx_F "GlassRoom" 158 3 1 := ⟨(RX3, TX3, 9), rfl, by decide, (rx_s1 75 rfl rfl), rx_T3⟩
theorem d_GR_image_84 : decode q_GR_image.2.1 84 = .ok (.iload_n 1, 1) := by decide +kernel
theorem d_GR_image_85 : decode q_GR_image.2.1 85 = .ok (.iaload, 1) := by decide +kernel
theorem d_GR_image_86 : decode q_GR_image.2.1 86 = .ok (.invokestatic 200, 3) := by decide +kernel
theorem d_GR_image_89 : decode q_GR_image.2.1 89 = .ok (.ireturn, 1) := by decide +kernel
theorem d_GR_image_90 : decode q_GR_image.2.1 90 = .ok (.iload_n 2, 1) := by decide +kernel
theorem d_GR_image_91 : decode q_GR_image.2.1 91 = .ok (.iload_n 3, 1) := by decide +kernel
theorem d_GR_image_92 : decode q_GR_image.2.1 92 = .ok (.invokestatic 207, 3) := by decide +kernel
theorem ml_GR_207 : rx_CS "GlassRoom" 207 q_GR_isTurned 2 := ⟨⟨(rx_s3 182 rfl rfl), (rx_s3 183 rfl rfl)⟩, ⟨(rx_s1 1 rfl rfl), q_GR_isTurned_k, ⟨by decide, by decide, by decide +kernel⟩, by decide⟩⟩
theorem d_GR_image_95 : decode q_GR_image.2.1 95 = .ok (.ifCond .eq 17, 3) := by decide +kernel
theorem d_GR_image_112 : decode q_GR_image.2.1 112 = .ok (.aload_n 0, 1) := by decide +kernel
theorem d_GR_image_113 : decode q_GR_image.2.1 113 = .ok (.getfield 19, 3) := by decide +kernel
theorem d_GR_image_116 : decode q_GR_image.2.1 116 = .ok (.getfield 161, 3) := by decide +kernel
theorem fl_GR_161 : rx_F "GlassRoom" 161 3 2 := ⟨(RX3, TX3, 9), rfl, by decide, (rx_s1 78 rfl rfl), rx_T3⟩
theorem d_GR_image_119 : decode q_GR_image.2.1 119 = .ok (.iload_n 1, 1) := by decide +kernel
theorem d_GR_image_120 : decode q_GR_image.2.1 120 = .ok (.iaload, 1) := by decide +kernel
theorem d_GR_image_121 : decode q_GR_image.2.1 121 = .ok (.ireturn, 1) := by decide +kernel
theorem d_GR_image_98 : decode q_GR_image.2.1 98 = .ok (.iconst 1, 1) := by decide +kernel
theorem d_GR_image_99 : decode q_GR_image.2.1 99 = .ok (.aload_n 0, 1) := by decide +kernel
theorem d_GR_image_100 : decode q_GR_image.2.1 100 = .ok (.getfield 19, 3) := by decide +kernel
theorem d_GR_image_103 : decode q_GR_image.2.1 103 = .ok (.getfield 161, 3) := by decide +kernel
theorem d_GR_image_106 : decode q_GR_image.2.1 106 = .ok (.iload_n 1, 1) := by decide +kernel
theorem d_GR_image_107 : decode q_GR_image.2.1 107 = .ok (.iaload, 1) := by decide +kernel
theorem d_GR_image_108 : decode q_GR_image.2.1 108 = .ok (.isub, 1) := by decide +kernel
theorem d_GR_image_109 : decode q_GR_image.2.1 109 = .ok (.goto 12, 3) := by decide +kernel
theorem d_GR_image_122 : decode q_GR_image.2.1 122 = .ok (.aload_n 0, 1) := by decide +kernel
theorem d_GR_image_123 : decode q_GR_image.2.1 123 = .ok (.getfield 19, 3) := by decide +kernel
theorem d_GR_image_126 : decode q_GR_image.2.1 126 = .ok (.iload_n 2, 1) := by decide +kernel
theorem d_GR_image_127 : decode q_GR_image.2.1 127 = .ok (.iload_n 3, 1) := by decide +kernel
theorem d_GR_image_128 : decode q_GR_image.2.1 128 = .ok (.invokestatic 210, 3) := by decide +kernel
theorem d_GR_image_131 : decode q_GR_image.2.1 131 = .ok (.invokevirtual 214, 3) := by decide +kernel
theorem ml_GR_214 : rx_CV "GlassRoom" 214 q_Ha_brightAfter 1 := ⟨⟨(rx_s3 191 rfl rfl), (rx_s3 192 rfl rfl), (rx_s3 193 rfl rfl)⟩, ⟨(rx_s1 3 rfl rfl), q_Ha_brightAfter_k, ⟨by decide, by decide, by decide +kernel⟩, by decide⟩⟩
theorem d_GR_image_134 : decode q_GR_image.2.1 134 = .ok (.ireturn, 1) := by decide +kernel
theorem d_GR_image_135 : decode q_GR_image.2.1 135 = .ok (.aload_n 0, 1) := by decide +kernel
theorem d_GR_image_136 : decode q_GR_image.2.1 136 = .ok (.getfield 19, 3) := by decide +kernel
theorem d_GR_image_139 : decode q_GR_image.2.1 139 = .ok (.getfield 175, 3) := by decide +kernel
theorem fl_GR_175 : rx_F "GlassRoom" 175 3 7 := ⟨(RX3, TX3, 9), rfl, by decide, (rx_s1 105 rfl rfl), rx_T3⟩
theorem d_GR_image_142 : decode q_GR_image.2.1 142 = .ok (.iload_n 2, 1) := by decide +kernel
theorem d_GR_image_143 : decode q_GR_image.2.1 143 = .ok (.iload_n 3, 1) := by decide +kernel
theorem d_GR_image_144 : decode q_GR_image.2.1 144 = .ok (.invokestatic 217, 3) := by decide +kernel
theorem ml_GR_217 : rx_CS "GlassRoom" 217 q_Ha_isThere 3 := ⟨⟨(rx_s3 195 rfl rfl), (rx_s3 196 rfl rfl)⟩, ⟨(rx_s1 3 rfl rfl), q_Ha_isThere_k, ⟨by decide, by decide, by decide +kernel⟩, by decide⟩⟩
theorem d_GR_image_147 : decode q_GR_image.2.1 147 = .ok (.ifCond .eq 7, 3) := by decide +kernel
theorem d_GR_image_154 : decode q_GR_image.2.1 154 = .ok (.iconst 0, 1) := by decide +kernel
theorem d_GR_image_150 : decode q_GR_image.2.1 150 = .ok (.iconst 1, 1) := by decide +kernel
theorem d_GR_image_151 : decode q_GR_image.2.1 151 = .ok (.goto 4, 3) := by decide +kernel
theorem d_GR_image_155 : decode q_GR_image.2.1 155 = .ok (.ireturn, 1) := by decide +kernel
theorem d_GR_image_156 : decode q_GR_image.2.1 156 = .ok (.ldc 196, 2) := by decide +kernel
theorem d_GR_image_158 : decode q_GR_image.2.1 158 = .ok (.ireturn, 1) := by decide +kernel
theorem d_GR_far_0 : decode q_GR_far.2.1 0 = .ok (.aload_n 0, 1) := by decide +kernel
theorem d_GR_far_1 : decode q_GR_far.2.1 1 = .ok (.iload_n 1, 1) := by decide +kernel
theorem d_GR_far_2 : decode q_GR_far.2.1 2 = .ok (.iload_n 2, 1) := by decide +kernel
theorem d_GR_far_3 : decode q_GR_far.2.1 3 = .ok (.iload_n 3, 1) := by decide +kernel
theorem d_GR_far_4 : decode q_GR_far.2.1 4 = .ok (.invokevirtual 192, 3) := by decide +kernel
theorem d_GR_far_7 : decode q_GR_far.2.1 7 = .ok (.ifCond .eq 30, 3) := by decide +kernel
theorem d_GR_far_37 : decode q_GR_far.2.1 37 = .ok (.iconst (-1), 1) := by decide +kernel
theorem d_GR_far_10 : decode q_GR_far.2.1 10 = .ok (.aload_n 0, 1) := by decide +kernel
theorem d_GR_far_11 : decode q_GR_far.2.1 11 = .ok (.getfield 19, 3) := by decide +kernel
theorem d_GR_far_14 : decode q_GR_far.2.1 14 = .ok (.iload 4, 2) := by decide +kernel
theorem d_GR_far_16 : decode q_GR_far.2.1 16 = .ok (.invokevirtual 144, 3) := by decide +kernel
theorem d_GR_far_19 : decode q_GR_far.2.1 19 = .ok (.ifCond .eq 18, 3) := by decide +kernel
theorem d_GR_far_22 : decode q_GR_far.2.1 22 = .ok (.aload_n 0, 1) := by decide +kernel
theorem d_GR_far_23 : decode q_GR_far.2.1 23 = .ok (.getfield 19, 3) := by decide +kernel
theorem d_GR_far_26 : decode q_GR_far.2.1 26 = .ok (.iload 4, 2) := by decide +kernel
theorem d_GR_far_28 : decode q_GR_far.2.1 28 = .ok (.iload_n 1, 1) := by decide +kernel
theorem d_GR_far_29 : decode q_GR_far.2.1 29 = .ok (.iload_n 2, 1) := by decide +kernel
theorem d_GR_far_30 : decode q_GR_far.2.1 30 = .ok (.iload_n 3, 1) := by decide +kernel
theorem d_GR_far_38 : decode q_GR_far.2.1 38 = .ok (.ireturn, 1) := by decide +kernel
theorem d_GR_far_31 : decode q_GR_far.2.1 31 = .ok (.invokevirtual 220, 3) := by decide +kernel
theorem ml_GR_220 : rx_CV "GlassRoom" 220 q_Ha_farFrom 4 := ⟨⟨(rx_s3 220 rfl rfl), (rx_s3 221 rfl rfl), (rx_s3 222 rfl rfl)⟩, ⟨(rx_s1 3 rfl rfl), q_Ha_farFrom_k, ⟨by decide, by decide, by decide +kernel⟩, by decide⟩⟩
theorem d_GR_far_34 : decode q_GR_far.2.1 34 = .ok (.goto 4, 3) := by decide +kernel
theorem d_GR_hinge_0 : decode q_GR_hinge.2.1 0 = .ok (.iload_n 1, 1) := by decide +kernel
theorem d_GR_hinge_1 : decode q_GR_hinge.2.1 1 = .ok (.iconst 1, 1) := by decide +kernel
theorem d_GR_hinge_2 : decode q_GR_hinge.2.1 2 = .ok (.if_icmp .lt 29, 3) := by decide +kernel
theorem d_GR_hinge_31 : decode q_GR_hinge.2.1 31 = .ok (.iconst (-1), 1) := by decide +kernel
theorem d_GR_hinge_32 : decode q_GR_hinge.2.1 32 = .ok (.ireturn, 1) := by decide +kernel
theorem d_GR_hinge_5 : decode q_GR_hinge.2.1 5 = .ok (.iload_n 1, 1) := by decide +kernel
theorem d_GR_hinge_6 : decode q_GR_hinge.2.1 6 = .ok (.sipush 180, 3) := by decide +kernel
theorem d_GR_hinge_9 : decode q_GR_hinge.2.1 9 = .ok (.if_icmp .gt 22, 3) := by decide +kernel
theorem d_GR_hinge_12 : decode q_GR_hinge.2.1 12 = .ok (.iload_n 2, 1) := by decide +kernel
theorem d_GR_hinge_13 : decode q_GR_hinge.2.1 13 = .ok (.iconst 1, 1) := by decide +kernel
theorem d_GR_hinge_14 : decode q_GR_hinge.2.1 14 = .ok (.if_icmp .lt 17, 3) := by decide +kernel
theorem d_GR_hinge_17 : decode q_GR_hinge.2.1 17 = .ok (.iload_n 2, 1) := by decide +kernel
theorem d_GR_hinge_18 : decode q_GR_hinge.2.1 18 = .ok (.iload_n 1, 1) := by decide +kernel
theorem d_GR_hinge_19 : decode q_GR_hinge.2.1 19 = .ok (.if_icmp .ge 12, 3) := by decide +kernel
theorem d_GR_hinge_22 : decode q_GR_hinge.2.1 22 = .ok (.iload_n 3, 1) := by decide +kernel
theorem d_GR_hinge_23 : decode q_GR_hinge.2.1 23 = .ok (.ifCond .lt 8, 3) := by decide +kernel
theorem d_GR_hinge_26 : decode q_GR_hinge.2.1 26 = .ok (.iload_n 3, 1) := by decide +kernel
theorem d_GR_hinge_27 : decode q_GR_hinge.2.1 27 = .ok (.iconst 1, 1) := by decide +kernel
theorem d_GR_hinge_28 : decode q_GR_hinge.2.1 28 = .ok (.if_icmp .le 5, 3) := by decide +kernel
theorem d_GR_hinge_33 : decode q_GR_hinge.2.1 33 = .ok (.iload_n 3, 1) := by decide +kernel
theorem d_GR_hinge_34 : decode q_GR_hinge.2.1 34 = .ok (.ifCond .ne 11, 3) := by decide +kernel
theorem d_GR_hinge_37 : decode q_GR_hinge.2.1 37 = .ok (.iload_n 1, 1) := by decide +kernel
theorem d_GR_hinge_38 : decode q_GR_hinge.2.1 38 = .ok (.iload_n 2, 1) := by decide +kernel
theorem d_GR_hinge_39 : decode q_GR_hinge.2.1 39 = .ok (.invokestatic 314, 3) := by decide +kernel
theorem ml_GR_314 : rx_CS "GlassRoom" 314 q_GR_unlikePlaces 2 := ⟨⟨(rx_s4 184 rfl rfl), (rx_s4 185 rfl rfl)⟩, ⟨(rx_s1 1 rfl rfl), q_GR_unlikePlaces_k, ⟨by decide, by decide, by decide +kernel⟩, by decide⟩⟩
theorem d_GR_hinge_42 : decode q_GR_hinge.2.1 42 = .ok (.goto 8, 3) := by decide +kernel
theorem d_GR_hinge_50 : decode q_GR_hinge.2.1 50 = .ok (.ireturn, 1) := by decide +kernel
theorem d_GR_hinge_45 : decode q_GR_hinge.2.1 45 = .ok (.iload_n 1, 1) := by decide +kernel
theorem d_GR_hinge_46 : decode q_GR_hinge.2.1 46 = .ok (.iload_n 2, 1) := by decide +kernel
theorem d_GR_hinge_47 : decode q_GR_hinge.2.1 47 = .ok (.invokestatic 317, 3) := by decide +kernel
theorem ml_GR_317 : rx_CS "GlassRoom" 317 q_GR_turnedPlaces 2 := ⟨⟨(rx_s4 199 rfl rfl), (rx_s4 200 rfl rfl)⟩, ⟨(rx_s1 1 rfl rfl), q_GR_turnedPlaces_k, ⟨by decide, by decide, by decide +kernel⟩, by decide⟩⟩
theorem d_GR_photo_0 : decode q_GR_photo.2.1 0 = .ok (.aload_n 0, 1) := by decide +kernel
theorem d_GR_photo_1 : decode q_GR_photo.2.1 1 = .ok (.getfield 19, 3) := by decide +kernel
theorem d_GR_photo_4 : decode q_GR_photo.2.1 4 = .ok (.iload_n 1, 1) := by decide +kernel
theorem d_GR_photo_5 : decode q_GR_photo.2.1 5 = .ok (.invokevirtual 144, 3) := by decide +kernel
theorem d_GR_photo_8 : decode q_GR_photo.2.1 8 = .ok (.ifCond .eq 26, 3) := by decide +kernel
theorem d_GR_photo_34 : decode q_GR_photo.2.1 34 = .ok (.iconst (-1), 1) := by decide +kernel
theorem d_GR_photo_35 : decode q_GR_photo.2.1 35 = .ok (.ireturn, 1) := by decide +kernel
theorem d_GR_photo_11 : decode q_GR_photo.2.1 11 = .ok (.iload_n 2, 1) := by decide +kernel
theorem d_GR_photo_12 : decode q_GR_photo.2.1 12 = .ok (.ifCond .lt 22, 3) := by decide +kernel
theorem d_GR_photo_15 : decode q_GR_photo.2.1 15 = .ok (.iload_n 2, 1) := by decide +kernel
theorem d_GR_photo_16 : decode q_GR_photo.2.1 16 = .ok (.ldc_w 323, 3) := by decide +kernel
theorem ck_GR_323 : Cond.constant "GlassRoom" 323 (99999) ∈ rx_gw := (rx_s4 217 rfl rfl)
theorem d_GR_photo_19 : decode q_GR_photo.2.1 19 = .ok (.if_icmp .gt 15, 3) := by decide +kernel
theorem d_GR_photo_22 : decode q_GR_photo.2.1 22 = .ok (.aload_n 0, 1) := by decide +kernel
theorem d_GR_photo_23 : decode q_GR_photo.2.1 23 = .ok (.getfield 96, 3) := by decide +kernel
theorem fl_GR_96 : rx_F "GlassRoom" 96 11 13 := ⟨(RX11, TX11, 17), rfl, by decide, (rx_s2 112 rfl rfl), rx_T11⟩
theorem d_GR_photo_26 : decode q_GR_photo.2.1 26 = .ok (.getfield 140, 3) := by decide +kernel
theorem fl_GR_140 : rx_F "GlassRoom" 140 8 3 := ⟨(RX8, TX8, 4), rfl, by decide, (rx_s2 89 rfl rfl), rx_T8⟩
theorem d_GR_photo_29 : decode q_GR_photo.2.1 29 = .ok (.bipush 12, 2) := by decide +kernel
theorem d_GR_photo_31 : decode q_GR_photo.2.1 31 = .ok (.if_icmp .lt 5, 3) := by decide +kernel
theorem d_GR_photo_36 : decode q_GR_photo.2.1 36 = .ok (.aload_n 0, 1) := by decide +kernel
theorem d_GR_photo_37 : decode q_GR_photo.2.1 37 = .ok (.getfield 96, 3) := by decide +kernel
theorem d_GR_photo_40 : decode q_GR_photo.2.1 40 = .ok (.iload_n 1, 1) := by decide +kernel
theorem d_GR_photo_41 : decode q_GR_photo.2.1 41 = .ok (.iload_n 2, 1) := by decide +kernel
theorem d_GR_photo_42 : decode q_GR_photo.2.1 42 = .ok (.invokevirtual 324, 3) := by decide +kernel
theorem ml_GR_324 : rx_CV "GlassRoom" 324 q_Ph_add 2 := ⟨⟨(rx_s4 218 rfl rfl), (rx_s4 219 rfl rfl), (rx_s4 220 rfl rfl)⟩, ⟨(rx_s1 12 rfl rfl), q_Ph_add_k, ⟨by decide, by decide, by decide +kernel⟩, by decide⟩⟩
theorem d_GR_photo_45 : decode q_GR_photo.2.1 45 = .ok (.aload_n 0, 1) := by decide +kernel
theorem d_GR_photo_46 : decode q_GR_photo.2.1 46 = .ok (.getfield 96, 3) := by decide +kernel
theorem d_GR_photo_49 : decode q_GR_photo.2.1 49 = .ok (.getfield 140, 3) := by decide +kernel
theorem d_GR_photo_52 : decode q_GR_photo.2.1 52 = .ok (.ireturn, 1) := by decide +kernel
theorem d_GR_count_0 : decode q_GR_count.2.1 0 = .ok (.iload_n 1, 1) := by decide +kernel
theorem d_GR_count_1 : decode q_GR_count.2.1 1 = .ok (.tableswitch 129 0 9 #[55, 63, 71, 79, 87, 95, 100, 108, 113, 121], 55) := by decide +kernel
theorem d_GR_count_56 : decode q_GR_count.2.1 56 = .ok (.aload_n 0, 1) := by decide +kernel
theorem d_GR_count_57 : decode q_GR_count.2.1 57 = .ok (.getfield 19, 3) := by decide +kernel
theorem d_GR_count_60 : decode q_GR_count.2.1 60 = .ok (.getfield 141, 3) := by decide +kernel
theorem fl_GR_141 : rx_F "GlassRoom" 141 3 4 := ⟨(RX3, TX3, 9), rfl, by decide, (rx_s1 84 rfl rfl), rx_T3⟩
theorem d_GR_count_63 : decode q_GR_count.2.1 63 = .ok (.ireturn, 1) := by decide +kernel
theorem d_GR_count_64 : decode q_GR_count.2.1 64 = .ok (.aload_n 0, 1) := by decide +kernel
theorem d_GR_count_65 : decode q_GR_count.2.1 65 = .ok (.getfield 19, 3) := by decide +kernel
theorem d_GR_count_68 : decode q_GR_count.2.1 68 = .ok (.getfield 197, 3) := by decide +kernel
theorem d_GR_count_71 : decode q_GR_count.2.1 71 = .ok (.ireturn, 1) := by decide +kernel
theorem d_GR_count_72 : decode q_GR_count.2.1 72 = .ok (.aload_n 0, 1) := by decide +kernel
theorem d_GR_count_73 : decode q_GR_count.2.1 73 = .ok (.getfield 19, 3) := by decide +kernel
theorem d_GR_count_76 : decode q_GR_count.2.1 76 = .ok (.getfield 204, 3) := by decide +kernel
theorem d_GR_count_79 : decode q_GR_count.2.1 79 = .ok (.ireturn, 1) := by decide +kernel
theorem d_GR_count_80 : decode q_GR_count.2.1 80 = .ok (.aload_n 0, 1) := by decide +kernel
theorem d_GR_count_81 : decode q_GR_count.2.1 81 = .ok (.getfield 19, 3) := by decide +kernel
theorem d_GR_count_84 : decode q_GR_count.2.1 84 = .ok (.getfield 175, 3) := by decide +kernel
theorem d_GR_count_87 : decode q_GR_count.2.1 87 = .ok (.ireturn, 1) := by decide +kernel
theorem d_GR_count_88 : decode q_GR_count.2.1 88 = .ok (.aload_n 0, 1) := by decide +kernel
theorem d_GR_count_89 : decode q_GR_count.2.1 89 = .ok (.getfield 19, 3) := by decide +kernel
theorem d_GR_count_92 : decode q_GR_count.2.1 92 = .ok (.getfield 336, 3) := by decide +kernel
theorem fl_GR_336 : rx_F "GlassRoom" 336 3 8 := ⟨(RX3, TX3, 9), rfl, by decide, (rx_s1 108 rfl rfl), rx_T3⟩
theorem d_GR_count_95 : decode q_GR_count.2.1 95 = .ok (.ireturn, 1) := by decide +kernel
theorem d_GR_count_96 : decode q_GR_count.2.1 96 = .ok (.aload_n 0, 1) := by decide +kernel
theorem d_GR_count_97 : decode q_GR_count.2.1 97 = .ok (.getfield 100, 3) := by decide +kernel
theorem d_GR_count_100 : decode q_GR_count.2.1 100 = .ok (.ireturn, 1) := by decide +kernel
theorem d_GR_count_101 : decode q_GR_count.2.1 101 = .ok (.aload_n 0, 1) := by decide +kernel
theorem d_GR_count_102 : decode q_GR_count.2.1 102 = .ok (.getfield 12, 3) := by decide +kernel
theorem d_GR_count_105 : decode q_GR_count.2.1 105 = .ok (.getfield 115, 3) := by decide +kernel
theorem d_GR_count_108 : decode q_GR_count.2.1 108 = .ok (.ireturn, 1) := by decide +kernel
theorem d_GR_count_109 : decode q_GR_count.2.1 109 = .ok (.aload_n 0, 1) := by decide +kernel
theorem d_GR_count_110 : decode q_GR_count.2.1 110 = .ok (.getfield 104, 3) := by decide +kernel
theorem fl_GR_104 : rx_F "GlassRoom" 104 11 15 := ⟨(RX11, TX11, 17), rfl, by decide, (rx_s2 114 rfl rfl), rx_T11⟩
theorem d_GR_count_113 : decode q_GR_count.2.1 113 = .ok (.ireturn, 1) := by decide +kernel
theorem d_GR_count_114 : decode q_GR_count.2.1 114 = .ok (.aload_n 0, 1) := by decide +kernel
theorem d_GR_count_115 : decode q_GR_count.2.1 115 = .ok (.getfield 96, 3) := by decide +kernel
theorem d_GR_count_118 : decode q_GR_count.2.1 118 = .ok (.getfield 140, 3) := by decide +kernel
theorem d_GR_count_121 : decode q_GR_count.2.1 121 = .ok (.ireturn, 1) := by decide +kernel
theorem d_GR_count_122 : decode q_GR_count.2.1 122 = .ok (.aload_n 0, 1) := by decide +kernel
theorem d_GR_count_123 : decode q_GR_count.2.1 123 = .ok (.getfield 56, 3) := by decide +kernel
theorem fl_GR_56 : rx_F "GlassRoom" 56 11 7 := ⟨(RX11, TX11, 17), rfl, by decide, (rx_s2 106 rfl rfl), rx_T11⟩
theorem d_GR_count_126 : decode q_GR_count.2.1 126 = .ok (.getfield 139, 3) := by decide +kernel
theorem fl_GR_139 : rx_F "GlassRoom" 139 0 2 := ⟨(RX0, TX0, 3), rfl, by decide, (rx_s1 194 rfl rfl), rx_T0⟩
theorem d_GR_count_129 : decode q_GR_count.2.1 129 = .ok (.ireturn, 1) := by decide +kernel
theorem d_GR_count_130 : decode q_GR_count.2.1 130 = .ok (.ldc 196, 2) := by decide +kernel
theorem d_GR_count_132 : decode q_GR_count.2.1 132 = .ok (.ireturn, 1) := by decide +kernel
set_option maxHeartbeats 4000000 in
set_option maxRecDepth 20000 in
theorem w_Di_farAt {G : rx_Gh} {hp : rx_Hp} {F : Int32 → rx_Hp → Prop} (a1 : Int32) (a2 : Int32) (H : vp_in (a1 + 10) 21 ∧ (vp_in (a2 + 10) 21 ∧ (F ((hp.2.1 41 (a1 + 10).toNatClampNeg) + (hp.2.1 42 (a2 + 10).toNatClampNeg)) hp))) : Ev wC G 1 q_Di_farAt [.ref 40, .int a1, .int a2] hp (rI F) := by
  refine ev_of rfl (Nat.le_of_ble_eq_true rfl) rfl ?_
  show Rn wC G 1 q_Di_farAt 0 [some (.ref 40), some (.int a1), some (.int a2)] [] hp (rI F)
  refine r_aload_n (i := 0) d_Di_farAt_0 rfl rfl ?_
  refine r_getR (b := 40) (r := 41) d_Di_farAt_1 fl_Di_9 (by decide) rfl rfl rfl ?_
  refine r_iload_n (i := 1) d_Di_farAt_4 rfl rfl ?_
  refine r_bipush d_Di_farAt_5 bp_10 ?_
  refine r_iadd d_Di_farAt_7 ?_
  obtain ⟨hi_8, H⟩ := H
  refine r_iald (b := 41) (v := hp.2.1 41 (a1 + 10).toNatClampNeg) d_Di_farAt_8 (by decide) rfl hi_8 rfl ?_
  refine r_aload_n (i := 0) d_Di_farAt_9 rfl rfl ?_
  refine r_getR (b := 40) (r := 42) d_Di_farAt_10 fl_Di_15 (by decide) rfl rfl rfl ?_
  refine r_iload_n (i := 2) d_Di_farAt_13 rfl rfl ?_
  refine r_bipush d_Di_farAt_14 bp_10 ?_
  refine r_iadd d_Di_farAt_16 ?_
  obtain ⟨hi_17, H⟩ := H
  refine r_iald (b := 42) (v := hp.2.1 42 (a2 + 10).toNatClampNeg) d_Di_farAt_17 (by decide) rfl hi_17 rfl ?_
  refine r_iadd d_Di_farAt_18 ?_
  exact rI_ret d_Di_farAt_19 rfl H
def f_Di_farAt (a1 : Int32) (a2 : Int32) (hp : rx_Hp) : Int32 := (hp.2.1 41 (a1 + 10).toNatClampNeg) + (hp.2.1 42 (a2 + 10).toNatClampNeg)
def p_Di_farAt (a1 : Int32) (a2 : Int32) : Prop := vp_in (a1 + 10) 21 ∧ (vp_in (a2 + 10) 21)
theorem s_Di_farAt {G : rx_Gh} {hp : rx_Hp} {F : Int32 → rx_Hp → Prop} (a1 : Int32) (a2 : Int32) (hP : (p_Di_farAt a1 a2)) (H0 : F (f_Di_farAt a1 a2 hp) hp) : Ev wC G 1 q_Di_farAt [.ref 40, .int a1, .int a2] hp (rI F) := by
  have H : ∀ v h, v = (f_Di_farAt a1 a2 hp) → h = hp → F v h := by rintro _ _ rfl rfl; exact H0
  unfold p_Di_farAt at hP
  refine w_Di_farAt a1 a2  ?_
  refine ⟨hP.1, ?_⟩
  refine ⟨hP.2, ?_⟩
  exact H _ _ (rfl).symm (rfl).symm
set_option maxHeartbeats 4000000 in
set_option maxRecDepth 20000 in
theorem w_Li_add {G : rx_Gh} {hp : rx_Hp} {F : rx_Hp → Prop} (o : Nat) (a1 : Int32) (a2 : Int32) (ho : isL o) (H : (160 ≤ (hp.1 o 2) → F hp) ∧ (¬ 160 ≤ (hp.1 o 2) → vp_in (hp.1 o 2) 160 ∧ (F (rx_pf (rx_pa (rx_pa hp (o + 1) ((hp.1 o 2).toNatClampNeg) a1) (o + 2) ((hp.1 o 2).toNatClampNeg) a2) o 2 ((hp.1 o 2) + 1))))) : Ev wC G 1 q_Li_add [.ref o, .int a1, .int a2] hp (rV F) := by
  refine ev_of rfl (Nat.le_of_ble_eq_true rfl) rfl ?_
  show Rn wC G 1 q_Li_add 0 [some (.ref o), some (.int a1), some (.int a2)] [] hp (rV F)
  refine r_aload_n (i := 0) d_Li_add_0 rfl rfl ?_
  refine r_getI (b := o) (v := hp.1 o 2) d_Li_add_1 fl_Li_18 (isL_lt ho) (isL_k ho) rfl rfl ?_
  refine r_aload_n (i := 0) d_Li_add_4 rfl rfl ?_
  refine r_getR (b := o) (r := (o + 1)) d_Li_add_5 fl_Li_9 (isL_lt ho) (isL_k ho) rfl (isL_r0 ho) ?_
  refine r_alen (b := (o + 1)) (n := 160) (v := 160) d_Li_add_8 (isL_lt1 ho) (isL_k1 ho) al_160 ?_
  refine r_icmp_ge (tgt := 42) d_Li_add_9 (by decide) (fun hc_9 => ?_) (fun hc_9 => ?_)
  · replace H := H.1 hc_9
    exact rV_ret d_Li_add_42 rfl H
  · replace H := H.2 hc_9
    refine r_aload_n (i := 0) d_Li_add_12 rfl rfl ?_
    refine r_getR (b := o) (r := (o + 1)) d_Li_add_13 fl_Li_9 (isL_lt ho) (isL_k ho) rfl (isL_r0 ho) ?_
    refine r_aload_n (i := 0) d_Li_add_16 rfl rfl ?_
    refine r_getI (b := o) (v := hp.1 o 2) d_Li_add_17 fl_Li_18 (isL_lt ho) (isL_k ho) rfl rfl ?_
    refine r_iload_n (i := 1) d_Li_add_20 rfl rfl ?_
    obtain ⟨hi_21, H⟩ := H
    refine r_iast (b := (o + 1)) (i := (hp.1 o 2).toNatClampNeg) d_Li_add_21 (isL_lt1 ho) (isL_k1 ho) hi_21 rfl ?_
    refine r_aload_n (i := 0) d_Li_add_22 rfl rfl ?_
    refine r_getR (b := o) (r := (o + 2)) d_Li_add_23 fl_Li_15 (isL_lt ho) (isL_k ho) rfl (isL_r1 ho) ?_
    refine r_aload_n (i := 0) d_Li_add_26 rfl rfl ?_
    refine r_getI (b := o) (v := hp.1 o 2) d_Li_add_27 fl_Li_18 (isL_lt ho) (isL_k ho) rfl rfl ?_
    refine r_iload_n (i := 2) d_Li_add_30 rfl rfl ?_
    refine r_iast (b := (o + 2)) (i := (hp.1 o 2).toNatClampNeg) d_Li_add_31 (isL_lt2 ho) (isL_k2 ho) hi_21 rfl ?_
    refine r_aload_n (i := 0) d_Li_add_32 rfl rfl ?_
    refine r_dupr d_Li_add_33 ?_
    refine r_getI (b := o) (v := hp.1 o 2) d_Li_add_34 fl_Li_18 (isL_lt ho) (isL_k ho) rfl rfl ?_
    refine r_iconst d_Li_add_37 ic_1 ?_
    refine r_iadd d_Li_add_38 ?_
    refine r_putI (b := o) d_Li_add_39 fp_Li_18 ⟨rfl, rfl⟩ (isL_lt ho) (isL_k ho) rfl ?_
    exact rV_ret d_Li_add_42 rfl H
def g_Li_add (o : Nat) (a1 : Int32) (a2 : Int32) (hp : rx_Hp) : rx_Hp := (if 160 ≤ (hp.1 o 2) then hp else (rx_pf (rx_pa (rx_pa hp (o + 1) ((hp.1 o 2).toNatClampNeg) a1) (o + 2) ((hp.1 o 2).toNatClampNeg) a2) o 2 ((hp.1 o 2) + 1)))
def p_Li_add (o : Nat) (a1 : Int32) (a2 : Int32) (hp : rx_Hp) : Prop := (¬ 160 ≤ (hp.1 o 2) → vp_in (hp.1 o 2) 160)
theorem s_Li_add {G : rx_Gh} {hp : rx_Hp} {F : rx_Hp → Prop} (o : Nat) (a1 : Int32) (a2 : Int32) (ho : isL o) (hP : (p_Li_add o a1 a2 hp)) (H0 : F (g_Li_add o a1 a2 hp)) : Ev wC G 1 q_Li_add [.ref o, .int a1, .int a2] hp (rV F) := by
  have H : ∀ h, h = (g_Li_add o a1 a2 hp) → F h := by rintro _ rfl; exact H0
  unfold p_Li_add at hP
  refine w_Li_add o a1 a2 ho ?_
  refine ⟨fun hc_9 => ?_, fun hc_9 => ?_⟩
  · exact H _ (((if_pos hc_9).trans rfl)).symm
  · refine ⟨(hP hc_9), ?_⟩
    exact H _ (((if_neg hc_9).trans rfl)).symm
set_option maxHeartbeats 4000000 in
set_option maxRecDepth 20000 in
theorem w_Li_leadToEnd {G : rx_Gh} {hp : rx_Hp} {F : rx_Hp → Prop} (o : Nat) (a1 : Int32) (ho : isL o) (H : (a1 < 0 → F hp) ∧ (¬ a1 < 0 → ((hp.1 o 2) ≤ a1 → F hp) ∧ (¬ (hp.1 o 2) ≤ a1 → vp_in a1 160 ∧ (F (rx_pa hp (o + 2) a1.toNatClampNeg ((hp.1 o 2) - 1)))))) : Ev wC G 1 q_Li_leadToEnd [.ref o, .int a1] hp (rV F) := by
  refine ev_of rfl (Nat.le_of_ble_eq_true rfl) rfl ?_
  show Rn wC G 1 q_Li_leadToEnd 0 [some (.ref o), some (.int a1)] [] hp (rV F)
  refine r_iload_n (i := 1) d_Li_leadToEnd_0 rfl rfl ?_
  refine r_if_lt (tgt := 24) d_Li_leadToEnd_1 (by decide) (fun hc_1 => ?_) (fun hc_1 => ?_)
  · replace H := H.1 hc_1
    exact rV_ret d_Li_leadToEnd_24 rfl H
  · replace H := H.2 hc_1
    refine r_iload_n (i := 1) d_Li_leadToEnd_4 rfl rfl ?_
    refine r_aload_n (i := 0) d_Li_leadToEnd_5 rfl rfl ?_
    refine r_getI (b := o) (v := hp.1 o 2) d_Li_leadToEnd_6 fl_Li_18 (isL_lt ho) (isL_k ho) rfl rfl ?_
    refine r_icmp_ge (tgt := 24) d_Li_leadToEnd_9 (by decide) (fun hc_9 => ?_) (fun hc_9 => ?_)
    · replace H := H.1 hc_9
      exact rV_ret d_Li_leadToEnd_24 rfl H
    · replace H := H.2 hc_9
      refine r_aload_n (i := 0) d_Li_leadToEnd_12 rfl rfl ?_
      refine r_getR (b := o) (r := (o + 2)) d_Li_leadToEnd_13 fl_Li_15 (isL_lt ho) (isL_k ho) rfl (isL_r1 ho) ?_
      refine r_iload_n (i := 1) d_Li_leadToEnd_16 rfl rfl ?_
      refine r_aload_n (i := 0) d_Li_leadToEnd_17 rfl rfl ?_
      refine r_getI (b := o) (v := hp.1 o 2) d_Li_leadToEnd_18 fl_Li_18 (isL_lt ho) (isL_k ho) rfl rfl ?_
      refine r_iconst d_Li_leadToEnd_21 ic_1 ?_
      refine r_isub d_Li_leadToEnd_22 ?_
      obtain ⟨hi_23, H⟩ := H
      refine r_iast (b := (o + 2)) (i := a1.toNatClampNeg) d_Li_leadToEnd_23 (isL_lt2 ho) (isL_k2 ho) hi_23 rfl ?_
      exact rV_ret d_Li_leadToEnd_24 rfl H
def g_Li_leadToEnd (o : Nat) (a1 : Int32) (hp : rx_Hp) : rx_Hp := (if a1 < 0 then hp else (if (hp.1 o 2) ≤ a1 then hp else (rx_pa hp (o + 2) a1.toNatClampNeg ((hp.1 o 2) - 1))))
def p_Li_leadToEnd (o : Nat) (a1 : Int32) (hp : rx_Hp) : Prop := (¬ a1 < 0 → (¬ (hp.1 o 2) ≤ a1 → vp_in a1 160))
theorem s_Li_leadToEnd {G : rx_Gh} {hp : rx_Hp} {F : rx_Hp → Prop} (o : Nat) (a1 : Int32) (ho : isL o) (hP : (p_Li_leadToEnd o a1 hp)) (H0 : F (g_Li_leadToEnd o a1 hp)) : Ev wC G 1 q_Li_leadToEnd [.ref o, .int a1] hp (rV F) := by
  have H : ∀ h, h = (g_Li_leadToEnd o a1 hp) → F h := by rintro _ rfl; exact H0
  unfold p_Li_leadToEnd at hP
  refine w_Li_leadToEnd o a1 ho ?_
  refine ⟨fun hc_1 => ?_, fun hc_1 => ?_⟩
  · exact H _ (((if_pos hc_1).trans rfl)).symm
  · refine ⟨fun hc_9 => ?_, fun hc_9 => ?_⟩
    · exact H _ (((if_neg hc_1).trans ((if_pos hc_9).trans rfl))).symm
    · refine ⟨((hP hc_1) hc_9), ?_⟩
      exact H _ (((if_neg hc_1).trans ((if_neg hc_9).trans rfl))).symm
set_option maxHeartbeats 4000000 in
set_option maxRecDepth 20000 in
theorem w_Li_bounded {Ω : rx_Om} {G : rx_Gh} {hp : rx_Hp} {F : Int32 → rx_Hp → Prop} (a1 : Int64) (H : F ((f_Mt_max1 (-1000000) (f_Mt_min1 1000000 a1)).toInt32) hp) : Ev Ω G 2 q_Li_bounded [.long a1] hp (rI F) := by
  refine ev_of rfl (Nat.le_of_ble_eq_true rfl) rfl ?_
  show Rn Ω G 2 q_Li_bounded 0 [some (.long a1), none] [] hp (rI F)
  refine r_ldc2 d_Li_bounded_0 ck_Li_40 ?_
  refine r_ldc2 d_Li_bounded_3 ck_Li_42 ?_
  refine r_lload_n (i := 0) d_Li_bounded_6 rfl rfl ?_
  refine rk_SJ (d' := 1) [.long 1000000, .long a1] [.long (-1000000)] d_Li_bounded_7 ml_Li_44 rfl rfl (by decide) (Nat.le_of_ble_eq_true rfl) (s_Mt_min1 1000000 a1 ?_)
  refine rk_SJ (d' := 1) [.long (-1000000), .long (f_Mt_min1 1000000 a1)] [] d_Li_bounded_10 ml_Li_48 rfl rfl (by decide) (Nat.le_of_ble_eq_true rfl) (s_Mt_max1 (-1000000) (f_Mt_min1 1000000 a1) ?_)
  refine r_l2i d_Li_bounded_13 ?_
  exact rI_ret d_Li_bounded_14 rfl H
def f_Li_bounded (a1 : Int64) : Int32 := (f_Mt_max1 (-1000000) (f_Mt_min1 1000000 a1)).toInt32
theorem s_Li_bounded {Ω : rx_Om} {G : rx_Gh} {hp : rx_Hp} {F : Int32 → rx_Hp → Prop} (a1 : Int64) (H0 : F (f_Li_bounded a1) hp) : Ev Ω G 2 q_Li_bounded [.long a1] hp (rI F) := by
  have H : ∀ v h, v = (f_Li_bounded a1) → h = hp → F v h := by rintro _ _ rfl rfl; exact H0
  refine w_Li_bounded a1  ?_
  exact H _ _ (rfl).symm (rfl).symm
set_option maxHeartbeats 4000000 in
set_option maxRecDepth 20000 in
theorem w_Li_joined {Ω : rx_Om} {G : rx_Gh} {hp : rx_Hp} {F : Int32 → rx_Hp → Prop} (a1 : Int32) (a2 : Int32) (a3 : Int32) (H : (a1 = 38 → F (a2 &&& a3) hp) ∧ (a1 = 42 → F (f_Li_bounded (a2.toInt64 * a3.toInt64)) hp) ∧ (a1 = 43 → F (f_Li_bounded ((a2 + a3).toInt64)) hp) ∧ (a1 = 45 → F (f_Li_bounded ((a2 - a3).toInt64)) hp) ∧ (a1 = 47 → F ((if a3 = 0 then 0 else (a2 / a3)) : Int32) hp) ∧ (a1 = 60 → F ((if a3 ≤ a2 then 0 else 1) : Int32) hp) ∧ (a1 = 61 → F ((if a2 = a3 then 1 else 0) : Int32) hp) ∧ (a1 = 62 → F ((if a2 ≤ a3 then 0 else 1) : Int32) hp) ∧ (¬ a1 = 38 → ¬ a1 = 42 → ¬ a1 = 43 → ¬ a1 = 45 → ¬ a1 = 47 → ¬ a1 = 60 → ¬ a1 = 61 → ¬ a1 = 62 → F (a2 ||| a3) hp)) : Ev Ω G 3 q_Li_joined [.int a1, .int a2, .int a3] hp (rI F) := by
  refine ev_of rfl (Nat.le_of_ble_eq_true rfl) rfl ?_
  show Rn Ω G 3 q_Li_joined 0 [some (.int a1), some (.int a2), some (.int a3)] [] hp (rI F)
  refine r_iload_n (i := 0) d_Li_joined_0 rfl rfl ?_
  by_cases hs_1_38 : a1 = 38
  · replace H := H.1 hs_1_38
    refine r_tabIn (off := 185) (tgt := 186) d_Li_joined_1 (by rw [hs_1_38]; decide) (by rw [hs_1_38]; decide) (by rw [hs_1_38]; decide) (by decide) ?_
    refine r_iload_n (i := 1) d_Li_joined_186 rfl rfl ?_
    refine r_iload_n (i := 2) d_Li_joined_187 rfl rfl ?_
    refine r_iand d_Li_joined_188 ?_
    exact rI_ret d_Li_joined_189 rfl H
  by_cases hs_1_42 : a1 = 42
  · replace H := H.2.1 hs_1_42
    refine r_tabIn (off := 131) (tgt := 132) d_Li_joined_1 (by rw [hs_1_42]; decide) (by rw [hs_1_42]; decide) (by rw [hs_1_42]; decide) (by decide) ?_
    refine r_iload_n (i := 1) d_Li_joined_132 rfl rfl ?_
    refine r_i2l d_Li_joined_133 ?_
    refine r_iload_n (i := 2) d_Li_joined_134 rfl rfl ?_
    refine r_i2l d_Li_joined_135 ?_
    refine r_lmul d_Li_joined_136 ?_
    refine rk_SI (d' := 2) [.long (a2.toInt64 * a3.toInt64)] [] d_Li_joined_137 ml_Li_36 rfl rfl (by decide) (Nat.le_of_ble_eq_true rfl) (s_Li_bounded (a2.toInt64 * a3.toInt64) ?_)
    exact rI_ret d_Li_joined_140 rfl H
  by_cases hs_1_43 : a1 = 43
  · replace H := H.2.2.1 hs_1_43
    refine r_tabIn (off := 115) (tgt := 116) d_Li_joined_1 (by rw [hs_1_43]; decide) (by rw [hs_1_43]; decide) (by rw [hs_1_43]; decide) (by decide) ?_
    refine r_iload_n (i := 1) d_Li_joined_116 rfl rfl ?_
    refine r_iload_n (i := 2) d_Li_joined_117 rfl rfl ?_
    refine r_iadd d_Li_joined_118 ?_
    refine r_i2l d_Li_joined_119 ?_
    refine rk_SI (d' := 2) [.long ((a2 + a3).toInt64)] [] d_Li_joined_120 ml_Li_36 rfl rfl (by decide) (Nat.le_of_ble_eq_true rfl) (s_Li_bounded ((a2 + a3).toInt64) ?_)
    exact rI_ret d_Li_joined_123 rfl H
  by_cases hs_1_45 : a1 = 45
  · replace H := H.2.2.2.1 hs_1_45
    refine r_tabIn (off := 123) (tgt := 124) d_Li_joined_1 (by rw [hs_1_45]; decide) (by rw [hs_1_45]; decide) (by rw [hs_1_45]; decide) (by decide) ?_
    refine r_iload_n (i := 1) d_Li_joined_124 rfl rfl ?_
    refine r_iload_n (i := 2) d_Li_joined_125 rfl rfl ?_
    refine r_isub d_Li_joined_126 ?_
    refine r_i2l d_Li_joined_127 ?_
    refine rk_SI (d' := 2) [.long ((a2 - a3).toInt64)] [] d_Li_joined_128 ml_Li_36 rfl rfl (by decide) (Nat.le_of_ble_eq_true rfl) (s_Li_bounded ((a2 - a3).toInt64) ?_)
    exact rI_ret d_Li_joined_131 rfl H
  by_cases hs_1_47 : a1 = 47
  · replace H := H.2.2.2.2.1 hs_1_47
    refine r_tabIn (off := 140) (tgt := 141) d_Li_joined_1 (by rw [hs_1_47]; decide) (by rw [hs_1_47]; decide) (by rw [hs_1_47]; decide) (by decide) ?_
    have J142 : ∀ (v142_0 : Int32), v142_0 = ((if a3 = 0 then 0 else (a2 / a3)) : Int32) → Rn Ω G 3 q_Li_joined 152 [some (.int a1), some (.int a2), some (.int a3)] [.int v142_0] hp (rI F) := by
      rintro _ rfl
      exact rI_ret d_Li_joined_152 rfl H
    refine r_iload_n (i := 2) d_Li_joined_141 rfl rfl ?_
    refine r_if_ne (tgt := 149) d_Li_joined_142 (by decide) (fun hc_142 => ?_) (fun hc_142 => ?_)
    · refine r_iload_n (i := 1) d_Li_joined_149 rfl rfl ?_
      refine r_iload_n (i := 2) d_Li_joined_150 rfl rfl ?_
      refine r_idiv d_Li_joined_151 hc_142 ?_
      exact J142 _ (((if_neg hc_142).trans rfl)).symm
    · refine r_iconst d_Li_joined_145 ic_0 ?_
      refine r_goto (tgt := 152) d_Li_joined_146 (by decide) ?_
      exact J142 _ (((if_pos hc_142).trans rfl)).symm
  by_cases hs_1_60 : a1 = 60
  · replace H := H.2.2.2.2.2.1 hs_1_60
    refine r_tabIn (off := 163) (tgt := 164) d_Li_joined_1 (by rw [hs_1_60]; decide) (by rw [hs_1_60]; decide) (by rw [hs_1_60]; decide) (by decide) ?_
    have J166 : ∀ (v166_0 : Int32), v166_0 = ((if a3 ≤ a2 then 0 else 1) : Int32) → Rn Ω G 3 q_Li_joined 174 [some (.int a1), some (.int a2), some (.int a3)] [.int v166_0] hp (rI F) := by
      rintro _ rfl
      exact rI_ret d_Li_joined_174 rfl H
    refine r_iload_n (i := 1) d_Li_joined_164 rfl rfl ?_
    refine r_iload_n (i := 2) d_Li_joined_165 rfl rfl ?_
    refine r_icmp_ge (tgt := 173) d_Li_joined_166 (by decide) (fun hc_166 => ?_) (fun hc_166 => ?_)
    · refine r_iconst d_Li_joined_173 ic_0 ?_
      exact J166 _ (((if_pos hc_166).trans rfl)).symm
    · refine r_iconst d_Li_joined_169 ic_1 ?_
      refine r_goto (tgt := 174) d_Li_joined_170 (by decide) ?_
      exact J166 _ (((if_neg hc_166).trans rfl)).symm
  by_cases hs_1_61 : a1 = 61
  · replace H := H.2.2.2.2.2.2.1 hs_1_61
    refine r_tabIn (off := 152) (tgt := 153) d_Li_joined_1 (by rw [hs_1_61]; decide) (by rw [hs_1_61]; decide) (by rw [hs_1_61]; decide) (by decide) ?_
    have J155 : ∀ (v155_0 : Int32), v155_0 = ((if a2 = a3 then 1 else 0) : Int32) → Rn Ω G 3 q_Li_joined 163 [some (.int a1), some (.int a2), some (.int a3)] [.int v155_0] hp (rI F) := by
      rintro _ rfl
      exact rI_ret d_Li_joined_163 rfl H
    refine r_iload_n (i := 1) d_Li_joined_153 rfl rfl ?_
    refine r_iload_n (i := 2) d_Li_joined_154 rfl rfl ?_
    refine r_icmp_ne (tgt := 162) d_Li_joined_155 (by decide) (fun hc_155 => ?_) (fun hc_155 => ?_)
    · refine r_iconst d_Li_joined_162 ic_0 ?_
      exact J155 _ (((if_neg hc_155).trans rfl)).symm
    · refine r_iconst d_Li_joined_158 ic_1 ?_
      refine r_goto (tgt := 163) d_Li_joined_159 (by decide) ?_
      exact J155 _ (((if_pos hc_155).trans rfl)).symm
  by_cases hs_1_62 : a1 = 62
  · replace H := H.2.2.2.2.2.2.2.1 hs_1_62
    refine r_tabIn (off := 174) (tgt := 175) d_Li_joined_1 (by rw [hs_1_62]; decide) (by rw [hs_1_62]; decide) (by rw [hs_1_62]; decide) (by decide) ?_
    have J177 : ∀ (v177_0 : Int32), v177_0 = ((if a2 ≤ a3 then 0 else 1) : Int32) → Rn Ω G 3 q_Li_joined 185 [some (.int a1), some (.int a2), some (.int a3)] [.int v177_0] hp (rI F) := by
      rintro _ rfl
      exact rI_ret d_Li_joined_185 rfl H
    refine r_iload_n (i := 1) d_Li_joined_175 rfl rfl ?_
    refine r_iload_n (i := 2) d_Li_joined_176 rfl rfl ?_
    refine r_icmp_le (tgt := 184) d_Li_joined_177 (by decide) (fun hc_177 => ?_) (fun hc_177 => ?_)
    · refine r_iconst d_Li_joined_184 ic_0 ?_
      exact J177 _ (((if_pos hc_177).trans rfl)).symm
    · refine r_iconst d_Li_joined_180 ic_1 ?_
      refine r_goto (tgt := 185) d_Li_joined_181 (by decide) ?_
      exact J177 _ (((if_neg hc_177).trans rfl)).symm
  replace H := H.2.2.2.2.2.2.2.2 hs_1_38 hs_1_42 hs_1_43 hs_1_45 hs_1_47 hs_1_60 hs_1_61 hs_1_62
  by_cases hg_1_39 : a1 = 39
  · refine r_tabIn (off := 189) (tgt := 190) d_Li_joined_1 (by rw [hg_1_39]; decide) (by rw [hg_1_39]; decide) (by rw [hg_1_39]; decide) (by decide) ?_
    refine r_iload_n (i := 1) d_Li_joined_190 rfl rfl ?_
    refine r_iload_n (i := 2) d_Li_joined_191 rfl rfl ?_
    refine r_ior d_Li_joined_192 ?_
    exact rI_ret d_Li_joined_193 rfl H
  by_cases hg_1_40 : a1 = 40
  · refine r_tabIn (off := 189) (tgt := 190) d_Li_joined_1 (by rw [hg_1_40]; decide) (by rw [hg_1_40]; decide) (by rw [hg_1_40]; decide) (by decide) ?_
    refine r_iload_n (i := 1) d_Li_joined_190 rfl rfl ?_
    refine r_iload_n (i := 2) d_Li_joined_191 rfl rfl ?_
    refine r_ior d_Li_joined_192 ?_
    exact rI_ret d_Li_joined_193 rfl H
  by_cases hg_1_41 : a1 = 41
  · refine r_tabIn (off := 189) (tgt := 190) d_Li_joined_1 (by rw [hg_1_41]; decide) (by rw [hg_1_41]; decide) (by rw [hg_1_41]; decide) (by decide) ?_
    refine r_iload_n (i := 1) d_Li_joined_190 rfl rfl ?_
    refine r_iload_n (i := 2) d_Li_joined_191 rfl rfl ?_
    refine r_ior d_Li_joined_192 ?_
    exact rI_ret d_Li_joined_193 rfl H
  by_cases hg_1_44 : a1 = 44
  · refine r_tabIn (off := 189) (tgt := 190) d_Li_joined_1 (by rw [hg_1_44]; decide) (by rw [hg_1_44]; decide) (by rw [hg_1_44]; decide) (by decide) ?_
    refine r_iload_n (i := 1) d_Li_joined_190 rfl rfl ?_
    refine r_iload_n (i := 2) d_Li_joined_191 rfl rfl ?_
    refine r_ior d_Li_joined_192 ?_
    exact rI_ret d_Li_joined_193 rfl H
  by_cases hg_1_46 : a1 = 46
  · refine r_tabIn (off := 189) (tgt := 190) d_Li_joined_1 (by rw [hg_1_46]; decide) (by rw [hg_1_46]; decide) (by rw [hg_1_46]; decide) (by decide) ?_
    refine r_iload_n (i := 1) d_Li_joined_190 rfl rfl ?_
    refine r_iload_n (i := 2) d_Li_joined_191 rfl rfl ?_
    refine r_ior d_Li_joined_192 ?_
    exact rI_ret d_Li_joined_193 rfl H
  by_cases hg_1_48 : a1 = 48
  · refine r_tabIn (off := 189) (tgt := 190) d_Li_joined_1 (by rw [hg_1_48]; decide) (by rw [hg_1_48]; decide) (by rw [hg_1_48]; decide) (by decide) ?_
    refine r_iload_n (i := 1) d_Li_joined_190 rfl rfl ?_
    refine r_iload_n (i := 2) d_Li_joined_191 rfl rfl ?_
    refine r_ior d_Li_joined_192 ?_
    exact rI_ret d_Li_joined_193 rfl H
  by_cases hg_1_49 : a1 = 49
  · refine r_tabIn (off := 189) (tgt := 190) d_Li_joined_1 (by rw [hg_1_49]; decide) (by rw [hg_1_49]; decide) (by rw [hg_1_49]; decide) (by decide) ?_
    refine r_iload_n (i := 1) d_Li_joined_190 rfl rfl ?_
    refine r_iload_n (i := 2) d_Li_joined_191 rfl rfl ?_
    refine r_ior d_Li_joined_192 ?_
    exact rI_ret d_Li_joined_193 rfl H
  by_cases hg_1_50 : a1 = 50
  · refine r_tabIn (off := 189) (tgt := 190) d_Li_joined_1 (by rw [hg_1_50]; decide) (by rw [hg_1_50]; decide) (by rw [hg_1_50]; decide) (by decide) ?_
    refine r_iload_n (i := 1) d_Li_joined_190 rfl rfl ?_
    refine r_iload_n (i := 2) d_Li_joined_191 rfl rfl ?_
    refine r_ior d_Li_joined_192 ?_
    exact rI_ret d_Li_joined_193 rfl H
  by_cases hg_1_51 : a1 = 51
  · refine r_tabIn (off := 189) (tgt := 190) d_Li_joined_1 (by rw [hg_1_51]; decide) (by rw [hg_1_51]; decide) (by rw [hg_1_51]; decide) (by decide) ?_
    refine r_iload_n (i := 1) d_Li_joined_190 rfl rfl ?_
    refine r_iload_n (i := 2) d_Li_joined_191 rfl rfl ?_
    refine r_ior d_Li_joined_192 ?_
    exact rI_ret d_Li_joined_193 rfl H
  by_cases hg_1_52 : a1 = 52
  · refine r_tabIn (off := 189) (tgt := 190) d_Li_joined_1 (by rw [hg_1_52]; decide) (by rw [hg_1_52]; decide) (by rw [hg_1_52]; decide) (by decide) ?_
    refine r_iload_n (i := 1) d_Li_joined_190 rfl rfl ?_
    refine r_iload_n (i := 2) d_Li_joined_191 rfl rfl ?_
    refine r_ior d_Li_joined_192 ?_
    exact rI_ret d_Li_joined_193 rfl H
  by_cases hg_1_53 : a1 = 53
  · refine r_tabIn (off := 189) (tgt := 190) d_Li_joined_1 (by rw [hg_1_53]; decide) (by rw [hg_1_53]; decide) (by rw [hg_1_53]; decide) (by decide) ?_
    refine r_iload_n (i := 1) d_Li_joined_190 rfl rfl ?_
    refine r_iload_n (i := 2) d_Li_joined_191 rfl rfl ?_
    refine r_ior d_Li_joined_192 ?_
    exact rI_ret d_Li_joined_193 rfl H
  by_cases hg_1_54 : a1 = 54
  · refine r_tabIn (off := 189) (tgt := 190) d_Li_joined_1 (by rw [hg_1_54]; decide) (by rw [hg_1_54]; decide) (by rw [hg_1_54]; decide) (by decide) ?_
    refine r_iload_n (i := 1) d_Li_joined_190 rfl rfl ?_
    refine r_iload_n (i := 2) d_Li_joined_191 rfl rfl ?_
    refine r_ior d_Li_joined_192 ?_
    exact rI_ret d_Li_joined_193 rfl H
  by_cases hg_1_55 : a1 = 55
  · refine r_tabIn (off := 189) (tgt := 190) d_Li_joined_1 (by rw [hg_1_55]; decide) (by rw [hg_1_55]; decide) (by rw [hg_1_55]; decide) (by decide) ?_
    refine r_iload_n (i := 1) d_Li_joined_190 rfl rfl ?_
    refine r_iload_n (i := 2) d_Li_joined_191 rfl rfl ?_
    refine r_ior d_Li_joined_192 ?_
    exact rI_ret d_Li_joined_193 rfl H
  by_cases hg_1_56 : a1 = 56
  · refine r_tabIn (off := 189) (tgt := 190) d_Li_joined_1 (by rw [hg_1_56]; decide) (by rw [hg_1_56]; decide) (by rw [hg_1_56]; decide) (by decide) ?_
    refine r_iload_n (i := 1) d_Li_joined_190 rfl rfl ?_
    refine r_iload_n (i := 2) d_Li_joined_191 rfl rfl ?_
    refine r_ior d_Li_joined_192 ?_
    exact rI_ret d_Li_joined_193 rfl H
  by_cases hg_1_57 : a1 = 57
  · refine r_tabIn (off := 189) (tgt := 190) d_Li_joined_1 (by rw [hg_1_57]; decide) (by rw [hg_1_57]; decide) (by rw [hg_1_57]; decide) (by decide) ?_
    refine r_iload_n (i := 1) d_Li_joined_190 rfl rfl ?_
    refine r_iload_n (i := 2) d_Li_joined_191 rfl rfl ?_
    refine r_ior d_Li_joined_192 ?_
    exact rI_ret d_Li_joined_193 rfl H
  by_cases hg_1_58 : a1 = 58
  · refine r_tabIn (off := 189) (tgt := 190) d_Li_joined_1 (by rw [hg_1_58]; decide) (by rw [hg_1_58]; decide) (by rw [hg_1_58]; decide) (by decide) ?_
    refine r_iload_n (i := 1) d_Li_joined_190 rfl rfl ?_
    refine r_iload_n (i := 2) d_Li_joined_191 rfl rfl ?_
    refine r_ior d_Li_joined_192 ?_
    exact rI_ret d_Li_joined_193 rfl H
  by_cases hg_1_59 : a1 = 59
  · refine r_tabIn (off := 189) (tgt := 190) d_Li_joined_1 (by rw [hg_1_59]; decide) (by rw [hg_1_59]; decide) (by rw [hg_1_59]; decide) (by decide) ?_
    refine r_iload_n (i := 1) d_Li_joined_190 rfl rfl ?_
    refine r_iload_n (i := 2) d_Li_joined_191 rfl rfl ?_
    refine r_ior d_Li_joined_192 ?_
    exact rI_ret d_Li_joined_193 rfl H
  refine r_tabOut (tgt := 190) d_Li_joined_1 (rx_tab (lo := 38) (hi := 62) (by decide) (by decide) (fun i h1 h2 => ?_)) (by decide) ?_
  · have hz : i = 38 ∨ i = 39 ∨ i = 40 ∨ i = 41 ∨ i = 42 ∨ i = 43 ∨ i = 44 ∨ i = 45 ∨ i = 46 ∨ i = 47 ∨ i = 48 ∨ i = 49 ∨ i = 50 ∨ i = 51 ∨ i = 52 ∨ i = 53 ∨ i = 54 ∨ i = 55 ∨ i = 56 ∨ i = 57 ∨ i = 58 ∨ i = 59 ∨ i = 60 ∨ i = 61 ∨ i = 62 := by omega
    rcases hz with rfl | rfl | rfl | rfl | rfl | rfl | rfl | rfl | rfl | rfl | rfl | rfl | rfl | rfl | rfl | rfl | rfl | rfl | rfl | rfl | rfl | rfl | rfl | rfl | rfl
    · exact hs_1_38
    · exact hg_1_39
    · exact hg_1_40
    · exact hg_1_41
    · exact hs_1_42
    · exact hs_1_43
    · exact hg_1_44
    · exact hs_1_45
    · exact hg_1_46
    · exact hs_1_47
    · exact hg_1_48
    · exact hg_1_49
    · exact hg_1_50
    · exact hg_1_51
    · exact hg_1_52
    · exact hg_1_53
    · exact hg_1_54
    · exact hg_1_55
    · exact hg_1_56
    · exact hg_1_57
    · exact hg_1_58
    · exact hg_1_59
    · exact hs_1_60
    · exact hs_1_61
    · exact hs_1_62
  refine r_iload_n (i := 1) d_Li_joined_190 rfl rfl ?_
  refine r_iload_n (i := 2) d_Li_joined_191 rfl rfl ?_
  refine r_ior d_Li_joined_192 ?_
  exact rI_ret d_Li_joined_193 rfl H
def f_Li_joined (a1 : Int32) (a2 : Int32) (a3 : Int32) : Int32 := (if a1 = 38 then (a2 &&& a3) else (if a1 = 42 then (f_Li_bounded (a2.toInt64 * a3.toInt64)) else (if a1 = 43 then (f_Li_bounded ((a2 + a3).toInt64)) else (if a1 = 45 then (f_Li_bounded ((a2 - a3).toInt64)) else (if a1 = 47 then ((if a3 = 0 then 0 else (a2 / a3)) : Int32) else (if a1 = 60 then ((if a3 ≤ a2 then 0 else 1) : Int32) else (if a1 = 61 then ((if a2 = a3 then 1 else 0) : Int32) else (if a1 = 62 then ((if a2 ≤ a3 then 0 else 1) : Int32) else (a2 ||| a3)))))))))
theorem s_Li_joined {Ω : rx_Om} {G : rx_Gh} {hp : rx_Hp} {F : Int32 → rx_Hp → Prop} (a1 : Int32) (a2 : Int32) (a3 : Int32) (H0 : F (f_Li_joined a1 a2 a3) hp) : Ev Ω G 3 q_Li_joined [.int a1, .int a2, .int a3] hp (rI F) := by
  have H : ∀ v h, v = (f_Li_joined a1 a2 a3) → h = hp → F v h := by rintro _ _ rfl rfl; exact H0
  refine w_Li_joined a1 a2 a3  ?_
  refine ⟨fun s38 => ?_, fun s42 => ?_, fun s43 => ?_, fun s45 => ?_, fun s47 => ?_, fun s60 => ?_, fun s61 => ?_, fun s62 => ?_, fun s38 s42 s43 s45 s47 s60 s61 s62 => ?_⟩
  · exact H _ _ (((if_pos s38).trans rfl)).symm (rfl).symm
  · exact H _ _ (((if_neg (rx_ne s42 (by decide))).trans ((if_pos s42).trans rfl))).symm (rfl).symm
  · exact H _ _ (((if_neg (rx_ne s43 (by decide))).trans ((if_neg (rx_ne s43 (by decide))).trans ((if_pos s43).trans rfl)))).symm (rfl).symm
  · exact H _ _ (((if_neg (rx_ne s45 (by decide))).trans ((if_neg (rx_ne s45 (by decide))).trans ((if_neg (rx_ne s45 (by decide))).trans ((if_pos s45).trans rfl))))).symm (rfl).symm
  · exact H _ _ (((if_neg (rx_ne s47 (by decide))).trans ((if_neg (rx_ne s47 (by decide))).trans ((if_neg (rx_ne s47 (by decide))).trans ((if_neg (rx_ne s47 (by decide))).trans ((if_pos s47).trans rfl)))))).symm (rfl).symm
  · exact H _ _ (((if_neg (rx_ne s60 (by decide))).trans ((if_neg (rx_ne s60 (by decide))).trans ((if_neg (rx_ne s60 (by decide))).trans ((if_neg (rx_ne s60 (by decide))).trans ((if_neg (rx_ne s60 (by decide))).trans ((if_pos s60).trans rfl))))))).symm (rfl).symm
  · exact H _ _ (((if_neg (rx_ne s61 (by decide))).trans ((if_neg (rx_ne s61 (by decide))).trans ((if_neg (rx_ne s61 (by decide))).trans ((if_neg (rx_ne s61 (by decide))).trans ((if_neg (rx_ne s61 (by decide))).trans ((if_neg (rx_ne s61 (by decide))).trans ((if_pos s61).trans rfl)))))))).symm (rfl).symm
  · exact H _ _ (((if_neg (rx_ne s62 (by decide))).trans ((if_neg (rx_ne s62 (by decide))).trans ((if_neg (rx_ne s62 (by decide))).trans ((if_neg (rx_ne s62 (by decide))).trans ((if_neg (rx_ne s62 (by decide))).trans ((if_neg (rx_ne s62 (by decide))).trans ((if_neg (rx_ne s62 (by decide))).trans ((if_pos s62).trans rfl))))))))).symm (rfl).symm
  · exact H _ _ (((if_neg s38).trans ((if_neg s42).trans ((if_neg s43).trans ((if_neg s45).trans ((if_neg s47).trans ((if_neg s60).trans ((if_neg s61).trans ((if_neg s62).trans rfl))))))))).symm (rfl).symm
set_option maxHeartbeats 4000000 in
set_option maxRecDepth 20000 in
theorem w_LR_isComparison {Ω : rx_Om} {G : rx_Gh} {hp : rx_Hp} {F : Int32 → rx_Hp → Prop} (a1 : Int32) (H : F ((if a1 = 61 then 1 else ((if a1 = 60 then 1 else ((if a1 = 62 then 1 else 0) : Int32)) : Int32)) : Int32) hp) : Ev Ω G 1 q_LR_isComparison [.int a1] hp (rI F) := by
  refine ev_of rfl (Nat.le_of_ble_eq_true rfl) rfl ?_
  show Rn Ω G 1 q_LR_isComparison 0 [some (.int a1)] [] hp (rI F)
  have J3 : ∀ (v3_0 : Int32), v3_0 = ((if a1 = 61 then 1 else ((if a1 = 60 then 1 else ((if a1 = 62 then 1 else 0) : Int32)) : Int32)) : Int32) → Rn Ω G 1 q_LR_isComparison 23 [some (.int a1)] [.int v3_0] hp (rI F) := by
    rintro _ rfl
    exact rZ_ret d_LR_isComparison_23 rfl (rb_ite (Or.inr rfl) (rb_ite (Or.inr rfl) (rb_ite (Or.inr rfl) (Or.inl rfl)))) H
  refine r_iload_n (i := 0) d_LR_isComparison_0 rfl rfl ?_
  refine r_bipush d_LR_isComparison_1 bp_61 ?_
  refine r_icmp_eq (tgt := 18) d_LR_isComparison_3 (by decide) (fun hc_3 => ?_) (fun hc_3 => ?_)
  · refine r_iconst d_LR_isComparison_18 ic_1 ?_
    refine r_goto (tgt := 23) d_LR_isComparison_19 (by decide) ?_
    exact J3 _ (((if_pos hc_3).trans rfl)).symm
  · refine r_iload_n (i := 0) d_LR_isComparison_6 rfl rfl ?_
    refine r_bipush d_LR_isComparison_7 bp_60 ?_
    refine r_icmp_eq (tgt := 18) d_LR_isComparison_9 (by decide) (fun hc_9 => ?_) (fun hc_9 => ?_)
    · refine r_iconst d_LR_isComparison_18 ic_1 ?_
      refine r_goto (tgt := 23) d_LR_isComparison_19 (by decide) ?_
      exact J3 _ (((if_neg hc_3).trans ((if_pos hc_9).trans rfl))).symm
    · refine r_iload_n (i := 0) d_LR_isComparison_12 rfl rfl ?_
      refine r_bipush d_LR_isComparison_13 bp_62 ?_
      refine r_icmp_ne (tgt := 22) d_LR_isComparison_15 (by decide) (fun hc_15 => ?_) (fun hc_15 => ?_)
      · refine r_iconst d_LR_isComparison_22 ic_0 ?_
        exact J3 _ (((if_neg hc_3).trans ((if_neg hc_9).trans ((if_neg hc_15).trans rfl)))).symm
      · refine r_iconst d_LR_isComparison_18 ic_1 ?_
        refine r_goto (tgt := 23) d_LR_isComparison_19 (by decide) ?_
        exact J3 _ (((if_neg hc_3).trans ((if_neg hc_9).trans ((if_pos hc_15).trans rfl)))).symm
def f_LR_isComparison (a1 : Int32) : Int32 := ((if a1 = 61 then 1 else ((if a1 = 60 then 1 else ((if a1 = 62 then 1 else 0) : Int32)) : Int32)) : Int32)
theorem s_LR_isComparison {Ω : rx_Om} {G : rx_Gh} {hp : rx_Hp} {F : Int32 → rx_Hp → Prop} (a1 : Int32) (H0 : F (f_LR_isComparison a1) hp) : Ev Ω G 1 q_LR_isComparison [.int a1] hp (rI F) := by
  have H : ∀ v h, v = (f_LR_isComparison a1) → h = hp → F v h := by rintro _ _ rfl rfl; exact H0
  refine w_LR_isComparison a1  ?_
  exact H _ _ (rfl).symm (rfl).symm
theorem b_LR_isComparison (a1 : Int32) : (f_LR_isComparison a1) = 0 ∨ (f_LR_isComparison a1) = 1 := (rb_ite (Or.inr rfl) (rb_ite (Or.inr rfl) (rb_ite (Or.inr rfl) (Or.inl rfl))))
set_option maxHeartbeats 4000000 in
set_option maxRecDepth 20000 in
theorem w_Ph_add {G : rx_Gh} {hp : rx_Hp} {F : rx_Hp → Prop} (a1 : Int32) (a2 : Int32) (H : (12 ≤ (hp.1 47 3) → F hp) ∧ (¬ 12 ≤ (hp.1 47 3) → vp_in (hp.1 47 3) 12 ∧ (F (rx_pf (rx_pa (rx_pa hp 48 ((hp.1 47 3).toNatClampNeg) a1) 49 ((hp.1 47 3).toNatClampNeg) a2) 47 3 ((hp.1 47 3) + 1))))) : Ev wC G 1 q_Ph_add [.ref 47, .int a1, .int a2] hp (rV F) := by
  refine ev_of rfl (Nat.le_of_ble_eq_true rfl) rfl ?_
  show Rn wC G 1 q_Ph_add 0 [some (.ref 47), some (.int a1), some (.int a2)] [] hp (rV F)
  refine r_aload_n (i := 0) d_Ph_add_0 rfl rfl ?_
  refine r_getI (b := 47) (v := hp.1 47 3) d_Ph_add_1 fl_Ph_22 (by decide) rfl rfl rfl ?_
  refine r_bipush d_Ph_add_4 bp_12 ?_
  refine r_icmp_ge (tgt := 39) d_Ph_add_6 (by decide) (fun hc_6 => ?_) (fun hc_6 => ?_)
  · replace H := H.1 hc_6
    exact rV_ret d_Ph_add_39 rfl H
  · replace H := H.2 hc_6
    refine r_aload_n (i := 0) d_Ph_add_9 rfl rfl ?_
    refine r_getR (b := 47) (r := 48) d_Ph_add_10 fl_Ph_9 (by decide) rfl rfl rfl ?_
    refine r_aload_n (i := 0) d_Ph_add_13 rfl rfl ?_
    refine r_getI (b := 47) (v := hp.1 47 3) d_Ph_add_14 fl_Ph_22 (by decide) rfl rfl rfl ?_
    refine r_iload_n (i := 1) d_Ph_add_17 rfl rfl ?_
    obtain ⟨hi_18, H⟩ := H
    refine r_iast (b := 48) (i := (hp.1 47 3).toNatClampNeg) d_Ph_add_18 (by decide) rfl hi_18 rfl ?_
    refine r_aload_n (i := 0) d_Ph_add_19 rfl rfl ?_
    refine r_getR (b := 47) (r := 49) d_Ph_add_20 fl_Ph_15 (by decide) rfl rfl rfl ?_
    refine r_aload_n (i := 0) d_Ph_add_23 rfl rfl ?_
    refine r_getI (b := 47) (v := hp.1 47 3) d_Ph_add_24 fl_Ph_22 (by decide) rfl rfl rfl ?_
    refine r_iload_n (i := 2) d_Ph_add_27 rfl rfl ?_
    refine r_iast (b := 49) (i := (hp.1 47 3).toNatClampNeg) d_Ph_add_28 (by decide) rfl hi_18 rfl ?_
    refine r_aload_n (i := 0) d_Ph_add_29 rfl rfl ?_
    refine r_dupr d_Ph_add_30 ?_
    refine r_getI (b := 47) (v := hp.1 47 3) d_Ph_add_31 fl_Ph_22 (by decide) rfl rfl rfl ?_
    refine r_iconst d_Ph_add_34 ic_1 ?_
    refine r_iadd d_Ph_add_35 ?_
    refine r_putI (b := 47) d_Ph_add_36 fp_Ph_22 ⟨rfl, rfl⟩ (by decide) rfl rfl ?_
    exact rV_ret d_Ph_add_39 rfl H
def g_Ph_add (a1 : Int32) (a2 : Int32) (hp : rx_Hp) : rx_Hp := (if 12 ≤ (hp.1 47 3) then hp else (rx_pf (rx_pa (rx_pa hp 48 ((hp.1 47 3).toNatClampNeg) a1) 49 ((hp.1 47 3).toNatClampNeg) a2) 47 3 ((hp.1 47 3) + 1)))
def p_Ph_add (a1 : Int32) (a2 : Int32) (hp : rx_Hp) : Prop := (¬ 12 ≤ (hp.1 47 3) → vp_in (hp.1 47 3) 12)
theorem s_Ph_add {G : rx_Gh} {hp : rx_Hp} {F : rx_Hp → Prop} (a1 : Int32) (a2 : Int32) (hP : (p_Ph_add a1 a2 hp)) (H0 : F (g_Ph_add a1 a2 hp)) : Ev wC G 1 q_Ph_add [.ref 47, .int a1, .int a2] hp (rV F) := by
  have H : ∀ h, h = (g_Ph_add a1 a2 hp) → F h := by rintro _ rfl; exact H0
  unfold p_Ph_add at hP
  refine w_Ph_add a1 a2  ?_
  refine ⟨fun hc_6 => ?_, fun hc_6 => ?_⟩
  · exact H _ (((if_pos hc_6).trans rfl)).symm
  · refine ⟨(hP hc_6), ?_⟩
    exact H _ (((if_neg hc_6).trans rfl)).symm
set_option maxHeartbeats 4000000 in
set_option maxRecDepth 20000 in
theorem w_Si_isBetween {Ω : rx_Om} {G : rx_Gh} {hp : rx_Hp} {F : Int32 → rx_Hp → Prop} (a1 : Int32) (a2 : Int32) (H : F ((if a2 ≤ 0 then ((if 0 ≤ a1 then 0 else ((if a1 ≤ a2 then 0 else 1) : Int32)) : Int32) else ((if a1 ≤ 0 then 0 else ((if a2 ≤ a1 then 0 else 1) : Int32)) : Int32)) : Int32) hp) : Ev Ω G 1 q_Si_isBetween [.int a1, .int a2] hp (rI F) := by
  refine ev_of rfl (Nat.le_of_ble_eq_true rfl) rfl ?_
  show Rn Ω G 1 q_Si_isBetween 0 [some (.int a1), some (.int a2)] [] hp (rI F)
  have J1 : ∀ (v1_0 : Int32), v1_0 = ((if a2 ≤ 0 then ((if 0 ≤ a1 then 0 else ((if a1 ≤ a2 then 0 else 1) : Int32)) : Int32) else ((if a1 ≤ 0 then 0 else ((if a2 ≤ a1 then 0 else 1) : Int32)) : Int32)) : Int32) → Rn Ω G 1 q_Si_isBetween 35 [some (.int a1), some (.int a2)] [.int v1_0] hp (rI F) := by
    rintro _ rfl
    exact rZ_ret d_Si_isBetween_35 rfl (rb_ite (rb_ite (Or.inl rfl) (rb_ite (Or.inl rfl) (Or.inr rfl))) (rb_ite (Or.inl rfl) (rb_ite (Or.inl rfl) (Or.inr rfl)))) H
  refine r_iload_n (i := 1) d_Si_isBetween_0 rfl rfl ?_
  refine r_if_le (tgt := 21) d_Si_isBetween_1 (by decide) (fun hc_1 => ?_) (fun hc_1 => ?_)
  · refine r_iload_n (i := 0) d_Si_isBetween_21 rfl rfl ?_
    refine r_if_ge (tgt := 34) d_Si_isBetween_22 (by decide) (fun hc_22 => ?_) (fun hc_22 => ?_)
    · refine r_iconst d_Si_isBetween_34 ic_0 ?_
      exact J1 _ (((if_pos hc_1).trans ((if_pos hc_22).trans rfl))).symm
    · refine r_iload_n (i := 0) d_Si_isBetween_25 rfl rfl ?_
      refine r_iload_n (i := 1) d_Si_isBetween_26 rfl rfl ?_
      refine r_icmp_le (tgt := 34) d_Si_isBetween_27 (by decide) (fun hc_27 => ?_) (fun hc_27 => ?_)
      · refine r_iconst d_Si_isBetween_34 ic_0 ?_
        exact J1 _ (((if_pos hc_1).trans ((if_neg hc_22).trans ((if_pos hc_27).trans rfl)))).symm
      · refine r_iconst d_Si_isBetween_30 ic_1 ?_
        refine r_goto (tgt := 35) d_Si_isBetween_31 (by decide) ?_
        exact J1 _ (((if_pos hc_1).trans ((if_neg hc_22).trans ((if_neg hc_27).trans rfl)))).symm
  · refine r_iload_n (i := 0) d_Si_isBetween_4 rfl rfl ?_
    refine r_if_le (tgt := 17) d_Si_isBetween_5 (by decide) (fun hc_5 => ?_) (fun hc_5 => ?_)
    · refine r_iconst d_Si_isBetween_17 ic_0 ?_
      refine r_goto (tgt := 35) d_Si_isBetween_18 (by decide) ?_
      exact J1 _ (((if_neg hc_1).trans ((if_pos hc_5).trans rfl))).symm
    · refine r_iload_n (i := 0) d_Si_isBetween_8 rfl rfl ?_
      refine r_iload_n (i := 1) d_Si_isBetween_9 rfl rfl ?_
      refine r_icmp_ge (tgt := 17) d_Si_isBetween_10 (by decide) (fun hc_10 => ?_) (fun hc_10 => ?_)
      · refine r_iconst d_Si_isBetween_17 ic_0 ?_
        refine r_goto (tgt := 35) d_Si_isBetween_18 (by decide) ?_
        exact J1 _ (((if_neg hc_1).trans ((if_neg hc_5).trans ((if_pos hc_10).trans rfl)))).symm
      · refine r_iconst d_Si_isBetween_13 ic_1 ?_
        refine r_goto (tgt := 35) d_Si_isBetween_14 (by decide) ?_
        exact J1 _ (((if_neg hc_1).trans ((if_neg hc_5).trans ((if_neg hc_10).trans rfl)))).symm
def f_Si_isBetween (a1 : Int32) (a2 : Int32) : Int32 := ((if a2 ≤ 0 then ((if 0 ≤ a1 then 0 else ((if a1 ≤ a2 then 0 else 1) : Int32)) : Int32) else ((if a1 ≤ 0 then 0 else ((if a2 ≤ a1 then 0 else 1) : Int32)) : Int32)) : Int32)
theorem s_Si_isBetween {Ω : rx_Om} {G : rx_Gh} {hp : rx_Hp} {F : Int32 → rx_Hp → Prop} (a1 : Int32) (a2 : Int32) (H0 : F (f_Si_isBetween a1 a2) hp) : Ev Ω G 1 q_Si_isBetween [.int a1, .int a2] hp (rI F) := by
  have H : ∀ v h, v = (f_Si_isBetween a1 a2) → h = hp → F v h := by rintro _ _ rfl rfl; exact H0
  refine w_Si_isBetween a1 a2  ?_
  exact H _ _ (rfl).symm (rfl).symm
theorem b_Si_isBetween (a1 : Int32) (a2 : Int32) : (f_Si_isBetween a1 a2) = 0 ∨ (f_Si_isBetween a1 a2) = 1 := (rb_ite (rb_ite (Or.inl rfl) (rb_ite (Or.inl rfl) (Or.inr rfl))) (rb_ite (Or.inl rfl) (rb_ite (Or.inl rfl) (Or.inr rfl))))
set_option maxHeartbeats 4000000 in
set_option maxRecDepth 20000 in
theorem w_Hg_offWall {G : rx_Gh} {hp : rx_Hp} {F : Int32 → rx_Hp → Prop} (a1 : Int32) (a2 : Int32) (H : (a2 = 0 → vp_in a1 6 ∧ (F (hp.2.1 4 a1.toNatClampNeg) hp)) ∧ (a2 = 1 → vp_in a1 6 ∧ (F ((hp.1 3 5) - (hp.2.1 4 a1.toNatClampNeg)) hp)) ∧ (a2 = 2 → vp_in a1 6 ∧ (F (hp.2.1 5 a1.toNatClampNeg) hp)) ∧ (¬ a2 = 0 → ¬ a2 = 1 → ¬ a2 = 2 → vp_in a1 6 ∧ (F ((hp.1 3 6) - (hp.2.1 5 a1.toNatClampNeg)) hp))) : Ev wC G 1 q_Hg_offWall [.ref 46, .int a1, .int a2] hp (rI F) := by
  refine ev_of rfl (Nat.le_of_ble_eq_true rfl) rfl ?_
  show Rn wC G 1 q_Hg_offWall 0 [some (.ref 46), some (.int a1), some (.int a2)] [] hp (rI F)
  refine r_iload_n (i := 2) d_Hg_offWall_0 rfl rfl ?_
  by_cases hs_1_0 : a2 = 0
  · replace H := H.1 hs_1_0
    refine r_tabIn (off := 27) (tgt := 28) d_Hg_offWall_1 (by rw [hs_1_0]; decide) (by rw [hs_1_0]; decide) (by rw [hs_1_0]; decide) (by decide) ?_
    refine r_aload_n (i := 0) d_Hg_offWall_28 rfl rfl ?_
    refine r_getR (b := 46) (r := 3) d_Hg_offWall_29 fl_Hg_7 (by decide) rfl rfl rfl ?_
    refine r_getR (b := 3) (r := 4) d_Hg_offWall_32 fl_Hg_45 (by decide) rfl rfl rfl ?_
    refine r_iload_n (i := 1) d_Hg_offWall_35 rfl rfl ?_
    obtain ⟨hi_36, H⟩ := H
    refine r_iald (b := 4) (v := hp.2.1 4 a1.toNatClampNeg) d_Hg_offWall_36 (by decide) rfl hi_36 rfl ?_
    exact rI_ret d_Hg_offWall_37 rfl H
  by_cases hs_1_1 : a2 = 1
  · replace H := H.2.1 hs_1_1
    refine r_tabIn (off := 37) (tgt := 38) d_Hg_offWall_1 (by rw [hs_1_1]; decide) (by rw [hs_1_1]; decide) (by rw [hs_1_1]; decide) (by decide) ?_
    refine r_aload_n (i := 0) d_Hg_offWall_38 rfl rfl ?_
    refine r_getR (b := 46) (r := 3) d_Hg_offWall_39 fl_Hg_7 (by decide) rfl rfl rfl ?_
    refine r_getI (b := 3) (v := hp.1 3 5) d_Hg_offWall_42 fl_Hg_49 (by decide) rfl rfl rfl ?_
    refine r_aload_n (i := 0) d_Hg_offWall_45 rfl rfl ?_
    refine r_getR (b := 46) (r := 3) d_Hg_offWall_46 fl_Hg_7 (by decide) rfl rfl rfl ?_
    refine r_getR (b := 3) (r := 4) d_Hg_offWall_49 fl_Hg_45 (by decide) rfl rfl rfl ?_
    refine r_iload_n (i := 1) d_Hg_offWall_52 rfl rfl ?_
    obtain ⟨hi_53, H⟩ := H
    refine r_iald (b := 4) (v := hp.2.1 4 a1.toNatClampNeg) d_Hg_offWall_53 (by decide) rfl hi_53 rfl ?_
    refine r_isub d_Hg_offWall_54 ?_
    exact rI_ret d_Hg_offWall_55 rfl H
  by_cases hs_1_2 : a2 = 2
  · replace H := H.2.2.1 hs_1_2
    refine r_tabIn (off := 55) (tgt := 56) d_Hg_offWall_1 (by rw [hs_1_2]; decide) (by rw [hs_1_2]; decide) (by rw [hs_1_2]; decide) (by decide) ?_
    refine r_aload_n (i := 0) d_Hg_offWall_56 rfl rfl ?_
    refine r_getR (b := 46) (r := 3) d_Hg_offWall_57 fl_Hg_7 (by decide) rfl rfl rfl ?_
    refine r_getR (b := 3) (r := 5) d_Hg_offWall_60 fl_Hg_52 (by decide) rfl rfl rfl ?_
    refine r_iload_n (i := 1) d_Hg_offWall_63 rfl rfl ?_
    obtain ⟨hi_64, H⟩ := H
    refine r_iald (b := 5) (v := hp.2.1 5 a1.toNatClampNeg) d_Hg_offWall_64 (by decide) rfl hi_64 rfl ?_
    exact rI_ret d_Hg_offWall_65 rfl H
  replace H := H.2.2.2 hs_1_0 hs_1_1 hs_1_2
  refine r_tabOut (tgt := 66) d_Hg_offWall_1 (rx_tab (lo := 0) (hi := 2) (by decide) (by decide) (fun i h1 h2 => ?_)) (by decide) ?_
  · have hz : i = 0 ∨ i = 1 ∨ i = 2 := by omega
    rcases hz with rfl | rfl | rfl
    · exact hs_1_0
    · exact hs_1_1
    · exact hs_1_2
  refine r_aload_n (i := 0) d_Hg_offWall_66 rfl rfl ?_
  refine r_getR (b := 46) (r := 3) d_Hg_offWall_67 fl_Hg_7 (by decide) rfl rfl rfl ?_
  refine r_getI (b := 3) (v := hp.1 3 6) d_Hg_offWall_70 fl_Hg_55 (by decide) rfl rfl rfl ?_
  refine r_aload_n (i := 0) d_Hg_offWall_73 rfl rfl ?_
  refine r_getR (b := 46) (r := 3) d_Hg_offWall_74 fl_Hg_7 (by decide) rfl rfl rfl ?_
  refine r_getR (b := 3) (r := 5) d_Hg_offWall_77 fl_Hg_52 (by decide) rfl rfl rfl ?_
  refine r_iload_n (i := 1) d_Hg_offWall_80 rfl rfl ?_
  obtain ⟨hi_81, H⟩ := H
  refine r_iald (b := 5) (v := hp.2.1 5 a1.toNatClampNeg) d_Hg_offWall_81 (by decide) rfl hi_81 rfl ?_
  refine r_isub d_Hg_offWall_82 ?_
  exact rI_ret d_Hg_offWall_83 rfl H
def f_Hg_offWall (a1 : Int32) (a2 : Int32) (hp : rx_Hp) : Int32 := (if a2 = 0 then (hp.2.1 4 a1.toNatClampNeg) else (if a2 = 1 then ((hp.1 3 5) - (hp.2.1 4 a1.toNatClampNeg)) else (if a2 = 2 then (hp.2.1 5 a1.toNatClampNeg) else ((hp.1 3 6) - (hp.2.1 5 a1.toNatClampNeg)))))
def p_Hg_offWall (a1 : Int32) (a2 : Int32) : Prop := (a2 = 0 → vp_in a1 6) ∧ (a2 = 1 → vp_in a1 6) ∧ (a2 = 2 → vp_in a1 6) ∧ (¬ a2 = 0 → ¬ a2 = 1 → ¬ a2 = 2 → vp_in a1 6)
theorem s_Hg_offWall {G : rx_Gh} {hp : rx_Hp} {F : Int32 → rx_Hp → Prop} (a1 : Int32) (a2 : Int32) (hP : (p_Hg_offWall a1 a2)) (H0 : F (f_Hg_offWall a1 a2 hp) hp) : Ev wC G 1 q_Hg_offWall [.ref 46, .int a1, .int a2] hp (rI F) := by
  have H : ∀ v h, v = (f_Hg_offWall a1 a2 hp) → h = hp → F v h := by rintro _ _ rfl rfl; exact H0
  unfold p_Hg_offWall at hP
  refine w_Hg_offWall a1 a2  ?_
  refine ⟨fun s0 => ?_, fun s1 => ?_, fun s2 => ?_, fun s0 s1 s2 => ?_⟩
  · refine ⟨(hP.1 s0), ?_⟩
    exact H _ _ (((if_pos s0).trans rfl)).symm (rfl).symm
  · refine ⟨(hP.2.1 s1), ?_⟩
    exact H _ _ (((if_neg (rx_ne s1 (by decide))).trans ((if_pos s1).trans rfl))).symm (rfl).symm
  · refine ⟨(hP.2.2.1 s2), ?_⟩
    exact H _ _ (((if_neg (rx_ne s2 (by decide))).trans ((if_neg (rx_ne s2 (by decide))).trans ((if_pos s2).trans rfl)))).symm (rfl).symm
  · refine ⟨(hP.2.2.2 s0 s1 s2), ?_⟩
    exact H _ _ (((if_neg s0).trans ((if_neg s1).trans ((if_neg s2).trans rfl)))).symm (rfl).symm
set_option maxHeartbeats 4000000 in
set_option maxRecDepth 20000 in
theorem w_Hg_alongWall {G : rx_Gh} {hp : rx_Hp} {F : Int32 → rx_Hp → Prop} (a1 : Int32) (a2 : Int32) (H : (1 < a2 → vp_in a1 6 ∧ (F (hp.2.1 4 a1.toNatClampNeg) hp)) ∧ (¬ 1 < a2 → vp_in a1 6 ∧ (F (hp.2.1 5 a1.toNatClampNeg) hp))) : Ev wC G 1 q_Hg_alongWall [.ref 46, .int a1, .int a2] hp (rI F) := by
  refine ev_of rfl (Nat.le_of_ble_eq_true rfl) rfl ?_
  show Rn wC G 1 q_Hg_alongWall 0 [some (.ref 46), some (.int a1), some (.int a2)] [] hp (rI F)
  refine r_iload_n (i := 2) d_Hg_alongWall_0 rfl rfl ?_
  refine r_iconst d_Hg_alongWall_1 ic_1 ?_
  refine r_icmp_gt (tgt := 17) d_Hg_alongWall_2 (by decide) (fun hc_2 => ?_) (fun hc_2 => ?_)
  · replace H := H.1 hc_2
    refine r_aload_n (i := 0) d_Hg_alongWall_17 rfl rfl ?_
    refine r_getR (b := 46) (r := 3) d_Hg_alongWall_18 fl_Hg_7 (by decide) rfl rfl rfl ?_
    refine r_getR (b := 3) (r := 4) d_Hg_alongWall_21 fl_Hg_45 (by decide) rfl rfl rfl ?_
    refine r_iload_n (i := 1) d_Hg_alongWall_24 rfl rfl ?_
    obtain ⟨hi_25, H⟩ := H
    refine r_iald (b := 4) (v := hp.2.1 4 a1.toNatClampNeg) d_Hg_alongWall_25 (by decide) rfl hi_25 rfl ?_
    exact rI_ret d_Hg_alongWall_26 rfl H
  · replace H := H.2 hc_2
    refine r_aload_n (i := 0) d_Hg_alongWall_5 rfl rfl ?_
    refine r_getR (b := 46) (r := 3) d_Hg_alongWall_6 fl_Hg_7 (by decide) rfl rfl rfl ?_
    refine r_getR (b := 3) (r := 5) d_Hg_alongWall_9 fl_Hg_52 (by decide) rfl rfl rfl ?_
    refine r_iload_n (i := 1) d_Hg_alongWall_12 rfl rfl ?_
    obtain ⟨hi_13, H⟩ := H
    refine r_iald (b := 5) (v := hp.2.1 5 a1.toNatClampNeg) d_Hg_alongWall_13 (by decide) rfl hi_13 rfl ?_
    refine r_goto (tgt := 26) d_Hg_alongWall_14 (by decide) ?_
    exact rI_ret d_Hg_alongWall_26 rfl H
def f_Hg_alongWall (a1 : Int32) (a2 : Int32) (hp : rx_Hp) : Int32 := (if 1 < a2 then (hp.2.1 4 a1.toNatClampNeg) else (hp.2.1 5 a1.toNatClampNeg))
def p_Hg_alongWall (a1 : Int32) (a2 : Int32) : Prop := (1 < a2 → vp_in a1 6) ∧ (¬ 1 < a2 → vp_in a1 6)
theorem s_Hg_alongWall {G : rx_Gh} {hp : rx_Hp} {F : Int32 → rx_Hp → Prop} (a1 : Int32) (a2 : Int32) (hP : (p_Hg_alongWall a1 a2)) (H0 : F (f_Hg_alongWall a1 a2 hp) hp) : Ev wC G 1 q_Hg_alongWall [.ref 46, .int a1, .int a2] hp (rI F) := by
  have H : ∀ v h, v = (f_Hg_alongWall a1 a2 hp) → h = hp → F v h := by rintro _ _ rfl rfl; exact H0
  unfold p_Hg_alongWall at hP
  refine w_Hg_alongWall a1 a2  ?_
  refine ⟨fun hc_2 => ?_, fun hc_2 => ?_⟩
  · refine ⟨(hP.1 hc_2), ?_⟩
    exact H _ _ (((if_pos hc_2).trans rfl)).symm (rfl).symm
  · refine ⟨(hP.2 hc_2), ?_⟩
    exact H _ _ (((if_neg hc_2).trans rfl)).symm (rfl).symm
set_option maxHeartbeats 4000000 in
set_option maxRecDepth 20000 in
theorem w_Ba_placeNumber {Ω : rx_Om} {G : rx_Gh} {hp : rx_Hp} {F : Int32 → rx_Hp → Prop} (a1 : Int32) (a2 : Int32) (H : F ((a1 * 1000) + a2) hp) : Ev Ω G 1 q_Ba_placeNumber [.int a1, .int a2] hp (rI F) := by
  refine ev_of rfl (Nat.le_of_ble_eq_true rfl) rfl ?_
  show Rn Ω G 1 q_Ba_placeNumber 0 [some (.int a1), some (.int a2)] [] hp (rI F)
  refine r_iload_n (i := 0) d_Ba_placeNumber_0 rfl rfl ?_
  refine r_sipush d_Ba_placeNumber_1 sp_1000 ?_
  refine r_imul d_Ba_placeNumber_4 ?_
  refine r_iload_n (i := 1) d_Ba_placeNumber_5 rfl rfl ?_
  refine r_iadd d_Ba_placeNumber_6 ?_
  exact rI_ret d_Ba_placeNumber_7 rfl H
def f_Ba_placeNumber (a1 : Int32) (a2 : Int32) : Int32 := (a1 * 1000) + a2
theorem s_Ba_placeNumber {Ω : rx_Om} {G : rx_Gh} {hp : rx_Hp} {F : Int32 → rx_Hp → Prop} (a1 : Int32) (a2 : Int32) (H0 : F (f_Ba_placeNumber a1 a2) hp) : Ev Ω G 1 q_Ba_placeNumber [.int a1, .int a2] hp (rI F) := by
  have H : ∀ v h, v = (f_Ba_placeNumber a1 a2) → h = hp → F v h := by rintro _ _ rfl rfl; exact H0
  refine w_Ba_placeNumber a1 a2  ?_
  exact H _ _ (rfl).symm (rfl).symm
set_option maxHeartbeats 4000000 in
set_option maxRecDepth 20000 in
theorem w_GR_glasses {Ω : rx_Om} {G : rx_Gh} {hp : rx_Hp} {F : Int32 → rx_Hp → Prop} (a1 : Int32) (a2 : Int32) (H : F ((f_Mt_abs a1) + (f_Mt_abs a2)) hp) : Ev Ω G 2 q_GR_glasses [.int a1, .int a2] hp (rI F) := by
  refine ev_of rfl (Nat.le_of_ble_eq_true rfl) rfl ?_
  show Rn Ω G 2 q_GR_glasses 0 [some (.int a1), some (.int a2)] [] hp (rI F)
  refine r_iload_n (i := 0) d_GR_glasses_0 rfl rfl ?_
  refine rk_SI (d' := 1) [.int a1] [] d_GR_glasses_1 ml_GR_288 rfl rfl (by decide) (Nat.le_of_ble_eq_true rfl) (s_Mt_abs a1 ?_)
  refine r_iload_n (i := 1) d_GR_glasses_4 rfl rfl ?_
  refine rk_SI (d' := 1) [.int a2] [.int (f_Mt_abs a1)] d_GR_glasses_5 ml_GR_288 rfl rfl (by decide) (Nat.le_of_ble_eq_true rfl) (s_Mt_abs a2 ?_)
  refine r_iadd d_GR_glasses_8 ?_
  exact rI_ret d_GR_glasses_9 rfl H
def f_GR_glasses (a1 : Int32) (a2 : Int32) : Int32 := (f_Mt_abs a1) + (f_Mt_abs a2)
theorem s_GR_glasses {Ω : rx_Om} {G : rx_Gh} {hp : rx_Hp} {F : Int32 → rx_Hp → Prop} (a1 : Int32) (a2 : Int32) (H0 : F (f_GR_glasses a1 a2) hp) : Ev Ω G 2 q_GR_glasses [.int a1, .int a2] hp (rI F) := by
  have H : ∀ v h, v = (f_GR_glasses a1 a2) → h = hp → F v h := by rintro _ _ rfl rfl; exact H0
  refine w_GR_glasses a1 a2  ?_
  exact H _ _ (rfl).symm (rfl).symm
set_option maxHeartbeats 4000000 in
set_option maxRecDepth 20000 in
theorem w_GR_isTurned {Ω : rx_Om} {G : rx_Gh} {hp : rx_Hp} {F : Int32 → rx_Hp → Prop} (a1 : Int32) (a2 : Int32) (H : F ((if ((f_GR_glasses a1 a2) &&& 1) = 1 then 1 else 0) : Int32) hp) : Ev Ω G 3 q_GR_isTurned [.int a1, .int a2] hp (rI F) := by
  refine ev_of rfl (Nat.le_of_ble_eq_true rfl) rfl ?_
  show Rn Ω G 3 q_GR_isTurned 0 [some (.int a1), some (.int a2)] [] hp (rI F)
  have J8 : ∀ (v8_0 : Int32), v8_0 = ((if ((f_GR_glasses a1 a2) &&& 1) = 1 then 1 else 0) : Int32) → Rn Ω G 3 q_GR_isTurned 16 [some (.int a1), some (.int a2)] [.int v8_0] hp (rI F) := by
    rintro _ rfl
    exact rZ_ret d_GR_isTurned_16 rfl (rb_ite (Or.inr rfl) (Or.inl rfl)) H
  refine r_iload_n (i := 0) d_GR_isTurned_0 rfl rfl ?_
  refine r_iload_n (i := 1) d_GR_isTurned_1 rfl rfl ?_
  refine rk_SI (d' := 2) [.int a1, .int a2] [] d_GR_isTurned_2 ml_GR_210 rfl rfl (by decide) (Nat.le_of_ble_eq_true rfl) (s_GR_glasses a1 a2 ?_)
  refine r_iconst d_GR_isTurned_5 ic_1 ?_
  refine r_iand d_GR_isTurned_6 ?_
  refine r_iconst d_GR_isTurned_7 ic_1 ?_
  refine r_icmp_ne (tgt := 15) d_GR_isTurned_8 (by decide) (fun hc_8 => ?_) (fun hc_8 => ?_)
  · refine r_iconst d_GR_isTurned_15 ic_0 ?_
    exact J8 _ (((if_neg hc_8).trans rfl)).symm
  · refine r_iconst d_GR_isTurned_11 ic_1 ?_
    refine r_goto (tgt := 16) d_GR_isTurned_12 (by decide) ?_
    exact J8 _ (((if_pos hc_8).trans rfl)).symm
def f_GR_isTurned (a1 : Int32) (a2 : Int32) : Int32 := ((if ((f_GR_glasses a1 a2) &&& 1) = 1 then 1 else 0) : Int32)
theorem s_GR_isTurned {Ω : rx_Om} {G : rx_Gh} {hp : rx_Hp} {F : Int32 → rx_Hp → Prop} (a1 : Int32) (a2 : Int32) (H0 : F (f_GR_isTurned a1 a2) hp) : Ev Ω G 3 q_GR_isTurned [.int a1, .int a2] hp (rI F) := by
  have H : ∀ v h, v = (f_GR_isTurned a1 a2) → h = hp → F v h := by rintro _ _ rfl rfl; exact H0
  refine w_GR_isTurned a1 a2  ?_
  exact H _ _ (rfl).symm (rfl).symm
theorem b_GR_isTurned (a1 : Int32) (a2 : Int32) : (f_GR_isTurned a1 a2) = 0 ∨ (f_GR_isTurned a1 a2) = 1 := (rb_ite (Or.inr rfl) (Or.inl rfl))
set_option maxHeartbeats 4000000 in
set_option maxRecDepth 20000 in
theorem w_GR_isWay {Ω : rx_Om} {G : rx_Gh} {hp : rx_Hp} {F : Int32 → rx_Hp → Prop} (a1 : Int32) (a2 : Int32) (H : F ((if a1 < (-9) then 0 else ((if 9 < a1 then 0 else ((if a2 < (-9) then 0 else ((if 9 < a2 then 0 else ((if a1 = 0 then ((if a2 = 0 then 0 else 1) : Int32) else 1) : Int32)) : Int32)) : Int32)) : Int32)) : Int32) hp) : Ev Ω G 1 q_GR_isWay [.int a1, .int a2] hp (rI F) := by
  refine ev_of rfl (Nat.le_of_ble_eq_true rfl) rfl ?_
  show Rn Ω G 1 q_GR_isWay 0 [some (.int a1), some (.int a2)] [] hp (rI F)
  have J3 : ∀ (v3_0 : Int32), v3_0 = ((if a1 < (-9) then 0 else ((if 9 < a1 then 0 else ((if a2 < (-9) then 0 else ((if 9 < a2 then 0 else ((if a1 = 0 then ((if a2 = 0 then 0 else 1) : Int32) else 1) : Int32)) : Int32)) : Int32)) : Int32)) : Int32) → Rn Ω G 1 q_GR_isWay 37 [some (.int a1), some (.int a2)] [.int v3_0] hp (rI F) := by
    rintro _ rfl
    exact rZ_ret d_GR_isWay_37 rfl (rb_ite (Or.inl rfl) (rb_ite (Or.inl rfl) (rb_ite (Or.inl rfl) (rb_ite (Or.inl rfl) (rb_ite (rb_ite (Or.inl rfl) (Or.inr rfl)) (Or.inr rfl)))))) H
  refine r_iload_n (i := 0) d_GR_isWay_0 rfl rfl ?_
  refine r_bipush d_GR_isWay_1 bp_m9 ?_
  refine r_icmp_lt (tgt := 36) d_GR_isWay_3 (by decide) (fun hc_3 => ?_) (fun hc_3 => ?_)
  · refine r_iconst d_GR_isWay_36 ic_0 ?_
    exact J3 _ (((if_pos hc_3).trans rfl)).symm
  · refine r_iload_n (i := 0) d_GR_isWay_6 rfl rfl ?_
    refine r_bipush d_GR_isWay_7 bp_9 ?_
    refine r_icmp_gt (tgt := 36) d_GR_isWay_9 (by decide) (fun hc_9 => ?_) (fun hc_9 => ?_)
    · refine r_iconst d_GR_isWay_36 ic_0 ?_
      exact J3 _ (((if_neg hc_3).trans ((if_pos hc_9).trans rfl))).symm
    · refine r_iload_n (i := 1) d_GR_isWay_12 rfl rfl ?_
      refine r_bipush d_GR_isWay_13 bp_m9 ?_
      refine r_icmp_lt (tgt := 36) d_GR_isWay_15 (by decide) (fun hc_15 => ?_) (fun hc_15 => ?_)
      · refine r_iconst d_GR_isWay_36 ic_0 ?_
        exact J3 _ (((if_neg hc_3).trans ((if_neg hc_9).trans ((if_pos hc_15).trans rfl)))).symm
      · refine r_iload_n (i := 1) d_GR_isWay_18 rfl rfl ?_
        refine r_bipush d_GR_isWay_19 bp_9 ?_
        refine r_icmp_gt (tgt := 36) d_GR_isWay_21 (by decide) (fun hc_21 => ?_) (fun hc_21 => ?_)
        · refine r_iconst d_GR_isWay_36 ic_0 ?_
          exact J3 _ (((if_neg hc_3).trans ((if_neg hc_9).trans ((if_neg hc_15).trans ((if_pos hc_21).trans rfl))))).symm
        · refine r_iload_n (i := 0) d_GR_isWay_24 rfl rfl ?_
          refine r_if_ne (tgt := 32) d_GR_isWay_25 (by decide) (fun hc_25 => ?_) (fun hc_25 => ?_)
          · refine r_iconst d_GR_isWay_32 ic_1 ?_
            refine r_goto (tgt := 37) d_GR_isWay_33 (by decide) ?_
            exact J3 _ (((if_neg hc_3).trans ((if_neg hc_9).trans ((if_neg hc_15).trans ((if_neg hc_21).trans ((if_neg hc_25).trans rfl)))))).symm
          · refine r_iload_n (i := 1) d_GR_isWay_28 rfl rfl ?_
            refine r_if_eq (tgt := 36) d_GR_isWay_29 (by decide) (fun hc_29 => ?_) (fun hc_29 => ?_)
            · refine r_iconst d_GR_isWay_36 ic_0 ?_
              exact J3 _ (((if_neg hc_3).trans ((if_neg hc_9).trans ((if_neg hc_15).trans ((if_neg hc_21).trans ((if_pos hc_25).trans ((if_pos hc_29).trans rfl))))))).symm
            · refine r_iconst d_GR_isWay_32 ic_1 ?_
              refine r_goto (tgt := 37) d_GR_isWay_33 (by decide) ?_
              exact J3 _ (((if_neg hc_3).trans ((if_neg hc_9).trans ((if_neg hc_15).trans ((if_neg hc_21).trans ((if_pos hc_25).trans ((if_neg hc_29).trans rfl))))))).symm
def f_GR_isWay (a1 : Int32) (a2 : Int32) : Int32 := ((if a1 < (-9) then 0 else ((if 9 < a1 then 0 else ((if a2 < (-9) then 0 else ((if 9 < a2 then 0 else ((if a1 = 0 then ((if a2 = 0 then 0 else 1) : Int32) else 1) : Int32)) : Int32)) : Int32)) : Int32)) : Int32)
theorem s_GR_isWay {Ω : rx_Om} {G : rx_Gh} {hp : rx_Hp} {F : Int32 → rx_Hp → Prop} (a1 : Int32) (a2 : Int32) (H0 : F (f_GR_isWay a1 a2) hp) : Ev Ω G 1 q_GR_isWay [.int a1, .int a2] hp (rI F) := by
  have H : ∀ v h, v = (f_GR_isWay a1 a2) → h = hp → F v h := by rintro _ _ rfl rfl; exact H0
  refine w_GR_isWay a1 a2  ?_
  exact H _ _ (rfl).symm (rfl).symm
theorem b_GR_isWay (a1 : Int32) (a2 : Int32) : (f_GR_isWay a1 a2) = 0 ∨ (f_GR_isWay a1 a2) = 1 := (rb_ite (Or.inl rfl) (rb_ite (Or.inl rfl) (rb_ite (Or.inl rfl) (rb_ite (Or.inl rfl) (rb_ite (rb_ite (Or.inl rfl) (Or.inr rfl)) (Or.inr rfl))))))
set_option maxHeartbeats 4000000 in
set_option maxRecDepth 20000 in
theorem w_GR_isWallPart {Ω : rx_Om} {G : rx_Gh} {hp : rx_Hp} {F : Int32 → rx_Hp → Prop} (a1 : Int32) (a2 : Int32) (H : F ((if a1 < 0 then 0 else ((if 3 < a1 then 0 else ((if a2 < 0 then 0 else ((if 1 < a2 then 0 else 1) : Int32)) : Int32)) : Int32)) : Int32) hp) : Ev Ω G 1 q_GR_isWallPart [.int a1, .int a2] hp (rI F) := by
  refine ev_of rfl (Nat.le_of_ble_eq_true rfl) rfl ?_
  show Rn Ω G 1 q_GR_isWallPart 0 [some (.int a1), some (.int a2)] [] hp (rI F)
  have J1 : ∀ (v1_0 : Int32), v1_0 = ((if a1 < 0 then 0 else ((if 3 < a1 then 0 else ((if a2 < 0 then 0 else ((if 1 < a2 then 0 else 1) : Int32)) : Int32)) : Int32)) : Int32) → Rn Ω G 1 q_GR_isWallPart 23 [some (.int a1), some (.int a2)] [.int v1_0] hp (rI F) := by
    rintro _ rfl
    exact rZ_ret d_GR_isWallPart_23 rfl (rb_ite (Or.inl rfl) (rb_ite (Or.inl rfl) (rb_ite (Or.inl rfl) (rb_ite (Or.inl rfl) (Or.inr rfl))))) H
  refine r_iload_n (i := 0) d_GR_isWallPart_0 rfl rfl ?_
  refine r_if_lt (tgt := 22) d_GR_isWallPart_1 (by decide) (fun hc_1 => ?_) (fun hc_1 => ?_)
  · refine r_iconst d_GR_isWallPart_22 ic_0 ?_
    exact J1 _ (((if_pos hc_1).trans rfl)).symm
  · refine r_iload_n (i := 0) d_GR_isWallPart_4 rfl rfl ?_
    refine r_iconst d_GR_isWallPart_5 ic_3 ?_
    refine r_icmp_gt (tgt := 22) d_GR_isWallPart_6 (by decide) (fun hc_6 => ?_) (fun hc_6 => ?_)
    · refine r_iconst d_GR_isWallPart_22 ic_0 ?_
      exact J1 _ (((if_neg hc_1).trans ((if_pos hc_6).trans rfl))).symm
    · refine r_iload_n (i := 1) d_GR_isWallPart_9 rfl rfl ?_
      refine r_if_lt (tgt := 22) d_GR_isWallPart_10 (by decide) (fun hc_10 => ?_) (fun hc_10 => ?_)
      · refine r_iconst d_GR_isWallPart_22 ic_0 ?_
        exact J1 _ (((if_neg hc_1).trans ((if_neg hc_6).trans ((if_pos hc_10).trans rfl)))).symm
      · refine r_iload_n (i := 1) d_GR_isWallPart_13 rfl rfl ?_
        refine r_iconst d_GR_isWallPart_14 ic_1 ?_
        refine r_icmp_gt (tgt := 22) d_GR_isWallPart_15 (by decide) (fun hc_15 => ?_) (fun hc_15 => ?_)
        · refine r_iconst d_GR_isWallPart_22 ic_0 ?_
          exact J1 _ (((if_neg hc_1).trans ((if_neg hc_6).trans ((if_neg hc_10).trans ((if_pos hc_15).trans rfl))))).symm
        · refine r_iconst d_GR_isWallPart_18 ic_1 ?_
          refine r_goto (tgt := 23) d_GR_isWallPart_19 (by decide) ?_
          exact J1 _ (((if_neg hc_1).trans ((if_neg hc_6).trans ((if_neg hc_10).trans ((if_neg hc_15).trans rfl))))).symm
def f_GR_isWallPart (a1 : Int32) (a2 : Int32) : Int32 := ((if a1 < 0 then 0 else ((if 3 < a1 then 0 else ((if a2 < 0 then 0 else ((if 1 < a2 then 0 else 1) : Int32)) : Int32)) : Int32)) : Int32)
theorem s_GR_isWallPart {Ω : rx_Om} {G : rx_Gh} {hp : rx_Hp} {F : Int32 → rx_Hp → Prop} (a1 : Int32) (a2 : Int32) (H0 : F (f_GR_isWallPart a1 a2) hp) : Ev Ω G 1 q_GR_isWallPart [.int a1, .int a2] hp (rI F) := by
  have H : ∀ v h, v = (f_GR_isWallPart a1 a2) → h = hp → F v h := by rintro _ _ rfl rfl; exact H0
  refine w_GR_isWallPart a1 a2  ?_
  exact H _ _ (rfl).symm (rfl).symm
theorem b_GR_isWallPart (a1 : Int32) (a2 : Int32) : (f_GR_isWallPart a1 a2) = 0 ∨ (f_GR_isWallPart a1 a2) = 1 := (rb_ite (Or.inl rfl) (rb_ite (Or.inl rfl) (rb_ite (Or.inl rfl) (rb_ite (Or.inl rfl) (Or.inr rfl)))))
set_option maxHeartbeats 4000000 in
set_option maxRecDepth 20000 in
theorem w_GR_throwsOf {Ω : rx_Om} {G : rx_Gh} {hp : rx_Hp} {F : Int32 → rx_Hp → Prop} (a1 : Int32) (a2 : Int32) (H : (1 ≤ a1 → ¬ a1 = 0 ∧ (F ((((180 - a2) + a1) - 1) / a1) hp)) ∧ (¬ 1 ≤ a1 → F 0 hp)) : Ev Ω G 1 q_GR_throwsOf [.int a1, .int a2] hp (rI F) := by
  refine ev_of rfl (Nat.le_of_ble_eq_true rfl) rfl ?_
  show Rn Ω G 1 q_GR_throwsOf 0 [some (.int a1), some (.int a2)] [] hp (rI F)
  refine r_iload_n (i := 0) d_GR_throwsOf_0 rfl rfl ?_
  refine r_iconst d_GR_throwsOf_1 ic_1 ?_
  refine r_icmp_ge (tgt := 9) d_GR_throwsOf_2 (by decide) (fun hc_2 => ?_) (fun hc_2 => ?_)
  · replace H := H.1 hc_2
    refine r_sipush d_GR_throwsOf_9 sp_180 ?_
    refine r_iload_n (i := 1) d_GR_throwsOf_12 rfl rfl ?_
    refine r_isub d_GR_throwsOf_13 ?_
    refine r_iload_n (i := 0) d_GR_throwsOf_14 rfl rfl ?_
    refine r_iadd d_GR_throwsOf_15 ?_
    refine r_iconst d_GR_throwsOf_16 ic_1 ?_
    refine r_isub d_GR_throwsOf_17 ?_
    refine r_iload_n (i := 0) d_GR_throwsOf_18 rfl rfl ?_
    obtain ⟨hz_19, H⟩ := H
    refine r_idiv d_GR_throwsOf_19 hz_19 ?_
    exact rI_ret d_GR_throwsOf_20 rfl H
  · replace H := H.2 hc_2
    refine r_iconst d_GR_throwsOf_5 ic_0 ?_
    refine r_goto (tgt := 20) d_GR_throwsOf_6 (by decide) ?_
    exact rI_ret d_GR_throwsOf_20 rfl H
def f_GR_throwsOf (a1 : Int32) (a2 : Int32) : Int32 := (if 1 ≤ a1 then ((((180 - a2) + a1) - 1) / a1) else 0)
def p_GR_throwsOf (a1 : Int32) (a2 : Int32) : Prop := (1 ≤ a1 → ¬ a1 = 0)
theorem s_GR_throwsOf {Ω : rx_Om} {G : rx_Gh} {hp : rx_Hp} {F : Int32 → rx_Hp → Prop} (a1 : Int32) (a2 : Int32) (hP : (p_GR_throwsOf a1 a2)) (H0 : F (f_GR_throwsOf a1 a2) hp) : Ev Ω G 1 q_GR_throwsOf [.int a1, .int a2] hp (rI F) := by
  have H : ∀ v h, v = (f_GR_throwsOf a1 a2) → h = hp → F v h := by rintro _ _ rfl rfl; exact H0
  unfold p_GR_throwsOf at hP
  refine w_GR_throwsOf a1 a2  ?_
  refine ⟨fun hc_2 => ?_, fun hc_2 => ?_⟩
  · refine ⟨(hP hc_2), ?_⟩
    exact H _ _ (((if_pos hc_2).trans rfl)).symm (rfl).symm
  · exact H _ _ (((if_neg hc_2).trans rfl)).symm (rfl).symm
set_option maxHeartbeats 4000000 in
set_option maxRecDepth 20000 in
theorem w_GR_endOf {Ω : rx_Om} {G : rx_Gh} {hp : rx_Hp} {F : Int32 → rx_Hp → Prop} (a1 : Int32) (a2 : Int32) (H : p_GR_throwsOf a1 a2 ∧ (F ((if ((f_GR_throwsOf a1 a2) &&& 1) = 1 then ((-a2) - (((f_GR_throwsOf a1 a2) - 1) * a1)) else (a2 + ((f_GR_throwsOf a1 a2) * a1))) : Int32) hp)) : Ev Ω G 2 q_GR_endOf [.int a1, .int a2] hp (rI F) := by
  refine ev_of rfl (Nat.le_of_ble_eq_true rfl) rfl ?_
  show Rn Ω G 2 q_GR_endOf 0 [some (.int a1), some (.int a2), none] [] hp (rI F)
  refine r_iload_n (i := 0) d_GR_endOf_0 rfl rfl ?_
  refine r_iload_n (i := 1) d_GR_endOf_1 rfl rfl ?_
  obtain ⟨hp_2_0, H⟩ := H
  refine rk_SI (d' := 1) [.int a1, .int a2] [] d_GR_endOf_2 ml_GR_343 rfl rfl (by decide) (Nat.le_of_ble_eq_true rfl) (s_GR_throwsOf a1 a2 hp_2_0 ?_)
  have J10 : ∀ (v10_0 : Int32), v10_0 = ((if ((f_GR_throwsOf a1 a2) &&& 1) = 1 then ((-a2) - (((f_GR_throwsOf a1 a2) - 1) * a1)) else (a2 + ((f_GR_throwsOf a1 a2) * a1))) : Int32) → Rn Ω G 2 q_GR_endOf 29 [some (.int a1), some (.int a2), some (.int (f_GR_throwsOf a1 a2))] [.int v10_0] hp (rI F) := by
    rintro _ rfl
    exact rI_ret d_GR_endOf_29 rfl H
  refine r_istore_n (i := 2) (lz := [some (.int a1), some (.int a2), some (.int (f_GR_throwsOf a1 a2))]) d_GR_endOf_5 rfl (by decide) rfl rfl ?_
  refine r_iload_n (i := 2) d_GR_endOf_6 rfl rfl ?_
  refine r_iconst d_GR_endOf_7 ic_1 ?_
  refine r_iand d_GR_endOf_8 ?_
  refine r_iconst d_GR_endOf_9 ic_1 ?_
  refine r_icmp_ne (tgt := 24) d_GR_endOf_10 (by decide) (fun hc_10 => ?_) (fun hc_10 => ?_)
  · refine r_iload_n (i := 1) d_GR_endOf_24 rfl rfl ?_
    refine r_iload_n (i := 2) d_GR_endOf_25 rfl rfl ?_
    refine r_iload_n (i := 0) d_GR_endOf_26 rfl rfl ?_
    refine r_imul d_GR_endOf_27 ?_
    refine r_iadd d_GR_endOf_28 ?_
    exact J10 _ (((if_neg hc_10).trans rfl)).symm
  · refine r_iload_n (i := 1) d_GR_endOf_13 rfl rfl ?_
    refine r_ineg d_GR_endOf_14 ?_
    refine r_iload_n (i := 2) d_GR_endOf_15 rfl rfl ?_
    refine r_iconst d_GR_endOf_16 ic_1 ?_
    refine r_isub d_GR_endOf_17 ?_
    refine r_iload_n (i := 0) d_GR_endOf_18 rfl rfl ?_
    refine r_imul d_GR_endOf_19 ?_
    refine r_isub d_GR_endOf_20 ?_
    refine r_goto (tgt := 29) d_GR_endOf_21 (by decide) ?_
    exact J10 _ (((if_pos hc_10).trans rfl)).symm
def f_GR_endOf (a1 : Int32) (a2 : Int32) : Int32 := ((if ((f_GR_throwsOf a1 a2) &&& 1) = 1 then ((-a2) - (((f_GR_throwsOf a1 a2) - 1) * a1)) else (a2 + ((f_GR_throwsOf a1 a2) * a1))) : Int32)
def p_GR_endOf (a1 : Int32) (a2 : Int32) : Prop := p_GR_throwsOf a1 a2
theorem s_GR_endOf {Ω : rx_Om} {G : rx_Gh} {hp : rx_Hp} {F : Int32 → rx_Hp → Prop} (a1 : Int32) (a2 : Int32) (hP : (p_GR_endOf a1 a2)) (H0 : F (f_GR_endOf a1 a2) hp) : Ev Ω G 2 q_GR_endOf [.int a1, .int a2] hp (rI F) := by
  have H : ∀ v h, v = (f_GR_endOf a1 a2) → h = hp → F v h := by rintro _ _ rfl rfl; exact H0
  unfold p_GR_endOf at hP
  refine w_GR_endOf a1 a2  ?_
  refine ⟨hP, ?_⟩
  exact H _ _ (rfl).symm (rfl).symm
set_option maxHeartbeats 4000000 in
set_option maxRecDepth 20000 in
theorem w_GR_endsMeet {Ω : rx_Om} {G : rx_Gh} {hp : rx_Hp} {F : Int32 → rx_Hp → Prop} (a1 : Int32) (a2 : Int32) (H : p_GR_endOf a1 a2 ∧ (p_GR_endOf a1 (a1 - a2) ∧ (p_Mt_floorMod ((f_GR_endOf a1 a2) - (a1 - (f_GR_endOf a1 (a1 - a2)))) 360 ∧ (F ((if (f_Mt_floorMod ((f_GR_endOf a1 a2) - (a1 - (f_GR_endOf a1 (a1 - a2)))) 360) = 0 then 1 else 0) : Int32) hp)))) : Ev Ω G 3 q_GR_endsMeet [.int a1, .int a2] hp (rI F) := by
  refine ev_of rfl (Nat.le_of_ble_eq_true rfl) rfl ?_
  show Rn Ω G 3 q_GR_endsMeet 0 [some (.int a1), some (.int a2)] [] hp (rI F)
  refine r_iload_n (i := 0) d_GR_endsMeet_0 rfl rfl ?_
  refine r_iload_n (i := 1) d_GR_endsMeet_1 rfl rfl ?_
  obtain ⟨hp_2_0, H⟩ := H
  refine rk_SI (d' := 2) [.int a1, .int a2] [] d_GR_endsMeet_2 ml_GR_349 rfl rfl (by decide) (Nat.le_of_ble_eq_true rfl) (s_GR_endOf a1 a2 hp_2_0 ?_)
  refine r_iload_n (i := 0) d_GR_endsMeet_5 rfl rfl ?_
  refine r_iload_n (i := 0) d_GR_endsMeet_6 rfl rfl ?_
  refine r_iload_n (i := 0) d_GR_endsMeet_7 rfl rfl ?_
  refine r_iload_n (i := 1) d_GR_endsMeet_8 rfl rfl ?_
  refine r_isub d_GR_endsMeet_9 ?_
  obtain ⟨hp_10_0, H⟩ := H
  refine rk_SI (d' := 2) [.int a1, .int (a1 - a2)] [.int a1, .int (f_GR_endOf a1 a2)] d_GR_endsMeet_10 ml_GR_349 rfl rfl (by decide) (Nat.le_of_ble_eq_true rfl) (s_GR_endOf a1 (a1 - a2) hp_10_0 ?_)
  refine r_isub d_GR_endsMeet_13 ?_
  refine r_isub d_GR_endsMeet_14 ?_
  refine r_sipush d_GR_endsMeet_15 sp_360 ?_
  obtain ⟨hp_18_0, H⟩ := H
  refine rk_SI (d' := 1) [.int ((f_GR_endOf a1 a2) - (a1 - (f_GR_endOf a1 (a1 - a2)))), .int 360] [] d_GR_endsMeet_18 ml_GR_352 rfl rfl (by decide) (Nat.le_of_ble_eq_true rfl) (s_Mt_floorMod ((f_GR_endOf a1 a2) - (a1 - (f_GR_endOf a1 (a1 - a2)))) 360 hp_18_0 ?_)
  have J21 : ∀ (v21_0 : Int32), v21_0 = ((if (f_Mt_floorMod ((f_GR_endOf a1 a2) - (a1 - (f_GR_endOf a1 (a1 - a2)))) 360) = 0 then 1 else 0) : Int32) → Rn Ω G 3 q_GR_endsMeet 29 [some (.int a1), some (.int a2)] [.int v21_0] hp (rI F) := by
    rintro _ rfl
    exact rZ_ret d_GR_endsMeet_29 rfl (rb_ite (Or.inr rfl) (Or.inl rfl)) H
  refine r_if_ne (tgt := 28) d_GR_endsMeet_21 (by decide) (fun hc_21 => ?_) (fun hc_21 => ?_)
  · refine r_iconst d_GR_endsMeet_28 ic_0 ?_
    exact J21 _ (((if_neg hc_21).trans rfl)).symm
  · refine r_iconst d_GR_endsMeet_24 ic_1 ?_
    refine r_goto (tgt := 29) d_GR_endsMeet_25 (by decide) ?_
    exact J21 _ (((if_pos hc_21).trans rfl)).symm
def f_GR_endsMeet (a1 : Int32) (a2 : Int32) : Int32 := ((if (f_Mt_floorMod ((f_GR_endOf a1 a2) - (a1 - (f_GR_endOf a1 (a1 - a2)))) 360) = 0 then 1 else 0) : Int32)
def p_GR_endsMeet (a1 : Int32) (a2 : Int32) : Prop := p_GR_endOf a1 a2 ∧ (p_GR_endOf a1 (a1 - a2) ∧ (p_Mt_floorMod ((f_GR_endOf a1 a2) - (a1 - (f_GR_endOf a1 (a1 - a2)))) 360))
theorem s_GR_endsMeet {Ω : rx_Om} {G : rx_Gh} {hp : rx_Hp} {F : Int32 → rx_Hp → Prop} (a1 : Int32) (a2 : Int32) (hP : (p_GR_endsMeet a1 a2)) (H0 : F (f_GR_endsMeet a1 a2) hp) : Ev Ω G 3 q_GR_endsMeet [.int a1, .int a2] hp (rI F) := by
  have H : ∀ v h, v = (f_GR_endsMeet a1 a2) → h = hp → F v h := by rintro _ _ rfl rfl; exact H0
  unfold p_GR_endsMeet at hP
  refine w_GR_endsMeet a1 a2  ?_
  refine ⟨hP.1, ?_⟩
  refine ⟨hP.2.1, ?_⟩
  refine ⟨hP.2.2, ?_⟩
  exact H _ _ (rfl).symm (rfl).symm
theorem b_GR_endsMeet (a1 : Int32) (a2 : Int32) : (f_GR_endsMeet a1 a2) = 0 ∨ (f_GR_endsMeet a1 a2) = 1 := (rb_ite (Or.inr rfl) (Or.inl rfl))
set_option maxHeartbeats 4000000 in
set_option maxRecDepth 20000 in
theorem w_GR_unlikePlaces {Ω : rx_Om} {G : rx_Gh} {hp : rx_Hp} {F : Int32 → rx_Hp → Prop} (a1 : Int32) (a2 : Int32) (H : p_GR_throwsOf a1 a2 ∧ (p_GR_throwsOf a1 (a1 - a2) ∧ (p_GR_endsMeet a1 a2 ∧ (F (((f_GR_throwsOf a1 a2) + (f_GR_throwsOf a1 (a1 - a2))) - ((if (f_GR_endsMeet a1 a2) = 0 then 0 else 1) : Int32)) hp)))) : Ev Ω G 4 q_GR_unlikePlaces [.int a1, .int a2] hp (rI F) := by
  refine ev_of rfl (Nat.le_of_ble_eq_true rfl) rfl ?_
  show Rn Ω G 4 q_GR_unlikePlaces 0 [some (.int a1), some (.int a2)] [] hp (rI F)
  refine r_iload_n (i := 0) d_GR_unlikePlaces_0 rfl rfl ?_
  refine r_iload_n (i := 1) d_GR_unlikePlaces_1 rfl rfl ?_
  obtain ⟨hp_2_0, H⟩ := H
  refine rk_SI (d' := 1) [.int a1, .int a2] [] d_GR_unlikePlaces_2 ml_GR_343 rfl rfl (by decide) (Nat.le_of_ble_eq_true rfl) (s_GR_throwsOf a1 a2 hp_2_0 ?_)
  refine r_iload_n (i := 0) d_GR_unlikePlaces_5 rfl rfl ?_
  refine r_iload_n (i := 0) d_GR_unlikePlaces_6 rfl rfl ?_
  refine r_iload_n (i := 1) d_GR_unlikePlaces_7 rfl rfl ?_
  refine r_isub d_GR_unlikePlaces_8 ?_
  obtain ⟨hp_9_0, H⟩ := H
  refine rk_SI (d' := 1) [.int a1, .int (a1 - a2)] [.int (f_GR_throwsOf a1 a2)] d_GR_unlikePlaces_9 ml_GR_343 rfl rfl (by decide) (Nat.le_of_ble_eq_true rfl) (s_GR_throwsOf a1 (a1 - a2) hp_9_0 ?_)
  refine r_iadd d_GR_unlikePlaces_12 ?_
  refine r_iload_n (i := 0) d_GR_unlikePlaces_13 rfl rfl ?_
  refine r_iload_n (i := 1) d_GR_unlikePlaces_14 rfl rfl ?_
  obtain ⟨hp_15_0, H⟩ := H
  refine rk_SI (d' := 3) [.int a1, .int a2] [.int ((f_GR_throwsOf a1 a2) + (f_GR_throwsOf a1 (a1 - a2)))] d_GR_unlikePlaces_15 ml_GR_346 rfl rfl (by decide) (Nat.le_of_ble_eq_true rfl) (s_GR_endsMeet a1 a2 hp_15_0 ?_)
  have J18 : ∀ (v18_0 : Int32), v18_0 = ((if (f_GR_endsMeet a1 a2) = 0 then 0 else 1) : Int32) → Rn Ω G 4 q_GR_unlikePlaces 26 [some (.int a1), some (.int a2)] [.int v18_0, .int ((f_GR_throwsOf a1 a2) + (f_GR_throwsOf a1 (a1 - a2)))] hp (rI F) := by
    rintro _ rfl
    refine r_isub d_GR_unlikePlaces_26 ?_
    exact rI_ret d_GR_unlikePlaces_27 rfl H
  refine r_if_eq (tgt := 25) d_GR_unlikePlaces_18 (by decide) (fun hc_18 => ?_) (fun hc_18 => ?_)
  · refine r_iconst d_GR_unlikePlaces_25 ic_0 ?_
    exact J18 _ (((if_pos hc_18).trans rfl)).symm
  · refine r_iconst d_GR_unlikePlaces_21 ic_1 ?_
    refine r_goto (tgt := 26) d_GR_unlikePlaces_22 (by decide) ?_
    exact J18 _ (((if_neg hc_18).trans rfl)).symm
def f_GR_unlikePlaces (a1 : Int32) (a2 : Int32) : Int32 := ((f_GR_throwsOf a1 a2) + (f_GR_throwsOf a1 (a1 - a2))) - ((if (f_GR_endsMeet a1 a2) = 0 then 0 else 1) : Int32)
def p_GR_unlikePlaces (a1 : Int32) (a2 : Int32) : Prop := p_GR_throwsOf a1 a2 ∧ (p_GR_throwsOf a1 (a1 - a2) ∧ (p_GR_endsMeet a1 a2))
theorem s_GR_unlikePlaces {Ω : rx_Om} {G : rx_Gh} {hp : rx_Hp} {F : Int32 → rx_Hp → Prop} (a1 : Int32) (a2 : Int32) (hP : (p_GR_unlikePlaces a1 a2)) (H0 : F (f_GR_unlikePlaces a1 a2) hp) : Ev Ω G 4 q_GR_unlikePlaces [.int a1, .int a2] hp (rI F) := by
  have H : ∀ v h, v = (f_GR_unlikePlaces a1 a2) → h = hp → F v h := by rintro _ _ rfl rfl; exact H0
  unfold p_GR_unlikePlaces at hP
  refine w_GR_unlikePlaces a1 a2  ?_
  refine ⟨hP.1, ?_⟩
  refine ⟨hP.2.1, ?_⟩
  refine ⟨hP.2.2, ?_⟩
  exact H _ _ (rfl).symm (rfl).symm
set_option maxHeartbeats 4000000 in
set_option maxRecDepth 20000 in
theorem w_GR_turnedPlaces {Ω : rx_Om} {G : rx_Gh} {hp : rx_Hp} {F : Int32 → rx_Hp → Prop} (a1 : Int32) (a2 : Int32) (H : p_GR_throwsOf a1 (a1 - a2) ∧ (p_GR_throwsOf a1 a2 ∧ (p_GR_endsMeet a1 a2 ∧ (F ((if (f_GR_endsMeet a1 a2) = 0 then ((((f_GR_throwsOf a1 a2) + 1) / 2) + (((f_GR_throwsOf a1 (a1 - a2)) + 1) / 2)) else (((((f_GR_throwsOf a1 a2) + 1) / 2) + (((f_GR_throwsOf a1 (a1 - a2)) + 1) / 2)) - ((f_GR_throwsOf a1 (a1 - a2)) &&& 1))) : Int32) hp)))) : Ev Ω G 4 q_GR_turnedPlaces [.int a1, .int a2] hp (rI F) := by
  refine ev_of rfl (Nat.le_of_ble_eq_true rfl) rfl ?_
  show Rn Ω G 4 q_GR_turnedPlaces 0 [some (.int a1), some (.int a2), none, none] [] hp (rI F)
  refine r_iload_n (i := 0) d_GR_turnedPlaces_0 rfl rfl ?_
  refine r_iload_n (i := 0) d_GR_turnedPlaces_1 rfl rfl ?_
  refine r_iload_n (i := 1) d_GR_turnedPlaces_2 rfl rfl ?_
  refine r_isub d_GR_turnedPlaces_3 ?_
  obtain ⟨hp_4_0, H⟩ := H
  refine rk_SI (d' := 1) [.int a1, .int (a1 - a2)] [] d_GR_turnedPlaces_4 ml_GR_343 rfl rfl (by decide) (Nat.le_of_ble_eq_true rfl) (s_GR_throwsOf a1 (a1 - a2) hp_4_0 ?_)
  refine r_istore_n (i := 2) (lz := [some (.int a1), some (.int a2), some (.int (f_GR_throwsOf a1 (a1 - a2))), none]) d_GR_turnedPlaces_7 rfl (by decide) rfl rfl ?_
  refine r_iload_n (i := 0) d_GR_turnedPlaces_8 rfl rfl ?_
  refine r_iload_n (i := 1) d_GR_turnedPlaces_9 rfl rfl ?_
  obtain ⟨hp_10_0, H⟩ := H
  refine rk_SI (d' := 1) [.int a1, .int a2] [] d_GR_turnedPlaces_10 ml_GR_343 rfl rfl (by decide) (Nat.le_of_ble_eq_true rfl) (s_GR_throwsOf a1 a2 hp_10_0 ?_)
  refine r_iconst d_GR_turnedPlaces_13 ic_1 ?_
  refine r_iadd d_GR_turnedPlaces_14 ?_
  refine r_iconst d_GR_turnedPlaces_15 ic_2 ?_
  refine r_idiv d_GR_turnedPlaces_16 (by decide) ?_
  refine r_iload_n (i := 2) d_GR_turnedPlaces_17 rfl rfl ?_
  refine r_iconst d_GR_turnedPlaces_18 ic_1 ?_
  refine r_iadd d_GR_turnedPlaces_19 ?_
  refine r_iconst d_GR_turnedPlaces_20 ic_2 ?_
  refine r_idiv d_GR_turnedPlaces_21 (by decide) ?_
  refine r_iadd d_GR_turnedPlaces_22 ?_
  refine r_istore_n (i := 3) (lz := [some (.int a1), some (.int a2), some (.int (f_GR_throwsOf a1 (a1 - a2))), some (.int ((((f_GR_throwsOf a1 a2) + 1) / 2) + (((f_GR_throwsOf a1 (a1 - a2)) + 1) / 2)))]) d_GR_turnedPlaces_23 rfl (by decide) rfl rfl ?_
  refine r_iload_n (i := 0) d_GR_turnedPlaces_24 rfl rfl ?_
  refine r_iload_n (i := 1) d_GR_turnedPlaces_25 rfl rfl ?_
  obtain ⟨hp_26_0, H⟩ := H
  refine rk_SI (d' := 3) [.int a1, .int a2] [] d_GR_turnedPlaces_26 ml_GR_346 rfl rfl (by decide) (Nat.le_of_ble_eq_true rfl) (s_GR_endsMeet a1 a2 hp_26_0 ?_)
  have J29 : ∀ (v29_0 : Int32), v29_0 = ((if (f_GR_endsMeet a1 a2) = 0 then ((((f_GR_throwsOf a1 a2) + 1) / 2) + (((f_GR_throwsOf a1 (a1 - a2)) + 1) / 2)) else (((((f_GR_throwsOf a1 a2) + 1) / 2) + (((f_GR_throwsOf a1 (a1 - a2)) + 1) / 2)) - ((f_GR_throwsOf a1 (a1 - a2)) &&& 1))) : Int32) → Rn Ω G 4 q_GR_turnedPlaces 41 [some (.int a1), some (.int a2), some (.int (f_GR_throwsOf a1 (a1 - a2))), some (.int ((((f_GR_throwsOf a1 a2) + 1) / 2) + (((f_GR_throwsOf a1 (a1 - a2)) + 1) / 2)))] [.int v29_0] hp (rI F) := by
    rintro _ rfl
    exact rI_ret d_GR_turnedPlaces_41 rfl H
  refine r_if_eq (tgt := 40) d_GR_turnedPlaces_29 (by decide) (fun hc_29 => ?_) (fun hc_29 => ?_)
  · refine r_iload_n (i := 3) d_GR_turnedPlaces_40 rfl rfl ?_
    exact J29 _ (((if_pos hc_29).trans rfl)).symm
  · refine r_iload_n (i := 3) d_GR_turnedPlaces_32 rfl rfl ?_
    refine r_iload_n (i := 2) d_GR_turnedPlaces_33 rfl rfl ?_
    refine r_iconst d_GR_turnedPlaces_34 ic_1 ?_
    refine r_iand d_GR_turnedPlaces_35 ?_
    refine r_isub d_GR_turnedPlaces_36 ?_
    refine r_goto (tgt := 41) d_GR_turnedPlaces_37 (by decide) ?_
    exact J29 _ (((if_neg hc_29).trans rfl)).symm
def f_GR_turnedPlaces (a1 : Int32) (a2 : Int32) : Int32 := ((if (f_GR_endsMeet a1 a2) = 0 then ((((f_GR_throwsOf a1 a2) + 1) / 2) + (((f_GR_throwsOf a1 (a1 - a2)) + 1) / 2)) else (((((f_GR_throwsOf a1 a2) + 1) / 2) + (((f_GR_throwsOf a1 (a1 - a2)) + 1) / 2)) - ((f_GR_throwsOf a1 (a1 - a2)) &&& 1))) : Int32)
def p_GR_turnedPlaces (a1 : Int32) (a2 : Int32) : Prop := p_GR_throwsOf a1 (a1 - a2) ∧ (p_GR_throwsOf a1 a2 ∧ (p_GR_endsMeet a1 a2))
theorem s_GR_turnedPlaces {Ω : rx_Om} {G : rx_Gh} {hp : rx_Hp} {F : Int32 → rx_Hp → Prop} (a1 : Int32) (a2 : Int32) (hP : (p_GR_turnedPlaces a1 a2)) (H0 : F (f_GR_turnedPlaces a1 a2) hp) : Ev Ω G 4 q_GR_turnedPlaces [.int a1, .int a2] hp (rI F) := by
  have H : ∀ v h, v = (f_GR_turnedPlaces a1 a2) → h = hp → F v h := by rintro _ _ rfl rfl; exact H0
  unfold p_GR_turnedPlaces at hP
  refine w_GR_turnedPlaces a1 a2  ?_
  refine ⟨hP.1, ?_⟩
  refine ⟨hP.2.1, ?_⟩
  refine ⟨hP.2.2, ?_⟩
  exact H _ _ (rfl).symm (rfl).symm
set_option maxHeartbeats 4000000 in
set_option maxRecDepth 20000 in
theorem w_GR_hasImage {G : rx_Gh} {hp : rx_Hp} {F : Int32 → rx_Hp → Prop} (a1 : Int32) (a2 : Int32) (a3 : Int32) (H : F ((if (f_Ha_has a1 hp) = 0 then 0 else ((if a2 < (-10) then 0 else ((if 10 < a2 then 0 else ((if a3 < (-10) then 0 else ((if 10 < a3 then 0 else 1) : Int32)) : Int32)) : Int32)) : Int32)) : Int32) hp) : Ev wC G 2 q_GR_hasImage [.ref 0, .int a1, .int a2, .int a3] hp (rI F) := by
  refine ev_of rfl (Nat.le_of_ble_eq_true rfl) rfl ?_
  show Rn wC G 2 q_GR_hasImage 0 [some (.ref 0), some (.int a1), some (.int a2), some (.int a3)] [] hp (rI F)
  have J8 : ∀ (v8_0 : Int32), v8_0 = ((if (f_Ha_has a1 hp) = 0 then 0 else ((if a2 < (-10) then 0 else ((if 10 < a2 then 0 else ((if a3 < (-10) then 0 else ((if 10 < a3 then 0 else 1) : Int32)) : Int32)) : Int32)) : Int32)) : Int32) → Rn wC G 2 q_GR_hasImage 40 [some (.ref 0), some (.int a1), some (.int a2), some (.int a3)] [.int v8_0] hp (rI F) := by
    rintro _ rfl
    exact rZ_ret d_GR_hasImage_40 rfl (rb_ite (Or.inl rfl) (rb_ite (Or.inl rfl) (rb_ite (Or.inl rfl) (rb_ite (Or.inl rfl) (rb_ite (Or.inl rfl) (Or.inr rfl)))))) H
  refine r_aload_n (i := 0) d_GR_hasImage_0 rfl rfl ?_
  refine r_getR (b := 0) (r := 3) d_GR_hasImage_1 fl_GR_19 (by decide) rfl rfl rfl ?_
  refine r_iload_n (i := 1) d_GR_hasImage_4 rfl rfl ?_
  refine rk_VI (b := 3) (d' := 1) [.int a1] [] d_GR_hasImage_5 ml_GR_144 rfl rfl (by decide) (by decide) rfl rfl (Nat.le_of_ble_eq_true rfl) (s_Ha_has a1 ?_)
  refine r_if_eq (tgt := 39) d_GR_hasImage_8 (by decide) (fun hc_8 => ?_) (fun hc_8 => ?_)
  · refine r_iconst d_GR_hasImage_39 ic_0 ?_
    exact J8 _ (((if_pos hc_8).trans rfl)).symm
  · refine r_iload_n (i := 2) d_GR_hasImage_11 rfl rfl ?_
    refine r_bipush d_GR_hasImage_12 bp_m10 ?_
    refine r_icmp_lt (tgt := 39) d_GR_hasImage_14 (by decide) (fun hc_14 => ?_) (fun hc_14 => ?_)
    · refine r_iconst d_GR_hasImage_39 ic_0 ?_
      exact J8 _ (((if_neg hc_8).trans ((if_pos hc_14).trans rfl))).symm
    · refine r_iload_n (i := 2) d_GR_hasImage_17 rfl rfl ?_
      refine r_bipush d_GR_hasImage_18 bp_10 ?_
      refine r_icmp_gt (tgt := 39) d_GR_hasImage_20 (by decide) (fun hc_20 => ?_) (fun hc_20 => ?_)
      · refine r_iconst d_GR_hasImage_39 ic_0 ?_
        exact J8 _ (((if_neg hc_8).trans ((if_neg hc_14).trans ((if_pos hc_20).trans rfl)))).symm
      · refine r_iload_n (i := 3) d_GR_hasImage_23 rfl rfl ?_
        refine r_bipush d_GR_hasImage_24 bp_m10 ?_
        refine r_icmp_lt (tgt := 39) d_GR_hasImage_26 (by decide) (fun hc_26 => ?_) (fun hc_26 => ?_)
        · refine r_iconst d_GR_hasImage_39 ic_0 ?_
          exact J8 _ (((if_neg hc_8).trans ((if_neg hc_14).trans ((if_neg hc_20).trans ((if_pos hc_26).trans rfl))))).symm
        · refine r_iload_n (i := 3) d_GR_hasImage_29 rfl rfl ?_
          refine r_bipush d_GR_hasImage_30 bp_10 ?_
          refine r_icmp_gt (tgt := 39) d_GR_hasImage_32 (by decide) (fun hc_32 => ?_) (fun hc_32 => ?_)
          · refine r_iconst d_GR_hasImage_39 ic_0 ?_
            exact J8 _ (((if_neg hc_8).trans ((if_neg hc_14).trans ((if_neg hc_20).trans ((if_neg hc_26).trans ((if_pos hc_32).trans rfl)))))).symm
          · refine r_iconst d_GR_hasImage_35 ic_1 ?_
            refine r_goto (tgt := 40) d_GR_hasImage_36 (by decide) ?_
            exact J8 _ (((if_neg hc_8).trans ((if_neg hc_14).trans ((if_neg hc_20).trans ((if_neg hc_26).trans ((if_neg hc_32).trans rfl)))))).symm
def f_GR_hasImage (a1 : Int32) (a2 : Int32) (a3 : Int32) (hp : rx_Hp) : Int32 := ((if (f_Ha_has a1 hp) = 0 then 0 else ((if a2 < (-10) then 0 else ((if 10 < a2 then 0 else ((if a3 < (-10) then 0 else ((if 10 < a3 then 0 else 1) : Int32)) : Int32)) : Int32)) : Int32)) : Int32)
theorem s_GR_hasImage {G : rx_Gh} {hp : rx_Hp} {F : Int32 → rx_Hp → Prop} (a1 : Int32) (a2 : Int32) (a3 : Int32) (H0 : F (f_GR_hasImage a1 a2 a3 hp) hp) : Ev wC G 2 q_GR_hasImage [.ref 0, .int a1, .int a2, .int a3] hp (rI F) := by
  have H : ∀ v h, v = (f_GR_hasImage a1 a2 a3 hp) → h = hp → F v h := by rintro _ _ rfl rfl; exact H0
  refine w_GR_hasImage a1 a2 a3  ?_
  exact H _ _ (rfl).symm (rfl).symm
theorem b_GR_hasImage (a1 : Int32) (a2 : Int32) (a3 : Int32) (hp : rx_Hp) : (f_GR_hasImage a1 a2 a3 hp) = 0 ∨ (f_GR_hasImage a1 a2 a3 hp) = 1 := (rb_ite (Or.inl rfl) (rb_ite (Or.inl rfl) (rb_ite (Or.inl rfl) (rb_ite (Or.inl rfl) (rb_ite (Or.inl rfl) (Or.inr rfl))))))
set_option maxHeartbeats 4000000 in
set_option maxRecDepth 20000 in
theorem w_GR_end {G : rx_Gh} {hp : rx_Hp} {F : Int32 → rx_Hp → Prop} (a1 : Int32) (H : (a1 < 0 → F 0 hp) ∧ (¬ a1 < 0 → (a1 ≤ (hp.1 1 1) → F 1 (rx_pf hp 1 1 a1)) ∧ (¬ a1 ≤ (hp.1 1 1) → F 0 hp))) : Ev wC G 1 q_GR_end [.ref 0, .int a1] hp (rI F) := by
  refine ev_of rfl (Nat.le_of_ble_eq_true rfl) rfl ?_
  show Rn wC G 1 q_GR_end 0 [some (.ref 0), some (.int a1)] [] hp (rI F)
  refine r_iload_n (i := 1) d_GR_end_0 rfl rfl ?_
  refine r_if_lt (tgt := 15) d_GR_end_1 (by decide) (fun hc_1 => ?_) (fun hc_1 => ?_)
  · replace H := H.1 hc_1
    refine r_iconst d_GR_end_15 ic_0 ?_
    exact rZ_ret d_GR_end_16 rfl (Or.inl rfl) H
  · replace H := H.2 hc_1
    refine r_iload_n (i := 1) d_GR_end_4 rfl rfl ?_
    refine r_aload_n (i := 0) d_GR_end_5 rfl rfl ?_
    refine r_getR (b := 0) (r := 1) d_GR_end_6 fl_GR_12 (by decide) rfl rfl rfl ?_
    refine r_getI (b := 1) (v := hp.1 1 1) d_GR_end_9 fl_GR_115 (by decide) rfl rfl rfl ?_
    refine r_icmp_le (tgt := 17) d_GR_end_12 (by decide) (fun hc_12 => ?_) (fun hc_12 => ?_)
    · replace H := H.1 hc_12
      refine r_aload_n (i := 0) d_GR_end_17 rfl rfl ?_
      refine r_getR (b := 0) (r := 1) d_GR_end_18 fl_GR_12 (by decide) rfl rfl rfl ?_
      refine r_iload_n (i := 1) d_GR_end_21 rfl rfl ?_
      refine r_putI (b := 1) d_GR_end_22 fp_GR_115 ⟨rfl, rfl⟩ (by decide) rfl rfl ?_
      refine r_iconst d_GR_end_25 ic_1 ?_
      exact rZ_ret d_GR_end_26 rfl (Or.inr rfl) H
    · replace H := H.2 hc_12
      refine r_iconst d_GR_end_15 ic_0 ?_
      exact rZ_ret d_GR_end_16 rfl (Or.inl rfl) H
def f_GR_end (a1 : Int32) (hp : rx_Hp) : Int32 := (if a1 < 0 then 0 else (if a1 ≤ (hp.1 1 1) then 1 else 0))
def g_GR_end (a1 : Int32) (hp : rx_Hp) : rx_Hp := (if a1 < 0 then hp else (if a1 ≤ (hp.1 1 1) then (rx_pf hp 1 1 a1) else hp))
theorem s_GR_end {G : rx_Gh} {hp : rx_Hp} {F : Int32 → rx_Hp → Prop} (a1 : Int32) (H0 : F (f_GR_end a1 hp) (g_GR_end a1 hp)) : Ev wC G 1 q_GR_end [.ref 0, .int a1] hp (rI F) := by
  have H : ∀ v h, v = (f_GR_end a1 hp) → h = (g_GR_end a1 hp) → F v h := by rintro _ _ rfl rfl; exact H0
  refine w_GR_end a1  ?_
  refine ⟨fun hc_1 => ?_, fun hc_1 => ?_⟩
  · exact H _ _ (((if_pos hc_1).trans rfl)).symm (((if_pos hc_1).trans rfl)).symm
  · refine ⟨fun hc_12 => ?_, fun hc_12 => ?_⟩
    · exact H _ _ (((if_neg hc_1).trans ((if_pos hc_12).trans rfl))).symm (((if_neg hc_1).trans ((if_pos hc_12).trans rfl))).symm
    · exact H _ _ (((if_neg hc_1).trans ((if_neg hc_12).trans rfl))).symm (((if_neg hc_1).trans ((if_neg hc_12).trans rfl))).symm
theorem b_GR_end (a1 : Int32) (hp : rx_Hp) : (f_GR_end a1 hp) = 0 ∨ (f_GR_end a1 hp) = 1 := (rb_ite (Or.inl rfl) (rb_ite (Or.inr rfl) (Or.inl rfl)))
set_option maxHeartbeats 4000000 in
set_option maxRecDepth 20000 in
theorem w_GR_light {G : rx_Gh} {hp : rx_Hp} {F : Int32 → rx_Hp → Prop} (a1 : Int32) (H : (a1 < (-1) → F 0 hp) ∧ (¬ a1 < (-1) → (a1 < (hp.1 0 14) → F 1 (rx_pf hp 0 15 a1)) ∧ (¬ a1 < (hp.1 0 14) → F 0 hp))) : Ev wC G 1 q_GR_light [.ref 0, .int a1] hp (rI F) := by
  refine ev_of rfl (Nat.le_of_ble_eq_true rfl) rfl ?_
  show Rn wC G 1 q_GR_light 0 [some (.ref 0), some (.int a1)] [] hp (rI F)
  refine r_iload_n (i := 1) d_GR_light_0 rfl rfl ?_
  refine r_iconst d_GR_light_1 ic_m1 ?_
  refine r_icmp_lt (tgt := 13) d_GR_light_2 (by decide) (fun hc_2 => ?_) (fun hc_2 => ?_)
  · replace H := H.1 hc_2
    refine r_iconst d_GR_light_13 ic_0 ?_
    exact rZ_ret d_GR_light_14 rfl (Or.inl rfl) H
  · replace H := H.2 hc_2
    refine r_iload_n (i := 1) d_GR_light_5 rfl rfl ?_
    refine r_aload_n (i := 0) d_GR_light_6 rfl rfl ?_
    refine r_getI (b := 0) (v := hp.1 0 14) d_GR_light_7 fl_GR_100 (by decide) rfl rfl rfl ?_
    refine r_icmp_lt (tgt := 15) d_GR_light_10 (by decide) (fun hc_10 => ?_) (fun hc_10 => ?_)
    · replace H := H.1 hc_10
      refine r_aload_n (i := 0) d_GR_light_15 rfl rfl ?_
      refine r_iload_n (i := 1) d_GR_light_16 rfl rfl ?_
      refine r_putI (b := 0) d_GR_light_17 fp_GR_104 ⟨rfl, rfl⟩ (by decide) rfl rfl ?_
      refine r_iconst d_GR_light_20 ic_1 ?_
      exact rZ_ret d_GR_light_21 rfl (Or.inr rfl) H
    · replace H := H.2 hc_10
      refine r_iconst d_GR_light_13 ic_0 ?_
      exact rZ_ret d_GR_light_14 rfl (Or.inl rfl) H
def f_GR_light (a1 : Int32) (hp : rx_Hp) : Int32 := (if a1 < (-1) then 0 else (if a1 < (hp.1 0 14) then 1 else 0))
def g_GR_light (a1 : Int32) (hp : rx_Hp) : rx_Hp := (if a1 < (-1) then hp else (if a1 < (hp.1 0 14) then (rx_pf hp 0 15 a1) else hp))
theorem s_GR_light {G : rx_Gh} {hp : rx_Hp} {F : Int32 → rx_Hp → Prop} (a1 : Int32) (H0 : F (f_GR_light a1 hp) (g_GR_light a1 hp)) : Ev wC G 1 q_GR_light [.ref 0, .int a1] hp (rI F) := by
  have H : ∀ v h, v = (f_GR_light a1 hp) → h = (g_GR_light a1 hp) → F v h := by rintro _ _ rfl rfl; exact H0
  refine w_GR_light a1  ?_
  refine ⟨fun hc_2 => ?_, fun hc_2 => ?_⟩
  · exact H _ _ (((if_pos hc_2).trans rfl)).symm (((if_pos hc_2).trans rfl)).symm
  · refine ⟨fun hc_10 => ?_, fun hc_10 => ?_⟩
    · exact H _ _ (((if_neg hc_2).trans ((if_pos hc_10).trans rfl))).symm (((if_neg hc_2).trans ((if_pos hc_10).trans rfl))).symm
    · exact H _ _ (((if_neg hc_2).trans ((if_neg hc_10).trans rfl))).symm (((if_neg hc_2).trans ((if_neg hc_10).trans rfl))).symm
theorem b_GR_light (a1 : Int32) (hp : rx_Hp) : (f_GR_light a1 hp) = 0 ∨ (f_GR_light a1 hp) = 1 := (rb_ite (Or.inl rfl) (rb_ite (Or.inr rfl) (Or.inl rfl)))
set_option maxHeartbeats 4000000 in
set_option maxRecDepth 20000 in
theorem w_GR_image {G : rx_Gh} {hp : rx_Hp} {F : Int32 → rx_Hp → Prop} (a1 : Int32) (a2 : Int32) (a3 : Int32) (a4 : Int32) (H : ((f_GR_hasImage a1 a2 a3 hp) = 0 → F (-100000000) hp) ∧ (¬ (f_GR_hasImage a1 a2 a3 hp) = 0 → (a4 = 0 → vp_in a1 6 ∧ (F (f_Ha_spot a2 (hp.1 3 5) (hp.2.1 4 a1.toNatClampNeg)) hp)) ∧ (a4 = 1 → vp_in a1 6 ∧ (F (f_Ha_spot a3 (hp.1 3 6) (hp.2.1 5 a1.toNatClampNeg)) hp)) ∧ (a4 = 2 → ((f_GR_isTurned a2 a3) = 0 → vp_in a1 6 ∧ (F (hp.2.1 6 a1.toNatClampNeg) hp)) ∧ (¬ (f_GR_isTurned a2 a3) = 0 → vp_in a1 6 ∧ (F (1 - (hp.2.1 6 a1.toNatClampNeg)) hp))) ∧ (a4 = 3 → p_Ha_brightAfter (f_GR_glasses a2 a3) ∧ (F (f_Ha_brightAfter (f_GR_glasses a2 a3) hp) hp)) ∧ (a4 = 4 → F ((if (f_Ha_isThere (hp.1 3 7) a2 a3) = 0 then 0 else 1) : Int32) hp) ∧ (¬ a4 = 0 → ¬ a4 = 1 → ¬ a4 = 2 → ¬ a4 = 3 → ¬ a4 = 4 → F (-100000000) hp))) : Ev wC G 4 q_GR_image [.ref 0, .int a1, .int a2, .int a3, .int a4] hp (rI F) := by
  refine ev_of rfl (Nat.le_of_ble_eq_true rfl) rfl ?_
  show Rn wC G 4 q_GR_image 0 [some (.ref 0), some (.int a1), some (.int a2), some (.int a3), some (.int a4)] [] hp (rI F)
  refine r_aload_n (i := 0) d_GR_image_0 rfl rfl ?_
  refine r_iload_n (i := 1) d_GR_image_1 rfl rfl ?_
  refine r_iload_n (i := 2) d_GR_image_2 rfl rfl ?_
  refine r_iload_n (i := 3) d_GR_image_3 rfl rfl ?_
  refine rk_VI (b := 0) (d' := 2) [.int a1, .int a2, .int a3] [] d_GR_image_4 ml_GR_192 rfl rfl (by decide) (by decide) rfl rfl (Nat.le_of_ble_eq_true rfl) (s_GR_hasImage a1 a2 a3 ?_)
  refine r_if_ne (tgt := 13) d_GR_image_7 (by decide) (fun hc_7 => ?_) (fun hc_7 => ?_)
  · replace H := H.2 hc_7
    refine r_iload d_GR_image_13 rfl ?_
    by_cases hs_15_0 : a4 = 0
    · replace H := H.1 hs_15_0
      refine r_tabIn (off := 33) (tgt := 48) d_GR_image_15 (by rw [hs_15_0]; decide) (by rw [hs_15_0]; decide) (by rw [hs_15_0]; decide) (by decide) ?_
      refine r_iload_n (i := 2) d_GR_image_48 rfl rfl ?_
      refine r_aload_n (i := 0) d_GR_image_49 rfl rfl ?_
      refine r_getR (b := 0) (r := 3) d_GR_image_50 fl_GR_19 (by decide) rfl rfl rfl ?_
      refine r_getI (b := 3) (v := hp.1 3 5) d_GR_image_53 fl_GR_197 (by decide) rfl rfl rfl ?_
      refine r_aload_n (i := 0) d_GR_image_56 rfl rfl ?_
      refine r_getR (b := 0) (r := 3) d_GR_image_57 fl_GR_19 (by decide) rfl rfl rfl ?_
      refine r_getR (b := 3) (r := 4) d_GR_image_60 fl_GR_155 (by decide) rfl rfl rfl ?_
      refine r_iload_n (i := 1) d_GR_image_63 rfl rfl ?_
      obtain ⟨hi_64, H⟩ := H
      refine r_iald (b := 4) (v := hp.2.1 4 a1.toNatClampNeg) d_GR_image_64 (by decide) rfl hi_64 rfl ?_
      refine rk_SI (d' := 1) [.int a2, .int (hp.1 3 5), .int (hp.2.1 4 a1.toNatClampNeg)] [] d_GR_image_65 ml_GR_200 rfl rfl (by decide) (Nat.le_of_ble_eq_true rfl) (s_Ha_spot a2 (hp.1 3 5) (hp.2.1 4 a1.toNatClampNeg) ?_)
      exact rI_ret d_GR_image_68 rfl H
    by_cases hs_15_1 : a4 = 1
    · replace H := H.2.1 hs_15_1
      refine r_tabIn (off := 54) (tgt := 69) d_GR_image_15 (by rw [hs_15_1]; decide) (by rw [hs_15_1]; decide) (by rw [hs_15_1]; decide) (by decide) ?_
      refine r_iload_n (i := 3) d_GR_image_69 rfl rfl ?_
      refine r_aload_n (i := 0) d_GR_image_70 rfl rfl ?_
      refine r_getR (b := 0) (r := 3) d_GR_image_71 fl_GR_19 (by decide) rfl rfl rfl ?_
      refine r_getI (b := 3) (v := hp.1 3 6) d_GR_image_74 fl_GR_204 (by decide) rfl rfl rfl ?_
      refine r_aload_n (i := 0) d_GR_image_77 rfl rfl ?_
      refine r_getR (b := 0) (r := 3) d_GR_image_78 fl_GR_19 (by decide) rfl rfl rfl ?_
      refine r_getR (b := 3) (r := 5) d_GR_image_81 fl_GR_158 (by decide) rfl rfl rfl ?_
      refine r_iload_n (i := 1) d_GR_image_84 rfl rfl ?_
      obtain ⟨hi_85, H⟩ := H
      refine r_iald (b := 5) (v := hp.2.1 5 a1.toNatClampNeg) d_GR_image_85 (by decide) rfl hi_85 rfl ?_
      refine rk_SI (d' := 1) [.int a3, .int (hp.1 3 6), .int (hp.2.1 5 a1.toNatClampNeg)] [] d_GR_image_86 ml_GR_200 rfl rfl (by decide) (Nat.le_of_ble_eq_true rfl) (s_Ha_spot a3 (hp.1 3 6) (hp.2.1 5 a1.toNatClampNeg) ?_)
      exact rI_ret d_GR_image_89 rfl H
    by_cases hs_15_2 : a4 = 2
    · replace H := H.2.2.1 hs_15_2
      refine r_tabIn (off := 75) (tgt := 90) d_GR_image_15 (by rw [hs_15_2]; decide) (by rw [hs_15_2]; decide) (by rw [hs_15_2]; decide) (by decide) ?_
      refine r_iload_n (i := 2) d_GR_image_90 rfl rfl ?_
      refine r_iload_n (i := 3) d_GR_image_91 rfl rfl ?_
      refine rk_SI (d' := 3) [.int a2, .int a3] [] d_GR_image_92 ml_GR_207 rfl rfl (by decide) (Nat.le_of_ble_eq_true rfl) (s_GR_isTurned a2 a3 ?_)
      refine r_if_eq (tgt := 112) d_GR_image_95 (by decide) (fun hc_95 => ?_) (fun hc_95 => ?_)
      · replace H := H.1 hc_95
        refine r_aload_n (i := 0) d_GR_image_112 rfl rfl ?_
        refine r_getR (b := 0) (r := 3) d_GR_image_113 fl_GR_19 (by decide) rfl rfl rfl ?_
        refine r_getR (b := 3) (r := 6) d_GR_image_116 fl_GR_161 (by decide) rfl rfl rfl ?_
        refine r_iload_n (i := 1) d_GR_image_119 rfl rfl ?_
        obtain ⟨hi_120, H⟩ := H
        refine r_iald (b := 6) (v := hp.2.1 6 a1.toNatClampNeg) d_GR_image_120 (by decide) rfl hi_120 rfl ?_
        exact rI_ret d_GR_image_121 rfl H
      · replace H := H.2 hc_95
        refine r_iconst d_GR_image_98 ic_1 ?_
        refine r_aload_n (i := 0) d_GR_image_99 rfl rfl ?_
        refine r_getR (b := 0) (r := 3) d_GR_image_100 fl_GR_19 (by decide) rfl rfl rfl ?_
        refine r_getR (b := 3) (r := 6) d_GR_image_103 fl_GR_161 (by decide) rfl rfl rfl ?_
        refine r_iload_n (i := 1) d_GR_image_106 rfl rfl ?_
        obtain ⟨hi_107, H⟩ := H
        refine r_iald (b := 6) (v := hp.2.1 6 a1.toNatClampNeg) d_GR_image_107 (by decide) rfl hi_107 rfl ?_
        refine r_isub d_GR_image_108 ?_
        refine r_goto (tgt := 121) d_GR_image_109 (by decide) ?_
        exact rI_ret d_GR_image_121 rfl H
    by_cases hs_15_3 : a4 = 3
    · replace H := H.2.2.2.1 hs_15_3
      refine r_tabIn (off := 107) (tgt := 122) d_GR_image_15 (by rw [hs_15_3]; decide) (by rw [hs_15_3]; decide) (by rw [hs_15_3]; decide) (by decide) ?_
      refine r_aload_n (i := 0) d_GR_image_122 rfl rfl ?_
      refine r_getR (b := 0) (r := 3) d_GR_image_123 fl_GR_19 (by decide) rfl rfl rfl ?_
      refine r_iload_n (i := 2) d_GR_image_126 rfl rfl ?_
      refine r_iload_n (i := 3) d_GR_image_127 rfl rfl ?_
      refine rk_SI (d' := 2) [.int a2, .int a3] [.ref 3] d_GR_image_128 ml_GR_210 rfl rfl (by decide) (Nat.le_of_ble_eq_true rfl) (s_GR_glasses a2 a3 ?_)
      obtain ⟨hp_131_0, H⟩ := H
      refine rk_VI (b := 3) (d' := 1) [.int (f_GR_glasses a2 a3)] [] d_GR_image_131 ml_GR_214 rfl rfl (by decide) (by decide) rfl rfl (Nat.le_of_ble_eq_true rfl) (s_Ha_brightAfter (f_GR_glasses a2 a3) hp_131_0 ?_)
      exact rI_ret d_GR_image_134 rfl H
    by_cases hs_15_4 : a4 = 4
    · replace H := H.2.2.2.2.1 hs_15_4
      refine r_tabIn (off := 120) (tgt := 135) d_GR_image_15 (by rw [hs_15_4]; decide) (by rw [hs_15_4]; decide) (by rw [hs_15_4]; decide) (by decide) ?_
      have J147 : ∀ (v147_0 : Int32), v147_0 = ((if (f_Ha_isThere (hp.1 3 7) a2 a3) = 0 then 0 else 1) : Int32) → Rn wC G 4 q_GR_image 155 [some (.ref 0), some (.int a1), some (.int a2), some (.int a3), some (.int a4)] [.int v147_0] hp (rI F) := by
        rintro _ rfl
        exact rI_ret d_GR_image_155 rfl H
      refine r_aload_n (i := 0) d_GR_image_135 rfl rfl ?_
      refine r_getR (b := 0) (r := 3) d_GR_image_136 fl_GR_19 (by decide) rfl rfl rfl ?_
      refine r_getI (b := 3) (v := hp.1 3 7) d_GR_image_139 fl_GR_175 (by decide) rfl rfl rfl ?_
      refine r_iload_n (i := 2) d_GR_image_142 rfl rfl ?_
      refine r_iload_n (i := 3) d_GR_image_143 rfl rfl ?_
      refine rk_SI (d' := 3) [.int (hp.1 3 7), .int a2, .int a3] [] d_GR_image_144 ml_GR_217 rfl rfl (by decide) (Nat.le_of_ble_eq_true rfl) (s_Ha_isThere (hp.1 3 7) a2 a3 ?_)
      refine r_if_eq (tgt := 154) d_GR_image_147 (by decide) (fun hc_147 => ?_) (fun hc_147 => ?_)
      · refine r_iconst d_GR_image_154 ic_0 ?_
        exact J147 _ (((if_pos hc_147).trans rfl)).symm
      · refine r_iconst d_GR_image_150 ic_1 ?_
        refine r_goto (tgt := 155) d_GR_image_151 (by decide) ?_
        exact J147 _ (((if_neg hc_147).trans rfl)).symm
    replace H := H.2.2.2.2.2 hs_15_0 hs_15_1 hs_15_2 hs_15_3 hs_15_4
    refine r_tabOut (tgt := 156) d_GR_image_15 (rx_tab (lo := 0) (hi := 4) (by decide) (by decide) (fun i h1 h2 => ?_)) (by decide) ?_
    · have hz : i = 0 ∨ i = 1 ∨ i = 2 ∨ i = 3 ∨ i = 4 := by omega
      rcases hz with rfl | rfl | rfl | rfl | rfl
      · exact hs_15_0
      · exact hs_15_1
      · exact hs_15_2
      · exact hs_15_3
      · exact hs_15_4
    refine r_ldc d_GR_image_156 ck_GR_196 ?_
    exact rI_ret d_GR_image_158 rfl H
  · replace H := H.1 hc_7
    refine r_ldc d_GR_image_10 ck_GR_196 ?_
    exact rI_ret d_GR_image_12 rfl H
def f_GR_image (a1 : Int32) (a2 : Int32) (a3 : Int32) (a4 : Int32) (hp : rx_Hp) : Int32 := (if (f_GR_hasImage a1 a2 a3 hp) = 0 then (-100000000) else (if a4 = 0 then (f_Ha_spot a2 (hp.1 3 5) (hp.2.1 4 a1.toNatClampNeg)) else (if a4 = 1 then (f_Ha_spot a3 (hp.1 3 6) (hp.2.1 5 a1.toNatClampNeg)) else (if a4 = 2 then (if (f_GR_isTurned a2 a3) = 0 then (hp.2.1 6 a1.toNatClampNeg) else (1 - (hp.2.1 6 a1.toNatClampNeg))) else (if a4 = 3 then (f_Ha_brightAfter (f_GR_glasses a2 a3) hp) else (if a4 = 4 then ((if (f_Ha_isThere (hp.1 3 7) a2 a3) = 0 then 0 else 1) : Int32) else (-100000000)))))))
def p_GR_image (a1 : Int32) (a2 : Int32) (a3 : Int32) (a4 : Int32) (hp : rx_Hp) : Prop := (¬ (f_GR_hasImage a1 a2 a3 hp) = 0 → (a4 = 0 → vp_in a1 6) ∧ (a4 = 1 → vp_in a1 6) ∧ (a4 = 2 → ((f_GR_isTurned a2 a3) = 0 → vp_in a1 6) ∧ (¬ (f_GR_isTurned a2 a3) = 0 → vp_in a1 6)) ∧ (a4 = 3 → p_Ha_brightAfter (f_GR_glasses a2 a3)))
theorem s_GR_image {G : rx_Gh} {hp : rx_Hp} {F : Int32 → rx_Hp → Prop} (a1 : Int32) (a2 : Int32) (a3 : Int32) (a4 : Int32) (hP : (p_GR_image a1 a2 a3 a4 hp)) (H0 : F (f_GR_image a1 a2 a3 a4 hp) hp) : Ev wC G 4 q_GR_image [.ref 0, .int a1, .int a2, .int a3, .int a4] hp (rI F) := by
  have H : ∀ v h, v = (f_GR_image a1 a2 a3 a4 hp) → h = hp → F v h := by rintro _ _ rfl rfl; exact H0
  unfold p_GR_image at hP
  refine w_GR_image a1 a2 a3 a4  ?_
  refine ⟨fun hc_7 => ?_, fun hc_7 => ?_⟩
  · exact H _ _ (((if_pos hc_7).trans rfl)).symm (rfl).symm
  · refine ⟨fun s0 => ?_, fun s1 => ?_, fun s2 => ?_, fun s3 => ?_, fun s4 => ?_, fun s0 s1 s2 s3 s4 => ?_⟩
    · refine ⟨((hP hc_7).1 s0), ?_⟩
      exact H _ _ (((if_neg hc_7).trans ((if_pos s0).trans rfl))).symm (rfl).symm
    · refine ⟨((hP hc_7).2.1 s1), ?_⟩
      exact H _ _ (((if_neg hc_7).trans ((if_neg (rx_ne s1 (by decide))).trans ((if_pos s1).trans rfl)))).symm (rfl).symm
    · refine ⟨fun hc_95 => ?_, fun hc_95 => ?_⟩
      · refine ⟨(((hP hc_7).2.2.1 s2).1 hc_95), ?_⟩
        exact H _ _ (((if_neg hc_7).trans ((if_neg (rx_ne s2 (by decide))).trans ((if_neg (rx_ne s2 (by decide))).trans ((if_pos s2).trans ((if_pos hc_95).trans rfl)))))).symm (rfl).symm
      · refine ⟨(((hP hc_7).2.2.1 s2).2 hc_95), ?_⟩
        exact H _ _ (((if_neg hc_7).trans ((if_neg (rx_ne s2 (by decide))).trans ((if_neg (rx_ne s2 (by decide))).trans ((if_pos s2).trans ((if_neg hc_95).trans rfl)))))).symm (rfl).symm
    · refine ⟨((hP hc_7).2.2.2 s3), ?_⟩
      exact H _ _ (((if_neg hc_7).trans ((if_neg (rx_ne s3 (by decide))).trans ((if_neg (rx_ne s3 (by decide))).trans ((if_neg (rx_ne s3 (by decide))).trans ((if_pos s3).trans rfl)))))).symm (rfl).symm
    · exact H _ _ (((if_neg hc_7).trans ((if_neg (rx_ne s4 (by decide))).trans ((if_neg (rx_ne s4 (by decide))).trans ((if_neg (rx_ne s4 (by decide))).trans ((if_neg (rx_ne s4 (by decide))).trans ((if_pos s4).trans rfl))))))).symm (rfl).symm
    · exact H _ _ (((if_neg hc_7).trans ((if_neg s0).trans ((if_neg s1).trans ((if_neg s2).trans ((if_neg s3).trans ((if_neg s4).trans rfl))))))).symm (rfl).symm
set_option maxHeartbeats 4000000 in
set_option maxRecDepth 20000 in
theorem w_GR_far {G : rx_Gh} {hp : rx_Hp} {F : Int32 → rx_Hp → Prop} (a1 : Int32) (a2 : Int32) (a3 : Int32) (a4 : Int32) (H : ((f_GR_hasImage a1 a2 a3 hp) = 0 → F (-1) hp) ∧ (¬ (f_GR_hasImage a1 a2 a3 hp) = 0 → ((f_Ha_has a4 hp) = 0 → F (-1) hp) ∧ (¬ (f_Ha_has a4 hp) = 0 → p_Ha_farFrom a4 a1 a2 a3 ∧ (F (f_Ha_farFrom a4 a1 a2 a3 hp) hp)))) : Ev wC G 3 q_GR_far [.ref 0, .int a1, .int a2, .int a3, .int a4] hp (rI F) := by
  refine ev_of rfl (Nat.le_of_ble_eq_true rfl) rfl ?_
  show Rn wC G 3 q_GR_far 0 [some (.ref 0), some (.int a1), some (.int a2), some (.int a3), some (.int a4)] [] hp (rI F)
  refine r_aload_n (i := 0) d_GR_far_0 rfl rfl ?_
  refine r_iload_n (i := 1) d_GR_far_1 rfl rfl ?_
  refine r_iload_n (i := 2) d_GR_far_2 rfl rfl ?_
  refine r_iload_n (i := 3) d_GR_far_3 rfl rfl ?_
  refine rk_VI (b := 0) (d' := 2) [.int a1, .int a2, .int a3] [] d_GR_far_4 ml_GR_192 rfl rfl (by decide) (by decide) rfl rfl (Nat.le_of_ble_eq_true rfl) (s_GR_hasImage a1 a2 a3 ?_)
  refine r_if_eq (tgt := 37) d_GR_far_7 (by decide) (fun hc_7 => ?_) (fun hc_7 => ?_)
  · replace H := H.1 hc_7
    refine r_iconst d_GR_far_37 ic_m1 ?_
    exact rI_ret d_GR_far_38 rfl H
  · replace H := H.2 hc_7
    refine r_aload_n (i := 0) d_GR_far_10 rfl rfl ?_
    refine r_getR (b := 0) (r := 3) d_GR_far_11 fl_GR_19 (by decide) rfl rfl rfl ?_
    refine r_iload d_GR_far_14 rfl ?_
    refine rk_VI (b := 3) (d' := 1) [.int a4] [] d_GR_far_16 ml_GR_144 rfl rfl (by decide) (by decide) rfl rfl (Nat.le_of_ble_eq_true rfl) (s_Ha_has a4 ?_)
    refine r_if_eq (tgt := 37) d_GR_far_19 (by decide) (fun hc_19 => ?_) (fun hc_19 => ?_)
    · replace H := H.1 hc_19
      refine r_iconst d_GR_far_37 ic_m1 ?_
      exact rI_ret d_GR_far_38 rfl H
    · replace H := H.2 hc_19
      refine r_aload_n (i := 0) d_GR_far_22 rfl rfl ?_
      refine r_getR (b := 0) (r := 3) d_GR_far_23 fl_GR_19 (by decide) rfl rfl rfl ?_
      refine r_iload d_GR_far_26 rfl ?_
      refine r_iload_n (i := 1) d_GR_far_28 rfl rfl ?_
      refine r_iload_n (i := 2) d_GR_far_29 rfl rfl ?_
      refine r_iload_n (i := 3) d_GR_far_30 rfl rfl ?_
      obtain ⟨hp_31_0, H⟩ := H
      refine rk_VI (b := 3) (d' := 2) [.int a4, .int a1, .int a2, .int a3] [] d_GR_far_31 ml_GR_220 rfl rfl (by decide) (by decide) rfl rfl (Nat.le_of_ble_eq_true rfl) (s_Ha_farFrom a4 a1 a2 a3 hp_31_0 ?_)
      refine r_goto (tgt := 38) d_GR_far_34 (by decide) ?_
      exact rI_ret d_GR_far_38 rfl H
def f_GR_far (a1 : Int32) (a2 : Int32) (a3 : Int32) (a4 : Int32) (hp : rx_Hp) : Int32 := (if (f_GR_hasImage a1 a2 a3 hp) = 0 then (-1) else (if (f_Ha_has a4 hp) = 0 then (-1) else (f_Ha_farFrom a4 a1 a2 a3 hp)))
def p_GR_far (a1 : Int32) (a2 : Int32) (a3 : Int32) (a4 : Int32) (hp : rx_Hp) : Prop := (¬ (f_GR_hasImage a1 a2 a3 hp) = 0 → (¬ (f_Ha_has a4 hp) = 0 → p_Ha_farFrom a4 a1 a2 a3))
theorem s_GR_far {G : rx_Gh} {hp : rx_Hp} {F : Int32 → rx_Hp → Prop} (a1 : Int32) (a2 : Int32) (a3 : Int32) (a4 : Int32) (hP : (p_GR_far a1 a2 a3 a4 hp)) (H0 : F (f_GR_far a1 a2 a3 a4 hp) hp) : Ev wC G 3 q_GR_far [.ref 0, .int a1, .int a2, .int a3, .int a4] hp (rI F) := by
  have H : ∀ v h, v = (f_GR_far a1 a2 a3 a4 hp) → h = hp → F v h := by rintro _ _ rfl rfl; exact H0
  unfold p_GR_far at hP
  refine w_GR_far a1 a2 a3 a4  ?_
  refine ⟨fun hc_7 => ?_, fun hc_7 => ?_⟩
  · exact H _ _ (((if_pos hc_7).trans rfl)).symm (rfl).symm
  · refine ⟨fun hc_19 => ?_, fun hc_19 => ?_⟩
    · exact H _ _ (((if_neg hc_7).trans ((if_pos hc_19).trans rfl))).symm (rfl).symm
    · refine ⟨((hP hc_7) hc_19), ?_⟩
      exact H _ _ (((if_neg hc_7).trans ((if_neg hc_19).trans rfl))).symm (rfl).symm
set_option maxHeartbeats 4000000 in
set_option maxRecDepth 20000 in
theorem w_GR_hinge {G : rx_Gh} {hp : rx_Hp} {F : Int32 → rx_Hp → Prop} (a1 : Int32) (a2 : Int32) (a3 : Int32) (H : (a1 < 1 → F (-1) hp) ∧ (¬ a1 < 1 → (180 < a1 → F (-1) hp) ∧ (¬ 180 < a1 → (a2 < 1 → F (-1) hp) ∧ (¬ a2 < 1 → (a1 ≤ a2 → F (-1) hp) ∧ (¬ a1 ≤ a2 → (a3 < 0 → F (-1) hp) ∧ (¬ a3 < 0 → (a3 ≤ 1 → (a3 = 0 → p_GR_unlikePlaces a1 a2 ∧ (F (f_GR_unlikePlaces a1 a2) hp)) ∧ (¬ a3 = 0 → p_GR_turnedPlaces a1 a2 ∧ (F (f_GR_turnedPlaces a1 a2) hp))) ∧ (¬ a3 ≤ 1 → F (-1) hp))))))) : Ev wC G 5 q_GR_hinge [.ref 0, .int a1, .int a2, .int a3] hp (rI F) := by
  refine ev_of rfl (Nat.le_of_ble_eq_true rfl) rfl ?_
  show Rn wC G 5 q_GR_hinge 0 [some (.ref 0), some (.int a1), some (.int a2), some (.int a3)] [] hp (rI F)
  refine r_iload_n (i := 1) d_GR_hinge_0 rfl rfl ?_
  refine r_iconst d_GR_hinge_1 ic_1 ?_
  refine r_icmp_lt (tgt := 31) d_GR_hinge_2 (by decide) (fun hc_2 => ?_) (fun hc_2 => ?_)
  · replace H := H.1 hc_2
    refine r_iconst d_GR_hinge_31 ic_m1 ?_
    exact rI_ret d_GR_hinge_32 rfl H
  · replace H := H.2 hc_2
    refine r_iload_n (i := 1) d_GR_hinge_5 rfl rfl ?_
    refine r_sipush d_GR_hinge_6 sp_180 ?_
    refine r_icmp_gt (tgt := 31) d_GR_hinge_9 (by decide) (fun hc_9 => ?_) (fun hc_9 => ?_)
    · replace H := H.1 hc_9
      refine r_iconst d_GR_hinge_31 ic_m1 ?_
      exact rI_ret d_GR_hinge_32 rfl H
    · replace H := H.2 hc_9
      refine r_iload_n (i := 2) d_GR_hinge_12 rfl rfl ?_
      refine r_iconst d_GR_hinge_13 ic_1 ?_
      refine r_icmp_lt (tgt := 31) d_GR_hinge_14 (by decide) (fun hc_14 => ?_) (fun hc_14 => ?_)
      · replace H := H.1 hc_14
        refine r_iconst d_GR_hinge_31 ic_m1 ?_
        exact rI_ret d_GR_hinge_32 rfl H
      · replace H := H.2 hc_14
        refine r_iload_n (i := 2) d_GR_hinge_17 rfl rfl ?_
        refine r_iload_n (i := 1) d_GR_hinge_18 rfl rfl ?_
        refine r_icmp_ge (tgt := 31) d_GR_hinge_19 (by decide) (fun hc_19 => ?_) (fun hc_19 => ?_)
        · replace H := H.1 hc_19
          refine r_iconst d_GR_hinge_31 ic_m1 ?_
          exact rI_ret d_GR_hinge_32 rfl H
        · replace H := H.2 hc_19
          refine r_iload_n (i := 3) d_GR_hinge_22 rfl rfl ?_
          refine r_if_lt (tgt := 31) d_GR_hinge_23 (by decide) (fun hc_23 => ?_) (fun hc_23 => ?_)
          · replace H := H.1 hc_23
            refine r_iconst d_GR_hinge_31 ic_m1 ?_
            exact rI_ret d_GR_hinge_32 rfl H
          · replace H := H.2 hc_23
            refine r_iload_n (i := 3) d_GR_hinge_26 rfl rfl ?_
            refine r_iconst d_GR_hinge_27 ic_1 ?_
            refine r_icmp_le (tgt := 33) d_GR_hinge_28 (by decide) (fun hc_28 => ?_) (fun hc_28 => ?_)
            · replace H := H.1 hc_28
              refine r_iload_n (i := 3) d_GR_hinge_33 rfl rfl ?_
              refine r_if_ne (tgt := 45) d_GR_hinge_34 (by decide) (fun hc_34 => ?_) (fun hc_34 => ?_)
              · replace H := H.2 hc_34
                refine r_iload_n (i := 1) d_GR_hinge_45 rfl rfl ?_
                refine r_iload_n (i := 2) d_GR_hinge_46 rfl rfl ?_
                obtain ⟨hp_47_0, H⟩ := H
                refine rk_SI (d' := 4) [.int a1, .int a2] [] d_GR_hinge_47 ml_GR_317 rfl rfl (by decide) (Nat.le_of_ble_eq_true rfl) (s_GR_turnedPlaces a1 a2 hp_47_0 ?_)
                exact rI_ret d_GR_hinge_50 rfl H
              · replace H := H.1 hc_34
                refine r_iload_n (i := 1) d_GR_hinge_37 rfl rfl ?_
                refine r_iload_n (i := 2) d_GR_hinge_38 rfl rfl ?_
                obtain ⟨hp_39_0, H⟩ := H
                refine rk_SI (d' := 4) [.int a1, .int a2] [] d_GR_hinge_39 ml_GR_314 rfl rfl (by decide) (Nat.le_of_ble_eq_true rfl) (s_GR_unlikePlaces a1 a2 hp_39_0 ?_)
                refine r_goto (tgt := 50) d_GR_hinge_42 (by decide) ?_
                exact rI_ret d_GR_hinge_50 rfl H
            · replace H := H.2 hc_28
              refine r_iconst d_GR_hinge_31 ic_m1 ?_
              exact rI_ret d_GR_hinge_32 rfl H
def f_GR_hinge (a1 : Int32) (a2 : Int32) (a3 : Int32) : Int32 := (if a1 < 1 then (-1) else (if 180 < a1 then (-1) else (if a2 < 1 then (-1) else (if a1 ≤ a2 then (-1) else (if a3 < 0 then (-1) else (if a3 ≤ 1 then (if a3 = 0 then (f_GR_unlikePlaces a1 a2) else (f_GR_turnedPlaces a1 a2)) else (-1)))))))
def p_GR_hinge (a1 : Int32) (a2 : Int32) (a3 : Int32) : Prop := (¬ a1 < 1 → (¬ 180 < a1 → (¬ a2 < 1 → (¬ a1 ≤ a2 → (¬ a3 < 0 → (a3 ≤ 1 → (a3 = 0 → p_GR_unlikePlaces a1 a2) ∧ (¬ a3 = 0 → p_GR_turnedPlaces a1 a2)))))))
theorem s_GR_hinge {G : rx_Gh} {hp : rx_Hp} {F : Int32 → rx_Hp → Prop} (a1 : Int32) (a2 : Int32) (a3 : Int32) (hP : (p_GR_hinge a1 a2 a3)) (H0 : F (f_GR_hinge a1 a2 a3) hp) : Ev wC G 5 q_GR_hinge [.ref 0, .int a1, .int a2, .int a3] hp (rI F) := by
  have H : ∀ v h, v = (f_GR_hinge a1 a2 a3) → h = hp → F v h := by rintro _ _ rfl rfl; exact H0
  unfold p_GR_hinge at hP
  refine w_GR_hinge a1 a2 a3  ?_
  refine ⟨fun hc_2 => ?_, fun hc_2 => ?_⟩
  · exact H _ _ (((if_pos hc_2).trans rfl)).symm (rfl).symm
  · refine ⟨fun hc_9 => ?_, fun hc_9 => ?_⟩
    · exact H _ _ (((if_neg hc_2).trans ((if_pos hc_9).trans rfl))).symm (rfl).symm
    · refine ⟨fun hc_14 => ?_, fun hc_14 => ?_⟩
      · exact H _ _ (((if_neg hc_2).trans ((if_neg hc_9).trans ((if_pos hc_14).trans rfl)))).symm (rfl).symm
      · refine ⟨fun hc_19 => ?_, fun hc_19 => ?_⟩
        · exact H _ _ (((if_neg hc_2).trans ((if_neg hc_9).trans ((if_neg hc_14).trans ((if_pos hc_19).trans rfl))))).symm (rfl).symm
        · refine ⟨fun hc_23 => ?_, fun hc_23 => ?_⟩
          · exact H _ _ (((if_neg hc_2).trans ((if_neg hc_9).trans ((if_neg hc_14).trans ((if_neg hc_19).trans ((if_pos hc_23).trans rfl)))))).symm (rfl).symm
          · refine ⟨fun hc_28 => ?_, fun hc_28 => ?_⟩
            · refine ⟨fun hc_34 => ?_, fun hc_34 => ?_⟩
              · refine ⟨(((((((hP hc_2) hc_9) hc_14) hc_19) hc_23) hc_28).1 hc_34), ?_⟩
                exact H _ _ (((if_neg hc_2).trans ((if_neg hc_9).trans ((if_neg hc_14).trans ((if_neg hc_19).trans ((if_neg hc_23).trans ((if_pos hc_28).trans ((if_pos hc_34).trans rfl)))))))).symm (rfl).symm
              · refine ⟨(((((((hP hc_2) hc_9) hc_14) hc_19) hc_23) hc_28).2 hc_34), ?_⟩
                exact H _ _ (((if_neg hc_2).trans ((if_neg hc_9).trans ((if_neg hc_14).trans ((if_neg hc_19).trans ((if_neg hc_23).trans ((if_pos hc_28).trans ((if_neg hc_34).trans rfl)))))))).symm (rfl).symm
            · exact H _ _ (((if_neg hc_2).trans ((if_neg hc_9).trans ((if_neg hc_14).trans ((if_neg hc_19).trans ((if_neg hc_23).trans ((if_neg hc_28).trans rfl))))))).symm (rfl).symm
set_option maxHeartbeats 4000000 in
set_option maxRecDepth 20000 in
theorem w_GR_photo {G : rx_Gh} {hp : rx_Hp} {F : Int32 → rx_Hp → Prop} (a1 : Int32) (a2 : Int32) (H : ((f_Ha_has a1 hp) = 0 → F (-1) hp) ∧ (¬ (f_Ha_has a1 hp) = 0 → (a2 < 0 → F (-1) hp) ∧ (¬ a2 < 0 → (99999 < a2 → F (-1) hp) ∧ (¬ 99999 < a2 → ((hp.1 47 3) < 12 → p_Ph_add a1 a2 hp ∧ (F ((g_Ph_add a1 a2 hp).1 47 3) (g_Ph_add a1 a2 hp))) ∧ (¬ (hp.1 47 3) < 12 → F (-1) hp))))) : Ev wC G 2 q_GR_photo [.ref 0, .int a1, .int a2] hp (rI F) := by
  refine ev_of rfl (Nat.le_of_ble_eq_true rfl) rfl ?_
  show Rn wC G 2 q_GR_photo 0 [some (.ref 0), some (.int a1), some (.int a2)] [] hp (rI F)
  refine r_aload_n (i := 0) d_GR_photo_0 rfl rfl ?_
  refine r_getR (b := 0) (r := 3) d_GR_photo_1 fl_GR_19 (by decide) rfl rfl rfl ?_
  refine r_iload_n (i := 1) d_GR_photo_4 rfl rfl ?_
  refine rk_VI (b := 3) (d' := 1) [.int a1] [] d_GR_photo_5 ml_GR_144 rfl rfl (by decide) (by decide) rfl rfl (Nat.le_of_ble_eq_true rfl) (s_Ha_has a1 ?_)
  refine r_if_eq (tgt := 34) d_GR_photo_8 (by decide) (fun hc_8 => ?_) (fun hc_8 => ?_)
  · replace H := H.1 hc_8
    refine r_iconst d_GR_photo_34 ic_m1 ?_
    exact rI_ret d_GR_photo_35 rfl H
  · replace H := H.2 hc_8
    refine r_iload_n (i := 2) d_GR_photo_11 rfl rfl ?_
    refine r_if_lt (tgt := 34) d_GR_photo_12 (by decide) (fun hc_12 => ?_) (fun hc_12 => ?_)
    · replace H := H.1 hc_12
      refine r_iconst d_GR_photo_34 ic_m1 ?_
      exact rI_ret d_GR_photo_35 rfl H
    · replace H := H.2 hc_12
      refine r_iload_n (i := 2) d_GR_photo_15 rfl rfl ?_
      refine r_ldcw d_GR_photo_16 ck_GR_323 ?_
      refine r_icmp_gt (tgt := 34) d_GR_photo_19 (by decide) (fun hc_19 => ?_) (fun hc_19 => ?_)
      · replace H := H.1 hc_19
        refine r_iconst d_GR_photo_34 ic_m1 ?_
        exact rI_ret d_GR_photo_35 rfl H
      · replace H := H.2 hc_19
        refine r_aload_n (i := 0) d_GR_photo_22 rfl rfl ?_
        refine r_getR (b := 0) (r := 47) d_GR_photo_23 fl_GR_96 (by decide) rfl rfl rfl ?_
        refine r_getI (b := 47) (v := hp.1 47 3) d_GR_photo_26 fl_GR_140 (by decide) rfl rfl rfl ?_
        refine r_bipush d_GR_photo_29 bp_12 ?_
        refine r_icmp_lt (tgt := 36) d_GR_photo_31 (by decide) (fun hc_31 => ?_) (fun hc_31 => ?_)
        · replace H := H.1 hc_31
          refine r_aload_n (i := 0) d_GR_photo_36 rfl rfl ?_
          refine r_getR (b := 0) (r := 47) d_GR_photo_37 fl_GR_96 (by decide) rfl rfl rfl ?_
          refine r_iload_n (i := 1) d_GR_photo_40 rfl rfl ?_
          refine r_iload_n (i := 2) d_GR_photo_41 rfl rfl ?_
          obtain ⟨hp_42_0, H⟩ := H
          refine rk_VV (b := 47) (d' := 1) [.int a1, .int a2] [] d_GR_photo_42 ml_GR_324 rfl rfl (by decide) (by decide) rfl rfl (Nat.le_of_ble_eq_true rfl) (s_Ph_add a1 a2 hp_42_0 ?_)
          refine r_aload_n (i := 0) d_GR_photo_45 rfl rfl ?_
          refine r_getR (b := 0) (r := 47) d_GR_photo_46 fl_GR_96 (by decide) rfl rfl rfl ?_
          refine r_getI (b := 47) (v := (g_Ph_add a1 a2 hp).1 47 3) d_GR_photo_49 fl_GR_140 (by decide) rfl rfl rfl ?_
          exact rI_ret d_GR_photo_52 rfl H
        · replace H := H.2 hc_31
          refine r_iconst d_GR_photo_34 ic_m1 ?_
          exact rI_ret d_GR_photo_35 rfl H
def f_GR_photo (a1 : Int32) (a2 : Int32) (hp : rx_Hp) : Int32 := (if (f_Ha_has a1 hp) = 0 then (-1) else (if a2 < 0 then (-1) else (if 99999 < a2 then (-1) else (if (hp.1 47 3) < 12 then ((g_Ph_add a1 a2 hp).1 47 3) else (-1)))))
def g_GR_photo (a1 : Int32) (a2 : Int32) (hp : rx_Hp) : rx_Hp := (if (f_Ha_has a1 hp) = 0 then hp else (if a2 < 0 then hp else (if 99999 < a2 then hp else (if (hp.1 47 3) < 12 then (g_Ph_add a1 a2 hp) else hp))))
def p_GR_photo (a1 : Int32) (a2 : Int32) (hp : rx_Hp) : Prop := (¬ (f_Ha_has a1 hp) = 0 → (¬ a2 < 0 → (¬ 99999 < a2 → ((hp.1 47 3) < 12 → p_Ph_add a1 a2 hp))))
theorem s_GR_photo {G : rx_Gh} {hp : rx_Hp} {F : Int32 → rx_Hp → Prop} (a1 : Int32) (a2 : Int32) (hP : (p_GR_photo a1 a2 hp)) (H0 : F (f_GR_photo a1 a2 hp) (g_GR_photo a1 a2 hp)) : Ev wC G 2 q_GR_photo [.ref 0, .int a1, .int a2] hp (rI F) := by
  have H : ∀ v h, v = (f_GR_photo a1 a2 hp) → h = (g_GR_photo a1 a2 hp) → F v h := by rintro _ _ rfl rfl; exact H0
  unfold p_GR_photo at hP
  refine w_GR_photo a1 a2  ?_
  refine ⟨fun hc_8 => ?_, fun hc_8 => ?_⟩
  · exact H _ _ (((if_pos hc_8).trans rfl)).symm (((if_pos hc_8).trans rfl)).symm
  · refine ⟨fun hc_12 => ?_, fun hc_12 => ?_⟩
    · exact H _ _ (((if_neg hc_8).trans ((if_pos hc_12).trans rfl))).symm (((if_neg hc_8).trans ((if_pos hc_12).trans rfl))).symm
    · refine ⟨fun hc_19 => ?_, fun hc_19 => ?_⟩
      · exact H _ _ (((if_neg hc_8).trans ((if_neg hc_12).trans ((if_pos hc_19).trans rfl)))).symm (((if_neg hc_8).trans ((if_neg hc_12).trans ((if_pos hc_19).trans rfl)))).symm
      · refine ⟨fun hc_31 => ?_, fun hc_31 => ?_⟩
        · refine ⟨((((hP hc_8) hc_12) hc_19) hc_31), ?_⟩
          exact H _ _ (((if_neg hc_8).trans ((if_neg hc_12).trans ((if_neg hc_19).trans ((if_pos hc_31).trans rfl))))).symm (((if_neg hc_8).trans ((if_neg hc_12).trans ((if_neg hc_19).trans ((if_pos hc_31).trans rfl))))).symm
        · exact H _ _ (((if_neg hc_8).trans ((if_neg hc_12).trans ((if_neg hc_19).trans ((if_neg hc_31).trans rfl))))).symm (((if_neg hc_8).trans ((if_neg hc_12).trans ((if_neg hc_19).trans ((if_neg hc_31).trans rfl))))).symm
set_option maxHeartbeats 4000000 in
set_option maxRecDepth 20000 in
theorem w_GR_count {G : rx_Gh} {hp : rx_Hp} {F : Int32 → rx_Hp → Prop} (a1 : Int32) (H : (a1 = 0 → F (hp.1 3 4) hp) ∧ (a1 = 1 → F (hp.1 3 5) hp) ∧ (a1 = 2 → F (hp.1 3 6) hp) ∧ (a1 = 3 → F (hp.1 3 7) hp) ∧ (a1 = 4 → F (hp.1 3 8) hp) ∧ (a1 = 5 → F (hp.1 0 14) hp) ∧ (a1 = 6 → F (hp.1 1 1) hp) ∧ (a1 = 7 → F (hp.1 0 15) hp) ∧ (a1 = 8 → F (hp.1 47 3) hp) ∧ (a1 = 9 → F (hp.1 37 2) hp) ∧ (¬ a1 = 0 → ¬ a1 = 1 → ¬ a1 = 2 → ¬ a1 = 3 → ¬ a1 = 4 → ¬ a1 = 5 → ¬ a1 = 6 → ¬ a1 = 7 → ¬ a1 = 8 → ¬ a1 = 9 → F (-100000000) hp)) : Ev wC G 1 q_GR_count [.ref 0, .int a1] hp (rI F) := by
  refine ev_of rfl (Nat.le_of_ble_eq_true rfl) rfl ?_
  show Rn wC G 1 q_GR_count 0 [some (.ref 0), some (.int a1)] [] hp (rI F)
  refine r_iload_n (i := 1) d_GR_count_0 rfl rfl ?_
  by_cases hs_1_0 : a1 = 0
  · replace H := H.1 hs_1_0
    refine r_tabIn (off := 55) (tgt := 56) d_GR_count_1 (by rw [hs_1_0]; decide) (by rw [hs_1_0]; decide) (by rw [hs_1_0]; decide) (by decide) ?_
    refine r_aload_n (i := 0) d_GR_count_56 rfl rfl ?_
    refine r_getR (b := 0) (r := 3) d_GR_count_57 fl_GR_19 (by decide) rfl rfl rfl ?_
    refine r_getI (b := 3) (v := hp.1 3 4) d_GR_count_60 fl_GR_141 (by decide) rfl rfl rfl ?_
    exact rI_ret d_GR_count_63 rfl H
  by_cases hs_1_1 : a1 = 1
  · replace H := H.2.1 hs_1_1
    refine r_tabIn (off := 63) (tgt := 64) d_GR_count_1 (by rw [hs_1_1]; decide) (by rw [hs_1_1]; decide) (by rw [hs_1_1]; decide) (by decide) ?_
    refine r_aload_n (i := 0) d_GR_count_64 rfl rfl ?_
    refine r_getR (b := 0) (r := 3) d_GR_count_65 fl_GR_19 (by decide) rfl rfl rfl ?_
    refine r_getI (b := 3) (v := hp.1 3 5) d_GR_count_68 fl_GR_197 (by decide) rfl rfl rfl ?_
    exact rI_ret d_GR_count_71 rfl H
  by_cases hs_1_2 : a1 = 2
  · replace H := H.2.2.1 hs_1_2
    refine r_tabIn (off := 71) (tgt := 72) d_GR_count_1 (by rw [hs_1_2]; decide) (by rw [hs_1_2]; decide) (by rw [hs_1_2]; decide) (by decide) ?_
    refine r_aload_n (i := 0) d_GR_count_72 rfl rfl ?_
    refine r_getR (b := 0) (r := 3) d_GR_count_73 fl_GR_19 (by decide) rfl rfl rfl ?_
    refine r_getI (b := 3) (v := hp.1 3 6) d_GR_count_76 fl_GR_204 (by decide) rfl rfl rfl ?_
    exact rI_ret d_GR_count_79 rfl H
  by_cases hs_1_3 : a1 = 3
  · replace H := H.2.2.2.1 hs_1_3
    refine r_tabIn (off := 79) (tgt := 80) d_GR_count_1 (by rw [hs_1_3]; decide) (by rw [hs_1_3]; decide) (by rw [hs_1_3]; decide) (by decide) ?_
    refine r_aload_n (i := 0) d_GR_count_80 rfl rfl ?_
    refine r_getR (b := 0) (r := 3) d_GR_count_81 fl_GR_19 (by decide) rfl rfl rfl ?_
    refine r_getI (b := 3) (v := hp.1 3 7) d_GR_count_84 fl_GR_175 (by decide) rfl rfl rfl ?_
    exact rI_ret d_GR_count_87 rfl H
  by_cases hs_1_4 : a1 = 4
  · replace H := H.2.2.2.2.1 hs_1_4
    refine r_tabIn (off := 87) (tgt := 88) d_GR_count_1 (by rw [hs_1_4]; decide) (by rw [hs_1_4]; decide) (by rw [hs_1_4]; decide) (by decide) ?_
    refine r_aload_n (i := 0) d_GR_count_88 rfl rfl ?_
    refine r_getR (b := 0) (r := 3) d_GR_count_89 fl_GR_19 (by decide) rfl rfl rfl ?_
    refine r_getI (b := 3) (v := hp.1 3 8) d_GR_count_92 fl_GR_336 (by decide) rfl rfl rfl ?_
    exact rI_ret d_GR_count_95 rfl H
  by_cases hs_1_5 : a1 = 5
  · replace H := H.2.2.2.2.2.1 hs_1_5
    refine r_tabIn (off := 95) (tgt := 96) d_GR_count_1 (by rw [hs_1_5]; decide) (by rw [hs_1_5]; decide) (by rw [hs_1_5]; decide) (by decide) ?_
    refine r_aload_n (i := 0) d_GR_count_96 rfl rfl ?_
    refine r_getI (b := 0) (v := hp.1 0 14) d_GR_count_97 fl_GR_100 (by decide) rfl rfl rfl ?_
    exact rI_ret d_GR_count_100 rfl H
  by_cases hs_1_6 : a1 = 6
  · replace H := H.2.2.2.2.2.2.1 hs_1_6
    refine r_tabIn (off := 100) (tgt := 101) d_GR_count_1 (by rw [hs_1_6]; decide) (by rw [hs_1_6]; decide) (by rw [hs_1_6]; decide) (by decide) ?_
    refine r_aload_n (i := 0) d_GR_count_101 rfl rfl ?_
    refine r_getR (b := 0) (r := 1) d_GR_count_102 fl_GR_12 (by decide) rfl rfl rfl ?_
    refine r_getI (b := 1) (v := hp.1 1 1) d_GR_count_105 fl_GR_115 (by decide) rfl rfl rfl ?_
    exact rI_ret d_GR_count_108 rfl H
  by_cases hs_1_7 : a1 = 7
  · replace H := H.2.2.2.2.2.2.2.1 hs_1_7
    refine r_tabIn (off := 108) (tgt := 109) d_GR_count_1 (by rw [hs_1_7]; decide) (by rw [hs_1_7]; decide) (by rw [hs_1_7]; decide) (by decide) ?_
    refine r_aload_n (i := 0) d_GR_count_109 rfl rfl ?_
    refine r_getI (b := 0) (v := hp.1 0 15) d_GR_count_110 fl_GR_104 (by decide) rfl rfl rfl ?_
    exact rI_ret d_GR_count_113 rfl H
  by_cases hs_1_8 : a1 = 8
  · replace H := H.2.2.2.2.2.2.2.2.1 hs_1_8
    refine r_tabIn (off := 113) (tgt := 114) d_GR_count_1 (by rw [hs_1_8]; decide) (by rw [hs_1_8]; decide) (by rw [hs_1_8]; decide) (by decide) ?_
    refine r_aload_n (i := 0) d_GR_count_114 rfl rfl ?_
    refine r_getR (b := 0) (r := 47) d_GR_count_115 fl_GR_96 (by decide) rfl rfl rfl ?_
    refine r_getI (b := 47) (v := hp.1 47 3) d_GR_count_118 fl_GR_140 (by decide) rfl rfl rfl ?_
    exact rI_ret d_GR_count_121 rfl H
  by_cases hs_1_9 : a1 = 9
  · replace H := H.2.2.2.2.2.2.2.2.2.1 hs_1_9
    refine r_tabIn (off := 121) (tgt := 122) d_GR_count_1 (by rw [hs_1_9]; decide) (by rw [hs_1_9]; decide) (by rw [hs_1_9]; decide) (by decide) ?_
    refine r_aload_n (i := 0) d_GR_count_122 rfl rfl ?_
    refine r_getR (b := 0) (r := 37) d_GR_count_123 fl_GR_56 (by decide) rfl rfl rfl ?_
    refine r_getI (b := 37) (v := hp.1 37 2) d_GR_count_126 fl_GR_139 (by decide) rfl rfl rfl ?_
    exact rI_ret d_GR_count_129 rfl H
  replace H := H.2.2.2.2.2.2.2.2.2.2 hs_1_0 hs_1_1 hs_1_2 hs_1_3 hs_1_4 hs_1_5 hs_1_6 hs_1_7 hs_1_8 hs_1_9
  refine r_tabOut (tgt := 130) d_GR_count_1 (rx_tab (lo := 0) (hi := 9) (by decide) (by decide) (fun i h1 h2 => ?_)) (by decide) ?_
  · have hz : i = 0 ∨ i = 1 ∨ i = 2 ∨ i = 3 ∨ i = 4 ∨ i = 5 ∨ i = 6 ∨ i = 7 ∨ i = 8 ∨ i = 9 := by omega
    rcases hz with rfl | rfl | rfl | rfl | rfl | rfl | rfl | rfl | rfl | rfl
    · exact hs_1_0
    · exact hs_1_1
    · exact hs_1_2
    · exact hs_1_3
    · exact hs_1_4
    · exact hs_1_5
    · exact hs_1_6
    · exact hs_1_7
    · exact hs_1_8
    · exact hs_1_9
  refine r_ldc d_GR_count_130 ck_GR_196 ?_
  exact rI_ret d_GR_count_132 rfl H
def f_GR_count (a1 : Int32) (hp : rx_Hp) : Int32 := (if a1 = 0 then (hp.1 3 4) else (if a1 = 1 then (hp.1 3 5) else (if a1 = 2 then (hp.1 3 6) else (if a1 = 3 then (hp.1 3 7) else (if a1 = 4 then (hp.1 3 8) else (if a1 = 5 then (hp.1 0 14) else (if a1 = 6 then (hp.1 1 1) else (if a1 = 7 then (hp.1 0 15) else (if a1 = 8 then (hp.1 47 3) else (if a1 = 9 then (hp.1 37 2) else (-100000000)))))))))))
theorem s_GR_count {G : rx_Gh} {hp : rx_Hp} {F : Int32 → rx_Hp → Prop} (a1 : Int32) (H0 : F (f_GR_count a1 hp) hp) : Ev wC G 1 q_GR_count [.ref 0, .int a1] hp (rI F) := by
  have H : ∀ v h, v = (f_GR_count a1 hp) → h = hp → F v h := by rintro _ _ rfl rfl; exact H0
  refine w_GR_count a1  ?_
  refine ⟨fun s0 => ?_, fun s1 => ?_, fun s2 => ?_, fun s3 => ?_, fun s4 => ?_, fun s5 => ?_, fun s6 => ?_, fun s7 => ?_, fun s8 => ?_, fun s9 => ?_, fun s0 s1 s2 s3 s4 s5 s6 s7 s8 s9 => ?_⟩
  · exact H _ _ (((if_pos s0).trans rfl)).symm (rfl).symm
  · exact H _ _ (((if_neg (rx_ne s1 (by decide))).trans ((if_pos s1).trans rfl))).symm (rfl).symm
  · exact H _ _ (((if_neg (rx_ne s2 (by decide))).trans ((if_neg (rx_ne s2 (by decide))).trans ((if_pos s2).trans rfl)))).symm (rfl).symm
  · exact H _ _ (((if_neg (rx_ne s3 (by decide))).trans ((if_neg (rx_ne s3 (by decide))).trans ((if_neg (rx_ne s3 (by decide))).trans ((if_pos s3).trans rfl))))).symm (rfl).symm
  · exact H _ _ (((if_neg (rx_ne s4 (by decide))).trans ((if_neg (rx_ne s4 (by decide))).trans ((if_neg (rx_ne s4 (by decide))).trans ((if_neg (rx_ne s4 (by decide))).trans ((if_pos s4).trans rfl)))))).symm (rfl).symm
  · exact H _ _ (((if_neg (rx_ne s5 (by decide))).trans ((if_neg (rx_ne s5 (by decide))).trans ((if_neg (rx_ne s5 (by decide))).trans ((if_neg (rx_ne s5 (by decide))).trans ((if_neg (rx_ne s5 (by decide))).trans ((if_pos s5).trans rfl))))))).symm (rfl).symm
  · exact H _ _ (((if_neg (rx_ne s6 (by decide))).trans ((if_neg (rx_ne s6 (by decide))).trans ((if_neg (rx_ne s6 (by decide))).trans ((if_neg (rx_ne s6 (by decide))).trans ((if_neg (rx_ne s6 (by decide))).trans ((if_neg (rx_ne s6 (by decide))).trans ((if_pos s6).trans rfl)))))))).symm (rfl).symm
  · exact H _ _ (((if_neg (rx_ne s7 (by decide))).trans ((if_neg (rx_ne s7 (by decide))).trans ((if_neg (rx_ne s7 (by decide))).trans ((if_neg (rx_ne s7 (by decide))).trans ((if_neg (rx_ne s7 (by decide))).trans ((if_neg (rx_ne s7 (by decide))).trans ((if_neg (rx_ne s7 (by decide))).trans ((if_pos s7).trans rfl))))))))).symm (rfl).symm
  · exact H _ _ (((if_neg (rx_ne s8 (by decide))).trans ((if_neg (rx_ne s8 (by decide))).trans ((if_neg (rx_ne s8 (by decide))).trans ((if_neg (rx_ne s8 (by decide))).trans ((if_neg (rx_ne s8 (by decide))).trans ((if_neg (rx_ne s8 (by decide))).trans ((if_neg (rx_ne s8 (by decide))).trans ((if_neg (rx_ne s8 (by decide))).trans ((if_pos s8).trans rfl)))))))))).symm (rfl).symm
  · exact H _ _ (((if_neg (rx_ne s9 (by decide))).trans ((if_neg (rx_ne s9 (by decide))).trans ((if_neg (rx_ne s9 (by decide))).trans ((if_neg (rx_ne s9 (by decide))).trans ((if_neg (rx_ne s9 (by decide))).trans ((if_neg (rx_ne s9 (by decide))).trans ((if_neg (rx_ne s9 (by decide))).trans ((if_neg (rx_ne s9 (by decide))).trans ((if_neg (rx_ne s9 (by decide))).trans ((if_pos s9).trans rfl))))))))))).symm (rfl).symm
  · exact H _ _ (((if_neg s0).trans ((if_neg s1).trans ((if_neg s2).trans ((if_neg s3).trans ((if_neg s4).trans ((if_neg s5).trans ((if_neg s6).trans ((if_neg s7).trans ((if_neg s8).trans ((if_neg s9).trans rfl))))))))))).symm (rfl).symm

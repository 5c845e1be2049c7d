theorem d_Ta_take_0 : decode q_Ta_take.2.1 0 = .ok (.aload_n 0, 1) := by decide +kernel
theorem d_Ta_take_1 : decode q_Ta_take.2.1 1 = .ok (.invokevirtual 22, 3) := by decide +kernel
theorem ml_Ta_22 : rx_CV "GlassRoom$Tape" 22 q_Ta_look 0 := ⟨⟨(rx_s3 65 rfl rfl), (rx_s2 179 rfl rfl), (rx_s2 180 rfl rfl)⟩, ⟨(rx_s1 2 rfl rfl), q_Ta_look_k, ⟨by decide, by decide, by decide +kernel⟩, by decide⟩⟩
theorem d_Ta_take_4 : decode q_Ta_take.2.1 4 = .ok (.iload_n 1, 1) := by decide +kernel
theorem d_Ta_take_5 : decode q_Ta_take.2.1 5 = .ok (.if_icmp .eq 5, 3) := by decide +kernel
theorem d_Ta_take_10 : decode q_Ta_take.2.1 10 = .ok (.aload_n 0, 1) := by decide +kernel
theorem d_Ta_take_11 : decode q_Ta_take.2.1 11 = .ok (.dup, 1) := by decide +kernel
theorem d_Ta_take_12 : decode q_Ta_take.2.1 12 = .ok (.getfield 19, 3) := by decide +kernel
theorem d_Ta_take_15 : decode q_Ta_take.2.1 15 = .ok (.iconst 1, 1) := by decide +kernel
theorem d_Ta_take_16 : decode q_Ta_take.2.1 16 = .ok (.iadd, 1) := by decide +kernel
theorem d_Ta_take_17 : decode q_Ta_take.2.1 17 = .ok (.putfield 19, 3) := by decide +kernel
theorem d_Ta_take_20 : decode q_Ta_take.2.1 20 = .ok (.iconst 1, 1) := by decide +kernel
theorem d_Ta_take_21 : decode q_Ta_take.2.1 21 = .ok (.ireturn, 1) := by decide +kernel
theorem d_Ta_take_8 : decode q_Ta_take.2.1 8 = .ok (.iconst 0, 1) := by decide +kernel
theorem d_Ta_take_9 : decode q_Ta_take.2.1 9 = .ok (.ireturn, 1) := by decide +kernel
theorem d_HR_isWhole_0 : decode q_HR_isWhole.2.1 0 = .ok (.iconst 0, 1) := by decide +kernel
theorem d_HR_isWhole_1 : decode q_HR_isWhole.2.1 1 = .ok (.istore_n 1, 1) := by decide +kernel
theorem d_HR_isWhole_2 : decode q_HR_isWhole.2.1 2 = .ok (.iload_n 1, 1) := by decide +kernel
theorem d_HR_isWhole_3 : decode q_HR_isWhole.2.1 3 = .ok (.aload_n 0, 1) := by decide +kernel
theorem d_HR_isWhole_4 : decode q_HR_isWhole.2.1 4 = .ok (.getfield 21, 3) := by decide +kernel
theorem fl_HR_21 : rx_F "GlassRoom$HallReader" 21 4 2 := ⟨(RX4, TX4, 4), rfl, by decide, (rx_s1 140 rfl rfl), rx_T4⟩
theorem d_HR_isWhole_7 : decode q_HR_isWhole.2.1 7 = .ok (.getfield 35, 3) := by decide +kernel
theorem fl_HR_35 : rx_F "GlassRoom$HallReader" 35 3 4 := ⟨(RX3, TX3, 9), rfl, by decide, (rx_s1 82 rfl rfl), rx_T3⟩
theorem d_HR_isWhole_10 : decode q_HR_isWhole.2.1 10 = .ok (.if_icmp .ge 39, 3) := by decide +kernel
theorem d_HR_isWhole_49 : decode q_HR_isWhole.2.1 49 = .ok (.aload_n 0, 1) := by decide +kernel
theorem d_HR_isWhole_50 : decode q_HR_isWhole.2.1 50 = .ok (.getfield 21, 3) := by decide +kernel
theorem d_HR_isWhole_53 : decode q_HR_isWhole.2.1 53 = .ok (.invokevirtual 111, 3) := by decide +kernel
theorem ml_HR_111 : rx_CV "GlassRoom$HallReader" 111 q_Ha_stands 0 := ⟨⟨(rx_s3 57 rfl rfl), (rx_s3 58 rfl rfl), (rx_s3 59 rfl rfl)⟩, ⟨(rx_s1 3 rfl rfl), q_Ha_stands_k, ⟨by decide, by decide, by decide +kernel⟩, by decide⟩⟩
theorem d_HR_isWhole_56 : decode q_HR_isWhole.2.1 56 = .ok (.ireturn, 1) := by decide +kernel
theorem d_HR_isWhole_13 : decode q_HR_isWhole.2.1 13 = .ok (.aload_n 0, 1) := by decide +kernel
theorem d_HR_isWhole_14 : decode q_HR_isWhole.2.1 14 = .ok (.getfield 21, 3) := by decide +kernel
theorem d_HR_isWhole_17 : decode q_HR_isWhole.2.1 17 = .ok (.aload_n 0, 1) := by decide +kernel
theorem d_HR_isWhole_18 : decode q_HR_isWhole.2.1 18 = .ok (.getfield 21, 3) := by decide +kernel
theorem d_HR_isWhole_21 : decode q_HR_isWhole.2.1 21 = .ok (.getfield 82, 3) := by decide +kernel
theorem fl_HR_82 : rx_F "GlassRoom$HallReader" 82 3 0 := ⟨(RX3, TX3, 9), rfl, by decide, (rx_s1 65 rfl rfl), rx_T3⟩
theorem d_HR_isWhole_24 : decode q_HR_isWhole.2.1 24 = .ok (.iload_n 1, 1) := by decide +kernel
theorem d_HR_isWhole_25 : decode q_HR_isWhole.2.1 25 = .ok (.iaload, 1) := by decide +kernel
theorem d_HR_isWhole_26 : decode q_HR_isWhole.2.1 26 = .ok (.aload_n 0, 1) := by decide +kernel
theorem d_HR_isWhole_27 : decode q_HR_isWhole.2.1 27 = .ok (.getfield 21, 3) := by decide +kernel
theorem d_HR_isWhole_30 : decode q_HR_isWhole.2.1 30 = .ok (.getfield 85, 3) := by decide +kernel
theorem fl_HR_85 : rx_F "GlassRoom$HallReader" 85 3 1 := ⟨(RX3, TX3, 9), rfl, by decide, (rx_s1 72 rfl rfl), rx_T3⟩
theorem d_HR_isWhole_33 : decode q_HR_isWhole.2.1 33 = .ok (.iload_n 1, 1) := by decide +kernel
theorem d_HR_isWhole_34 : decode q_HR_isWhole.2.1 34 = .ok (.iaload, 1) := by decide +kernel
theorem d_HR_isWhole_35 : decode q_HR_isWhole.2.1 35 = .ok (.invokevirtual 108, 3) := by decide +kernel
theorem ml_HR_108 : rx_CV "GlassRoom$HallReader" 108 q_Ha_isInside 2 := ⟨⟨(rx_s3 53 rfl rfl), (rx_s3 54 rfl rfl), (rx_s3 55 rfl rfl)⟩, ⟨(rx_s1 3 rfl rfl), q_Ha_isInside_k, ⟨by decide, by decide, by decide +kernel⟩, by decide⟩⟩
theorem d_HR_isWhole_38 : decode q_HR_isWhole.2.1 38 = .ok (.ifCond .ne 5, 3) := by decide +kernel
theorem d_HR_isWhole_41 : decode q_HR_isWhole.2.1 41 = .ok (.iconst 0, 1) := by decide +kernel
theorem d_HR_isWhole_42 : decode q_HR_isWhole.2.1 42 = .ok (.ireturn, 1) := by decide +kernel
theorem d_HR_isWhole_43 : decode q_HR_isWhole.2.1 43 = .ok (.iinc 1 1, 3) := by decide +kernel
theorem d_HR_isWhole_46 : decode q_HR_isWhole.2.1 46 = .ok (.goto (-44), 3) := by decide +kernel
theorem d_HR_readItems_0 : decode q_HR_readItems.2.1 0 = .ok (.iconst 0, 1) := by decide +kernel
theorem d_HR_readItems_1 : decode q_HR_readItems.2.1 1 = .ok (.istore_n 3, 1) := by decide +kernel
theorem d_HR_readItems_2 : decode q_HR_readItems.2.1 2 = .ok (.iload_n 1, 1) := by decide +kernel
theorem d_HR_readItems_3 : decode q_HR_readItems.2.1 3 = .ok (.istore 4, 2) := by decide +kernel
theorem d_HR_readItems_5 : decode q_HR_readItems.2.1 5 = .ok (.iload 4, 2) := by decide +kernel
theorem d_HR_readItems_7 : decode q_HR_readItems.2.1 7 = .ok (.iload_n 2, 1) := by decide +kernel
theorem d_HR_readItems_8 : decode q_HR_readItems.2.1 8 = .ok (.if_icmp .ge 22, 3) := by decide +kernel
theorem d_HR_readItems_11 : decode q_HR_readItems.2.1 11 = .ok (.aload_n 0, 1) := by decide +kernel
theorem d_HR_readItems_12 : decode q_HR_readItems.2.1 12 = .ok (.getfield 15, 3) := by decide +kernel
theorem fl_HR_15 : rx_F "GlassRoom$HallReader" 15 4 1 := ⟨(RX4, TX4, 4), rfl, by decide, (rx_s1 139 rfl rfl), rx_T4⟩
theorem d_HR_readItems_15 : decode q_HR_readItems.2.1 15 = .ok (.iload 4, 2) := by decide +kernel
theorem d_HR_readItems_17 : decode q_HR_readItems.2.1 17 = .ok (.getstatic 9, 3) := by decide +kernel
theorem gs_HR_9 : Cond.fieldLink "GlassRoom$HallReader" 9 "GlassRoom$HallReader" "USUAL" "[I" ∈ rx_gw := (rx_s1 134 rfl rfl)
theorem d_HR_readItems_20 : decode q_HR_readItems.2.1 20 = .ok (.iload 4, 2) := by decide +kernel
theorem d_HR_readItems_30 : decode q_HR_readItems.2.1 30 = .ok (.iconst 0, 1) := by decide +kernel
theorem d_HR_readItems_31 : decode q_HR_readItems.2.1 31 = .ok (.istore 4, 2) := by decide +kernel
theorem d_HR_readItems_22 : decode q_HR_readItems.2.1 22 = .ok (.iaload, 1) := by decide +kernel
theorem d_HR_readItems_23 : decode q_HR_readItems.2.1 23 = .ok (.iastore, 1) := by decide +kernel
theorem d_HR_readItems_24 : decode q_HR_readItems.2.1 24 = .ok (.iinc 4 1, 3) := by decide +kernel
theorem d_HR_readItems_27 : decode q_HR_readItems.2.1 27 = .ok (.goto (-22), 3) := by decide +kernel
theorem d_HR_readItems_33 : decode q_HR_readItems.2.1 33 = .ok (.iload 4, 2) := by decide +kernel
theorem d_HR_readItems_35 : decode q_HR_readItems.2.1 35 = .ok (.iload_n 2, 1) := by decide +kernel
theorem d_HR_readItems_36 : decode q_HR_readItems.2.1 36 = .ok (.iload_n 1, 1) := by decide +kernel
theorem d_HR_readItems_37 : decode q_HR_readItems.2.1 37 = .ok (.isub, 1) := by decide +kernel
theorem d_HR_readItems_38 : decode q_HR_readItems.2.1 38 = .ok (.if_icmp .gt 140, 3) := by decide +kernel
theorem d_HR_readItems_178 : decode q_HR_readItems.2.1 178 = .ok (.iconst 1, 1) := by decide +kernel
theorem d_HR_readItems_179 : decode q_HR_readItems.2.1 179 = .ok (.ireturn, 1) := by decide +kernel
theorem d_HR_readItems_41 : decode q_HR_readItems.2.1 41 = .ok (.ldc 91, 2) := by decide +kernel
theorem d_HR_readItems_43 : decode q_HR_readItems.2.1 43 = .ok (.aload_n 0, 1) := by decide +kernel
theorem d_HR_readItems_44 : decode q_HR_readItems.2.1 44 = .ok (.getfield 25, 3) := by decide +kernel
theorem fl_HR_25 : rx_F "GlassRoom$HallReader" 25 4 0 := ⟨(RX4, TX4, 4), rfl, by decide, (rx_s1 138 rfl rfl), rx_T4⟩
theorem d_HR_readItems_47 : decode q_HR_readItems.2.1 47 = .ok (.invokevirtual 58, 3) := by decide +kernel
theorem ml_HR_58 : rx_CV "GlassRoom$HallReader" 58 q_Ta_look 0 := ⟨⟨(rx_s2 178 rfl rfl), (rx_s2 179 rfl rfl), (rx_s2 180 rfl rfl)⟩, ⟨(rx_s1 2 rfl rfl), q_Ta_look_k, ⟨by decide, by decide, by decide +kernel⟩, by decide⟩⟩
theorem d_HR_readItems_50 : decode q_HR_readItems.2.1 50 = .ok (.i2c, 1) := by decide +kernel
theorem d_HR_readItems_51 : decode q_HR_readItems.2.1 51 = .ok (.invokevirtual 93, 3) := by decide +kernel
theorem ml_HR_93 : rx_CV "GlassRoom$HallReader" 93 q_St_indexOf 1 := ⟨⟨(rx_s2 191 rfl rfl), (rx_s2 192 rfl rfl), (rx_s2 193 rfl rfl)⟩, ⟨(rx_s1 14 rfl rfl), q_St_indexOf_k, ⟨by decide, by decide, by decide +kernel⟩, by decide⟩⟩
theorem d_HR_readItems_54 : decode q_HR_readItems.2.1 54 = .ok (.istore 5, 2) := by decide +kernel
theorem d_HR_readItems_56 : decode q_HR_readItems.2.1 56 = .ok (.iload 5, 2) := by decide +kernel
theorem d_HR_readItems_58 : decode q_HR_readItems.2.1 58 = .ok (.iload_n 1, 1) := by decide +kernel
theorem d_HR_readItems_59 : decode q_HR_readItems.2.1 59 = .ok (.if_icmp .lt 19, 3) := by decide +kernel
theorem d_HR_readItems_78 : decode q_HR_readItems.2.1 78 = .ok (.iconst 1, 1) := by decide +kernel
theorem d_HR_readItems_79 : decode q_HR_readItems.2.1 79 = .ok (.ireturn, 1) := by decide +kernel
theorem d_HR_readItems_62 : decode q_HR_readItems.2.1 62 = .ok (.iload 5, 2) := by decide +kernel
theorem d_HR_readItems_64 : decode q_HR_readItems.2.1 64 = .ok (.iload_n 2, 1) := by decide +kernel
theorem d_HR_readItems_65 : decode q_HR_readItems.2.1 65 = .ok (.if_icmp .ge 13, 3) := by decide +kernel
theorem d_HR_readItems_68 : decode q_HR_readItems.2.1 68 = .ok (.iload_n 3, 1) := by decide +kernel
theorem d_HR_readItems_69 : decode q_HR_readItems.2.1 69 = .ok (.iload 5, 2) := by decide +kernel
theorem d_HR_readItems_71 : decode q_HR_readItems.2.1 71 = .ok (.ishr, 1) := by decide +kernel
theorem d_HR_readItems_72 : decode q_HR_readItems.2.1 72 = .ok (.iconst 1, 1) := by decide +kernel
theorem d_HR_readItems_73 : decode q_HR_readItems.2.1 73 = .ok (.iand, 1) := by decide +kernel
theorem d_HR_readItems_74 : decode q_HR_readItems.2.1 74 = .ok (.iconst 1, 1) := by decide +kernel
theorem d_HR_readItems_75 : decode q_HR_readItems.2.1 75 = .ok (.if_icmp .ne 5, 3) := by decide +kernel
theorem d_HR_readItems_80 : decode q_HR_readItems.2.1 80 = .ok (.iload_n 3, 1) := by decide +kernel
theorem d_HR_readItems_81 : decode q_HR_readItems.2.1 81 = .ok (.iconst 1, 1) := by decide +kernel
theorem d_HR_readItems_82 : decode q_HR_readItems.2.1 82 = .ok (.iload 5, 2) := by decide +kernel
theorem d_HR_readItems_84 : decode q_HR_readItems.2.1 84 = .ok (.ishl, 1) := by decide +kernel
theorem d_HR_readItems_85 : decode q_HR_readItems.2.1 85 = .ok (.ior, 1) := by decide +kernel
theorem d_HR_readItems_86 : decode q_HR_readItems.2.1 86 = .ok (.istore_n 3, 1) := by decide +kernel
theorem d_HR_readItems_87 : decode q_HR_readItems.2.1 87 = .ok (.aload_n 0, 1) := by decide +kernel
theorem d_HR_readItems_88 : decode q_HR_readItems.2.1 88 = .ok (.getfield 25, 3) := by decide +kernel
theorem d_HR_readItems_91 : decode q_HR_readItems.2.1 91 = .ok (.dup, 1) := by decide +kernel
theorem d_HR_readItems_92 : decode q_HR_readItems.2.1 92 = .ok (.getfield 29, 3) := by decide +kernel
theorem fl_HR_29 : rx_F "GlassRoom$HallReader" 29 10 2 := ⟨(RX10, TX10, 3), rfl, by decide, (rx_s1 43 rfl rfl), rx_T10⟩
theorem d_HR_readItems_95 : decode q_HR_readItems.2.1 95 = .ok (.iconst 1, 1) := by decide +kernel
theorem d_HR_readItems_96 : decode q_HR_readItems.2.1 96 = .ok (.iadd, 1) := by decide +kernel
theorem d_HR_readItems_97 : decode q_HR_readItems.2.1 97 = .ok (.putfield 29, 3) := by decide +kernel
theorem fp_HR_29 : rx_FP "GlassRoom$HallReader" 29 10 2 (.int) := ⟨(RX10, TX10, 3), tyX10, rfl, by decide, (rx_s1 43 rfl rfl), rx_T10, tyX10_ok, nmX10, rfl, rfl⟩
theorem d_HR_readItems_100 : decode q_HR_readItems.2.1 100 = .ok (.aload_n 0, 1) := by decide +kernel
theorem d_HR_readItems_101 : decode q_HR_readItems.2.1 101 = .ok (.getfield 25, 3) := by decide +kernel
theorem d_HR_readItems_104 : decode q_HR_readItems.2.1 104 = .ok (.invokevirtual 58, 3) := by decide +kernel
theorem d_HR_readItems_107 : decode q_HR_readItems.2.1 107 = .ok (.pop, 1) := by decide +kernel
theorem d_HR_readItems_108 : decode q_HR_readItems.2.1 108 = .ok (.aload_n 0, 1) := by decide +kernel
theorem d_HR_readItems_109 : decode q_HR_readItems.2.1 109 = .ok (.getfield 25, 3) := by decide +kernel
theorem d_HR_readItems_112 : decode q_HR_readItems.2.1 112 = .ok (.iconst 2, 1) := by decide +kernel
theorem d_HR_readItems_113 : decode q_HR_readItems.2.1 113 = .ok (.invokevirtual 99, 3) := by decide +kernel
theorem ml_HR_99 : rx_CV "GlassRoom$HallReader" 99 q_Ta_number 1 := ⟨⟨(rx_s3 37 rfl rfl), (rx_s3 38 rfl rfl), (rx_s3 39 rfl rfl)⟩, ⟨(rx_s1 2 rfl rfl), q_Ta_number_k, ⟨by decide, by decide, by decide +kernel⟩, by decide⟩⟩
theorem d_HR_readItems_116 : decode q_HR_readItems.2.1 116 = .ok (.istore 6, 2) := by decide +kernel
theorem d_HR_readItems_118 : decode q_HR_readItems.2.1 118 = .ok (.iload 6, 2) := by decide +kernel
theorem d_HR_readItems_120 : decode q_HR_readItems.2.1 120 = .ok (.iconst (-1), 1) := by decide +kernel
theorem d_HR_readItems_121 : decode q_HR_readItems.2.1 121 = .ok (.if_icmp .ne 5, 3) := by decide +kernel
theorem d_HR_readItems_124 : decode q_HR_readItems.2.1 124 = .ok (.iconst 0, 1) := by decide +kernel
theorem d_HR_readItems_125 : decode q_HR_readItems.2.1 125 = .ok (.ireturn, 1) := by decide +kernel
theorem d_HR_readItems_126 : decode q_HR_readItems.2.1 126 = .ok (.iload 6, 2) := by decide +kernel
theorem d_HR_readItems_128 : decode q_HR_readItems.2.1 128 = .ok (.getstatic 102, 3) := by decide +kernel
theorem gs_HR_102 : Cond.fieldLink "GlassRoom$HallReader" 102 "GlassRoom$HallReader" "LEAST" "[I" ∈ rx_gw := (rx_s3 41 rfl rfl)
theorem d_HR_readItems_131 : decode q_HR_readItems.2.1 131 = .ok (.iload 5, 2) := by decide +kernel
theorem d_HR_readItems_133 : decode q_HR_readItems.2.1 133 = .ok (.iaload, 1) := by decide +kernel
theorem d_HR_readItems_134 : decode q_HR_readItems.2.1 134 = .ok (.if_icmp .lt 14, 3) := by decide +kernel
theorem d_HR_readItems_148 : decode q_HR_readItems.2.1 148 = .ok (.aload_n 0, 1) := by decide +kernel
theorem d_HR_readItems_149 : decode q_HR_readItems.2.1 149 = .ok (.getfield 25, 3) := by decide +kernel
theorem d_HR_readItems_152 : decode q_HR_readItems.2.1 152 = .ok (.dup, 1) := by decide +kernel
theorem d_HR_readItems_153 : decode q_HR_readItems.2.1 153 = .ok (.getfield 29, 3) := by decide +kernel
theorem d_HR_readItems_156 : decode q_HR_readItems.2.1 156 = .ok (.iconst 1, 1) := by decide +kernel
theorem d_HR_readItems_157 : decode q_HR_readItems.2.1 157 = .ok (.isub, 1) := by decide +kernel
theorem d_HR_readItems_158 : decode q_HR_readItems.2.1 158 = .ok (.putfield 29, 3) := by decide +kernel
theorem d_HR_readItems_161 : decode q_HR_readItems.2.1 161 = .ok (.iconst 0, 1) := by decide +kernel
theorem d_HR_readItems_162 : decode q_HR_readItems.2.1 162 = .ok (.ireturn, 1) := by decide +kernel
theorem d_HR_readItems_137 : decode q_HR_readItems.2.1 137 = .ok (.iload 6, 2) := by decide +kernel
theorem d_HR_readItems_139 : decode q_HR_readItems.2.1 139 = .ok (.getstatic 105, 3) := by decide +kernel
theorem gs_HR_105 : Cond.fieldLink "GlassRoom$HallReader" 105 "GlassRoom$HallReader" "MOST" "[I" ∈ rx_gw := (rx_s3 43 rfl rfl)
theorem d_HR_readItems_142 : decode q_HR_readItems.2.1 142 = .ok (.iload 5, 2) := by decide +kernel
theorem d_HR_readItems_144 : decode q_HR_readItems.2.1 144 = .ok (.iaload, 1) := by decide +kernel
theorem d_HR_readItems_145 : decode q_HR_readItems.2.1 145 = .ok (.if_icmp .le 18, 3) := by decide +kernel
theorem d_HR_readItems_163 : decode q_HR_readItems.2.1 163 = .ok (.aload_n 0, 1) := by decide +kernel
theorem d_HR_readItems_164 : decode q_HR_readItems.2.1 164 = .ok (.getfield 15, 3) := by decide +kernel
theorem d_HR_readItems_167 : decode q_HR_readItems.2.1 167 = .ok (.iload 5, 2) := by decide +kernel
theorem d_HR_readItems_169 : decode q_HR_readItems.2.1 169 = .ok (.iload 6, 2) := by decide +kernel
theorem d_HR_readItems_171 : decode q_HR_readItems.2.1 171 = .ok (.iastore, 1) := by decide +kernel
theorem d_HR_readItems_172 : decode q_HR_readItems.2.1 172 = .ok (.iinc 4 1, 3) := by decide +kernel
theorem d_HR_readItems_175 : decode q_HR_readItems.2.1 175 = .ok (.goto (-142), 3) := by decide +kernel
theorem d_HR_readRoom_0 : decode q_HR_readRoom.2.1 0 = .ok (.aload_n 0, 1) := by decide +kernel
theorem d_HR_readRoom_1 : decode q_HR_readRoom.2.1 1 = .ok (.iconst 0, 1) := by decide +kernel
theorem d_HR_readRoom_2 : decode q_HR_readRoom.2.1 2 = .ok (.iconst 4, 1) := by decide +kernel
theorem d_HR_readRoom_3 : decode q_HR_readRoom.2.1 3 = .ok (.invokevirtual 78, 3) := by decide +kernel
theorem ml_HR_78 : rx_CV "GlassRoom$HallReader" 78 q_HR_readItems 2 := ⟨⟨(rx_s2 186 rfl rfl), (rx_s2 188 rfl rfl), (rx_s0 2 rfl rfl)⟩, ⟨(rx_s1 4 rfl rfl), q_HR_readItems_k, ⟨by decide, by decide, by decide +kernel⟩, by decide⟩⟩
theorem d_HR_readRoom_6 : decode q_HR_readRoom.2.1 6 = .ok (.ifCond .ne 5, 3) := by decide +kernel
theorem d_HR_readRoom_9 : decode q_HR_readRoom.2.1 9 = .ok (.iconst 0, 1) := by decide +kernel
theorem d_HR_readRoom_10 : decode q_HR_readRoom.2.1 10 = .ok (.ireturn, 1) := by decide +kernel
theorem d_HR_readRoom_11 : decode q_HR_readRoom.2.1 11 = .ok (.aload_n 0, 1) := by decide +kernel
theorem d_HR_readRoom_12 : decode q_HR_readRoom.2.1 12 = .ok (.getfield 21, 3) := by decide +kernel
theorem d_HR_readRoom_15 : decode q_HR_readRoom.2.1 15 = .ok (.aload_n 0, 1) := by decide +kernel
theorem d_HR_readRoom_16 : decode q_HR_readRoom.2.1 16 = .ok (.getfield 15, 3) := by decide +kernel
theorem d_HR_readRoom_19 : decode q_HR_readRoom.2.1 19 = .ok (.iconst 0, 1) := by decide +kernel
theorem d_HR_readRoom_20 : decode q_HR_readRoom.2.1 20 = .ok (.iaload, 1) := by decide +kernel
theorem d_HR_readRoom_21 : decode q_HR_readRoom.2.1 21 = .ok (.putfield 38, 3) := by decide +kernel
theorem fp_HR_38 : rx_FP "GlassRoom$HallReader" 38 3 5 (.int) := ⟨(RX3, TX3, 9), tyX3, rfl, by decide, (rx_s1 86 rfl rfl), rx_T3, tyX3_ok, nmX3, rfl, rfl⟩
theorem d_HR_readRoom_24 : decode q_HR_readRoom.2.1 24 = .ok (.aload_n 0, 1) := by decide +kernel
theorem d_HR_readRoom_25 : decode q_HR_readRoom.2.1 25 = .ok (.getfield 21, 3) := by decide +kernel
theorem d_HR_readRoom_28 : decode q_HR_readRoom.2.1 28 = .ok (.aload_n 0, 1) := by decide +kernel
theorem d_HR_readRoom_29 : decode q_HR_readRoom.2.1 29 = .ok (.getfield 15, 3) := by decide +kernel
theorem d_HR_readRoom_32 : decode q_HR_readRoom.2.1 32 = .ok (.iconst 1, 1) := by decide +kernel
theorem d_HR_readRoom_33 : decode q_HR_readRoom.2.1 33 = .ok (.iaload, 1) := by decide +kernel
theorem d_HR_readRoom_34 : decode q_HR_readRoom.2.1 34 = .ok (.putfield 41, 3) := by decide +kernel
theorem fp_HR_41 : rx_FP "GlassRoom$HallReader" 41 3 6 (.int) := ⟨(RX3, TX3, 9), tyX3, rfl, by decide, (rx_s1 93 rfl rfl), rx_T3, tyX3_ok, nmX3, rfl, rfl⟩
theorem d_HR_readRoom_37 : decode q_HR_readRoom.2.1 37 = .ok (.aload_n 0, 1) := by decide +kernel
theorem d_HR_readRoom_38 : decode q_HR_readRoom.2.1 38 = .ok (.getfield 21, 3) := by decide +kernel
theorem d_HR_readRoom_41 : decode q_HR_readRoom.2.1 41 = .ok (.aload_n 0, 1) := by decide +kernel
theorem d_HR_readRoom_42 : decode q_HR_readRoom.2.1 42 = .ok (.getfield 15, 3) := by decide +kernel
theorem d_HR_readRoom_45 : decode q_HR_readRoom.2.1 45 = .ok (.iconst 2, 1) := by decide +kernel
theorem d_HR_readRoom_46 : decode q_HR_readRoom.2.1 46 = .ok (.iaload, 1) := by decide +kernel
theorem d_HR_readRoom_47 : decode q_HR_readRoom.2.1 47 = .ok (.putfield 44, 3) := by decide +kernel
theorem fp_HR_44 : rx_FP "GlassRoom$HallReader" 44 3 7 (.int) := ⟨(RX3, TX3, 9), tyX3, rfl, by decide, (rx_s1 102 rfl rfl), rx_T3, tyX3_ok, nmX3, rfl, rfl⟩
theorem d_HR_readRoom_50 : decode q_HR_readRoom.2.1 50 = .ok (.aload_n 0, 1) := by decide +kernel
theorem d_HR_readRoom_51 : decode q_HR_readRoom.2.1 51 = .ok (.getfield 21, 3) := by decide +kernel
theorem d_HR_readRoom_54 : decode q_HR_readRoom.2.1 54 = .ok (.aload_n 0, 1) := by decide +kernel
theorem d_HR_readRoom_55 : decode q_HR_readRoom.2.1 55 = .ok (.getfield 15, 3) := by decide +kernel
theorem d_HR_readRoom_58 : decode q_HR_readRoom.2.1 58 = .ok (.iconst 3, 1) := by decide +kernel
theorem d_HR_readRoom_59 : decode q_HR_readRoom.2.1 59 = .ok (.iaload, 1) := by decide +kernel
theorem d_HR_readRoom_60 : decode q_HR_readRoom.2.1 60 = .ok (.putfield 47, 3) := by decide +kernel
theorem fp_HR_47 : rx_FP "GlassRoom$HallReader" 47 3 8 (.int) := ⟨(RX3, TX3, 9), tyX3, rfl, by decide, (rx_s1 106 rfl rfl), rx_T3, tyX3_ok, nmX3, rfl, rfl⟩
theorem d_HR_readRoom_63 : decode q_HR_readRoom.2.1 63 = .ok (.iconst 1, 1) := by decide +kernel
theorem d_HR_readRoom_64 : decode q_HR_readRoom.2.1 64 = .ok (.ireturn, 1) := by decide +kernel
theorem d_HR_readBody_0 : decode q_HR_readBody.2.1 0 = .ok (.aload_n 0, 1) := by decide +kernel
theorem d_HR_readBody_1 : decode q_HR_readBody.2.1 1 = .ok (.iconst 4, 1) := by decide +kernel
theorem d_HR_readBody_2 : decode q_HR_readBody.2.1 2 = .ok (.getstatic 9, 3) := by decide +kernel
theorem d_HR_readBody_5 : decode q_HR_readBody.2.1 5 = .ok (.arraylength, 1) := by decide +kernel
theorem d_HR_readBody_6 : decode q_HR_readBody.2.1 6 = .ok (.invokevirtual 78, 3) := by decide +kernel
theorem d_HR_readBody_9 : decode q_HR_readBody.2.1 9 = .ok (.ifCond .ne 5, 3) := by decide +kernel
theorem d_HR_readBody_12 : decode q_HR_readBody.2.1 12 = .ok (.iconst 0, 1) := by decide +kernel
theorem d_HR_readBody_13 : decode q_HR_readBody.2.1 13 = .ok (.ireturn, 1) := by decide +kernel
theorem d_HR_readBody_14 : decode q_HR_readBody.2.1 14 = .ok (.aload_n 0, 1) := by decide +kernel
theorem d_HR_readBody_15 : decode q_HR_readBody.2.1 15 = .ok (.getfield 21, 3) := by decide +kernel
theorem d_HR_readBody_18 : decode q_HR_readBody.2.1 18 = .ok (.getfield 35, 3) := by decide +kernel
theorem d_HR_readBody_21 : decode q_HR_readBody.2.1 21 = .ok (.istore_n 1, 1) := by decide +kernel
theorem d_HR_readBody_22 : decode q_HR_readBody.2.1 22 = .ok (.aload_n 0, 1) := by decide +kernel
theorem d_HR_readBody_23 : decode q_HR_readBody.2.1 23 = .ok (.getfield 21, 3) := by decide +kernel
theorem d_HR_readBody_26 : decode q_HR_readBody.2.1 26 = .ok (.getfield 82, 3) := by decide +kernel
theorem d_HR_readBody_29 : decode q_HR_readBody.2.1 29 = .ok (.iload_n 1, 1) := by decide +kernel
theorem d_HR_readBody_30 : decode q_HR_readBody.2.1 30 = .ok (.aload_n 0, 1) := by decide +kernel
theorem d_HR_readBody_31 : decode q_HR_readBody.2.1 31 = .ok (.getfield 15, 3) := by decide +kernel
theorem d_HR_readBody_34 : decode q_HR_readBody.2.1 34 = .ok (.iconst 4, 1) := by decide +kernel
theorem d_HR_readBody_35 : decode q_HR_readBody.2.1 35 = .ok (.iaload, 1) := by decide +kernel
theorem d_HR_readBody_36 : decode q_HR_readBody.2.1 36 = .ok (.iastore, 1) := by decide +kernel
theorem d_HR_readBody_37 : decode q_HR_readBody.2.1 37 = .ok (.aload_n 0, 1) := by decide +kernel
theorem d_HR_readBody_38 : decode q_HR_readBody.2.1 38 = .ok (.getfield 21, 3) := by decide +kernel
theorem d_HR_readBody_41 : decode q_HR_readBody.2.1 41 = .ok (.getfield 85, 3) := by decide +kernel
theorem d_HR_readBody_44 : decode q_HR_readBody.2.1 44 = .ok (.iload_n 1, 1) := by decide +kernel
theorem d_HR_readBody_45 : decode q_HR_readBody.2.1 45 = .ok (.aload_n 0, 1) := by decide +kernel
theorem d_HR_readBody_46 : decode q_HR_readBody.2.1 46 = .ok (.getfield 15, 3) := by decide +kernel
theorem d_HR_readBody_49 : decode q_HR_readBody.2.1 49 = .ok (.iconst 5, 1) := by decide +kernel
theorem d_HR_readBody_50 : decode q_HR_readBody.2.1 50 = .ok (.iaload, 1) := by decide +kernel
theorem d_HR_readBody_51 : decode q_HR_readBody.2.1 51 = .ok (.iastore, 1) := by decide +kernel
theorem d_HR_readBody_52 : decode q_HR_readBody.2.1 52 = .ok (.aload_n 0, 1) := by decide +kernel
theorem d_HR_readBody_53 : decode q_HR_readBody.2.1 53 = .ok (.getfield 21, 3) := by decide +kernel
theorem d_HR_readBody_56 : decode q_HR_readBody.2.1 56 = .ok (.getfield 88, 3) := by decide +kernel
theorem fl_HR_88 : rx_F "GlassRoom$HallReader" 88 3 2 := ⟨(RX3, TX3, 9), rfl, by decide, (rx_s1 77 rfl rfl), rx_T3⟩
theorem d_HR_readBody_59 : decode q_HR_readBody.2.1 59 = .ok (.iload_n 1, 1) := by decide +kernel
theorem d_HR_readBody_60 : decode q_HR_readBody.2.1 60 = .ok (.aload_n 0, 1) := by decide +kernel
theorem d_HR_readBody_61 : decode q_HR_readBody.2.1 61 = .ok (.getfield 15, 3) := by decide +kernel
theorem d_HR_readBody_64 : decode q_HR_readBody.2.1 64 = .ok (.bipush 6, 2) := by decide +kernel
theorem d_HR_readBody_66 : decode q_HR_readBody.2.1 66 = .ok (.iaload, 1) := by decide +kernel
theorem d_HR_readBody_67 : decode q_HR_readBody.2.1 67 = .ok (.iastore, 1) := by decide +kernel
theorem d_HR_readBody_68 : decode q_HR_readBody.2.1 68 = .ok (.aload_n 0, 1) := by decide +kernel
theorem d_HR_readBody_69 : decode q_HR_readBody.2.1 69 = .ok (.getfield 21, 3) := by decide +kernel
theorem d_HR_readBody_72 : decode q_HR_readBody.2.1 72 = .ok (.dup, 1) := by decide +kernel
theorem d_HR_readBody_73 : decode q_HR_readBody.2.1 73 = .ok (.getfield 35, 3) := by decide +kernel
theorem d_HR_readBody_76 : decode q_HR_readBody.2.1 76 = .ok (.iconst 1, 1) := by decide +kernel
theorem d_HR_readBody_77 : decode q_HR_readBody.2.1 77 = .ok (.iadd, 1) := by decide +kernel
theorem d_HR_readBody_78 : decode q_HR_readBody.2.1 78 = .ok (.putfield 35, 3) := by decide +kernel
theorem fp_HR_35 : rx_FP "GlassRoom$HallReader" 35 3 4 (.int) := ⟨(RX3, TX3, 9), tyX3, rfl, by decide, (rx_s1 82 rfl rfl), rx_T3, tyX3_ok, nmX3, rfl, rfl⟩
theorem d_HR_readBody_81 : decode q_HR_readBody.2.1 81 = .ok (.iconst 1, 1) := by decide +kernel
theorem d_HR_readBody_82 : decode q_HR_readBody.2.1 82 = .ok (.ireturn, 1) := by decide +kernel
theorem d_HR_readClause_0 : decode q_HR_readClause.2.1 0 = .ok (.aload_n 0, 1) := by decide +kernel
theorem d_HR_readClause_1 : decode q_HR_readClause.2.1 1 = .ok (.getfield 25, 3) := by decide +kernel
theorem d_HR_readClause_4 : decode q_HR_readClause.2.1 4 = .ok (.invokevirtual 58, 3) := by decide +kernel
theorem d_HR_readClause_7 : decode q_HR_readClause.2.1 7 = .ok (.istore_n 1, 1) := by decide +kernel
theorem d_HR_readClause_8 : decode q_HR_readClause.2.1 8 = .ok (.iload_n 1, 1) := by decide +kernel
theorem d_HR_readClause_9 : decode q_HR_readClause.2.1 9 = .ok (.bipush 114, 2) := by decide +kernel
theorem d_HR_readClause_11 : decode q_HR_readClause.2.1 11 = .ok (.if_icmp .ne 33, 3) := by decide +kernel
theorem d_HR_readClause_14 : decode q_HR_readClause.2.1 14 = .ok (.aload_n 0, 1) := by decide +kernel
theorem d_HR_readClause_15 : decode q_HR_readClause.2.1 15 = .ok (.getfield 50, 3) := by decide +kernel
theorem fl_HR_50 : rx_F "GlassRoom$HallReader" 50 4 3 := ⟨(RX4, TX4, 4), rfl, by decide, (rx_s1 142 rfl rfl), rx_T4⟩
theorem d_HR_readClause_18 : decode q_HR_readClause.2.1 18 = .ok (.ifCond .ne 26, 3) := by decide +kernel
theorem d_HR_readClause_21 : decode q_HR_readClause.2.1 21 = .ok (.aload_n 0, 1) := by decide +kernel
theorem d_HR_readClause_22 : decode q_HR_readClause.2.1 22 = .ok (.getfield 25, 3) := by decide +kernel
theorem d_HR_readClause_25 : decode q_HR_readClause.2.1 25 = .ok (.dup, 1) := by decide +kernel
theorem d_HR_readClause_26 : decode q_HR_readClause.2.1 26 = .ok (.getfield 29, 3) := by decide +kernel
theorem d_HR_readClause_29 : decode q_HR_readClause.2.1 29 = .ok (.iconst 1, 1) := by decide +kernel
theorem d_HR_readClause_30 : decode q_HR_readClause.2.1 30 = .ok (.iadd, 1) := by decide +kernel
theorem d_HR_readClause_31 : decode q_HR_readClause.2.1 31 = .ok (.putfield 29, 3) := by decide +kernel
theorem d_HR_readClause_34 : decode q_HR_readClause.2.1 34 = .ok (.aload_n 0, 1) := by decide +kernel
theorem d_HR_readClause_35 : decode q_HR_readClause.2.1 35 = .ok (.iconst 1, 1) := by decide +kernel
theorem d_HR_readClause_36 : decode q_HR_readClause.2.1 36 = .ok (.putfield 50, 3) := by decide +kernel
theorem fp_HR_50 : rx_FP "GlassRoom$HallReader" 50 4 3 (.boolean) := ⟨(RX4, TX4, 4), tyX4, rfl, by decide, (rx_s1 142 rfl rfl), rx_T4, tyX4_ok, nmX4, rfl, rfl⟩
theorem d_HR_readClause_39 : decode q_HR_readClause.2.1 39 = .ok (.aload_n 0, 1) := by decide +kernel
theorem d_HR_readClause_40 : decode q_HR_readClause.2.1 40 = .ok (.invokevirtual 72, 3) := by decide +kernel
theorem ml_HR_72 : rx_CV "GlassRoom$HallReader" 72 q_HR_readRoom 0 := ⟨⟨(rx_s2 182 rfl rfl), (rx_s2 184 rfl rfl), (rx_s0 1 rfl rfl)⟩, ⟨(rx_s1 4 rfl rfl), q_HR_readRoom_k, ⟨by decide, by decide, by decide +kernel⟩, by decide⟩⟩
theorem d_HR_readClause_43 : decode q_HR_readClause.2.1 43 = .ok (.ireturn, 1) := by decide +kernel
theorem d_HR_readClause_44 : decode q_HR_readClause.2.1 44 = .ok (.iload_n 1, 1) := by decide +kernel
theorem d_HR_readClause_45 : decode q_HR_readClause.2.1 45 = .ok (.bipush 98, 2) := by decide +kernel
theorem d_HR_readClause_47 : decode q_HR_readClause.2.1 47 = .ok (.if_icmp .ne 33, 3) := by decide +kernel
theorem d_HR_readClause_50 : decode q_HR_readClause.2.1 50 = .ok (.aload_n 0, 1) := by decide +kernel
theorem d_HR_readClause_51 : decode q_HR_readClause.2.1 51 = .ok (.getfield 21, 3) := by decide +kernel
theorem d_HR_readClause_54 : decode q_HR_readClause.2.1 54 = .ok (.getfield 35, 3) := by decide +kernel
theorem d_HR_readClause_57 : decode q_HR_readClause.2.1 57 = .ok (.bipush 6, 2) := by decide +kernel
theorem d_HR_readClause_59 : decode q_HR_readClause.2.1 59 = .ok (.if_icmp .ge 21, 3) := by decide +kernel
theorem d_HR_readClause_80 : decode q_HR_readClause.2.1 80 = .ok (.iconst 0, 1) := by decide +kernel
theorem d_HR_readClause_81 : decode q_HR_readClause.2.1 81 = .ok (.ireturn, 1) := by decide +kernel
theorem d_HR_readClause_62 : decode q_HR_readClause.2.1 62 = .ok (.aload_n 0, 1) := by decide +kernel
theorem d_HR_readClause_63 : decode q_HR_readClause.2.1 63 = .ok (.getfield 25, 3) := by decide +kernel
theorem d_HR_readClause_66 : decode q_HR_readClause.2.1 66 = .ok (.dup, 1) := by decide +kernel
theorem d_HR_readClause_67 : decode q_HR_readClause.2.1 67 = .ok (.getfield 29, 3) := by decide +kernel
theorem d_HR_readClause_70 : decode q_HR_readClause.2.1 70 = .ok (.iconst 1, 1) := by decide +kernel
theorem d_HR_readClause_71 : decode q_HR_readClause.2.1 71 = .ok (.iadd, 1) := by decide +kernel
theorem d_HR_readClause_72 : decode q_HR_readClause.2.1 72 = .ok (.putfield 29, 3) := by decide +kernel
theorem d_HR_readClause_75 : decode q_HR_readClause.2.1 75 = .ok (.aload_n 0, 1) := by decide +kernel
theorem d_HR_readClause_76 : decode q_HR_readClause.2.1 76 = .ok (.invokevirtual 75, 3) := by decide +kernel
theorem ml_HR_75 : rx_CV "GlassRoom$HallReader" 75 q_HR_readBody 0 := ⟨⟨(rx_s3 45 rfl rfl), (rx_s3 47 rfl rfl), (rx_s0 3 rfl rfl)⟩, ⟨(rx_s1 4 rfl rfl), q_HR_readBody_k, ⟨by decide, by decide, by decide +kernel⟩, by decide⟩⟩
theorem d_HR_readClause_79 : decode q_HR_readClause.2.1 79 = .ok (.ireturn, 1) := by decide +kernel
theorem d_HR_read_0 : decode q_HR_read.2.1 0 = .ok (.aload_n 0, 1) := by decide +kernel
theorem d_HR_read_1 : decode q_HR_read.2.1 1 = .ok (.getfield 25, 3) := by decide +kernel
theorem d_HR_read_4 : decode q_HR_read.2.1 4 = .ok (.iconst 0, 1) := by decide +kernel
theorem d_HR_read_5 : decode q_HR_read.2.1 5 = .ok (.putfield 29, 3) := by decide +kernel
theorem d_HR_read_8 : decode q_HR_read.2.1 8 = .ok (.aload_n 0, 1) := by decide +kernel
theorem d_HR_read_9 : decode q_HR_read.2.1 9 = .ok (.getfield 21, 3) := by decide +kernel
theorem d_HR_read_12 : decode q_HR_read.2.1 12 = .ok (.iconst 0, 1) := by decide +kernel
theorem d_HR_read_13 : decode q_HR_read.2.1 13 = .ok (.putfield 35, 3) := by decide +kernel
theorem d_HR_read_16 : decode q_HR_read.2.1 16 = .ok (.aload_n 0, 1) := by decide +kernel
theorem d_HR_read_17 : decode q_HR_read.2.1 17 = .ok (.getfield 21, 3) := by decide +kernel
theorem d_HR_read_20 : decode q_HR_read.2.1 20 = .ok (.getstatic 9, 3) := by decide +kernel
theorem d_HR_read_23 : decode q_HR_read.2.1 23 = .ok (.iconst 0, 1) := by decide +kernel
theorem d_HR_read_24 : decode q_HR_read.2.1 24 = .ok (.iaload, 1) := by decide +kernel
theorem d_HR_read_25 : decode q_HR_read.2.1 25 = .ok (.putfield 38, 3) := by decide +kernel
theorem d_HR_read_28 : decode q_HR_read.2.1 28 = .ok (.aload_n 0, 1) := by decide +kernel
theorem d_HR_read_29 : decode q_HR_read.2.1 29 = .ok (.getfield 21, 3) := by decide +kernel
theorem d_HR_read_32 : decode q_HR_read.2.1 32 = .ok (.getstatic 9, 3) := by decide +kernel
theorem d_HR_read_35 : decode q_HR_read.2.1 35 = .ok (.iconst 1, 1) := by decide +kernel
theorem d_HR_read_36 : decode q_HR_read.2.1 36 = .ok (.iaload, 1) := by decide +kernel
theorem d_HR_read_37 : decode q_HR_read.2.1 37 = .ok (.putfield 41, 3) := by decide +kernel
theorem d_HR_read_40 : decode q_HR_read.2.1 40 = .ok (.aload_n 0, 1) := by decide +kernel
theorem d_HR_read_41 : decode q_HR_read.2.1 41 = .ok (.getfield 21, 3) := by decide +kernel
theorem d_HR_read_44 : decode q_HR_read.2.1 44 = .ok (.getstatic 9, 3) := by decide +kernel
theorem d_HR_read_47 : decode q_HR_read.2.1 47 = .ok (.iconst 2, 1) := by decide +kernel
theorem d_HR_read_48 : decode q_HR_read.2.1 48 = .ok (.iaload, 1) := by decide +kernel
theorem d_HR_read_49 : decode q_HR_read.2.1 49 = .ok (.putfield 44, 3) := by decide +kernel
theorem d_HR_read_52 : decode q_HR_read.2.1 52 = .ok (.aload_n 0, 1) := by decide +kernel
theorem d_HR_read_53 : decode q_HR_read.2.1 53 = .ok (.getfield 21, 3) := by decide +kernel
theorem d_HR_read_56 : decode q_HR_read.2.1 56 = .ok (.getstatic 9, 3) := by decide +kernel
theorem d_HR_read_59 : decode q_HR_read.2.1 59 = .ok (.iconst 3, 1) := by decide +kernel
theorem d_HR_read_60 : decode q_HR_read.2.1 60 = .ok (.iaload, 1) := by decide +kernel
theorem d_HR_read_61 : decode q_HR_read.2.1 61 = .ok (.putfield 47, 3) := by decide +kernel
theorem d_HR_read_64 : decode q_HR_read.2.1 64 = .ok (.aload_n 0, 1) := by decide +kernel
theorem d_HR_read_65 : decode q_HR_read.2.1 65 = .ok (.iconst 0, 1) := by decide +kernel
theorem d_HR_read_66 : decode q_HR_read.2.1 66 = .ok (.putfield 50, 3) := by decide +kernel
theorem d_HR_read_69 : decode q_HR_read.2.1 69 = .ok (.iconst 0, 1) := by decide +kernel
theorem d_HR_read_70 : decode q_HR_read.2.1 70 = .ok (.istore_n 1, 1) := by decide +kernel
theorem d_HR_read_71 : decode q_HR_read.2.1 71 = .ok (.iload_n 1, 1) := by decide +kernel
theorem d_HR_read_72 : decode q_HR_read.2.1 72 = .ok (.bipush 7, 2) := by decide +kernel
theorem bp_7 : (Int8.ofInt (7)).toInt32 = (7 : Int32) := by decide
theorem d_HR_read_74 : decode q_HR_read.2.1 74 = .ok (.if_icmp .gt 73, 3) := by decide +kernel
theorem d_HR_read_147 : decode q_HR_read.2.1 147 = .ok (.aload_n 0, 1) := by decide +kernel
theorem d_HR_read_148 : decode q_HR_read.2.1 148 = .ok (.getfield 25, 3) := by decide +kernel
theorem d_HR_read_151 : decode q_HR_read.2.1 151 = .ok (.getfield 29, 3) := by decide +kernel
theorem d_HR_read_154 : decode q_HR_read.2.1 154 = .ok (.ireturn, 1) := by decide +kernel
theorem d_HR_read_77 : decode q_HR_read.2.1 77 = .ok (.aload_n 0, 1) := by decide +kernel
theorem d_HR_read_78 : decode q_HR_read.2.1 78 = .ok (.invokevirtual 54, 3) := by decide +kernel
theorem ml_HR_54 : rx_CV "GlassRoom$HallReader" 54 q_HR_readClause 0 := ⟨⟨(rx_s2 174 rfl rfl), (rx_s2 176 rfl rfl), (rx_s0 0 rfl rfl)⟩, ⟨(rx_s1 4 rfl rfl), q_HR_readClause_k, ⟨by decide, by decide, by decide +kernel⟩, by decide⟩⟩
theorem d_HR_read_81 : decode q_HR_read.2.1 81 = .ok (.ifCond .ne 11, 3) := by decide +kernel
theorem d_HR_read_84 : decode q_HR_read.2.1 84 = .ok (.aload_n 0, 1) := by decide +kernel
theorem d_HR_read_85 : decode q_HR_read.2.1 85 = .ok (.getfield 25, 3) := by decide +kernel
theorem d_HR_read_88 : decode q_HR_read.2.1 88 = .ok (.getfield 29, 3) := by decide +kernel
theorem d_HR_read_91 : decode q_HR_read.2.1 91 = .ok (.ireturn, 1) := by decide +kernel
theorem d_HR_read_92 : decode q_HR_read.2.1 92 = .ok (.aload_n 0, 1) := by decide +kernel
theorem d_HR_read_93 : decode q_HR_read.2.1 93 = .ok (.getfield 25, 3) := by decide +kernel
theorem d_HR_read_96 : decode q_HR_read.2.1 96 = .ok (.invokevirtual 58, 3) := by decide +kernel
theorem d_HR_read_99 : decode q_HR_read.2.1 99 = .ok (.ifCond .ne 22, 3) := by decide +kernel
theorem d_HR_read_102 : decode q_HR_read.2.1 102 = .ok (.aload_n 0, 1) := by decide +kernel
theorem d_HR_read_103 : decode q_HR_read.2.1 103 = .ok (.invokevirtual 62, 3) := by decide +kernel
theorem ml_HR_62 : rx_CV "GlassRoom$HallReader" 62 q_HR_isWhole 0 := ⟨⟨(rx_s3 49 rfl rfl), (rx_s3 51 rfl rfl), (rx_s0 4 rfl rfl)⟩, ⟨(rx_s1 4 rfl rfl), q_HR_isWhole_k, ⟨by decide, by decide, by decide +kernel⟩, by decide⟩⟩
theorem d_HR_read_106 : decode q_HR_read.2.1 106 = .ok (.ifCond .eq 7, 3) := by decide +kernel
theorem d_HR_read_113 : decode q_HR_read.2.1 113 = .ok (.aload_n 0, 1) := by decide +kernel
theorem d_HR_read_114 : decode q_HR_read.2.1 114 = .ok (.getfield 25, 3) := by decide +kernel
theorem d_HR_read_117 : decode q_HR_read.2.1 117 = .ok (.getfield 65, 3) := by decide +kernel
theorem fl_HR_65 : rx_F "GlassRoom$HallReader" 65 10 1 := ⟨(RX10, TX10, 3), rfl, by decide, (rx_s1 41 rfl rfl), rx_T10⟩
theorem d_HR_read_109 : decode q_HR_read.2.1 109 = .ok (.iconst (-1), 1) := by decide +kernel
theorem d_HR_read_110 : decode q_HR_read.2.1 110 = .ok (.goto 10, 3) := by decide +kernel
theorem d_HR_read_120 : decode q_HR_read.2.1 120 = .ok (.ireturn, 1) := by decide +kernel
theorem d_HR_read_121 : decode q_HR_read.2.1 121 = .ok (.aload_n 0, 1) := by decide +kernel
theorem d_HR_read_122 : decode q_HR_read.2.1 122 = .ok (.getfield 25, 3) := by decide +kernel
theorem d_HR_read_125 : decode q_HR_read.2.1 125 = .ok (.bipush 59, 2) := by decide +kernel
theorem bp_59 : (Int8.ofInt (59)).toInt32 = (59 : Int32) := by decide
theorem d_HR_read_127 : decode q_HR_read.2.1 127 = .ok (.invokevirtual 68, 3) := by decide +kernel
theorem ml_HR_68 : rx_CV "GlassRoom$HallReader" 68 q_Ta_take 1 := ⟨⟨(rx_s3 61 rfl rfl), (rx_s3 62 rfl rfl), (rx_s3 63 rfl rfl)⟩, ⟨(rx_s1 2 rfl rfl), q_Ta_take_k, ⟨by decide, by decide, by decide +kernel⟩, by decide⟩⟩
theorem d_HR_read_130 : decode q_HR_read.2.1 130 = .ok (.ifCond .ne 11, 3) := by decide +kernel
theorem d_HR_read_133 : decode q_HR_read.2.1 133 = .ok (.aload_n 0, 1) := by decide +kernel
theorem d_HR_read_134 : decode q_HR_read.2.1 134 = .ok (.getfield 25, 3) := by decide +kernel
theorem d_HR_read_137 : decode q_HR_read.2.1 137 = .ok (.getfield 29, 3) := by decide +kernel
theorem d_HR_read_140 : decode q_HR_read.2.1 140 = .ok (.ireturn, 1) := by decide +kernel
theorem d_HR_read_141 : decode q_HR_read.2.1 141 = .ok (.iinc 1 1, 3) := by decide +kernel
theorem d_HR_read_144 : decode q_HR_read.2.1 144 = .ok (.goto (-73), 3) := by decide +kernel
set_option maxHeartbeats 4000000 in
set_option maxRecDepth 20000 in
theorem w_Ta_take {G : rx_Gh} {hp : rx_Hp} {F : Int32 → rx_Hp → Prop} (a1 : Int32) (H : Ev wC G 1 q_Ta_look [.ref 1] hp (rI fun r2 h1 => (r2 = a1 → F 1 (rx_pf h1 1 2 ((h1.1 1 2) + 1))) ∧ (¬ r2 = a1 → F 0 h1))) : Ev wC G 2 q_Ta_take [.ref 1, .int a1] hp (rI F) := by
  refine ev_of rfl (Nat.le_of_ble_eq_true rfl) rfl ?_
  show Rn wC G 2 q_Ta_take 0 [some (.ref 1), some (.int a1)] [] hp (rI F)
  refine r_aload_n (i := 0) d_Ta_take_0 rfl rfl ?_
  refine rc_VI (b := 1) (d' := 1) [] [] d_Ta_take_1 ml_Ta_22 rfl rfl (by decide) (by decide) rfl rfl (Nat.le_of_ble_eq_true rfl) H ?_
  intro r2 h1 H
  refine r_iload_n (i := 1) d_Ta_take_4 rfl rfl ?_
  refine r_icmp_eq (tgt := 10) d_Ta_take_5 (by decide) (fun hc_5 => ?_) (fun hc_5 => ?_)
  · replace H := H.1 hc_5
    refine r_aload_n (i := 0) d_Ta_take_10 rfl rfl ?_
    refine r_dupr d_Ta_take_11 ?_
    refine r_getI (b := 1) (v := h1.1 1 2) d_Ta_take_12 fl_Ta_19 (by decide) rfl rfl rfl ?_
    refine r_iconst d_Ta_take_15 ic_1 ?_
    refine r_iadd d_Ta_take_16 ?_
    refine r_putI (b := 1) d_Ta_take_17 fp_Ta_19 ⟨rfl, rfl⟩ (by decide) rfl rfl ?_
    refine r_iconst d_Ta_take_20 ic_1 ?_
    exact rZ_ret d_Ta_take_21 rfl (Or.inr rfl) H
  · replace H := H.2 hc_5
    refine r_iconst d_Ta_take_8 ic_0 ?_
    exact rZ_ret d_Ta_take_9 rfl (Or.inl rfl) H
set_option maxHeartbeats 4000000 in
set_option maxRecDepth 20000 in
theorem w_HR_isWhole {G : rx_Gh} {hp : rx_Hp} {F : Int32 → rx_Hp → Prop}  (H : Rn wC G 2 q_HR_isWhole 2 [some (.ref 8), some (.int 0)] [] hp (rI F)) : Ev wC G 2 q_HR_isWhole [.ref 8] hp (rI F) := by
  refine ev_of rfl (Nat.le_of_ble_eq_true rfl) rfl ?_
  show Rn wC G 2 q_HR_isWhole 0 [some (.ref 8), none] [] hp (rI F)
  refine r_iconst d_HR_isWhole_0 ic_0 ?_
  refine r_istore_n (i := 1) (lz := [some (.ref 8), some (.int 0)]) d_HR_isWhole_1 rfl (by decide) rfl rfl ?_
  exact H
set_option maxHeartbeats 4000000 in
set_option maxRecDepth 20000 in
theorem w_HR_isWhole_2 {G : rx_Gh} {hp : rx_Hp} {F : Int32 → rx_Hp → Prop} (x1 : Int32) (H : ((hp.1 10 4) ≤ x1 → F (f_Ha_stands_10 hp) hp) ∧ (¬ (hp.1 10 4) ≤ x1 → vp_in x1 6 ∧ (((f_Ha_isInside_10 (hp.2.1 11 x1.toNatClampNeg) (hp.2.1 12 x1.toNatClampNeg) hp) = 0 → F 0 hp) ∧ (¬ (f_Ha_isInside_10 (hp.2.1 11 x1.toNatClampNeg) (hp.2.1 12 x1.toNatClampNeg) hp) = 0 → Rn wC G 2 q_HR_isWhole 2 [some (.ref 8), some (.int (x1 + 1))] [] hp (rI F))))) : Rn wC G 2 q_HR_isWhole 2 [some (.ref 8), some (.int x1)] [] hp (rI F) := by
  refine r_iload_n (i := 1) d_HR_isWhole_2 rfl rfl ?_
  refine r_aload_n (i := 0) d_HR_isWhole_3 rfl rfl ?_
  refine r_getR (b := 8) (r := 10) d_HR_isWhole_4 fl_HR_21 (by decide) rfl rfl rfl ?_
  refine r_getI (b := 10) (v := hp.1 10 4) d_HR_isWhole_7 fl_HR_35 (by decide) rfl rfl rfl ?_
  refine r_icmp_ge (tgt := 49) d_HR_isWhole_10 (by decide) (fun hc_10 => ?_) (fun hc_10 => ?_)
  · replace H := H.1 hc_10
    refine r_aload_n (i := 0) d_HR_isWhole_49 rfl rfl ?_
    refine r_getR (b := 8) (r := 10) d_HR_isWhole_50 fl_HR_21 (by decide) rfl rfl rfl ?_
    refine rk_VI (b := 10) (d' := 1) [] [] d_HR_isWhole_53 ml_HR_111 rfl rfl (by decide) (by decide) rfl rfl (Nat.le_of_ble_eq_true rfl) (s_Ha_stands_10  ?_)
    exact rZ_ret d_HR_isWhole_56 rfl (b_Ha_stands_10 hp) H
  · replace H := H.2 hc_10
    refine r_aload_n (i := 0) d_HR_isWhole_13 rfl rfl ?_
    refine r_getR (b := 8) (r := 10) d_HR_isWhole_14 fl_HR_21 (by decide) rfl rfl rfl ?_
    refine r_aload_n (i := 0) d_HR_isWhole_17 rfl rfl ?_
    refine r_getR (b := 8) (r := 10) d_HR_isWhole_18 fl_HR_21 (by decide) rfl rfl rfl ?_
    refine r_getR (b := 10) (r := 11) d_HR_isWhole_21 fl_HR_82 (by decide) rfl rfl rfl ?_
    refine r_iload_n (i := 1) d_HR_isWhole_24 rfl rfl ?_
    obtain ⟨hi_25, H⟩ := H
    refine r_iald (b := 11) (v := hp.2.1 11 x1.toNatClampNeg) d_HR_isWhole_25 (by decide) rfl hi_25 rfl ?_
    refine r_aload_n (i := 0) d_HR_isWhole_26 rfl rfl ?_
    refine r_getR (b := 8) (r := 10) d_HR_isWhole_27 fl_HR_21 (by decide) rfl rfl rfl ?_
    refine r_getR (b := 10) (r := 12) d_HR_isWhole_30 fl_HR_85 (by decide) rfl rfl rfl ?_
    refine r_iload_n (i := 1) d_HR_isWhole_33 rfl rfl ?_
    refine r_iald (b := 12) (v := hp.2.1 12 x1.toNatClampNeg) d_HR_isWhole_34 (by decide) rfl hi_25 rfl ?_
    refine rk_VI (b := 10) (d' := 1) [.int (hp.2.1 11 x1.toNatClampNeg), .int (hp.2.1 12 x1.toNatClampNeg)] [] d_HR_isWhole_35 ml_HR_108 rfl rfl (by decide) (by decide) rfl rfl (Nat.le_of_ble_eq_true rfl) (s_Ha_isInside_10 (hp.2.1 11 x1.toNatClampNeg) (hp.2.1 12 x1.toNatClampNeg) ?_)
    refine r_if_ne (tgt := 43) d_HR_isWhole_38 (by decide) (fun hc_38 => ?_) (fun hc_38 => ?_)
    · replace H := H.2 hc_38
      refine r_iinc (v := x1 + 1) (lz := [some (.ref 8), some (.int (x1 + 1))]) d_HR_isWhole_43 rfl (by rw [ic_1]) (by decide) rfl rfl ?_
      refine r_goto (tgt := 2) d_HR_isWhole_46 (by decide) ?_
      exact H
    · replace H := H.1 hc_38
      refine r_iconst d_HR_isWhole_41 ic_0 ?_
      exact rZ_ret d_HR_isWhole_42 rfl (Or.inl rfl) H
set_option maxHeartbeats 4000000 in
set_option maxRecDepth 20000 in
theorem w_HR_readItems {G : rx_Gh} {hp : rx_Hp} {F : Int32 → rx_Hp → Prop} (a1 : Int32) (a2 : Int32) (H : Rn wC G 8 q_HR_readItems 5 [some (.ref 8), some (.int a1), some (.int a2), some (.int 0), some (.int a1), none, none] [] hp (rI F)) : Ev wC G 8 q_HR_readItems [.ref 8, .int a1, .int a2] hp (rI F) := by
  refine ev_of rfl (Nat.le_of_ble_eq_true rfl) rfl ?_
  show Rn wC G 8 q_HR_readItems 0 [some (.ref 8), some (.int a1), some (.int a2), none, none, none, none] [] hp (rI F)
  refine r_iconst d_HR_readItems_0 ic_0 ?_
  refine r_istore_n (i := 3) (lz := [some (.ref 8), some (.int a1), some (.int a2), some (.int 0), none, none, none]) d_HR_readItems_1 rfl (by decide) rfl rfl ?_
  refine r_iload_n (i := 1) d_HR_readItems_2 rfl rfl ?_
  refine r_istore (lz := [some (.ref 8), some (.int a1), some (.int a2), some (.int 0), some (.int a1), none, none]) d_HR_readItems_3 (by decide) rfl rfl ?_
  exact H
set_option maxHeartbeats 4000000 in
set_option maxRecDepth 20000 in
theorem w_HR_readItems_5 {G : rx_Gh} {hp : rx_Hp} {F : Int32 → rx_Hp → Prop} (x1 : Int32) (x2 : Int32) (x3 : Int32) (x4 : Int32) (H : (x2 ≤ x4 → Rn wC G 8 q_HR_readItems 33 [some (.ref 8), some (.int x1), some (.int x2), some (.int x3), some (.int 0), none, none] [] hp (rI F)) ∧ (¬ x2 ≤ x4 → vp_in x4 7 ∧ (Rn wC G 8 q_HR_readItems 5 [some (.ref 8), some (.int x1), some (.int x2), some (.int x3), some (.int (x4 + 1)), none, none] [] (rx_pa hp 9 x4.toNatClampNeg ((rx_sa 0).getD x4.toNatClampNeg 0)) (rI F)))) : Rn wC G 8 q_HR_readItems 5 [some (.ref 8), some (.int x1), some (.int x2), some (.int x3), some (.int x4), none, none] [] hp (rI F) := by
  refine r_iload d_HR_readItems_5 rfl ?_
  refine r_iload_n (i := 2) d_HR_readItems_7 rfl rfl ?_
  refine r_icmp_ge (tgt := 30) d_HR_readItems_8 (by decide) (fun hc_8 => ?_) (fun hc_8 => ?_)
  · replace H := H.1 hc_8
    refine r_iconst d_HR_readItems_30 ic_0 ?_
    refine r_istore (lz := [some (.ref 8), some (.int x1), some (.int x2), some (.int x3), some (.int 0), none, none]) d_HR_readItems_31 (by decide) rfl rfl ?_
    exact H
  · replace H := H.2 hc_8
    refine r_aload_n (i := 0) d_HR_readItems_11 rfl rfl ?_
    refine r_getR (b := 8) (r := 9) d_HR_readItems_12 fl_HR_15 (by decide) rfl rfl rfl ?_
    refine r_iload d_HR_readItems_15 rfl ?_
    refine r_gets (t := 0) d_HR_readItems_17 (by decide) gs_HR_9 ?_
    refine r_iload d_HR_readItems_20 rfl ?_
    obtain ⟨hi_22, H⟩ := H
    refine r_tald (t := 0) d_HR_readItems_22 (by decide) hi_22 rfl ?_
    refine r_iast (b := 9) (i := x4.toNatClampNeg) d_HR_readItems_23 (by decide) rfl hi_22 rfl ?_
    refine r_iinc (v := x4 + 1) (lz := [some (.ref 8), some (.int x1), some (.int x2), some (.int x3), some (.int (x4 + 1)), none, none]) d_HR_readItems_24 rfl (by rw [ic_1]) (by decide) rfl rfl ?_
    refine r_goto (tgt := 5) d_HR_readItems_27 (by decide) ?_
    exact H
set_option maxHeartbeats 4000000 in
set_option maxRecDepth 20000 in
theorem w_HR_readItems_33 {G : rx_Gh} {hp : rx_Hp} {F : Int32 → rx_Hp → Prop} (x1 : Int32) (x2 : Int32) (x3 : Int32) (x4 : Int32) (H : ((x2 - x1) < x4 → F 1 hp) ∧ (¬ (x2 - x1) < x4 → Ev wC G 1 q_Ta_look [.ref 1] hp (rI fun r2 h1 => Ev wC G 7 q_St_indexOf [.ref (2000 + 0), .int ((r2.toUInt32 % 65536).toInt32)] h1 (rI fun r4 h3 => (r4 < x1 → F 1 h3) ∧ (¬ r4 < x1 → (x2 ≤ r4 → F 1 h3) ∧ (¬ x2 ≤ r4 → (((x3 >>> (r4 &&& 31)) &&& 1) = 1 → F 1 h3) ∧ (¬ ((x3 >>> (r4 &&& 31)) &&& 1) = 1 → Ev wC G 1 q_Ta_look [.ref 1] (rx_pf h3 1 2 ((h3.1 1 2) + 1)) (rI fun r6 h5 => Ev wC G 1 q_Ta_number [.ref 1, .int 2] h5 (rI fun r8 h7 => (r8 = (-1) → F 0 h7) ∧ (¬ r8 = (-1) → vp_in r4 7 ∧ ((r8 < ((rx_sa 1).getD r4.toNatClampNeg 0) → F 0 (rx_pf h7 1 2 ((h7.1 1 2) - 1))) ∧ (¬ r8 < ((rx_sa 1).getD r4.toNatClampNeg 0) → (r8 ≤ ((rx_sa 2).getD r4.toNatClampNeg 0) → Rn wC G 8 q_HR_readItems 33 [some (.ref 8), some (.int x1), some (.int x2), some (.int (x3 ||| (1 <<< (r4 &&& 31)))), some (.int (x4 + 1)), none, none] [] (rx_pa h7 9 r4.toNatClampNeg r8) (rI F)) ∧ (¬ r8 ≤ ((rx_sa 2).getD r4.toNatClampNeg 0) → F 0 (rx_pf h7 1 2 ((h7.1 1 2) - 1))))))))))))))) : Rn wC G 8 q_HR_readItems 33 [some (.ref 8), some (.int x1), some (.int x2), some (.int x3), some (.int x4), none, none] [] hp (rI F) := by
  refine r_iload d_HR_readItems_33 rfl ?_
  refine r_iload_n (i := 2) d_HR_readItems_35 rfl rfl ?_
  refine r_iload_n (i := 1) d_HR_readItems_36 rfl rfl ?_
  refine r_isub d_HR_readItems_37 ?_
  refine r_icmp_gt (tgt := 178) d_HR_readItems_38 (by decide) (fun hc_38 => ?_) (fun hc_38 => ?_)
  · replace H := H.1 hc_38
    refine r_iconst d_HR_readItems_178 ic_1 ?_
    exact rZ_ret d_HR_readItems_179 rfl (Or.inr rfl) H
  · replace H := H.2 hc_38
    refine r_ldcT (t := 0) d_HR_readItems_41 (by decide) ?_
    refine r_aload_n (i := 0) d_HR_readItems_43 rfl rfl ?_
    refine r_getR (b := 8) (r := 1) d_HR_readItems_44 fl_HR_25 (by decide) rfl rfl rfl ?_
    refine rc_VI (b := 1) (d' := 1) [] [.ref (2000 + 0)] d_HR_readItems_47 ml_HR_58 rfl rfl (by decide) (by decide) rfl rfl (Nat.le_of_ble_eq_true rfl) H ?_
    intro r2 h1 H
    refine r_i2c d_HR_readItems_50 ?_
    refine rc_TI (t := 0) (d' := 7) [.int ((r2.toUInt32 % 65536).toInt32)] [] d_HR_readItems_51 ml_HR_93 rfl rfl (by decide) (by decide) rfl (Nat.le_of_ble_eq_true rfl) H ?_
    intro r4 h3 H
    refine r_istore (lz := [some (.ref 8), some (.int x1), some (.int x2), some (.int x3), some (.int x4), some (.int r4), none]) d_HR_readItems_54 (by decide) rfl rfl ?_
    refine r_iload d_HR_readItems_56 rfl ?_
    refine r_iload_n (i := 1) d_HR_readItems_58 rfl rfl ?_
    refine r_icmp_lt (tgt := 78) d_HR_readItems_59 (by decide) (fun hc_59 => ?_) (fun hc_59 => ?_)
    · replace H := H.1 hc_59
      refine r_iconst d_HR_readItems_78 ic_1 ?_
      exact rZ_ret d_HR_readItems_79 rfl (Or.inr rfl) H
    · replace H := H.2 hc_59
      refine r_iload d_HR_readItems_62 rfl ?_
      refine r_iload_n (i := 2) d_HR_readItems_64 rfl rfl ?_
      refine r_icmp_ge (tgt := 78) d_HR_readItems_65 (by decide) (fun hc_65 => ?_) (fun hc_65 => ?_)
      · replace H := H.1 hc_65
        refine r_iconst d_HR_readItems_78 ic_1 ?_
        exact rZ_ret d_HR_readItems_79 rfl (Or.inr rfl) H
      · replace H := H.2 hc_65
        refine r_iload_n (i := 3) d_HR_readItems_68 rfl rfl ?_
        refine r_iload d_HR_readItems_69 rfl ?_
        refine r_ishr d_HR_readItems_71 ?_
        refine r_iconst d_HR_readItems_72 ic_1 ?_
        refine r_iand d_HR_readItems_73 ?_
        refine r_iconst d_HR_readItems_74 ic_1 ?_
        refine r_icmp_ne (tgt := 80) d_HR_readItems_75 (by decide) (fun hc_75 => ?_) (fun hc_75 => ?_)
        · replace H := H.2 hc_75
          refine r_iload_n (i := 3) d_HR_readItems_80 rfl rfl ?_
          refine r_iconst d_HR_readItems_81 ic_1 ?_
          refine r_iload d_HR_readItems_82 rfl ?_
          refine r_ishl d_HR_readItems_84 ?_
          refine r_ior d_HR_readItems_85 ?_
          refine r_istore_n (i := 3) (lz := [some (.ref 8), some (.int x1), some (.int x2), some (.int (x3 ||| (1 <<< (r4 &&& 31)))), some (.int x4), some (.int r4), none]) d_HR_readItems_86 rfl (by decide) rfl rfl ?_
          refine r_aload_n (i := 0) d_HR_readItems_87 rfl rfl ?_
          refine r_getR (b := 8) (r := 1) d_HR_readItems_88 fl_HR_25 (by decide) rfl rfl rfl ?_
          refine r_dupr d_HR_readItems_91 ?_
          refine r_getI (b := 1) (v := h3.1 1 2) d_HR_readItems_92 fl_HR_29 (by decide) rfl rfl rfl ?_
          refine r_iconst d_HR_readItems_95 ic_1 ?_
          refine r_iadd d_HR_readItems_96 ?_
          refine r_putI (b := 1) d_HR_readItems_97 fp_HR_29 ⟨rfl, rfl⟩ (by decide) rfl rfl ?_
          refine r_aload_n (i := 0) d_HR_readItems_100 rfl rfl ?_
          refine r_getR (b := 8) (r := 1) d_HR_readItems_101 fl_HR_25 (by decide) rfl rfl rfl ?_
          refine rc_VI (b := 1) (d' := 1) [] [] d_HR_readItems_104 ml_HR_58 rfl rfl (by decide) (by decide) rfl rfl (Nat.le_of_ble_eq_true rfl) H ?_
          intro r6 h5 H
          refine r_popi d_HR_readItems_107 ?_
          refine r_aload_n (i := 0) d_HR_readItems_108 rfl rfl ?_
          refine r_getR (b := 8) (r := 1) d_HR_readItems_109 fl_HR_25 (by decide) rfl rfl rfl ?_
          refine r_iconst d_HR_readItems_112 ic_2 ?_
          refine rc_VI (b := 1) (d' := 1) [.int 2] [] d_HR_readItems_113 ml_HR_99 rfl rfl (by decide) (by decide) rfl rfl (Nat.le_of_ble_eq_true rfl) H ?_
          intro r8 h7 H
          refine r_istore (lz := [some (.ref 8), some (.int x1), some (.int x2), some (.int (x3 ||| (1 <<< (r4 &&& 31)))), some (.int x4), some (.int r4), some (.int r8)]) d_HR_readItems_116 (by decide) rfl rfl ?_
          refine r_iload d_HR_readItems_118 rfl ?_
          refine r_iconst d_HR_readItems_120 ic_m1 ?_
          refine r_icmp_ne (tgt := 126) d_HR_readItems_121 (by decide) (fun hc_121 => ?_) (fun hc_121 => ?_)
          · replace H := H.2 hc_121
            refine r_iload d_HR_readItems_126 rfl ?_
            refine r_gets (t := 1) d_HR_readItems_128 (by decide) gs_HR_102 ?_
            refine r_iload d_HR_readItems_131 rfl ?_
            obtain ⟨hi_133, H⟩ := H
            refine r_tald (t := 1) d_HR_readItems_133 (by decide) hi_133 rfl ?_
            refine r_icmp_lt (tgt := 148) d_HR_readItems_134 (by decide) (fun hc_134 => ?_) (fun hc_134 => ?_)
            · replace H := H.1 hc_134
              refine r_aload_n (i := 0) d_HR_readItems_148 rfl rfl ?_
              refine r_getR (b := 8) (r := 1) d_HR_readItems_149 fl_HR_25 (by decide) rfl rfl rfl ?_
              refine r_dupr d_HR_readItems_152 ?_
              refine r_getI (b := 1) (v := h7.1 1 2) d_HR_readItems_153 fl_HR_29 (by decide) rfl rfl rfl ?_
              refine r_iconst d_HR_readItems_156 ic_1 ?_
              refine r_isub d_HR_readItems_157 ?_
              refine r_putI (b := 1) d_HR_readItems_158 fp_HR_29 ⟨rfl, rfl⟩ (by decide) rfl rfl ?_
              refine r_iconst d_HR_readItems_161 ic_0 ?_
              exact rZ_ret d_HR_readItems_162 rfl (Or.inl rfl) H
            · replace H := H.2 hc_134
              refine r_iload d_HR_readItems_137 rfl ?_
              refine r_gets (t := 2) d_HR_readItems_139 (by decide) gs_HR_105 ?_
              refine r_iload d_HR_readItems_142 rfl ?_
              refine r_tald (t := 2) d_HR_readItems_144 (by decide) hi_133 rfl ?_
              refine r_icmp_le (tgt := 163) d_HR_readItems_145 (by decide) (fun hc_145 => ?_) (fun hc_145 => ?_)
              · replace H := H.1 hc_145
                refine r_aload_n (i := 0) d_HR_readItems_163 rfl rfl ?_
                refine r_getR (b := 8) (r := 9) d_HR_readItems_164 fl_HR_15 (by decide) rfl rfl rfl ?_
                refine r_iload d_HR_readItems_167 rfl ?_
                refine r_iload d_HR_readItems_169 rfl ?_
                refine r_iast (b := 9) (i := r4.toNatClampNeg) d_HR_readItems_171 (by decide) rfl hi_133 rfl ?_
                refine r_iinc (v := x4 + 1) (lz := [some (.ref 8), some (.int x1), some (.int x2), some (.int (x3 ||| (1 <<< (r4 &&& 31)))), some (.int (x4 + 1)), some (.int r4), some (.int r8)]) d_HR_readItems_172 rfl (by rw [ic_1]) (by decide) rfl rfl ?_
                refine r_goto (tgt := 33) d_HR_readItems_175 (by decide) ?_
                exact rx_fgt [false, false, false, false, false, true, true] H
              · replace H := H.2 hc_145
                refine r_aload_n (i := 0) d_HR_readItems_148 rfl rfl ?_
                refine r_getR (b := 8) (r := 1) d_HR_readItems_149 fl_HR_25 (by decide) rfl rfl rfl ?_
                refine r_dupr d_HR_readItems_152 ?_
                refine r_getI (b := 1) (v := h7.1 1 2) d_HR_readItems_153 fl_HR_29 (by decide) rfl rfl rfl ?_
                refine r_iconst d_HR_readItems_156 ic_1 ?_
                refine r_isub d_HR_readItems_157 ?_
                refine r_putI (b := 1) d_HR_readItems_158 fp_HR_29 ⟨rfl, rfl⟩ (by decide) rfl rfl ?_
                refine r_iconst d_HR_readItems_161 ic_0 ?_
                exact rZ_ret d_HR_readItems_162 rfl (Or.inl rfl) H
          · replace H := H.1 hc_121
            refine r_iconst d_HR_readItems_124 ic_0 ?_
            exact rZ_ret d_HR_readItems_125 rfl (Or.inl rfl) H
        · replace H := H.1 hc_75
          refine r_iconst d_HR_readItems_78 ic_1 ?_
          exact rZ_ret d_HR_readItems_79 rfl (Or.inr rfl) H
set_option maxHeartbeats 4000000 in
set_option maxRecDepth 20000 in
theorem w_HR_readRoom {G : rx_Gh} {hp : rx_Hp} {F : Int32 → rx_Hp → Prop}  (H : Ev wC G 8 q_HR_readItems [.ref 8, .int 0, .int 4] hp (rI fun r2 h1 => (r2 = 0 → F 0 h1) ∧ (¬ r2 = 0 → F 1 (rx_pf (rx_pf (rx_pf (rx_pf h1 10 5 (h1.2.1 9 0)) 10 6 (h1.2.1 9 1)) 10 7 (h1.2.1 9 2)) 10 8 (h1.2.1 9 3))))) : Ev wC G 9 q_HR_readRoom [.ref 8] hp (rI F) := by
  refine ev_of rfl (Nat.le_of_ble_eq_true rfl) rfl ?_
  show Rn wC G 9 q_HR_readRoom 0 [some (.ref 8)] [] hp (rI F)
  refine r_aload_n (i := 0) d_HR_readRoom_0 rfl rfl ?_
  refine r_iconst d_HR_readRoom_1 ic_0 ?_
  refine r_iconst d_HR_readRoom_2 ic_4 ?_
  refine rc_VI (b := 8) (d' := 8) [.int 0, .int 4] [] d_HR_readRoom_3 ml_HR_78 rfl rfl (by decide) (by decide) rfl rfl (Nat.le_of_ble_eq_true rfl) H ?_
  intro r2 h1 H
  refine r_if_ne (tgt := 11) d_HR_readRoom_6 (by decide) (fun hc_6 => ?_) (fun hc_6 => ?_)
  · replace H := H.2 hc_6
    refine r_aload_n (i := 0) d_HR_readRoom_11 rfl rfl ?_
    refine r_getR (b := 8) (r := 10) d_HR_readRoom_12 fl_HR_21 (by decide) rfl rfl rfl ?_
    refine r_aload_n (i := 0) d_HR_readRoom_15 rfl rfl ?_
    refine r_getR (b := 8) (r := 9) d_HR_readRoom_16 fl_HR_15 (by decide) rfl rfl rfl ?_
    refine r_iconst d_HR_readRoom_19 ic_0 ?_
    refine r_iald (b := 9) (v := h1.2.1 9 0) d_HR_readRoom_20 (by decide) rfl (by unfold vp_in; decide) rfl ?_
    refine r_putI (b := 10) d_HR_readRoom_21 fp_HR_38 ⟨rfl, rfl⟩ (by decide) rfl rfl ?_
    refine r_aload_n (i := 0) d_HR_readRoom_24 rfl rfl ?_
    refine r_getR (b := 8) (r := 10) d_HR_readRoom_25 fl_HR_21 (by decide) rfl rfl rfl ?_
    refine r_aload_n (i := 0) d_HR_readRoom_28 rfl rfl ?_
    refine r_getR (b := 8) (r := 9) d_HR_readRoom_29 fl_HR_15 (by decide) rfl rfl rfl ?_
    refine r_iconst d_HR_readRoom_32 ic_1 ?_
    refine r_iald (b := 9) (v := h1.2.1 9 1) d_HR_readRoom_33 (by decide) rfl (by unfold vp_in; decide) rfl ?_
    refine r_putI (b := 10) d_HR_readRoom_34 fp_HR_41 ⟨rfl, rfl⟩ (by decide) rfl rfl ?_
    refine r_aload_n (i := 0) d_HR_readRoom_37 rfl rfl ?_
    refine r_getR (b := 8) (r := 10) d_HR_readRoom_38 fl_HR_21 (by decide) rfl rfl rfl ?_
    refine r_aload_n (i := 0) d_HR_readRoom_41 rfl rfl ?_
    refine r_getR (b := 8) (r := 9) d_HR_readRoom_42 fl_HR_15 (by decide) rfl rfl rfl ?_
    refine r_iconst d_HR_readRoom_45 ic_2 ?_
    refine r_iald (b := 9) (v := h1.2.1 9 2) d_HR_readRoom_46 (by decide) rfl (by unfold vp_in; decide) rfl ?_
    refine r_putI (b := 10) d_HR_readRoom_47 fp_HR_44 ⟨rfl, rfl⟩ (by decide) rfl rfl ?_
    refine r_aload_n (i := 0) d_HR_readRoom_50 rfl rfl ?_
    refine r_getR (b := 8) (r := 10) d_HR_readRoom_51 fl_HR_21 (by decide) rfl rfl rfl ?_
    refine r_aload_n (i := 0) d_HR_readRoom_54 rfl rfl ?_
    refine r_getR (b := 8) (r := 9) d_HR_readRoom_55 fl_HR_15 (by decide) rfl rfl rfl ?_
    refine r_iconst d_HR_readRoom_58 ic_3 ?_
    refine r_iald (b := 9) (v := h1.2.1 9 3) d_HR_readRoom_59 (by decide) rfl (by unfold vp_in; decide) rfl ?_
    refine r_putI (b := 10) d_HR_readRoom_60 fp_HR_47 ⟨rfl, rfl⟩ (by decide) rfl rfl ?_
    refine r_iconst d_HR_readRoom_63 ic_1 ?_
    exact rZ_ret d_HR_readRoom_64 rfl (Or.inr rfl) H
  · replace H := H.1 hc_6
    refine r_iconst d_HR_readRoom_9 ic_0 ?_
    exact rZ_ret d_HR_readRoom_10 rfl (Or.inl rfl) H
set_option maxHeartbeats 4000000 in
set_option maxRecDepth 20000 in
theorem w_HR_readBody {G : rx_Gh} {hp : rx_Hp} {F : Int32 → rx_Hp → Prop}  (H : Ev wC G 8 q_HR_readItems [.ref 8, .int 4, .int 7] hp (rI fun r2 h1 => (r2 = 0 → F 0 h1) ∧ (¬ r2 = 0 → vp_in (h1.1 10 4) 6 ∧ (F 1 (rx_pf (rx_pa (rx_pa (rx_pa h1 11 ((h1.1 10 4).toNatClampNeg) (h1.2.1 9 4)) 12 ((h1.1 10 4).toNatClampNeg) (h1.2.1 9 5)) 13 ((h1.1 10 4).toNatClampNeg) (h1.2.1 9 6)) 10 4 ((h1.1 10 4) + 1)))))) : Ev wC G 9 q_HR_readBody [.ref 8] hp (rI F) := by
  refine ev_of rfl (Nat.le_of_ble_eq_true rfl) rfl ?_
  show Rn wC G 9 q_HR_readBody 0 [some (.ref 8), none] [] hp (rI F)
  refine r_aload_n (i := 0) d_HR_readBody_0 rfl rfl ?_
  refine r_iconst d_HR_readBody_1 ic_4 ?_
  refine r_gets (t := 0) d_HR_readBody_2 (by decide) gs_HR_9 ?_
  refine r_talen (t := 0) d_HR_readBody_5 (by decide) ?_
  refine rc_VI (b := 8) (d' := 8) [.int 4, .int 7] [] d_HR_readBody_6 ml_HR_78 rfl rfl (by decide) (by decide) rfl rfl (Nat.le_of_ble_eq_true rfl) H ?_
  intro r2 h1 H
  refine r_if_ne (tgt := 14) d_HR_readBody_9 (by decide) (fun hc_9 => ?_) (fun hc_9 => ?_)
  · replace H := H.2 hc_9
    refine r_aload_n (i := 0) d_HR_readBody_14 rfl rfl ?_
    refine r_getR (b := 8) (r := 10) d_HR_readBody_15 fl_HR_21 (by decide) rfl rfl rfl ?_
    refine r_getI (b := 10) (v := h1.1 10 4) d_HR_readBody_18 fl_HR_35 (by decide) rfl rfl rfl ?_
    refine r_istore_n (i := 1) (lz := [some (.ref 8), some (.int (h1.1 10 4))]) d_HR_readBody_21 rfl (by decide) rfl rfl ?_
    refine r_aload_n (i := 0) d_HR_readBody_22 rfl rfl ?_
    refine r_getR (b := 8) (r := 10) d_HR_readBody_23 fl_HR_21 (by decide) rfl rfl rfl ?_
    refine r_getR (b := 10) (r := 11) d_HR_readBody_26 fl_HR_82 (by decide) rfl rfl rfl ?_
    refine r_iload_n (i := 1) d_HR_readBody_29 rfl rfl ?_
    refine r_aload_n (i := 0) d_HR_readBody_30 rfl rfl ?_
    refine r_getR (b := 8) (r := 9) d_HR_readBody_31 fl_HR_15 (by decide) rfl rfl rfl ?_
    refine r_iconst d_HR_readBody_34 ic_4 ?_
    refine r_iald (b := 9) (v := h1.2.1 9 4) d_HR_readBody_35 (by decide) rfl (by unfold vp_in; decide) rfl ?_
    obtain ⟨hi_36, H⟩ := H
    refine r_iast (b := 11) (i := (h1.1 10 4).toNatClampNeg) d_HR_readBody_36 (by decide) rfl hi_36 rfl ?_
    refine r_aload_n (i := 0) d_HR_readBody_37 rfl rfl ?_
    refine r_getR (b := 8) (r := 10) d_HR_readBody_38 fl_HR_21 (by decide) rfl rfl rfl ?_
    refine r_getR (b := 10) (r := 12) d_HR_readBody_41 fl_HR_85 (by decide) rfl rfl rfl ?_
    refine r_iload_n (i := 1) d_HR_readBody_44 rfl rfl ?_
    refine r_aload_n (i := 0) d_HR_readBody_45 rfl rfl ?_
    refine r_getR (b := 8) (r := 9) d_HR_readBody_46 fl_HR_15 (by decide) rfl rfl rfl ?_
    refine r_iconst d_HR_readBody_49 ic_5 ?_
    refine r_iald (b := 9) (v := h1.2.1 9 5) d_HR_readBody_50 (by decide) rfl (by unfold vp_in; decide) rfl ?_
    refine r_iast (b := 12) (i := (h1.1 10 4).toNatClampNeg) d_HR_readBody_51 (by decide) rfl hi_36 rfl ?_
    refine r_aload_n (i := 0) d_HR_readBody_52 rfl rfl ?_
    refine r_getR (b := 8) (r := 10) d_HR_readBody_53 fl_HR_21 (by decide) rfl rfl rfl ?_
    refine r_getR (b := 10) (r := 13) d_HR_readBody_56 fl_HR_88 (by decide) rfl rfl rfl ?_
    refine r_iload_n (i := 1) d_HR_readBody_59 rfl rfl ?_
    refine r_aload_n (i := 0) d_HR_readBody_60 rfl rfl ?_
    refine r_getR (b := 8) (r := 9) d_HR_readBody_61 fl_HR_15 (by decide) rfl rfl rfl ?_
    refine r_bipush d_HR_readBody_64 bp_6 ?_
    refine r_iald (b := 9) (v := h1.2.1 9 6) d_HR_readBody_66 (by decide) rfl (by unfold vp_in; decide) rfl ?_
    refine r_iast (b := 13) (i := (h1.1 10 4).toNatClampNeg) d_HR_readBody_67 (by decide) rfl hi_36 rfl ?_
    refine r_aload_n (i := 0) d_HR_readBody_68 rfl rfl ?_
    refine r_getR (b := 8) (r := 10) d_HR_readBody_69 fl_HR_21 (by decide) rfl rfl rfl ?_
    refine r_dupr d_HR_readBody_72 ?_
    refine r_getI (b := 10) (v := h1.1 10 4) d_HR_readBody_73 fl_HR_35 (by decide) rfl rfl rfl ?_
    refine r_iconst d_HR_readBody_76 ic_1 ?_
    refine r_iadd d_HR_readBody_77 ?_
    refine r_putI (b := 10) d_HR_readBody_78 fp_HR_35 ⟨rfl, rfl⟩ (by decide) rfl rfl ?_
    refine r_iconst d_HR_readBody_81 ic_1 ?_
    exact rZ_ret d_HR_readBody_82 rfl (Or.inr rfl) H
  · replace H := H.1 hc_9
    refine r_iconst d_HR_readBody_12 ic_0 ?_
    exact rZ_ret d_HR_readBody_13 rfl (Or.inl rfl) H
set_option maxHeartbeats 4000000 in
set_option maxRecDepth 20000 in
theorem w_HR_readClause {G : rx_Gh} {hp : rx_Hp} {F : Int32 → rx_Hp → Prop}  (H : Ev wC G 1 q_Ta_look [.ref 1] hp (rI fun r2 h1 => (r2 = 114 → ((h1.1 8 3) = 0 → Ev wC G 9 q_HR_readRoom [.ref 8] (rx_pf (rx_pf h1 1 2 ((h1.1 1 2) + 1)) 8 3 1) (rI fun r4 h3 => (r4 = 0 ∨ r4 = 1) ∧ (F r4 h3))) ∧ (¬ (h1.1 8 3) = 0 → (r2 = 98 → (6 ≤ (h1.1 10 4) → F 0 h1) ∧ (¬ 6 ≤ (h1.1 10 4) → Ev wC G 9 q_HR_readBody [.ref 8] (rx_pf h1 1 2 ((h1.1 1 2) + 1)) (rI fun r6 h5 => (r6 = 0 ∨ r6 = 1) ∧ (F r6 h5)))) ∧ (¬ r2 = 98 → F 0 h1))) ∧ (¬ r2 = 114 → (r2 = 98 → (6 ≤ (h1.1 10 4) → F 0 h1) ∧ (¬ 6 ≤ (h1.1 10 4) → Ev wC G 9 q_HR_readBody [.ref 8] (rx_pf h1 1 2 ((h1.1 1 2) + 1)) (rI fun r8 h7 => (r8 = 0 ∨ r8 = 1) ∧ (F r8 h7)))) ∧ (¬ r2 = 98 → F 0 h1)))) : Ev wC G 10 q_HR_readClause [.ref 8] hp (rI F) := by
  refine ev_of rfl (Nat.le_of_ble_eq_true rfl) rfl ?_
  show Rn wC G 10 q_HR_readClause 0 [some (.ref 8), none] [] hp (rI F)
  refine r_aload_n (i := 0) d_HR_readClause_0 rfl rfl ?_
  refine r_getR (b := 8) (r := 1) d_HR_readClause_1 fl_HR_25 (by decide) rfl rfl rfl ?_
  refine rc_VI (b := 1) (d' := 1) [] [] d_HR_readClause_4 ml_HR_58 rfl rfl (by decide) (by decide) rfl rfl (Nat.le_of_ble_eq_true rfl) H ?_
  intro r2 h1 H
  refine r_istore_n (i := 1) (lz := [some (.ref 8), some (.int r2)]) d_HR_readClause_7 rfl (by decide) rfl rfl ?_
  refine r_iload_n (i := 1) d_HR_readClause_8 rfl rfl ?_
  refine r_bipush d_HR_readClause_9 bp_114 ?_
  refine r_icmp_ne (tgt := 44) d_HR_readClause_11 (by decide) (fun hc_11 => ?_) (fun hc_11 => ?_)
  · replace H := H.2 hc_11
    refine r_iload_n (i := 1) d_HR_readClause_44 rfl rfl ?_
    refine r_bipush d_HR_readClause_45 bp_98 ?_
    refine r_icmp_ne (tgt := 80) d_HR_readClause_47 (by decide) (fun hc_47 => ?_) (fun hc_47 => ?_)
    · replace H := H.2 hc_47
      refine r_iconst d_HR_readClause_80 ic_0 ?_
      exact rZ_ret d_HR_readClause_81 rfl (Or.inl rfl) H
    · replace H := H.1 hc_47
      refine r_aload_n (i := 0) d_HR_readClause_50 rfl rfl ?_
      refine r_getR (b := 8) (r := 10) d_HR_readClause_51 fl_HR_21 (by decide) rfl rfl rfl ?_
      refine r_getI (b := 10) (v := h1.1 10 4) d_HR_readClause_54 fl_HR_35 (by decide) rfl rfl rfl ?_
      refine r_bipush d_HR_readClause_57 bp_6 ?_
      refine r_icmp_ge (tgt := 80) d_HR_readClause_59 (by decide) (fun hc_59 => ?_) (fun hc_59 => ?_)
      · replace H := H.1 hc_59
        refine r_iconst d_HR_readClause_80 ic_0 ?_
        exact rZ_ret d_HR_readClause_81 rfl (Or.inl rfl) H
      · replace H := H.2 hc_59
        refine r_aload_n (i := 0) d_HR_readClause_62 rfl rfl ?_
        refine r_getR (b := 8) (r := 1) d_HR_readClause_63 fl_HR_25 (by decide) rfl rfl rfl ?_
        refine r_dupr d_HR_readClause_66 ?_
        refine r_getI (b := 1) (v := h1.1 1 2) d_HR_readClause_67 fl_HR_29 (by decide) rfl rfl rfl ?_
        refine r_iconst d_HR_readClause_70 ic_1 ?_
        refine r_iadd d_HR_readClause_71 ?_
        refine r_putI (b := 1) d_HR_readClause_72 fp_HR_29 ⟨rfl, rfl⟩ (by decide) rfl rfl ?_
        refine r_aload_n (i := 0) d_HR_readClause_75 rfl rfl ?_
        refine rc_VI (b := 8) (d' := 9) [] [] d_HR_readClause_76 ml_HR_75 rfl rfl (by decide) (by decide) rfl rfl (Nat.le_of_ble_eq_true rfl) H ?_
        intro r8 h7 H
        exact rZ_ret d_HR_readClause_79 rfl H.1 H.2
  · replace H := H.1 hc_11
    refine r_aload_n (i := 0) d_HR_readClause_14 rfl rfl ?_
    refine r_getI (b := 8) (v := h1.1 8 3) d_HR_readClause_15 fl_HR_50 (by decide) rfl rfl rfl ?_
    refine r_if_ne (tgt := 44) d_HR_readClause_18 (by decide) (fun hc_18 => ?_) (fun hc_18 => ?_)
    · replace H := H.2 hc_18
      refine r_iload_n (i := 1) d_HR_readClause_44 rfl rfl ?_
      refine r_bipush d_HR_readClause_45 bp_98 ?_
      refine r_icmp_ne (tgt := 80) d_HR_readClause_47 (by decide) (fun hc_47 => ?_) (fun hc_47 => ?_)
      · replace H := H.2 hc_47
        refine r_iconst d_HR_readClause_80 ic_0 ?_
        exact rZ_ret d_HR_readClause_81 rfl (Or.inl rfl) H
      · replace H := H.1 hc_47
        refine r_aload_n (i := 0) d_HR_readClause_50 rfl rfl ?_
        refine r_getR (b := 8) (r := 10) d_HR_readClause_51 fl_HR_21 (by decide) rfl rfl rfl ?_
        refine r_getI (b := 10) (v := h1.1 10 4) d_HR_readClause_54 fl_HR_35 (by decide) rfl rfl rfl ?_
        refine r_bipush d_HR_readClause_57 bp_6 ?_
        refine r_icmp_ge (tgt := 80) d_HR_readClause_59 (by decide) (fun hc_59 => ?_) (fun hc_59 => ?_)
        · replace H := H.1 hc_59
          refine r_iconst d_HR_readClause_80 ic_0 ?_
          exact rZ_ret d_HR_readClause_81 rfl (Or.inl rfl) H
        · replace H := H.2 hc_59
          refine r_aload_n (i := 0) d_HR_readClause_62 rfl rfl ?_
          refine r_getR (b := 8) (r := 1) d_HR_readClause_63 fl_HR_25 (by decide) rfl rfl rfl ?_
          refine r_dupr d_HR_readClause_66 ?_
          refine r_getI (b := 1) (v := h1.1 1 2) d_HR_readClause_67 fl_HR_29 (by decide) rfl rfl rfl ?_
          refine r_iconst d_HR_readClause_70 ic_1 ?_
          refine r_iadd d_HR_readClause_71 ?_
          refine r_putI (b := 1) d_HR_readClause_72 fp_HR_29 ⟨rfl, rfl⟩ (by decide) rfl rfl ?_
          refine r_aload_n (i := 0) d_HR_readClause_75 rfl rfl ?_
          refine rc_VI (b := 8) (d' := 9) [] [] d_HR_readClause_76 ml_HR_75 rfl rfl (by decide) (by decide) rfl rfl (Nat.le_of_ble_eq_true rfl) H ?_
          intro r6 h5 H
          exact rZ_ret d_HR_readClause_79 rfl H.1 H.2
    · replace H := H.1 hc_18
      refine r_aload_n (i := 0) d_HR_readClause_21 rfl rfl ?_
      refine r_getR (b := 8) (r := 1) d_HR_readClause_22 fl_HR_25 (by decide) rfl rfl rfl ?_
      refine r_dupr d_HR_readClause_25 ?_
      refine r_getI (b := 1) (v := h1.1 1 2) d_HR_readClause_26 fl_HR_29 (by decide) rfl rfl rfl ?_
      refine r_iconst d_HR_readClause_29 ic_1 ?_
      refine r_iadd d_HR_readClause_30 ?_
      refine r_putI (b := 1) d_HR_readClause_31 fp_HR_29 ⟨rfl, rfl⟩ (by decide) rfl rfl ?_
      refine r_aload_n (i := 0) d_HR_readClause_34 rfl rfl ?_
      refine r_iconst d_HR_readClause_35 ic_1 ?_
      refine r_putI (b := 8) d_HR_readClause_36 fp_HR_50 ⟨rfl, rfl⟩ (by decide) rfl rfl ?_
      refine r_aload_n (i := 0) d_HR_readClause_39 rfl rfl ?_
      refine rc_VI (b := 8) (d' := 9) [] [] d_HR_readClause_40 ml_HR_72 rfl rfl (by decide) (by decide) rfl rfl (Nat.le_of_ble_eq_true rfl) H ?_
      intro r4 h3 H
      exact rZ_ret d_HR_readClause_43 rfl H.1 H.2
set_option maxHeartbeats 4000000 in
set_option maxRecDepth 20000 in
theorem w_HR_read {G : rx_Gh} {hp : rx_Hp} {F : Int32 → rx_Hp → Prop}  (H : Rn wC G 11 q_HR_read 71 [some (.ref 8), some (.int 0)] [] (rx_pf (rx_pf (rx_pf (rx_pf (rx_pf (rx_pf (rx_pf hp 1 2 0) 10 4 0) 10 5 10) 10 6 8) 10 7 15) 10 8 10) 8 3 0) (rI F)) : Ev wC G 11 q_HR_read [.ref 8] hp (rI F) := by
  refine ev_of rfl (Nat.le_of_ble_eq_true rfl) rfl ?_
  show Rn wC G 11 q_HR_read 0 [some (.ref 8), none] [] hp (rI F)
  refine r_aload_n (i := 0) d_HR_read_0 rfl rfl ?_
  refine r_getR (b := 8) (r := 1) d_HR_read_1 fl_HR_25 (by decide) rfl rfl rfl ?_
  refine r_iconst d_HR_read_4 ic_0 ?_
  refine r_putI (b := 1) d_HR_read_5 fp_HR_29 ⟨rfl, rfl⟩ (by decide) rfl rfl ?_
  refine r_aload_n (i := 0) d_HR_read_8 rfl rfl ?_
  refine r_getR (b := 8) (r := 10) d_HR_read_9 fl_HR_21 (by decide) rfl rfl rfl ?_
  refine r_iconst d_HR_read_12 ic_0 ?_
  refine r_putI (b := 10) d_HR_read_13 fp_HR_35 ⟨rfl, rfl⟩ (by decide) rfl rfl ?_
  refine r_aload_n (i := 0) d_HR_read_16 rfl rfl ?_
  refine r_getR (b := 8) (r := 10) d_HR_read_17 fl_HR_21 (by decide) rfl rfl rfl ?_
  refine r_gets (t := 0) d_HR_read_20 (by decide) gs_HR_9 ?_
  refine r_iconst d_HR_read_23 ic_0 ?_
  refine r_tald (t := 0) (v := 10) d_HR_read_24 (by decide) (by unfold vp_in; decide) (by decide) ?_
  refine r_putI (b := 10) d_HR_read_25 fp_HR_38 ⟨rfl, rfl⟩ (by decide) rfl rfl ?_
  refine r_aload_n (i := 0) d_HR_read_28 rfl rfl ?_
  refine r_getR (b := 8) (r := 10) d_HR_read_29 fl_HR_21 (by decide) rfl rfl rfl ?_
  refine r_gets (t := 0) d_HR_read_32 (by decide) gs_HR_9 ?_
  refine r_iconst d_HR_read_35 ic_1 ?_
  refine r_tald (t := 0) (v := 8) d_HR_read_36 (by decide) (by unfold vp_in; decide) (by decide) ?_
  refine r_putI (b := 10) d_HR_read_37 fp_HR_41 ⟨rfl, rfl⟩ (by decide) rfl rfl ?_
  refine r_aload_n (i := 0) d_HR_read_40 rfl rfl ?_
  refine r_getR (b := 8) (r := 10) d_HR_read_41 fl_HR_21 (by decide) rfl rfl rfl ?_
  refine r_gets (t := 0) d_HR_read_44 (by decide) gs_HR_9 ?_
  refine r_iconst d_HR_read_47 ic_2 ?_
  refine r_tald (t := 0) (v := 15) d_HR_read_48 (by decide) (by unfold vp_in; decide) (by decide) ?_
  refine r_putI (b := 10) d_HR_read_49 fp_HR_44 ⟨rfl, rfl⟩ (by decide) rfl rfl ?_
  refine r_aload_n (i := 0) d_HR_read_52 rfl rfl ?_
  refine r_getR (b := 8) (r := 10) d_HR_read_53 fl_HR_21 (by decide) rfl rfl rfl ?_
  refine r_gets (t := 0) d_HR_read_56 (by decide) gs_HR_9 ?_
  refine r_iconst d_HR_read_59 ic_3 ?_
  refine r_tald (t := 0) (v := 10) d_HR_read_60 (by decide) (by unfold vp_in; decide) (by decide) ?_
  refine r_putI (b := 10) d_HR_read_61 fp_HR_47 ⟨rfl, rfl⟩ (by decide) rfl rfl ?_
  refine r_aload_n (i := 0) d_HR_read_64 rfl rfl ?_
  refine r_iconst d_HR_read_65 ic_0 ?_
  refine r_putI (b := 8) d_HR_read_66 fp_HR_50 ⟨rfl, rfl⟩ (by decide) rfl rfl ?_
  refine r_iconst d_HR_read_69 ic_0 ?_
  refine r_istore_n (i := 1) (lz := [some (.ref 8), some (.int 0)]) d_HR_read_70 rfl (by decide) rfl rfl ?_
  exact H
set_option maxHeartbeats 4000000 in
set_option maxRecDepth 20000 in
theorem w_HR_read_71 {G : rx_Gh} {hp : rx_Hp} {F : Int32 → rx_Hp → Prop} (x1 : Int32) (H : (7 < x1 → F (hp.1 1 2) hp) ∧ (¬ 7 < x1 → Ev wC G 10 q_HR_readClause [.ref 8] hp (rI fun r2 h1 => (r2 = 0 → F (h1.1 1 2) h1) ∧ (¬ r2 = 0 → Ev wC G 1 q_Ta_look [.ref 1] h1 (rI fun r4 h3 => (r4 = 0 → Ev wC G 2 q_HR_isWhole [.ref 8] h3 (rI fun r6 h5 => F ((if r6 = 0 then (h5.1 1 1) else (-1)) : Int32) h5)) ∧ (¬ r4 = 0 → Ev wC G 2 q_Ta_take [.ref 1, .int 59] h3 (rI fun r8 h7 => (r8 = 0 → F (h7.1 1 2) h7) ∧ (¬ r8 = 0 → Rn wC G 11 q_HR_read 71 [some (.ref 8), some (.int (x1 + 1))] [] h7 (rI F))))))))) : Rn wC G 11 q_HR_read 71 [some (.ref 8), some (.int x1)] [] hp (rI F) := by
  refine r_iload_n (i := 1) d_HR_read_71 rfl rfl ?_
  refine r_bipush d_HR_read_72 bp_7 ?_
  refine r_icmp_gt (tgt := 147) d_HR_read_74 (by decide) (fun hc_74 => ?_) (fun hc_74 => ?_)
  · replace H := H.1 hc_74
    refine r_aload_n (i := 0) d_HR_read_147 rfl rfl ?_
    refine r_getR (b := 8) (r := 1) d_HR_read_148 fl_HR_25 (by decide) rfl rfl rfl ?_
    refine r_getI (b := 1) (v := hp.1 1 2) d_HR_read_151 fl_HR_29 (by decide) rfl rfl rfl ?_
    exact rI_ret d_HR_read_154 rfl H
  · replace H := H.2 hc_74
    refine r_aload_n (i := 0) d_HR_read_77 rfl rfl ?_
    refine rc_VI (b := 8) (d' := 10) [] [] d_HR_read_78 ml_HR_54 rfl rfl (by decide) (by decide) rfl rfl (Nat.le_of_ble_eq_true rfl) H ?_
    intro r2 h1 H
    refine r_if_ne (tgt := 92) d_HR_read_81 (by decide) (fun hc_81 => ?_) (fun hc_81 => ?_)
    · replace H := H.2 hc_81
      refine r_aload_n (i := 0) d_HR_read_92 rfl rfl ?_
      refine r_getR (b := 8) (r := 1) d_HR_read_93 fl_HR_25 (by decide) rfl rfl rfl ?_
      refine rc_VI (b := 1) (d' := 1) [] [] d_HR_read_96 ml_HR_58 rfl rfl (by decide) (by decide) rfl rfl (Nat.le_of_ble_eq_true rfl) H ?_
      intro r4 h3 H
      refine r_if_ne (tgt := 121) d_HR_read_99 (by decide) (fun hc_99 => ?_) (fun hc_99 => ?_)
      · replace H := H.2 hc_99
        refine r_aload_n (i := 0) d_HR_read_121 rfl rfl ?_
        refine r_getR (b := 8) (r := 1) d_HR_read_122 fl_HR_25 (by decide) rfl rfl rfl ?_
        refine r_bipush d_HR_read_125 bp_59 ?_
        refine rc_VI (b := 1) (d' := 2) [.int 59] [] d_HR_read_127 ml_HR_68 rfl rfl (by decide) (by decide) rfl rfl (Nat.le_of_ble_eq_true rfl) H ?_
        intro r8 h7 H
        refine r_if_ne (tgt := 141) d_HR_read_130 (by decide) (fun hc_130 => ?_) (fun hc_130 => ?_)
        · replace H := H.2 hc_130
          refine r_iinc (v := x1 + 1) (lz := [some (.ref 8), some (.int (x1 + 1))]) d_HR_read_141 rfl (by rw [ic_1]) (by decide) rfl rfl ?_
          refine r_goto (tgt := 71) d_HR_read_144 (by decide) ?_
          exact H
        · replace H := H.1 hc_130
          refine r_aload_n (i := 0) d_HR_read_133 rfl rfl ?_
          refine r_getR (b := 8) (r := 1) d_HR_read_134 fl_HR_25 (by decide) rfl rfl rfl ?_
          refine r_getI (b := 1) (v := h7.1 1 2) d_HR_read_137 fl_HR_29 (by decide) rfl rfl rfl ?_
          exact rI_ret d_HR_read_140 rfl H
      · replace H := H.1 hc_99
        refine r_aload_n (i := 0) d_HR_read_102 rfl rfl ?_
        refine rc_VI (b := 8) (d' := 2) [] [] d_HR_read_103 ml_HR_62 rfl rfl (by decide) (by decide) rfl rfl (Nat.le_of_ble_eq_true rfl) H ?_
        intro r6 h5 H
        have J106 : ∀ (v106_0 : Int32), v106_0 = ((if r6 = 0 then (h5.1 1 1) else (-1)) : Int32) → Rn wC G 11 q_HR_read 120 [some (.ref 8), some (.int x1)] [.int v106_0] h5 (rI F) := by
          rintro _ rfl
          exact rI_ret d_HR_read_120 rfl H
        refine r_if_eq (tgt := 113) d_HR_read_106 (by decide) (fun hc_106 => ?_) (fun hc_106 => ?_)
        · refine r_aload_n (i := 0) d_HR_read_113 rfl rfl ?_
          refine r_getR (b := 8) (r := 1) d_HR_read_114 fl_HR_25 (by decide) rfl rfl rfl ?_
          refine r_getI (b := 1) (v := h5.1 1 1) d_HR_read_117 fl_HR_65 (by decide) rfl rfl rfl ?_
          exact J106 _ (((if_pos hc_106).trans rfl)).symm
        · refine r_iconst d_HR_read_109 ic_m1 ?_
          refine r_goto (tgt := 120) d_HR_read_110 (by decide) ?_
          exact J106 _ (((if_neg hc_106).trans rfl)).symm
    · replace H := H.1 hc_81
      refine r_aload_n (i := 0) d_HR_read_84 rfl rfl ?_
      refine r_getR (b := 8) (r := 1) d_HR_read_85 fl_HR_25 (by decide) rfl rfl rfl ?_
      refine r_getI (b := 1) (v := h1.1 1 2) d_HR_read_88 fl_HR_29 (by decide) rfl rfl rfl ?_
      exact rI_ret d_HR_read_91 rfl H

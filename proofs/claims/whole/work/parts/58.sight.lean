theorem d_Si_blocks_0 : decode q_Si_blocks.2.1 0 = .ok (.aload_n 0, 1) := by decide +kernel
theorem d_Si_blocks_1 : decode q_Si_blocks.2.1 1 = .ok (.getfield 78, 3) := by decide +kernel
theorem fl_Si_78 : rx_F "GlassRoom$Sight" 78 9 5 := ⟨(RX9, TX9, 9), rfl, by decide, (rx_s2 17 rfl rfl), rx_T9⟩
theorem d_Si_blocks_4 : decode q_Si_blocks.2.1 4 = .ok (.istore_n 2, 1) := by decide +kernel
theorem d_Si_blocks_5 : decode q_Si_blocks.2.1 5 = .ok (.iload_n 2, 1) := by decide +kernel
theorem d_Si_blocks_6 : decode q_Si_blocks.2.1 6 = .ok (.aload_n 0, 1) := by decide +kernel
theorem d_Si_blocks_7 : decode q_Si_blocks.2.1 7 = .ok (.getfield 83, 3) := by decide +kernel
theorem fl_Si_83 : rx_F "GlassRoom$Sight" 83 9 6 := ⟨(RX9, TX9, 9), rfl, by decide, (rx_s2 18 rfl rfl), rx_T9⟩
theorem d_Si_blocks_10 : decode q_Si_blocks.2.1 10 = .ok (.if_icmp .gt 102, 3) := by decide +kernel
theorem d_Si_blocks_112 : decode q_Si_blocks.2.1 112 = .ok (.iconst 0, 1) := by decide +kernel
theorem d_Si_blocks_113 : decode q_Si_blocks.2.1 113 = .ok (.ireturn, 1) := by decide +kernel
theorem d_Si_blocks_13 : decode q_Si_blocks.2.1 13 = .ok (.iload_n 2, 1) := by decide +kernel
theorem d_Si_blocks_14 : decode q_Si_blocks.2.1 14 = .ok (.aload_n 0, 1) := by decide +kernel
theorem d_Si_blocks_15 : decode q_Si_blocks.2.1 15 = .ok (.getfield 9, 3) := by decide +kernel
theorem d_Si_blocks_18 : decode q_Si_blocks.2.1 18 = .ok (.getfield 52, 3) := by decide +kernel
theorem fl_Si_52 : rx_F "GlassRoom$Sight" 52 3 5 := ⟨(RX3, TX3, 9), rfl, by decide, (rx_s1 89 rfl rfl), rx_T3⟩
theorem d_Si_blocks_21 : decode q_Si_blocks.2.1 21 = .ok (.aload_n 0, 1) := by decide +kernel
theorem d_Si_blocks_22 : decode q_Si_blocks.2.1 22 = .ok (.getfield 9, 3) := by decide +kernel
theorem d_Si_blocks_25 : decode q_Si_blocks.2.1 25 = .ok (.getfield 39, 3) := by decide +kernel
theorem fl_Si_39 : rx_F "GlassRoom$Sight" 39 3 0 := ⟨(RX3, TX3, 9), rfl, by decide, (rx_s1 63 rfl rfl), rx_T3⟩
theorem d_Si_blocks_28 : decode q_Si_blocks.2.1 28 = .ok (.iload_n 1, 1) := by decide +kernel
theorem d_Si_blocks_29 : decode q_Si_blocks.2.1 29 = .ok (.iaload, 1) := by decide +kernel
theorem d_Si_blocks_30 : decode q_Si_blocks.2.1 30 = .ok (.invokestatic 55, 3) := by decide +kernel
theorem d_Si_blocks_33 : decode q_Si_blocks.2.1 33 = .ok (.aload_n 0, 1) := by decide +kernel
theorem d_Si_blocks_34 : decode q_Si_blocks.2.1 34 = .ok (.getfield 43, 3) := by decide +kernel
theorem fl_Si_43 : rx_F "GlassRoom$Sight" 43 9 1 := ⟨(RX9, TX9, 9), rfl, by decide, (rx_s2 13 rfl rfl), rx_T9⟩
theorem d_Si_blocks_37 : decode q_Si_blocks.2.1 37 = .ok (.isub, 1) := by decide +kernel
theorem d_Si_blocks_38 : decode q_Si_blocks.2.1 38 = .ok (.istore_n 3, 1) := by decide +kernel
theorem d_Si_blocks_39 : decode q_Si_blocks.2.1 39 = .ok (.aload_n 0, 1) := by decide +kernel
theorem d_Si_blocks_40 : decode q_Si_blocks.2.1 40 = .ok (.getfield 59, 3) := by decide +kernel
theorem d_Si_blocks_43 : decode q_Si_blocks.2.1 43 = .ok (.ifCond .ne 15, 3) := by decide +kernel
theorem d_Si_blocks_46 : decode q_Si_blocks.2.1 46 = .ok (.iload_n 3, 1) := by decide +kernel
theorem d_Si_blocks_47 : decode q_Si_blocks.2.1 47 = .ok (.ifCond .ne 7, 3) := by decide +kernel
theorem d_Si_blocks_50 : decode q_Si_blocks.2.1 50 = .ok (.iconst 1, 1) := by decide +kernel
theorem d_Si_blocks_51 : decode q_Si_blocks.2.1 51 = .ok (.goto 37, 3) := by decide +kernel
theorem d_Si_blocks_54 : decode q_Si_blocks.2.1 54 = .ok (.iconst 0, 1) := by decide +kernel
theorem d_Si_blocks_55 : decode q_Si_blocks.2.1 55 = .ok (.goto 33, 3) := by decide +kernel
theorem d_Si_blocks_58 : decode q_Si_blocks.2.1 58 = .ok (.iload_n 3, 1) := by decide +kernel
theorem d_Si_blocks_59 : decode q_Si_blocks.2.1 59 = .ok (.aload_n 0, 1) := by decide +kernel
theorem d_Si_blocks_60 : decode q_Si_blocks.2.1 60 = .ok (.getfield 59, 3) := by decide +kernel
theorem d_Si_blocks_63 : decode q_Si_blocks.2.1 63 = .ok (.invokestatic 99, 3) := by decide +kernel
theorem d_Si_blocks_66 : decode q_Si_blocks.2.1 66 = .ok (.ifCond .eq 21, 3) := by decide +kernel
theorem d_Si_blocks_87 : decode q_Si_blocks.2.1 87 = .ok (.iconst 0, 1) := by decide +kernel
theorem d_Si_blocks_69 : decode q_Si_blocks.2.1 69 = .ok (.iload_n 3, 1) := by decide +kernel
theorem d_Si_blocks_70 : decode q_Si_blocks.2.1 70 = .ok (.aload_n 0, 1) := by decide +kernel
theorem d_Si_blocks_71 : decode q_Si_blocks.2.1 71 = .ok (.getfield 65, 3) := by decide +kernel
theorem d_Si_blocks_74 : decode q_Si_blocks.2.1 74 = .ok (.imul, 1) := by decide +kernel
theorem d_Si_blocks_75 : decode q_Si_blocks.2.1 75 = .ok (.aload_n 0, 1) := by decide +kernel
theorem d_Si_blocks_76 : decode q_Si_blocks.2.1 76 = .ok (.getfield 59, 3) := by decide +kernel
theorem d_Si_blocks_79 : decode q_Si_blocks.2.1 79 = .ok (.irem, 1) := by decide +kernel
theorem d_Si_blocks_80 : decode q_Si_blocks.2.1 80 = .ok (.ifCond .ne 7, 3) := by decide +kernel
theorem d_Si_blocks_83 : decode q_Si_blocks.2.1 83 = .ok (.iconst 1, 1) := by decide +kernel
theorem d_Si_blocks_84 : decode q_Si_blocks.2.1 84 = .ok (.goto 4, 3) := by decide +kernel
theorem d_Si_blocks_88 : decode q_Si_blocks.2.1 88 = .ok (.istore 4, 2) := by decide +kernel
theorem d_Si_blocks_90 : decode q_Si_blocks.2.1 90 = .ok (.iload 4, 2) := by decide +kernel
theorem d_Si_blocks_92 : decode q_Si_blocks.2.1 92 = .ok (.ifCond .eq 14, 3) := by decide +kernel
theorem d_Si_blocks_106 : decode q_Si_blocks.2.1 106 = .ok (.iinc 2 1, 3) := by decide +kernel
theorem d_Si_blocks_109 : decode q_Si_blocks.2.1 109 = .ok (.goto (-104), 3) := by decide +kernel
theorem d_Si_blocks_95 : decode q_Si_blocks.2.1 95 = .ok (.aload_n 0, 1) := by decide +kernel
theorem d_Si_blocks_96 : decode q_Si_blocks.2.1 96 = .ok (.iload_n 1, 1) := by decide +kernel
theorem d_Si_blocks_97 : decode q_Si_blocks.2.1 97 = .ok (.iload_n 3, 1) := by decide +kernel
theorem d_Si_blocks_98 : decode q_Si_blocks.2.1 98 = .ok (.invokevirtual 103, 3) := by decide +kernel
theorem ml_Si_103 : rx_CV "GlassRoom$Sight" 103 q_Si_standsOnWay 2 := ⟨⟨(rx_s4 78 rfl rfl), (rx_s4 80 rfl rfl), (rx_s0 15 rfl rfl)⟩, ⟨(rx_s1 9 rfl rfl), q_Si_standsOnWay_k, ⟨by decide, by decide, by decide +kernel⟩, by decide⟩⟩
theorem d_Si_blocks_101 : decode q_Si_blocks.2.1 101 = .ok (.ifCond .eq 5, 3) := by decide +kernel
theorem d_Si_blocks_104 : decode q_Si_blocks.2.1 104 = .ok (.iconst 1, 1) := by decide +kernel
theorem d_Si_blocks_105 : decode q_Si_blocks.2.1 105 = .ok (.ireturn, 1) := by decide +kernel
theorem d_Si_sees_0 : decode q_Si_sees.2.1 0 = .ok (.iload 5, 2) := by decide +kernel
theorem d_Si_sees_2 : decode q_Si_sees.2.1 2 = .ok (.iload_n 3, 1) := by decide +kernel
theorem d_Si_sees_3 : decode q_Si_sees.2.1 3 = .ok (.iload 4, 2) := by decide +kernel
theorem d_Si_sees_5 : decode q_Si_sees.2.1 5 = .ok (.invokestatic 35, 3) := by decide +kernel
theorem ml_Si_35 : rx_CS "GlassRoom$Sight" 35 q_Ha_isThere 3 := ⟨⟨(rx_s4 63 rfl rfl), (rx_s3 196 rfl rfl)⟩, ⟨(rx_s1 3 rfl rfl), q_Ha_isThere_k, ⟨by decide, by decide, by decide +kernel⟩, by decide⟩⟩
theorem d_Si_sees_8 : decode q_Si_sees.2.1 8 = .ok (.ifCond .ne 5, 3) := by decide +kernel
theorem d_Si_sees_11 : decode q_Si_sees.2.1 11 = .ok (.iconst 0, 1) := by decide +kernel
theorem d_Si_sees_12 : decode q_Si_sees.2.1 12 = .ok (.ireturn, 1) := by decide +kernel
theorem d_Si_sees_13 : decode q_Si_sees.2.1 13 = .ok (.aload_n 0, 1) := by decide +kernel
theorem d_Si_sees_14 : decode q_Si_sees.2.1 14 = .ok (.aload_n 0, 1) := by decide +kernel
theorem d_Si_sees_15 : decode q_Si_sees.2.1 15 = .ok (.getfield 9, 3) := by decide +kernel
theorem d_Si_sees_18 : decode q_Si_sees.2.1 18 = .ok (.getfield 39, 3) := by decide +kernel
theorem d_Si_sees_21 : decode q_Si_sees.2.1 21 = .ok (.iload_n 1, 1) := by decide +kernel
theorem d_Si_sees_22 : decode q_Si_sees.2.1 22 = .ok (.iaload, 1) := by decide +kernel
theorem d_Si_sees_23 : decode q_Si_sees.2.1 23 = .ok (.putfield 43, 3) := by decide +kernel
theorem fp_Si_43 : rx_FP "GlassRoom$Sight" 43 9 1 (.int) := ⟨(RX9, TX9, 9), tyX9, rfl, by decide, (rx_s2 13 rfl rfl), rx_T9, tyX9_ok, nmX9, rfl, rfl⟩
theorem d_Si_sees_26 : decode q_Si_sees.2.1 26 = .ok (.aload_n 0, 1) := by decide +kernel
theorem d_Si_sees_27 : decode q_Si_sees.2.1 27 = .ok (.aload_n 0, 1) := by decide +kernel
theorem d_Si_sees_28 : decode q_Si_sees.2.1 28 = .ok (.getfield 9, 3) := by decide +kernel
theorem d_Si_sees_31 : decode q_Si_sees.2.1 31 = .ok (.getfield 46, 3) := by decide +kernel
theorem d_Si_sees_34 : decode q_Si_sees.2.1 34 = .ok (.iload_n 1, 1) := by decide +kernel
theorem d_Si_sees_35 : decode q_Si_sees.2.1 35 = .ok (.iaload, 1) := by decide +kernel
theorem d_Si_sees_36 : decode q_Si_sees.2.1 36 = .ok (.putfield 49, 3) := by decide +kernel
theorem fp_Si_49 : rx_FP "GlassRoom$Sight" 49 9 2 (.int) := ⟨(RX9, TX9, 9), tyX9, rfl, by decide, (rx_s2 14 rfl rfl), rx_T9, tyX9_ok, nmX9, rfl, rfl⟩
theorem d_Si_sees_39 : decode q_Si_sees.2.1 39 = .ok (.aload_n 0, 1) := by decide +kernel
theorem d_Si_sees_40 : decode q_Si_sees.2.1 40 = .ok (.iload_n 3, 1) := by decide +kernel
theorem d_Si_sees_41 : decode q_Si_sees.2.1 41 = .ok (.aload_n 0, 1) := by decide +kernel
theorem d_Si_sees_42 : decode q_Si_sees.2.1 42 = .ok (.getfield 9, 3) := by decide +kernel
theorem d_Si_sees_45 : decode q_Si_sees.2.1 45 = .ok (.getfield 52, 3) := by decide +kernel
theorem d_Si_sees_48 : decode q_Si_sees.2.1 48 = .ok (.aload_n 0, 1) := by decide +kernel
theorem d_Si_sees_49 : decode q_Si_sees.2.1 49 = .ok (.getfield 9, 3) := by decide +kernel
theorem d_Si_sees_52 : decode q_Si_sees.2.1 52 = .ok (.getfield 39, 3) := by decide +kernel
theorem d_Si_sees_55 : decode q_Si_sees.2.1 55 = .ok (.iload_n 2, 1) := by decide +kernel
theorem d_Si_sees_56 : decode q_Si_sees.2.1 56 = .ok (.iaload, 1) := by decide +kernel
theorem d_Si_sees_57 : decode q_Si_sees.2.1 57 = .ok (.invokestatic 55, 3) := by decide +kernel
theorem d_Si_sees_60 : decode q_Si_sees.2.1 60 = .ok (.aload_n 0, 1) := by decide +kernel
theorem d_Si_sees_61 : decode q_Si_sees.2.1 61 = .ok (.getfield 43, 3) := by decide +kernel
theorem d_Si_sees_64 : decode q_Si_sees.2.1 64 = .ok (.isub, 1) := by decide +kernel
theorem d_Si_sees_65 : decode q_Si_sees.2.1 65 = .ok (.putfield 59, 3) := by decide +kernel
theorem fp_Si_59 : rx_FP "GlassRoom$Sight" 59 9 3 (.int) := ⟨(RX9, TX9, 9), tyX9, rfl, by decide, (rx_s2 15 rfl rfl), rx_T9, tyX9_ok, nmX9, rfl, rfl⟩
theorem d_Si_sees_68 : decode q_Si_sees.2.1 68 = .ok (.aload_n 0, 1) := by decide +kernel
theorem d_Si_sees_69 : decode q_Si_sees.2.1 69 = .ok (.iload 4, 2) := by decide +kernel
theorem d_Si_sees_71 : decode q_Si_sees.2.1 71 = .ok (.aload_n 0, 1) := by decide +kernel
theorem d_Si_sees_72 : decode q_Si_sees.2.1 72 = .ok (.getfield 9, 3) := by decide +kernel
theorem d_Si_sees_75 : decode q_Si_sees.2.1 75 = .ok (.getfield 62, 3) := by decide +kernel
theorem d_Si_sees_78 : decode q_Si_sees.2.1 78 = .ok (.aload_n 0, 1) := by decide +kernel
theorem d_Si_sees_79 : decode q_Si_sees.2.1 79 = .ok (.getfield 9, 3) := by decide +kernel
theorem d_Si_sees_82 : decode q_Si_sees.2.1 82 = .ok (.getfield 46, 3) := by decide +kernel
theorem d_Si_sees_85 : decode q_Si_sees.2.1 85 = .ok (.iload_n 2, 1) := by decide +kernel
theorem d_Si_sees_86 : decode q_Si_sees.2.1 86 = .ok (.iaload, 1) := by decide +kernel
theorem d_Si_sees_87 : decode q_Si_sees.2.1 87 = .ok (.invokestatic 55, 3) := by decide +kernel
theorem d_Si_sees_90 : decode q_Si_sees.2.1 90 = .ok (.aload_n 0, 1) := by decide +kernel
theorem d_Si_sees_91 : decode q_Si_sees.2.1 91 = .ok (.getfield 49, 3) := by decide +kernel
theorem d_Si_sees_94 : decode q_Si_sees.2.1 94 = .ok (.isub, 1) := by decide +kernel
theorem d_Si_sees_95 : decode q_Si_sees.2.1 95 = .ok (.putfield 65, 3) := by decide +kernel
theorem fp_Si_65 : rx_FP "GlassRoom$Sight" 65 9 4 (.int) := ⟨(RX9, TX9, 9), tyX9, rfl, by decide, (rx_s2 16 rfl rfl), rx_T9, tyX9_ok, nmX9, rfl, rfl⟩
theorem d_Si_sees_98 : decode q_Si_sees.2.1 98 = .ok (.aload_n 0, 1) := by decide +kernel
theorem d_Si_sees_99 : decode q_Si_sees.2.1 99 = .ok (.iload 5, 2) := by decide +kernel
theorem d_Si_sees_101 : decode q_Si_sees.2.1 101 = .ok (.invokestatic 68, 3) := by decide +kernel
theorem ml_Si_68 : rx_CS "GlassRoom$Sight" 68 q_Ha_lowI 1 := ⟨⟨(rx_s4 65 rfl rfl), (rx_s3 199 rfl rfl)⟩, ⟨(rx_s1 3 rfl rfl), q_Ha_lowI_k, ⟨by decide, by decide, by decide +kernel⟩, by decide⟩⟩
theorem d_Si_sees_104 : decode q_Si_sees.2.1 104 = .ok (.iload_n 3, 1) := by decide +kernel
theorem d_Si_sees_105 : decode q_Si_sees.2.1 105 = .ok (.iconst 0, 1) := by decide +kernel
theorem d_Si_sees_106 : decode q_Si_sees.2.1 106 = .ok (.invokestatic 71, 3) := by decide +kernel
theorem ml_Si_71 : rx_CS "GlassRoom$Sight" 71 q_Mt_min 2 := ⟨⟨(rx_s4 66 rfl rfl), (rx_s2 223 rfl rfl)⟩, ⟨(rx_s1 16 rfl rfl), q_Mt_min_k, ⟨by decide, by decide, by decide +kernel⟩, by decide⟩⟩
theorem d_Si_sees_109 : decode q_Si_sees.2.1 109 = .ok (.iconst 1, 1) := by decide +kernel
theorem d_Si_sees_110 : decode q_Si_sees.2.1 110 = .ok (.isub, 1) := by decide +kernel
theorem d_Si_sees_111 : decode q_Si_sees.2.1 111 = .ok (.invokestatic 75, 3) := by decide +kernel
theorem ml_Si_75 : rx_CS "GlassRoom$Sight" 75 q_Mt_max 2 := ⟨⟨(rx_s4 67 rfl rfl), (rx_s2 220 rfl rfl)⟩, ⟨(rx_s1 16 rfl rfl), q_Mt_max_k, ⟨by decide, by decide, by decide +kernel⟩, by decide⟩⟩
theorem d_Si_sees_114 : decode q_Si_sees.2.1 114 = .ok (.putfield 78, 3) := by decide +kernel
theorem fp_Si_78 : rx_FP "GlassRoom$Sight" 78 9 5 (.int) := ⟨(RX9, TX9, 9), tyX9, rfl, by decide, (rx_s2 17 rfl rfl), rx_T9, tyX9_ok, nmX9, rfl, rfl⟩
theorem d_Si_sees_117 : decode q_Si_sees.2.1 117 = .ok (.aload_n 0, 1) := by decide +kernel
theorem d_Si_sees_118 : decode q_Si_sees.2.1 118 = .ok (.iload 5, 2) := by decide +kernel
theorem d_Si_sees_120 : decode q_Si_sees.2.1 120 = .ok (.invokestatic 80, 3) := by decide +kernel
theorem ml_Si_80 : rx_CS "GlassRoom$Sight" 80 q_Ha_highI 1 := ⟨⟨(rx_s4 68 rfl rfl), (rx_s3 205 rfl rfl)⟩, ⟨(rx_s1 3 rfl rfl), q_Ha_highI_k, ⟨by decide, by decide, by decide +kernel⟩, by decide⟩⟩
theorem d_Si_sees_123 : decode q_Si_sees.2.1 123 = .ok (.iload_n 3, 1) := by decide +kernel
theorem d_Si_sees_124 : decode q_Si_sees.2.1 124 = .ok (.iconst 0, 1) := by decide +kernel
theorem d_Si_sees_125 : decode q_Si_sees.2.1 125 = .ok (.invokestatic 75, 3) := by decide +kernel
theorem d_Si_sees_128 : decode q_Si_sees.2.1 128 = .ok (.iconst 1, 1) := by decide +kernel
theorem d_Si_sees_129 : decode q_Si_sees.2.1 129 = .ok (.iadd, 1) := by decide +kernel
theorem d_Si_sees_130 : decode q_Si_sees.2.1 130 = .ok (.invokestatic 71, 3) := by decide +kernel
theorem d_Si_sees_133 : decode q_Si_sees.2.1 133 = .ok (.putfield 83, 3) := by decide +kernel
theorem fp_Si_83 : rx_FP "GlassRoom$Sight" 83 9 6 (.int) := ⟨(RX9, TX9, 9), tyX9, rfl, by decide, (rx_s2 18 rfl rfl), rx_T9, tyX9_ok, nmX9, rfl, rfl⟩
theorem d_Si_sees_136 : decode q_Si_sees.2.1 136 = .ok (.aload_n 0, 1) := by decide +kernel
theorem d_Si_sees_137 : decode q_Si_sees.2.1 137 = .ok (.iload 5, 2) := by decide +kernel
theorem d_Si_sees_139 : decode q_Si_sees.2.1 139 = .ok (.invokestatic 85, 3) := by decide +kernel
theorem ml_Si_85 : rx_CS "GlassRoom$Sight" 85 q_Ha_lowJ 1 := ⟨⟨(rx_s4 69 rfl rfl), (rx_s3 211 rfl rfl)⟩, ⟨(rx_s1 3 rfl rfl), q_Ha_lowJ_k, ⟨by decide, by decide, by decide +kernel⟩, by decide⟩⟩
theorem d_Si_sees_142 : decode q_Si_sees.2.1 142 = .ok (.iload 4, 2) := by decide +kernel
theorem d_Si_sees_144 : decode q_Si_sees.2.1 144 = .ok (.iconst 0, 1) := by decide +kernel
theorem d_Si_sees_145 : decode q_Si_sees.2.1 145 = .ok (.invokestatic 71, 3) := by decide +kernel
theorem d_Si_sees_148 : decode q_Si_sees.2.1 148 = .ok (.iconst 1, 1) := by decide +kernel
theorem d_Si_sees_149 : decode q_Si_sees.2.1 149 = .ok (.isub, 1) := by decide +kernel
theorem d_Si_sees_150 : decode q_Si_sees.2.1 150 = .ok (.invokestatic 75, 3) := by decide +kernel
theorem d_Si_sees_153 : decode q_Si_sees.2.1 153 = .ok (.putfield 88, 3) := by decide +kernel
theorem fp_Si_88 : rx_FP "GlassRoom$Sight" 88 9 7 (.int) := ⟨(RX9, TX9, 9), tyX9, rfl, by decide, (rx_s2 19 rfl rfl), rx_T9, tyX9_ok, nmX9, rfl, rfl⟩
theorem d_Si_sees_156 : decode q_Si_sees.2.1 156 = .ok (.aload_n 0, 1) := by decide +kernel
theorem d_Si_sees_157 : decode q_Si_sees.2.1 157 = .ok (.iload 5, 2) := by decide +kernel
theorem d_Si_sees_159 : decode q_Si_sees.2.1 159 = .ok (.invokestatic 90, 3) := by decide +kernel
theorem ml_Si_90 : rx_CS "GlassRoom$Sight" 90 q_Ha_highJ 1 := ⟨⟨(rx_s4 70 rfl rfl), (rx_s3 214 rfl rfl)⟩, ⟨(rx_s1 3 rfl rfl), q_Ha_highJ_k, ⟨by decide, by decide, by decide +kernel⟩, by decide⟩⟩
theorem d_Si_sees_162 : decode q_Si_sees.2.1 162 = .ok (.iload 4, 2) := by decide +kernel
theorem d_Si_sees_164 : decode q_Si_sees.2.1 164 = .ok (.iconst 0, 1) := by decide +kernel
theorem d_Si_sees_165 : decode q_Si_sees.2.1 165 = .ok (.invokestatic 75, 3) := by decide +kernel
theorem d_Si_sees_168 : decode q_Si_sees.2.1 168 = .ok (.iconst 1, 1) := by decide +kernel
theorem d_Si_sees_169 : decode q_Si_sees.2.1 169 = .ok (.iadd, 1) := by decide +kernel
theorem d_Si_sees_170 : decode q_Si_sees.2.1 170 = .ok (.invokestatic 71, 3) := by decide +kernel
theorem d_Si_sees_173 : decode q_Si_sees.2.1 173 = .ok (.putfield 93, 3) := by decide +kernel
theorem fp_Si_93 : rx_FP "GlassRoom$Sight" 93 9 8 (.int) := ⟨(RX9, TX9, 9), tyX9, rfl, by decide, (rx_s2 20 rfl rfl), rx_T9, tyX9_ok, nmX9, rfl, rfl⟩
theorem d_Si_sees_176 : decode q_Si_sees.2.1 176 = .ok (.iconst 0, 1) := by decide +kernel
theorem d_Si_sees_177 : decode q_Si_sees.2.1 177 = .ok (.istore 6, 2) := by decide +kernel
theorem d_Si_sees_179 : decode q_Si_sees.2.1 179 = .ok (.iload 6, 2) := by decide +kernel
theorem d_Si_sees_181 : decode q_Si_sees.2.1 181 = .ok (.aload_n 0, 1) := by decide +kernel
theorem d_Si_sees_182 : decode q_Si_sees.2.1 182 = .ok (.getfield 9, 3) := by decide +kernel
theorem d_Si_sees_185 : decode q_Si_sees.2.1 185 = .ok (.getfield 15, 3) := by decide +kernel
theorem fl_Si_15 : rx_F "GlassRoom$Sight" 15 3 4 := ⟨(RX3, TX3, 9), rfl, by decide, (rx_s1 81 rfl rfl), rx_T3⟩
theorem d_Si_sees_188 : decode q_Si_sees.2.1 188 = .ok (.if_icmp .ge 32, 3) := by decide +kernel
theorem d_Si_sees_220 : decode q_Si_sees.2.1 220 = .ok (.iconst 1, 1) := by decide +kernel
theorem d_Si_sees_221 : decode q_Si_sees.2.1 221 = .ok (.ireturn, 1) := by decide +kernel
theorem d_Si_sees_191 : decode q_Si_sees.2.1 191 = .ok (.iload 6, 2) := by decide +kernel
theorem d_Si_sees_193 : decode q_Si_sees.2.1 193 = .ok (.iload_n 1, 1) := by decide +kernel
theorem d_Si_sees_194 : decode q_Si_sees.2.1 194 = .ok (.if_icmp .eq 20, 3) := by decide +kernel
theorem d_Si_sees_214 : decode q_Si_sees.2.1 214 = .ok (.iinc 6 1, 3) := by decide +kernel
theorem d_Si_sees_217 : decode q_Si_sees.2.1 217 = .ok (.goto (-38), 3) := by decide +kernel
theorem d_Si_sees_197 : decode q_Si_sees.2.1 197 = .ok (.iload 6, 2) := by decide +kernel
theorem d_Si_sees_199 : decode q_Si_sees.2.1 199 = .ok (.iload_n 2, 1) := by decide +kernel
theorem d_Si_sees_200 : decode q_Si_sees.2.1 200 = .ok (.if_icmp .eq 14, 3) := by decide +kernel
theorem d_Si_sees_203 : decode q_Si_sees.2.1 203 = .ok (.aload_n 0, 1) := by decide +kernel
theorem d_Si_sees_204 : decode q_Si_sees.2.1 204 = .ok (.iload 6, 2) := by decide +kernel
theorem d_Si_sees_206 : decode q_Si_sees.2.1 206 = .ok (.invokevirtual 95, 3) := by decide +kernel
theorem ml_Si_95 : rx_CV "GlassRoom$Sight" 95 q_Si_blocks 1 := ⟨⟨(rx_s4 71 rfl rfl), (rx_s4 73 rfl rfl), (rx_s0 14 rfl rfl)⟩, ⟨(rx_s1 9 rfl rfl), q_Si_blocks_k, ⟨by decide, by decide, by decide +kernel⟩, by decide⟩⟩
theorem d_Si_sees_209 : decode q_Si_sees.2.1 209 = .ok (.ifCond .eq 5, 3) := by decide +kernel
theorem d_Si_sees_212 : decode q_Si_sees.2.1 212 = .ok (.iconst 0, 1) := by decide +kernel
theorem d_Si_sees_213 : decode q_Si_sees.2.1 213 = .ok (.ireturn, 1) := by decide +kernel
theorem d_Si_seenImages_0 : decode q_Si_seenImages.2.1 0 = .ok (.iconst 0, 1) := by decide +kernel
theorem d_Si_seenImages_1 : decode q_Si_seenImages.2.1 1 = .ok (.istore 5, 2) := by decide +kernel
theorem d_Si_seenImages_3 : decode q_Si_seenImages.2.1 3 = .ok (.iload_n 3, 1) := by decide +kernel
theorem d_Si_seenImages_4 : decode q_Si_seenImages.2.1 4 = .ok (.ineg, 1) := by decide +kernel
theorem d_Si_seenImages_5 : decode q_Si_seenImages.2.1 5 = .ok (.istore 6, 2) := by decide +kernel
theorem d_Si_seenImages_7 : decode q_Si_seenImages.2.1 7 = .ok (.iload 6, 2) := by decide +kernel
theorem d_Si_seenImages_9 : decode q_Si_seenImages.2.1 9 = .ok (.iload_n 3, 1) := by decide +kernel
theorem d_Si_seenImages_10 : decode q_Si_seenImages.2.1 10 = .ok (.if_icmp .gt 54, 3) := by decide +kernel
theorem d_Si_seenImages_13 : decode q_Si_seenImages.2.1 13 = .ok (.iload_n 3, 1) := by decide +kernel
theorem d_Si_seenImages_14 : decode q_Si_seenImages.2.1 14 = .ok (.iload 6, 2) := by decide +kernel
theorem d_Si_seenImages_16 : decode q_Si_seenImages.2.1 16 = .ok (.invokestatic 25, 3) := by decide +kernel
theorem ml_Si_25 : rx_CS "GlassRoom$Sight" 25 q_Mt_abs 1 := ⟨⟨(rx_s4 90 rfl rfl), (rx_s3 189 rfl rfl)⟩, ⟨(rx_s1 16 rfl rfl), q_Mt_abs_k, ⟨by decide, by decide, by decide +kernel⟩, by decide⟩⟩
theorem d_Si_seenImages_19 : decode q_Si_seenImages.2.1 19 = .ok (.isub, 1) := by decide +kernel
theorem d_Si_seenImages_20 : decode q_Si_seenImages.2.1 20 = .ok (.istore 7, 2) := by decide +kernel
theorem d_Si_seenImages_22 : decode q_Si_seenImages.2.1 22 = .ok (.iload 7, 2) := by decide +kernel
theorem d_Si_seenImages_24 : decode q_Si_seenImages.2.1 24 = .ok (.ineg, 1) := by decide +kernel
theorem d_Si_seenImages_25 : decode q_Si_seenImages.2.1 25 = .ok (.istore 8, 2) := by decide +kernel
theorem d_Si_seenImages_64 : decode q_Si_seenImages.2.1 64 = .ok (.iload 5, 2) := by decide +kernel
theorem d_Si_seenImages_66 : decode q_Si_seenImages.2.1 66 = .ok (.ireturn, 1) := by decide +kernel
theorem d_Si_seenImages_27 : decode q_Si_seenImages.2.1 27 = .ok (.iload 8, 2) := by decide +kernel
theorem d_Si_seenImages_29 : decode q_Si_seenImages.2.1 29 = .ok (.iload 7, 2) := by decide +kernel
theorem d_Si_seenImages_31 : decode q_Si_seenImages.2.1 31 = .ok (.if_icmp .gt 27, 3) := by decide +kernel
theorem d_Si_seenImages_34 : decode q_Si_seenImages.2.1 34 = .ok (.aload_n 0, 1) := by decide +kernel
theorem d_Si_seenImages_35 : decode q_Si_seenImages.2.1 35 = .ok (.iload_n 1, 1) := by decide +kernel
theorem d_Si_seenImages_36 : decode q_Si_seenImages.2.1 36 = .ok (.iload_n 2, 1) := by decide +kernel
theorem d_Si_seenImages_37 : decode q_Si_seenImages.2.1 37 = .ok (.iload 6, 2) := by decide +kernel
theorem d_Si_seenImages_39 : decode q_Si_seenImages.2.1 39 = .ok (.iload 8, 2) := by decide +kernel
theorem d_Si_seenImages_41 : decode q_Si_seenImages.2.1 41 = .ok (.iload 4, 2) := by decide +kernel
theorem d_Si_seenImages_58 : decode q_Si_seenImages.2.1 58 = .ok (.iinc 6 1, 3) := by decide +kernel
theorem d_Si_seenImages_61 : decode q_Si_seenImages.2.1 61 = .ok (.goto (-54), 3) := by decide +kernel
theorem d_Si_seenImages_43 : decode q_Si_seenImages.2.1 43 = .ok (.invokevirtual 31, 3) := by decide +kernel
theorem ml_Si_31 : rx_CV "GlassRoom$Sight" 31 q_Si_sees 5 := ⟨⟨(rx_s4 91 rfl rfl), (rx_s4 60 rfl rfl), (rx_s4 61 rfl rfl)⟩, ⟨(rx_s1 9 rfl rfl), q_Si_sees_k, ⟨by decide, by decide, by decide +kernel⟩, by decide⟩⟩
theorem d_Si_seenImages_46 : decode q_Si_seenImages.2.1 46 = .ok (.ifCond .eq 6, 3) := by decide +kernel
theorem d_Si_seenImages_49 : decode q_Si_seenImages.2.1 49 = .ok (.iinc 5 1, 3) := by decide +kernel
theorem d_Si_seenImages_52 : decode q_Si_seenImages.2.1 52 = .ok (.iinc 8 1, 3) := by decide +kernel
theorem d_Si_seenImages_55 : decode q_Si_seenImages.2.1 55 = .ok (.goto (-28), 3) := by decide +kernel
theorem d_Si_seesAll_0 : decode q_Si_seesAll.2.1 0 = .ok (.iconst 0, 1) := by decide +kernel
theorem d_Si_seesAll_1 : decode q_Si_seesAll.2.1 1 = .ok (.istore 4, 2) := by decide +kernel
theorem d_Si_seesAll_3 : decode q_Si_seesAll.2.1 3 = .ok (.iload 4, 2) := by decide +kernel
theorem d_Si_seesAll_5 : decode q_Si_seesAll.2.1 5 = .ok (.aload_n 0, 1) := by decide +kernel
theorem d_Si_seesAll_6 : decode q_Si_seesAll.2.1 6 = .ok (.getfield 9, 3) := by decide +kernel
theorem d_Si_seesAll_9 : decode q_Si_seesAll.2.1 9 = .ok (.getfield 15, 3) := by decide +kernel
theorem d_Si_seesAll_12 : decode q_Si_seesAll.2.1 12 = .ok (.if_icmp .ge 30, 3) := by decide +kernel
theorem d_Si_seesAll_42 : decode q_Si_seesAll.2.1 42 = .ok (.iconst 1, 1) := by decide +kernel
theorem d_Si_seesAll_43 : decode q_Si_seesAll.2.1 43 = .ok (.ireturn, 1) := by decide +kernel
theorem d_Si_seesAll_15 : decode q_Si_seesAll.2.1 15 = .ok (.iload 4, 2) := by decide +kernel
theorem d_Si_seesAll_17 : decode q_Si_seesAll.2.1 17 = .ok (.iload_n 1, 1) := by decide +kernel
theorem d_Si_seesAll_18 : decode q_Si_seesAll.2.1 18 = .ok (.if_icmp .eq 18, 3) := by decide +kernel
theorem d_Si_seesAll_36 : decode q_Si_seesAll.2.1 36 = .ok (.iinc 4 1, 3) := by decide +kernel
theorem d_Si_seesAll_39 : decode q_Si_seesAll.2.1 39 = .ok (.goto (-36), 3) := by decide +kernel
theorem d_Si_seesAll_21 : decode q_Si_seesAll.2.1 21 = .ok (.aload_n 0, 1) := by decide +kernel
theorem d_Si_seesAll_22 : decode q_Si_seesAll.2.1 22 = .ok (.iload_n 1, 1) := by decide +kernel
theorem d_Si_seesAll_23 : decode q_Si_seesAll.2.1 23 = .ok (.iload 4, 2) := by decide +kernel
theorem d_Si_seesAll_25 : decode q_Si_seesAll.2.1 25 = .ok (.iconst 2, 1) := by decide +kernel
theorem d_Si_seesAll_26 : decode q_Si_seesAll.2.1 26 = .ok (.iload_n 3, 1) := by decide +kernel
theorem d_Si_seesAll_27 : decode q_Si_seesAll.2.1 27 = .ok (.invokevirtual 21, 3) := by decide +kernel
theorem ml_Si_21 : rx_CV "GlassRoom$Sight" 21 q_Si_seenImages 4 := ⟨⟨(rx_s4 106 rfl rfl), (rx_s4 87 rfl rfl), (rx_s4 88 rfl rfl)⟩, ⟨(rx_s1 9 rfl rfl), q_Si_seenImages_k, ⟨by decide, by decide, by decide +kernel⟩, by decide⟩⟩
theorem d_Si_seesAll_30 : decode q_Si_seesAll.2.1 30 = .ok (.iload_n 2, 1) := by decide +kernel
theorem d_Si_seesAll_31 : decode q_Si_seesAll.2.1 31 = .ok (.if_icmp .ge 5, 3) := by decide +kernel
theorem d_Si_seesAll_34 : decode q_Si_seesAll.2.1 34 = .ok (.iconst 0, 1) := by decide +kernel
theorem d_Si_seesAll_35 : decode q_Si_seesAll.2.1 35 = .ok (.ireturn, 1) := by decide +kernel
theorem d_GR_seen_0 : decode q_GR_seen.2.1 0 = .ok (.aload_n 0, 1) := by decide +kernel
theorem d_GR_seen_1 : decode q_GR_seen.2.1 1 = .ok (.iload_n 1, 1) := by decide +kernel
theorem d_GR_seen_2 : decode q_GR_seen.2.1 2 = .ok (.iload_n 2, 1) := by decide +kernel
theorem d_GR_seen_3 : decode q_GR_seen.2.1 3 = .ok (.iload_n 3, 1) := by decide +kernel
theorem d_GR_seen_4 : decode q_GR_seen.2.1 4 = .ok (.invokevirtual 192, 3) := by decide +kernel
theorem d_GR_seen_7 : decode q_GR_seen.2.1 7 = .ok (.ifCond .eq 15, 3) := by decide +kernel
theorem d_GR_seen_22 : decode q_GR_seen.2.1 22 = .ok (.iconst (-1), 1) := by decide +kernel
theorem d_GR_seen_23 : decode q_GR_seen.2.1 23 = .ok (.ireturn, 1) := by decide +kernel
theorem d_GR_seen_10 : decode q_GR_seen.2.1 10 = .ok (.aload_n 0, 1) := by decide +kernel
theorem d_GR_seen_11 : decode q_GR_seen.2.1 11 = .ok (.getfield 19, 3) := by decide +kernel
theorem d_GR_seen_14 : decode q_GR_seen.2.1 14 = .ok (.iload 4, 2) := by decide +kernel
theorem d_GR_seen_16 : decode q_GR_seen.2.1 16 = .ok (.invokevirtual 144, 3) := by decide +kernel
theorem d_GR_seen_19 : decode q_GR_seen.2.1 19 = .ok (.ifCond .ne 5, 3) := by decide +kernel
theorem d_GR_seen_24 : decode q_GR_seen.2.1 24 = .ok (.aload_n 0, 1) := by decide +kernel
theorem d_GR_seen_25 : decode q_GR_seen.2.1 25 = .ok (.getfield 75, 3) := by decide +kernel
theorem fl_GR_75 : rx_F "GlassRoom" 75 11 10 := ⟨(RX11, TX11, 17), rfl, by decide, (rx_s2 109 rfl rfl), rx_T11⟩
theorem d_GR_seen_28 : decode q_GR_seen.2.1 28 = .ok (.iload 4, 2) := by decide +kernel
theorem d_GR_seen_30 : decode q_GR_seen.2.1 30 = .ok (.iload_n 1, 1) := by decide +kernel
theorem d_GR_seen_31 : decode q_GR_seen.2.1 31 = .ok (.iload_n 2, 1) := by decide +kernel
theorem d_GR_seen_32 : decode q_GR_seen.2.1 32 = .ok (.iload_n 3, 1) := by decide +kernel
theorem d_GR_seen_33 : decode q_GR_seen.2.1 33 = .ok (.aload_n 0, 1) := by decide +kernel
theorem d_GR_seen_34 : decode q_GR_seen.2.1 34 = .ok (.getfield 19, 3) := by decide +kernel
theorem d_GR_seen_37 : decode q_GR_seen.2.1 37 = .ok (.getfield 175, 3) := by decide +kernel
theorem d_GR_seen_40 : decode q_GR_seen.2.1 40 = .ok (.invokevirtual 260, 3) := by decide +kernel
theorem ml_GR_260 : rx_CV "GlassRoom" 260 q_Si_sees 5 := ⟨⟨(rx_s4 59 rfl rfl), (rx_s4 60 rfl rfl), (rx_s4 61 rfl rfl)⟩, ⟨(rx_s1 9 rfl rfl), q_Si_sees_k, ⟨by decide, by decide, by decide +kernel⟩, by decide⟩⟩
theorem d_GR_seen_43 : decode q_GR_seen.2.1 43 = .ok (.ifCond .eq 7, 3) := by decide +kernel
theorem d_GR_seen_50 : decode q_GR_seen.2.1 50 = .ok (.iconst 0, 1) := by decide +kernel
theorem d_GR_seen_46 : decode q_GR_seen.2.1 46 = .ok (.iconst 1, 1) := by decide +kernel
theorem d_GR_seen_47 : decode q_GR_seen.2.1 47 = .ok (.goto 4, 3) := by decide +kernel
theorem d_GR_seen_51 : decode q_GR_seen.2.1 51 = .ok (.ireturn, 1) := by decide +kernel
theorem d_GR_view_0 : decode q_GR_view.2.1 0 = .ok (.aload_n 0, 1) := by decide +kernel
theorem d_GR_view_1 : decode q_GR_view.2.1 1 = .ok (.getfield 19, 3) := by decide +kernel
theorem d_GR_view_4 : decode q_GR_view.2.1 4 = .ok (.iload_n 1, 1) := by decide +kernel
theorem d_GR_view_5 : decode q_GR_view.2.1 5 = .ok (.invokevirtual 144, 3) := by decide +kernel
theorem d_GR_view_8 : decode q_GR_view.2.1 8 = .ok (.ifCond .eq 24, 3) := by decide +kernel
theorem d_GR_view_32 : decode q_GR_view.2.1 32 = .ok (.iconst (-1), 1) := by decide +kernel
theorem d_GR_view_33 : decode q_GR_view.2.1 33 = .ok (.ireturn, 1) := by decide +kernel
theorem d_GR_view_11 : decode q_GR_view.2.1 11 = .ok (.aload_n 0, 1) := by decide +kernel
theorem d_GR_view_12 : decode q_GR_view.2.1 12 = .ok (.getfield 19, 3) := by decide +kernel
theorem d_GR_view_15 : decode q_GR_view.2.1 15 = .ok (.iload_n 2, 1) := by decide +kernel
theorem d_GR_view_16 : decode q_GR_view.2.1 16 = .ok (.invokevirtual 144, 3) := by decide +kernel
theorem d_GR_view_19 : decode q_GR_view.2.1 19 = .ok (.ifCond .eq 13, 3) := by decide +kernel
theorem d_GR_view_22 : decode q_GR_view.2.1 22 = .ok (.iload_n 3, 1) := by decide +kernel
theorem d_GR_view_23 : decode q_GR_view.2.1 23 = .ok (.ifCond .lt 9, 3) := by decide +kernel
theorem d_GR_view_26 : decode q_GR_view.2.1 26 = .ok (.iload_n 3, 1) := by decide +kernel
theorem d_GR_view_27 : decode q_GR_view.2.1 27 = .ok (.bipush 6, 2) := by decide +kernel
theorem d_GR_view_29 : decode q_GR_view.2.1 29 = .ok (.if_icmp .le 5, 3) := by decide +kernel
theorem d_GR_view_34 : decode q_GR_view.2.1 34 = .ok (.aload_n 0, 1) := by decide +kernel
theorem d_GR_view_35 : decode q_GR_view.2.1 35 = .ok (.getfield 75, 3) := by decide +kernel
theorem d_GR_view_38 : decode q_GR_view.2.1 38 = .ok (.iload_n 2, 1) := by decide +kernel
theorem d_GR_view_39 : decode q_GR_view.2.1 39 = .ok (.iload_n 1, 1) := by decide +kernel
theorem d_GR_view_40 : decode q_GR_view.2.1 40 = .ok (.iload_n 3, 1) := by decide +kernel
theorem d_GR_view_41 : decode q_GR_view.2.1 41 = .ok (.aload_n 0, 1) := by decide +kernel
theorem d_GR_view_42 : decode q_GR_view.2.1 42 = .ok (.getfield 19, 3) := by decide +kernel
theorem d_GR_view_45 : decode q_GR_view.2.1 45 = .ok (.getfield 175, 3) := by decide +kernel
theorem d_GR_view_48 : decode q_GR_view.2.1 48 = .ok (.invokevirtual 264, 3) := by decide +kernel
theorem ml_GR_264 : rx_CV "GlassRoom" 264 q_Si_seenImages 4 := ⟨⟨(rx_s4 86 rfl rfl), (rx_s4 87 rfl rfl), (rx_s4 88 rfl rfl)⟩, ⟨(rx_s1 9 rfl rfl), q_Si_seenImages_k, ⟨by decide, by decide, by decide +kernel⟩, by decide⟩⟩
theorem d_GR_view_51 : decode q_GR_view.2.1 51 = .ok (.ireturn, 1) := by decide +kernel
theorem d_GR_walls_0 : decode q_GR_walls.2.1 0 = .ok (.aload_n 0, 1) := by decide +kernel
theorem d_GR_walls_1 : decode q_GR_walls.2.1 1 = .ok (.getfield 19, 3) := by decide +kernel
theorem d_GR_walls_4 : decode q_GR_walls.2.1 4 = .ok (.iload_n 1, 1) := by decide +kernel
theorem d_GR_walls_5 : decode q_GR_walls.2.1 5 = .ok (.invokevirtual 144, 3) := by decide +kernel
theorem d_GR_walls_8 : decode q_GR_walls.2.1 8 = .ok (.ifCond .eq 13, 3) := by decide +kernel
theorem d_GR_walls_21 : decode q_GR_walls.2.1 21 = .ok (.iconst (-1), 1) := by decide +kernel
theorem d_GR_walls_22 : decode q_GR_walls.2.1 22 = .ok (.ireturn, 1) := by decide +kernel
theorem d_GR_walls_11 : decode q_GR_walls.2.1 11 = .ok (.iload_n 2, 1) := by decide +kernel
theorem d_GR_walls_12 : decode q_GR_walls.2.1 12 = .ok (.ifCond .lt 9, 3) := by decide +kernel
theorem d_GR_walls_15 : decode q_GR_walls.2.1 15 = .ok (.iload_n 2, 1) := by decide +kernel
theorem d_GR_walls_16 : decode q_GR_walls.2.1 16 = .ok (.bipush 25, 2) := by decide +kernel
theorem bp_25 : (Int8.ofInt (25)).toInt32 = (25 : Int32) := by decide
theorem d_GR_walls_18 : decode q_GR_walls.2.1 18 = .ok (.if_icmp .le 5, 3) := by decide +kernel
theorem d_GR_walls_23 : decode q_GR_walls.2.1 23 = .ok (.iconst 0, 1) := by decide +kernel
theorem d_GR_walls_24 : decode q_GR_walls.2.1 24 = .ok (.istore_n 3, 1) := by decide +kernel
theorem d_GR_walls_25 : decode q_GR_walls.2.1 25 = .ok (.iload_n 3, 1) := by decide +kernel
theorem d_GR_walls_26 : decode q_GR_walls.2.1 26 = .ok (.iconst 4, 1) := by decide +kernel
theorem d_GR_walls_27 : decode q_GR_walls.2.1 27 = .ok (.if_icmp .gt 51, 3) := by decide +kernel
theorem d_GR_walls_78 : decode q_GR_walls.2.1 78 = .ok (.iconst (-1), 1) := by decide +kernel
theorem d_GR_walls_79 : decode q_GR_walls.2.1 79 = .ok (.ireturn, 1) := by decide +kernel
theorem d_GR_walls_30 : decode q_GR_walls.2.1 30 = .ok (.iconst 0, 1) := by decide +kernel
theorem d_GR_walls_31 : decode q_GR_walls.2.1 31 = .ok (.istore 4, 2) := by decide +kernel
theorem d_GR_walls_33 : decode q_GR_walls.2.1 33 = .ok (.iload 4, 2) := by decide +kernel
theorem d_GR_walls_35 : decode q_GR_walls.2.1 35 = .ok (.bipush 15, 2) := by decide +kernel
theorem d_GR_walls_37 : decode q_GR_walls.2.1 37 = .ok (.if_icmp .gt 35, 3) := by decide +kernel
theorem d_GR_walls_72 : decode q_GR_walls.2.1 72 = .ok (.iinc 3 1, 3) := by decide +kernel
theorem d_GR_walls_75 : decode q_GR_walls.2.1 75 = .ok (.goto (-50), 3) := by decide +kernel
theorem d_GR_walls_40 : decode q_GR_walls.2.1 40 = .ok (.iload 4, 2) := by decide +kernel
theorem d_GR_walls_42 : decode q_GR_walls.2.1 42 = .ok (.invokestatic 267, 3) := by decide +kernel
theorem ml_GR_267 : rx_CS "GlassRoom" 267 q_It_bitCount 1 := ⟨⟨(rx_s4 96 rfl rfl), (rx_s4 97 rfl rfl)⟩, ⟨(rx_s1 24 rfl rfl), q_It_bitCount_k, ⟨by decide, by decide, by decide +kernel⟩, by decide⟩⟩
theorem d_GR_walls_45 : decode q_GR_walls.2.1 45 = .ok (.iload_n 3, 1) := by decide +kernel
theorem d_GR_walls_46 : decode q_GR_walls.2.1 46 = .ok (.if_icmp .ne 20, 3) := by decide +kernel
theorem d_GR_walls_49 : decode q_GR_walls.2.1 49 = .ok (.aload_n 0, 1) := by decide +kernel
theorem d_GR_walls_50 : decode q_GR_walls.2.1 50 = .ok (.getfield 75, 3) := by decide +kernel
theorem d_GR_walls_53 : decode q_GR_walls.2.1 53 = .ok (.iload_n 1, 1) := by decide +kernel
theorem d_GR_walls_54 : decode q_GR_walls.2.1 54 = .ok (.iload_n 2, 1) := by decide +kernel
theorem d_GR_walls_55 : decode q_GR_walls.2.1 55 = .ok (.iload 4, 2) := by decide +kernel
theorem d_GR_walls_57 : decode q_GR_walls.2.1 57 = .ok (.invokevirtual 272, 3) := by decide +kernel
theorem ml_GR_272 : rx_CV "GlassRoom" 272 q_Si_seesAll 3 := ⟨⟨(rx_s4 102 rfl rfl), (rx_s4 103 rfl rfl), (rx_s4 104 rfl rfl)⟩, ⟨(rx_s1 9 rfl rfl), q_Si_seesAll_k, ⟨by decide, by decide, by decide +kernel⟩, by decide⟩⟩
theorem d_GR_walls_60 : decode q_GR_walls.2.1 60 = .ok (.ifCond .eq 6, 3) := by decide +kernel
theorem d_GR_walls_66 : decode q_GR_walls.2.1 66 = .ok (.iinc 4 1, 3) := by decide +kernel
theorem d_GR_walls_69 : decode q_GR_walls.2.1 69 = .ok (.goto (-36), 3) := by decide +kernel
theorem d_GR_walls_63 : decode q_GR_walls.2.1 63 = .ok (.iload 4, 2) := by decide +kernel
theorem d_GR_walls_65 : decode q_GR_walls.2.1 65 = .ok (.ireturn, 1) := by decide +kernel
theorem d_M_isSeen_0 : decode q_M_isSeen.2.1 0 = .ok (.aload_n 0, 1) := by decide +kernel
theorem d_M_isSeen_1 : decode q_M_isSeen.2.1 1 = .ok (.iload_n 2, 1) := by decide +kernel
theorem d_M_isSeen_2 : decode q_M_isSeen.2.1 2 = .ok (.iload_n 3, 1) := by decide +kernel
theorem d_M_isSeen_3 : decode q_M_isSeen.2.1 3 = .ok (.invokevirtual 315, 3) := by decide +kernel
theorem d_M_isSeen_6 : decode q_M_isSeen.2.1 6 = .ok (.ifCond .eq 19, 3) := by decide +kernel
theorem d_M_isSeen_25 : decode q_M_isSeen.2.1 25 = .ok (.iconst 0, 1) := by decide +kernel
theorem d_M_isSeen_9 : decode q_M_isSeen.2.1 9 = .ok (.aload_n 0, 1) := by decide +kernel
theorem d_M_isSeen_10 : decode q_M_isSeen.2.1 10 = .ok (.iload_n 1, 1) := by decide +kernel
theorem d_M_isSeen_11 : decode q_M_isSeen.2.1 11 = .ok (.iload_n 2, 1) := by decide +kernel
theorem d_M_isSeen_12 : decode q_M_isSeen.2.1 12 = .ok (.iload_n 3, 1) := by decide +kernel
theorem d_M_isSeen_13 : decode q_M_isSeen.2.1 13 = .ok (.iload 4, 2) := by decide +kernel
theorem d_M_isSeen_26 : decode q_M_isSeen.2.1 26 = .ok (.ireturn, 1) := by decide +kernel
theorem d_M_isSeen_15 : decode q_M_isSeen.2.1 15 = .ok (.invokevirtual 338, 3) := by decide +kernel
theorem ml_M_338 : rx_CV "GlassRoomModel" 338 q_M_isHidden 4 := ⟨⟨(rx_s7 40 rfl rfl), (rx_s7 42 rfl rfl), (rx_s0 64 rfl rfl)⟩, ⟨(rx_s1 13 rfl rfl), q_M_isHidden_k, ⟨by decide, by decide, by decide +kernel⟩, by decide⟩⟩
theorem d_M_isSeen_18 : decode q_M_isSeen.2.1 18 = .ok (.ifCond .ne 7, 3) := by decide +kernel
theorem d_M_isSeen_21 : decode q_M_isSeen.2.1 21 = .ok (.iconst 1, 1) := by decide +kernel
theorem d_M_isSeen_22 : decode q_M_isSeen.2.1 22 = .ok (.goto 4, 3) := by decide +kernel
theorem d_M_seen_0 : decode q_M_seen.2.1 0 = .ok (.aload_n 0, 1) := by decide +kernel
theorem d_M_seen_1 : decode q_M_seen.2.1 1 = .ok (.iload_n 1, 1) := by decide +kernel
theorem d_M_seen_2 : decode q_M_seen.2.1 2 = .ok (.iload_n 2, 1) := by decide +kernel
theorem d_M_seen_3 : decode q_M_seen.2.1 3 = .ok (.iload_n 3, 1) := by decide +kernel
theorem d_M_seen_4 : decode q_M_seen.2.1 4 = .ok (.invokevirtual 305, 3) := by decide +kernel
theorem d_M_seen_7 : decode q_M_seen.2.1 7 = .ok (.ifCond .eq 12, 3) := by decide +kernel
theorem d_M_seen_19 : decode q_M_seen.2.1 19 = .ok (.iconst (-1), 1) := by decide +kernel
theorem d_M_seen_20 : decode q_M_seen.2.1 20 = .ok (.goto 20, 3) := by decide +kernel
theorem d_M_seen_10 : decode q_M_seen.2.1 10 = .ok (.aload_n 0, 1) := by decide +kernel
theorem d_M_seen_11 : decode q_M_seen.2.1 11 = .ok (.iload 4, 2) := by decide +kernel
theorem d_M_seen_13 : decode q_M_seen.2.1 13 = .ok (.invokevirtual 267, 3) := by decide +kernel
theorem d_M_seen_16 : decode q_M_seen.2.1 16 = .ok (.ifCond .ne 7, 3) := by decide +kernel
theorem d_M_seen_23 : decode q_M_seen.2.1 23 = .ok (.aload_n 0, 1) := by decide +kernel
theorem d_M_seen_24 : decode q_M_seen.2.1 24 = .ok (.iload_n 1, 1) := by decide +kernel
theorem d_M_seen_25 : decode q_M_seen.2.1 25 = .ok (.iload_n 2, 1) := by decide +kernel
theorem d_M_seen_26 : decode q_M_seen.2.1 26 = .ok (.iload_n 3, 1) := by decide +kernel
theorem d_M_seen_27 : decode q_M_seen.2.1 27 = .ok (.iload 4, 2) := by decide +kernel
theorem d_M_seen_40 : decode q_M_seen.2.1 40 = .ok (.ireturn, 1) := by decide +kernel
theorem d_M_seen_29 : decode q_M_seen.2.1 29 = .ok (.invokevirtual 341, 3) := by decide +kernel
theorem ml_M_341 : rx_CV "GlassRoomModel" 341 q_M_isSeen 4 := ⟨⟨(rx_s7 36 rfl rfl), (rx_s7 38 rfl rfl), (rx_s0 63 rfl rfl)⟩, ⟨(rx_s1 13 rfl rfl), q_M_isSeen_k, ⟨by decide, by decide, by decide +kernel⟩, by decide⟩⟩
theorem d_M_seen_32 : decode q_M_seen.2.1 32 = .ok (.ifCond .eq 7, 3) := by decide +kernel
theorem d_M_seen_39 : decode q_M_seen.2.1 39 = .ok (.iconst 0, 1) := by decide +kernel
theorem d_M_seen_35 : decode q_M_seen.2.1 35 = .ok (.iconst 1, 1) := by decide +kernel
theorem d_M_seen_36 : decode q_M_seen.2.1 36 = .ok (.goto 4, 3) := by decide +kernel
theorem d_M_viewOf_0 : decode q_M_viewOf.2.1 0 = .ok (.iconst 0, 1) := by decide +kernel
theorem d_M_viewOf_1 : decode q_M_viewOf.2.1 1 = .ok (.istore 4, 2) := by decide +kernel
theorem d_M_viewOf_3 : decode q_M_viewOf.2.1 3 = .ok (.iload_n 3, 1) := by decide +kernel
theorem d_M_viewOf_4 : decode q_M_viewOf.2.1 4 = .ok (.ineg, 1) := by decide +kernel
theorem d_M_viewOf_5 : decode q_M_viewOf.2.1 5 = .ok (.istore 5, 2) := by decide +kernel
theorem d_M_viewOf_7 : decode q_M_viewOf.2.1 7 = .ok (.iload 5, 2) := by decide +kernel
theorem d_M_viewOf_9 : decode q_M_viewOf.2.1 9 = .ok (.iload_n 3, 1) := by decide +kernel
theorem d_M_viewOf_10 : decode q_M_viewOf.2.1 10 = .ok (.if_icmp .gt 59, 3) := by decide +kernel
theorem d_M_viewOf_13 : decode q_M_viewOf.2.1 13 = .ok (.iload_n 3, 1) := by decide +kernel
theorem d_M_viewOf_14 : decode q_M_viewOf.2.1 14 = .ok (.ineg, 1) := by decide +kernel
theorem d_M_viewOf_15 : decode q_M_viewOf.2.1 15 = .ok (.istore 6, 2) := by decide +kernel
theorem d_M_viewOf_69 : decode q_M_viewOf.2.1 69 = .ok (.iload 4, 2) := by decide +kernel
theorem d_M_viewOf_71 : decode q_M_viewOf.2.1 71 = .ok (.ireturn, 1) := by decide +kernel
theorem d_M_viewOf_17 : decode q_M_viewOf.2.1 17 = .ok (.iload 6, 2) := by decide +kernel
theorem d_M_viewOf_19 : decode q_M_viewOf.2.1 19 = .ok (.iload_n 3, 1) := by decide +kernel
theorem d_M_viewOf_20 : decode q_M_viewOf.2.1 20 = .ok (.if_icmp .gt 43, 3) := by decide +kernel
theorem d_M_viewOf_23 : decode q_M_viewOf.2.1 23 = .ok (.iload 4, 2) := by decide +kernel
theorem d_M_viewOf_25 : decode q_M_viewOf.2.1 25 = .ok (.iload 5, 2) := by decide +kernel
theorem d_M_viewOf_27 : decode q_M_viewOf.2.1 27 = .ok (.iload 6, 2) := by decide +kernel
theorem d_M_viewOf_29 : decode q_M_viewOf.2.1 29 = .ok (.invokestatic 309, 3) := by decide +kernel
theorem d_M_viewOf_32 : decode q_M_viewOf.2.1 32 = .ok (.iload_n 3, 1) := by decide +kernel
theorem d_M_viewOf_33 : decode q_M_viewOf.2.1 33 = .ok (.if_icmp .gt 20, 3) := by decide +kernel
theorem d_M_viewOf_53 : decode q_M_viewOf.2.1 53 = .ok (.iconst 0, 1) := by decide +kernel
theorem d_M_viewOf_54 : decode q_M_viewOf.2.1 54 = .ok (.iadd, 1) := by decide +kernel
theorem d_M_viewOf_55 : decode q_M_viewOf.2.1 55 = .ok (.istore 4, 2) := by decide +kernel
theorem d_M_viewOf_57 : decode q_M_viewOf.2.1 57 = .ok (.iinc 6 1, 3) := by decide +kernel
theorem d_M_viewOf_60 : decode q_M_viewOf.2.1 60 = .ok (.goto (-43), 3) := by decide +kernel
theorem d_M_viewOf_63 : decode q_M_viewOf.2.1 63 = .ok (.iinc 5 1, 3) := by decide +kernel
theorem d_M_viewOf_66 : decode q_M_viewOf.2.1 66 = .ok (.goto (-59), 3) := by decide +kernel
theorem d_M_viewOf_36 : decode q_M_viewOf.2.1 36 = .ok (.aload_n 0, 1) := by decide +kernel
theorem d_M_viewOf_37 : decode q_M_viewOf.2.1 37 = .ok (.iload_n 1, 1) := by decide +kernel
theorem d_M_viewOf_38 : decode q_M_viewOf.2.1 38 = .ok (.iload 5, 2) := by decide +kernel
theorem d_M_viewOf_40 : decode q_M_viewOf.2.1 40 = .ok (.iload 6, 2) := by decide +kernel
theorem d_M_viewOf_42 : decode q_M_viewOf.2.1 42 = .ok (.iload_n 2, 1) := by decide +kernel
theorem d_M_viewOf_43 : decode q_M_viewOf.2.1 43 = .ok (.invokevirtual 341, 3) := by decide +kernel
theorem d_M_viewOf_46 : decode q_M_viewOf.2.1 46 = .ok (.ifCond .eq 7, 3) := by decide +kernel
theorem d_M_viewOf_49 : decode q_M_viewOf.2.1 49 = .ok (.iconst 1, 1) := by decide +kernel
theorem d_M_viewOf_50 : decode q_M_viewOf.2.1 50 = .ok (.goto 4, 3) := by decide +kernel
theorem d_M_view_0 : decode q_M_view.2.1 0 = .ok (.aload_n 0, 1) := by decide +kernel
theorem d_M_view_1 : decode q_M_view.2.1 1 = .ok (.iload_n 1, 1) := by decide +kernel
theorem d_M_view_2 : decode q_M_view.2.1 2 = .ok (.invokevirtual 267, 3) := by decide +kernel
theorem d_M_view_5 : decode q_M_view.2.1 5 = .ok (.ifCond .eq 31, 3) := by decide +kernel
theorem d_M_view_36 : decode q_M_view.2.1 36 = .ok (.iconst (-1), 1) := by decide +kernel
theorem d_M_view_8 : decode q_M_view.2.1 8 = .ok (.aload_n 0, 1) := by decide +kernel
theorem d_M_view_9 : decode q_M_view.2.1 9 = .ok (.iload_n 2, 1) := by decide +kernel
theorem d_M_view_10 : decode q_M_view.2.1 10 = .ok (.invokevirtual 267, 3) := by decide +kernel
theorem d_M_view_13 : decode q_M_view.2.1 13 = .ok (.ifCond .eq 23, 3) := by decide +kernel
theorem d_M_view_16 : decode q_M_view.2.1 16 = .ok (.iload_n 3, 1) := by decide +kernel
theorem d_M_view_17 : decode q_M_view.2.1 17 = .ok (.iconst 0, 1) := by decide +kernel
theorem d_M_view_18 : decode q_M_view.2.1 18 = .ok (.bipush 6, 2) := by decide +kernel
theorem d_M_view_20 : decode q_M_view.2.1 20 = .ok (.invokestatic 198, 3) := by decide +kernel
theorem d_M_view_23 : decode q_M_view.2.1 23 = .ok (.ifCond .eq 13, 3) := by decide +kernel
theorem d_M_view_26 : decode q_M_view.2.1 26 = .ok (.aload_n 0, 1) := by decide +kernel
theorem d_M_view_27 : decode q_M_view.2.1 27 = .ok (.iload_n 1, 1) := by decide +kernel
theorem d_M_view_28 : decode q_M_view.2.1 28 = .ok (.iload_n 2, 1) := by decide +kernel
theorem d_M_view_29 : decode q_M_view.2.1 29 = .ok (.iload_n 3, 1) := by decide +kernel
theorem d_M_view_37 : decode q_M_view.2.1 37 = .ok (.ireturn, 1) := by decide +kernel
theorem d_M_view_30 : decode q_M_view.2.1 30 = .ok (.invokevirtual 344, 3) := by decide +kernel
theorem ml_M_344 : rx_CV "GlassRoomModel" 344 q_M_viewOf 3 := ⟨⟨(rx_s7 51 rfl rfl), (rx_s7 53 rfl rfl), (rx_s0 65 rfl rfl)⟩, ⟨(rx_s1 13 rfl rfl), q_M_viewOf_k, ⟨by decide, by decide, by decide +kernel⟩, by decide⟩⟩
theorem d_M_view_33 : decode q_M_view.2.1 33 = .ok (.goto 4, 3) := by decide +kernel
theorem d_M_seesAll_0 : decode q_M_seesAll.2.1 0 = .ok (.iconst 0, 1) := by decide +kernel
theorem d_M_seesAll_1 : decode q_M_seesAll.2.1 1 = .ok (.istore_n 3, 1) := by decide +kernel
theorem d_M_seesAll_2 : decode q_M_seesAll.2.1 2 = .ok (.iload_n 3, 1) := by decide +kernel
theorem d_M_seesAll_3 : decode q_M_seesAll.2.1 3 = .ok (.aload_n 0, 1) := by decide +kernel
theorem d_M_seesAll_4 : decode q_M_seesAll.2.1 4 = .ok (.getfield 236, 3) := by decide +kernel
theorem d_M_seesAll_7 : decode q_M_seesAll.2.1 7 = .ok (.if_icmp .ge 27, 3) := by decide +kernel
theorem d_M_seesAll_34 : decode q_M_seesAll.2.1 34 = .ok (.iconst 1, 1) := by decide +kernel
theorem d_M_seesAll_35 : decode q_M_seesAll.2.1 35 = .ok (.ireturn, 1) := by decide +kernel
theorem d_M_seesAll_10 : decode q_M_seesAll.2.1 10 = .ok (.iload_n 3, 1) := by decide +kernel
theorem d_M_seesAll_11 : decode q_M_seesAll.2.1 11 = .ok (.iload_n 1, 1) := by decide +kernel
theorem d_M_seesAll_12 : decode q_M_seesAll.2.1 12 = .ok (.if_icmp .eq 16, 3) := by decide +kernel
theorem d_M_seesAll_28 : decode q_M_seesAll.2.1 28 = .ok (.iinc 3 1, 3) := by decide +kernel
theorem d_M_seesAll_31 : decode q_M_seesAll.2.1 31 = .ok (.goto (-29), 3) := by decide +kernel
theorem d_M_seesAll_15 : decode q_M_seesAll.2.1 15 = .ok (.aload_n 0, 1) := by decide +kernel
theorem d_M_seesAll_16 : decode q_M_seesAll.2.1 16 = .ok (.iload_n 3, 1) := by decide +kernel
theorem d_M_seesAll_17 : decode q_M_seesAll.2.1 17 = .ok (.iload_n 1, 1) := by decide +kernel
theorem d_M_seesAll_18 : decode q_M_seesAll.2.1 18 = .ok (.iconst 2, 1) := by decide +kernel
theorem d_M_seesAll_19 : decode q_M_seesAll.2.1 19 = .ok (.invokevirtual 344, 3) := by decide +kernel
theorem d_M_seesAll_22 : decode q_M_seesAll.2.1 22 = .ok (.iload_n 2, 1) := by decide +kernel
theorem d_M_seesAll_23 : decode q_M_seesAll.2.1 23 = .ok (.if_icmp .ge 5, 3) := by decide +kernel
theorem d_M_seesAll_26 : decode q_M_seesAll.2.1 26 = .ok (.iconst 0, 1) := by decide +kernel
theorem d_M_seesAll_27 : decode q_M_seesAll.2.1 27 = .ok (.ireturn, 1) := by decide +kernel
theorem d_M_walls_0 : decode q_M_walls.2.1 0 = .ok (.aload_n 0, 1) := by decide +kernel
theorem d_M_walls_1 : decode q_M_walls.2.1 1 = .ok (.iload_n 1, 1) := by decide +kernel
theorem d_M_walls_2 : decode q_M_walls.2.1 2 = .ok (.invokevirtual 267, 3) := by decide +kernel
theorem d_M_walls_5 : decode q_M_walls.2.1 5 = .ok (.ifCond .eq 13, 3) := by decide +kernel
theorem d_M_walls_18 : decode q_M_walls.2.1 18 = .ok (.iconst (-1), 1) := by decide +kernel
theorem d_M_walls_19 : decode q_M_walls.2.1 19 = .ok (.ireturn, 1) := by decide +kernel
theorem d_M_walls_8 : decode q_M_walls.2.1 8 = .ok (.iload_n 2, 1) := by decide +kernel
theorem d_M_walls_9 : decode q_M_walls.2.1 9 = .ok (.iconst 0, 1) := by decide +kernel
theorem d_M_walls_10 : decode q_M_walls.2.1 10 = .ok (.bipush 25, 2) := by decide +kernel
theorem d_M_walls_12 : decode q_M_walls.2.1 12 = .ok (.invokestatic 198, 3) := by decide +kernel
theorem d_M_walls_15 : decode q_M_walls.2.1 15 = .ok (.ifCond .ne 5, 3) := by decide +kernel
theorem d_M_walls_20 : decode q_M_walls.2.1 20 = .ok (.aload_n 0, 1) := by decide +kernel
theorem d_M_walls_21 : decode q_M_walls.2.1 21 = .ok (.getfield 245, 3) := by decide +kernel
theorem d_M_walls_24 : decode q_M_walls.2.1 24 = .ok (.istore_n 3, 1) := by decide +kernel
theorem d_M_walls_25 : decode q_M_walls.2.1 25 = .ok (.iconst (-1), 1) := by decide +kernel
theorem d_M_walls_26 : decode q_M_walls.2.1 26 = .ok (.istore 4, 2) := by decide +kernel
theorem d_M_walls_28 : decode q_M_walls.2.1 28 = .ok (.iconst 0, 1) := by decide +kernel
theorem d_M_walls_29 : decode q_M_walls.2.1 29 = .ok (.istore 5, 2) := by decide +kernel
theorem d_M_walls_31 : decode q_M_walls.2.1 31 = .ok (.iload 5, 2) := by decide +kernel
theorem d_M_walls_33 : decode q_M_walls.2.1 33 = .ok (.bipush 16, 2) := by decide +kernel
theorem d_M_walls_35 : decode q_M_walls.2.1 35 = .ok (.if_icmp .ge 52, 3) := by decide +kernel
theorem d_M_walls_38 : decode q_M_walls.2.1 38 = .ok (.iload 4, 2) := by decide +kernel
theorem d_M_walls_40 : decode q_M_walls.2.1 40 = .ok (.iconst (-1), 1) := by decide +kernel
theorem d_M_walls_41 : decode q_M_walls.2.1 41 = .ok (.if_icmp .eq 16, 3) := by decide +kernel
theorem d_M_walls_57 : decode q_M_walls.2.1 57 = .ok (.aload_n 0, 1) := by decide +kernel
theorem d_M_walls_58 : decode q_M_walls.2.1 58 = .ok (.iload 5, 2) := by decide +kernel
theorem d_M_walls_87 : decode q_M_walls.2.1 87 = .ok (.aload_n 0, 1) := by decide +kernel
theorem d_M_walls_88 : decode q_M_walls.2.1 88 = .ok (.iload_n 3, 1) := by decide +kernel
theorem d_M_walls_89 : decode q_M_walls.2.1 89 = .ok (.putfield 245, 3) := by decide +kernel
theorem d_M_walls_92 : decode q_M_walls.2.1 92 = .ok (.iload 4, 2) := by decide +kernel
theorem d_M_walls_94 : decode q_M_walls.2.1 94 = .ok (.ireturn, 1) := by decide +kernel
theorem d_M_walls_60 : decode q_M_walls.2.1 60 = .ok (.putfield 245, 3) := by decide +kernel
theorem d_M_walls_63 : decode q_M_walls.2.1 63 = .ok (.aload_n 0, 1) := by decide +kernel
theorem d_M_walls_64 : decode q_M_walls.2.1 64 = .ok (.iload_n 1, 1) := by decide +kernel
theorem d_M_walls_65 : decode q_M_walls.2.1 65 = .ok (.iload_n 2, 1) := by decide +kernel
theorem d_M_walls_66 : decode q_M_walls.2.1 66 = .ok (.invokevirtual 352, 3) := by decide +kernel
theorem ml_M_352 : rx_CV "GlassRoomModel" 352 q_M_seesAll 2 := ⟨⟨(rx_s7 60 rfl rfl), (rx_s7 62 rfl rfl), (rx_s0 66 rfl rfl)⟩, ⟨(rx_s1 13 rfl rfl), q_M_seesAll_k, ⟨by decide, by decide, by decide +kernel⟩, by decide⟩⟩
theorem d_M_walls_69 : decode q_M_walls.2.1 69 = .ok (.ifCond .eq 8, 3) := by decide +kernel
theorem d_M_walls_77 : decode q_M_walls.2.1 77 = .ok (.iload 4, 2) := by decide +kernel
theorem d_M_walls_72 : decode q_M_walls.2.1 72 = .ok (.iload 5, 2) := by decide +kernel
theorem d_M_walls_74 : decode q_M_walls.2.1 74 = .ok (.goto 5, 3) := by decide +kernel
theorem d_M_walls_79 : decode q_M_walls.2.1 79 = .ok (.istore 4, 2) := by decide +kernel
theorem d_M_walls_81 : decode q_M_walls.2.1 81 = .ok (.iinc 5 1, 3) := by decide +kernel
theorem d_M_walls_84 : decode q_M_walls.2.1 84 = .ok (.goto (-53), 3) := by decide +kernel
theorem d_M_walls_44 : decode q_M_walls.2.1 44 = .ok (.iload 5, 2) := by decide +kernel
theorem d_M_walls_46 : decode q_M_walls.2.1 46 = .ok (.invokestatic 347, 3) := by decide +kernel
theorem ml_M_347 : rx_CS "GlassRoomModel" 347 q_It_bitCount 1 := ⟨⟨(rx_s7 59 rfl rfl), (rx_s4 97 rfl rfl)⟩, ⟨(rx_s1 24 rfl rfl), q_It_bitCount_k, ⟨by decide, by decide, by decide +kernel⟩, by decide⟩⟩
theorem d_M_walls_49 : decode q_M_walls.2.1 49 = .ok (.iload 4, 2) := by decide +kernel
theorem d_M_walls_51 : decode q_M_walls.2.1 51 = .ok (.invokestatic 347, 3) := by decide +kernel
theorem d_M_walls_54 : decode q_M_walls.2.1 54 = .ok (.if_icmp .ge 27, 3) := by decide +kernel
set_option maxHeartbeats 4000000 in
set_option maxRecDepth 20000 in
theorem w_Si_blocks {G : rx_Gh} {hp : rx_Hp} {F : Int32 → rx_Hp → Prop} (a1 : Int32) (H : Rn wC G 3 q_Si_blocks 5 [some (.ref 43), some (.int a1), some (.int (hp.1 43 5)), none, none] [] hp (rI F)) : Ev wC G 3 q_Si_blocks [.ref 43, .int a1] hp (rI F) := by
  refine ev_of rfl (Nat.le_of_ble_eq_true rfl) rfl ?_
  show Rn wC G 3 q_Si_blocks 0 [some (.ref 43), some (.int a1), none, none, none] [] hp (rI F)
  refine r_aload_n (i := 0) d_Si_blocks_0 rfl rfl ?_
  refine r_getI (b := 43) (v := hp.1 43 5) d_Si_blocks_1 fl_Si_78 (by decide) rfl rfl rfl ?_
  refine r_istore_n (i := 2) (lz := [some (.ref 43), some (.int a1), some (.int (hp.1 43 5)), none, none]) d_Si_blocks_4 rfl (by decide) rfl rfl ?_
  exact H
set_option maxHeartbeats 4000000 in
set_option maxRecDepth 20000 in
theorem w_Si_blocks_5 {G : rx_Gh} {hp : rx_Hp} {F : Int32 → rx_Hp → Prop} (x1 : Int32) (x2 : Int32) (H : ((hp.1 43 6) < x2 → F 0 hp) ∧ (¬ (hp.1 43 6) < x2 → vp_in x1 6 ∧ ((((if (hp.1 43 3) = 0 then ((if ((f_Ha_spot x2 (hp.1 3 5) (hp.2.1 4 x1.toNatClampNeg)) - (hp.1 43 1)) = 0 then 1 else 0) : Int32) else ((if (f_Si_isBetween ((f_Ha_spot x2 (hp.1 3 5) (hp.2.1 4 x1.toNatClampNeg)) - (hp.1 43 1)) (hp.1 43 3)) = 0 then 0 else ((if ((((f_Ha_spot x2 (hp.1 3 5) (hp.2.1 4 x1.toNatClampNeg)) - (hp.1 43 1)) * (hp.1 43 4)) - (((f_Ha_spot x2 (hp.1 3 5) (hp.2.1 4 x1.toNatClampNeg)) - (hp.1 43 1)) * (hp.1 43 4)) / (hp.1 43 3) * (hp.1 43 3)) = 0 then 1 else 0) : Int32)) : Int32)) : Int32) = 0 → Rn wC G 3 q_Si_blocks 5 [some (.ref 43), some (.int x1), some (.int (x2 + 1)), none, none] [] hp (rI F)) ∧ (¬ ((if (hp.1 43 3) = 0 then ((if ((f_Ha_spot x2 (hp.1 3 5) (hp.2.1 4 x1.toNatClampNeg)) - (hp.1 43 1)) = 0 then 1 else 0) : Int32) else ((if (f_Si_isBetween ((f_Ha_spot x2 (hp.1 3 5) (hp.2.1 4 x1.toNatClampNeg)) - (hp.1 43 1)) (hp.1 43 3)) = 0 then 0 else ((if ((((f_Ha_spot x2 (hp.1 3 5) (hp.2.1 4 x1.toNatClampNeg)) - (hp.1 43 1)) * (hp.1 43 4)) - (((f_Ha_spot x2 (hp.1 3 5) (hp.2.1 4 x1.toNatClampNeg)) - (hp.1 43 1)) * (hp.1 43 4)) / (hp.1 43 3) * (hp.1 43 3)) = 0 then 1 else 0) : Int32)) : Int32)) : Int32) = 0 → Ev wC G 2 q_Si_standsOnWay [.ref 43, .int x1, .int ((f_Ha_spot x2 (hp.1 3 5) (hp.2.1 4 x1.toNatClampNeg)) - (hp.1 43 1))] hp (rI fun r2 h1 => (r2 = 0 → Rn wC G 3 q_Si_blocks 5 [some (.ref 43), some (.int x1), some (.int (x2 + 1)), none, none] [] h1 (rI F)) ∧ (¬ r2 = 0 → F 1 h1)))))) : Rn wC G 3 q_Si_blocks 5 [some (.ref 43), some (.int x1), some (.int x2), none, none] [] hp (rI F) := by
  refine r_iload_n (i := 2) d_Si_blocks_5 rfl rfl ?_
  refine r_aload_n (i := 0) d_Si_blocks_6 rfl rfl ?_
  refine r_getI (b := 43) (v := hp.1 43 6) d_Si_blocks_7 fl_Si_83 (by decide) rfl rfl rfl ?_
  refine r_icmp_gt (tgt := 112) d_Si_blocks_10 (by decide) (fun hc_10 => ?_) (fun hc_10 => ?_)
  · replace H := H.1 hc_10
    refine r_iconst d_Si_blocks_112 ic_0 ?_
    exact rZ_ret d_Si_blocks_113 rfl (Or.inl rfl) H
  · replace H := H.2 hc_10
    refine r_iload_n (i := 2) d_Si_blocks_13 rfl rfl ?_
    refine r_aload_n (i := 0) d_Si_blocks_14 rfl rfl ?_
    refine r_getR (b := 43) (r := 3) d_Si_blocks_15 fl_Si_9 (by decide) rfl rfl rfl ?_
    refine r_getI (b := 3) (v := hp.1 3 5) d_Si_blocks_18 fl_Si_52 (by decide) rfl rfl rfl ?_
    refine r_aload_n (i := 0) d_Si_blocks_21 rfl rfl ?_
    refine r_getR (b := 43) (r := 3) d_Si_blocks_22 fl_Si_9 (by decide) rfl rfl rfl ?_
    refine r_getR (b := 3) (r := 4) d_Si_blocks_25 fl_Si_39 (by decide) rfl rfl rfl ?_
    refine r_iload_n (i := 1) d_Si_blocks_28 rfl rfl ?_
    obtain ⟨hi_29, H⟩ := H
    refine r_iald (b := 4) (v := hp.2.1 4 x1.toNatClampNeg) d_Si_blocks_29 (by decide) rfl hi_29 rfl ?_
    have J43 : ∀ (v43_0 : Int32), v43_0 = ((if (hp.1 43 3) = 0 then ((if ((f_Ha_spot x2 (hp.1 3 5) (hp.2.1 4 x1.toNatClampNeg)) - (hp.1 43 1)) = 0 then 1 else 0) : Int32) else ((if (f_Si_isBetween ((f_Ha_spot x2 (hp.1 3 5) (hp.2.1 4 x1.toNatClampNeg)) - (hp.1 43 1)) (hp.1 43 3)) = 0 then 0 else ((if ((((f_Ha_spot x2 (hp.1 3 5) (hp.2.1 4 x1.toNatClampNeg)) - (hp.1 43 1)) * (hp.1 43 4)) - (((f_Ha_spot x2 (hp.1 3 5) (hp.2.1 4 x1.toNatClampNeg)) - (hp.1 43 1)) * (hp.1 43 4)) / (hp.1 43 3) * (hp.1 43 3)) = 0 then 1 else 0) : Int32)) : Int32)) : Int32) → Rn wC G 3 q_Si_blocks 88 [some (.ref 43), some (.int x1), some (.int x2), some (.int ((f_Ha_spot x2 (hp.1 3 5) (hp.2.1 4 x1.toNatClampNeg)) - (hp.1 43 1))), none] [.int v43_0] hp (rI F) := by
      rintro _ rfl
      refine r_istore (lz := [some (.ref 43), some (.int x1), some (.int x2), some (.int ((f_Ha_spot x2 (hp.1 3 5) (hp.2.1 4 x1.toNatClampNeg)) - (hp.1 43 1))), some (.int ((if (hp.1 43 3) = 0 then ((if ((f_Ha_spot x2 (hp.1 3 5) (hp.2.1 4 x1.toNatClampNeg)) - (hp.1 43 1)) = 0 then 1 else 0) : Int32) else ((if (f_Si_isBetween ((f_Ha_spot x2 (hp.1 3 5) (hp.2.1 4 x1.toNatClampNeg)) - (hp.1 43 1)) (hp.1 43 3)) = 0 then 0 else ((if ((((f_Ha_spot x2 (hp.1 3 5) (hp.2.1 4 x1.toNatClampNeg)) - (hp.1 43 1)) * (hp.1 43 4)) - (((f_Ha_spot x2 (hp.1 3 5) (hp.2.1 4 x1.toNatClampNeg)) - (hp.1 43 1)) * (hp.1 43 4)) / (hp.1 43 3) * (hp.1 43 3)) = 0 then 1 else 0) : Int32)) : Int32)) : Int32))]) d_Si_blocks_88 (by decide) rfl rfl ?_
      refine r_iload d_Si_blocks_90 rfl ?_
      refine r_if_eq (tgt := 106) d_Si_blocks_92 (by decide) (fun hc_92 => ?_) (fun hc_92 => ?_)
      · replace H := H.1 hc_92
        refine r_iinc (v := x2 + 1) (lz := [some (.ref 43), some (.int x1), some (.int (x2 + 1)), some (.int ((f_Ha_spot x2 (hp.1 3 5) (hp.2.1 4 x1.toNatClampNeg)) - (hp.1 43 1))), some (.int ((if (hp.1 43 3) = 0 then ((if ((f_Ha_spot x2 (hp.1 3 5) (hp.2.1 4 x1.toNatClampNeg)) - (hp.1 43 1)) = 0 then 1 else 0) : Int32) else ((if (f_Si_isBetween ((f_Ha_spot x2 (hp.1 3 5) (hp.2.1 4 x1.toNatClampNeg)) - (hp.1 43 1)) (hp.1 43 3)) = 0 then 0 else ((if ((((f_Ha_spot x2 (hp.1 3 5) (hp.2.1 4 x1.toNatClampNeg)) - (hp.1 43 1)) * (hp.1 43 4)) - (((f_Ha_spot x2 (hp.1 3 5) (hp.2.1 4 x1.toNatClampNeg)) - (hp.1 43 1)) * (hp.1 43 4)) / (hp.1 43 3) * (hp.1 43 3)) = 0 then 1 else 0) : Int32)) : Int32)) : Int32))]) d_Si_blocks_106 rfl (by rw [ic_1]) (by decide) rfl rfl ?_
        refine r_goto (tgt := 5) d_Si_blocks_109 (by decide) ?_
        exact rx_fgt [false, false, false, true, true] H
      · replace H := H.2 hc_92
        refine r_aload_n (i := 0) d_Si_blocks_95 rfl rfl ?_
        refine r_iload_n (i := 1) d_Si_blocks_96 rfl rfl ?_
        refine r_iload_n (i := 3) d_Si_blocks_97 rfl rfl ?_
        refine rc_VI (b := 43) (d' := 2) [.int x1, .int ((f_Ha_spot x2 (hp.1 3 5) (hp.2.1 4 x1.toNatClampNeg)) - (hp.1 43 1))] [] d_Si_blocks_98 ml_Si_103 rfl rfl (by decide) (by decide) rfl rfl (Nat.le_of_ble_eq_true rfl) H ?_
        intro r2 h1 H
        refine r_if_eq (tgt := 106) d_Si_blocks_101 (by decide) (fun hc_101 => ?_) (fun hc_101 => ?_)
        · replace H := H.1 hc_101
          refine r_iinc (v := x2 + 1) (lz := [some (.ref 43), some (.int x1), some (.int (x2 + 1)), some (.int ((f_Ha_spot x2 (hp.1 3 5) (hp.2.1 4 x1.toNatClampNeg)) - (hp.1 43 1))), some (.int ((if (hp.1 43 3) = 0 then ((if ((f_Ha_spot x2 (hp.1 3 5) (hp.2.1 4 x1.toNatClampNeg)) - (hp.1 43 1)) = 0 then 1 else 0) : Int32) else ((if (f_Si_isBetween ((f_Ha_spot x2 (hp.1 3 5) (hp.2.1 4 x1.toNatClampNeg)) - (hp.1 43 1)) (hp.1 43 3)) = 0 then 0 else ((if ((((f_Ha_spot x2 (hp.1 3 5) (hp.2.1 4 x1.toNatClampNeg)) - (hp.1 43 1)) * (hp.1 43 4)) - (((f_Ha_spot x2 (hp.1 3 5) (hp.2.1 4 x1.toNatClampNeg)) - (hp.1 43 1)) * (hp.1 43 4)) / (hp.1 43 3) * (hp.1 43 3)) = 0 then 1 else 0) : Int32)) : Int32)) : Int32))]) d_Si_blocks_106 rfl (by rw [ic_1]) (by decide) rfl rfl ?_
          refine r_goto (tgt := 5) d_Si_blocks_109 (by decide) ?_
          exact rx_fgt [false, false, false, true, true] H
        · replace H := H.2 hc_101
          refine r_iconst d_Si_blocks_104 ic_1 ?_
          exact rZ_ret d_Si_blocks_105 rfl (Or.inr rfl) H
    refine rk_SI (d' := 1) [.int x2, .int (hp.1 3 5), .int (hp.2.1 4 x1.toNatClampNeg)] [] d_Si_blocks_30 ml_Si_55 rfl rfl (by decide) (Nat.le_of_ble_eq_true rfl) (s_Ha_spot x2 (hp.1 3 5) (hp.2.1 4 x1.toNatClampNeg) ?_)
    refine r_aload_n (i := 0) d_Si_blocks_33 rfl rfl ?_
    refine r_getI (b := 43) (v := hp.1 43 1) d_Si_blocks_34 fl_Si_43 (by decide) rfl rfl rfl ?_
    refine r_isub d_Si_blocks_37 ?_
    refine r_istore_n (i := 3) (lz := [some (.ref 43), some (.int x1), some (.int x2), some (.int ((f_Ha_spot x2 (hp.1 3 5) (hp.2.1 4 x1.toNatClampNeg)) - (hp.1 43 1))), none]) d_Si_blocks_38 rfl (by decide) rfl rfl ?_
    refine r_aload_n (i := 0) d_Si_blocks_39 rfl rfl ?_
    refine r_getI (b := 43) (v := hp.1 43 3) d_Si_blocks_40 fl_Si_59 (by decide) rfl rfl rfl ?_
    refine r_if_ne (tgt := 58) d_Si_blocks_43 (by decide) (fun hc_43 => ?_) (fun hc_43 => ?_)
    · refine r_iload_n (i := 3) d_Si_blocks_58 rfl rfl ?_
      refine r_aload_n (i := 0) d_Si_blocks_59 rfl rfl ?_
      refine r_getI (b := 43) (v := hp.1 43 3) d_Si_blocks_60 fl_Si_59 (by decide) rfl rfl rfl ?_
      refine rk_SI (d' := 1) [.int ((f_Ha_spot x2 (hp.1 3 5) (hp.2.1 4 x1.toNatClampNeg)) - (hp.1 43 1)), .int (hp.1 43 3)] [] d_Si_blocks_63 ml_Si_99 rfl rfl (by decide) (Nat.le_of_ble_eq_true rfl) (s_Si_isBetween ((f_Ha_spot x2 (hp.1 3 5) (hp.2.1 4 x1.toNatClampNeg)) - (hp.1 43 1)) (hp.1 43 3) ?_)
      refine r_if_eq (tgt := 87) d_Si_blocks_66 (by decide) (fun hc_66 => ?_) (fun hc_66 => ?_)
      · refine r_iconst d_Si_blocks_87 ic_0 ?_
        exact J43 _ (((if_neg hc_43).trans ((if_pos hc_66).trans rfl))).symm
      · refine r_iload_n (i := 3) d_Si_blocks_69 rfl rfl ?_
        refine r_aload_n (i := 0) d_Si_blocks_70 rfl rfl ?_
        refine r_getI (b := 43) (v := hp.1 43 4) d_Si_blocks_71 fl_Si_65 (by decide) rfl rfl rfl ?_
        refine r_imul d_Si_blocks_74 ?_
        refine r_aload_n (i := 0) d_Si_blocks_75 rfl rfl ?_
        refine r_getI (b := 43) (v := hp.1 43 3) d_Si_blocks_76 fl_Si_59 (by decide) rfl rfl rfl ?_
        refine r_irem d_Si_blocks_79 hc_43 ?_
        refine r_if_ne (tgt := 87) d_Si_blocks_80 (by decide) (fun hc_80 => ?_) (fun hc_80 => ?_)
        · refine r_iconst d_Si_blocks_87 ic_0 ?_
          exact J43 _ (((if_neg hc_43).trans ((if_neg hc_66).trans ((if_neg hc_80).trans rfl)))).symm
        · refine r_iconst d_Si_blocks_83 ic_1 ?_
          refine r_goto (tgt := 88) d_Si_blocks_84 (by decide) ?_
          exact J43 _ (((if_neg hc_43).trans ((if_neg hc_66).trans ((if_pos hc_80).trans rfl)))).symm
    · refine r_iload_n (i := 3) d_Si_blocks_46 rfl rfl ?_
      refine r_if_ne (tgt := 54) d_Si_blocks_47 (by decide) (fun hc_47 => ?_) (fun hc_47 => ?_)
      · refine r_iconst d_Si_blocks_54 ic_0 ?_
        refine r_goto (tgt := 88) d_Si_blocks_55 (by decide) ?_
        exact J43 _ (((if_pos hc_43).trans ((if_neg hc_47).trans rfl))).symm
      · refine r_iconst d_Si_blocks_50 ic_1 ?_
        refine r_goto (tgt := 88) d_Si_blocks_51 (by decide) ?_
        exact J43 _ (((if_pos hc_43).trans ((if_pos hc_47).trans rfl))).symm
set_option maxHeartbeats 4000000 in
set_option maxRecDepth 20000 in
theorem w_Si_sees {G : rx_Gh} {hp : rx_Hp} {F : Int32 → rx_Hp → Prop} (a1 : Int32) (a2 : Int32) (a3 : Int32) (a4 : Int32) (a5 : Int32) (H : ((f_Ha_isThere a5 a3 a4) = 0 → F 0 hp) ∧ (¬ (f_Ha_isThere a5 a3 a4) = 0 → vp_in a1 6 ∧ (vp_in a2 6 ∧ (Rn wC G 4 q_Si_sees 179 [some (.ref 43), some (.int a1), some (.int a2), none, none, none, some (.int 0)] [] (rx_pf (rx_pf (rx_pf (rx_pf (rx_pf (rx_pf (rx_pf (rx_pf hp 43 1 (hp.2.1 4 a1.toNatClampNeg)) 43 2 (hp.2.1 5 a1.toNatClampNeg)) 43 3 ((f_Ha_spot a3 (hp.1 3 5) (hp.2.1 4 a2.toNatClampNeg)) - (hp.2.1 4 a1.toNatClampNeg))) 43 4 ((f_Ha_spot a4 (hp.1 3 6) (hp.2.1 5 a2.toNatClampNeg)) - (hp.2.1 5 a1.toNatClampNeg))) 43 5 (f_Mt_max (f_Ha_lowI a5) ((f_Mt_min a3 0) - 1))) 43 6 (f_Mt_min (f_Ha_highI a5) ((f_Mt_max a3 0) + 1))) 43 7 (f_Mt_max (f_Ha_lowJ a5) ((f_Mt_min a4 0) - 1))) 43 8 (f_Mt_min (f_Ha_highJ a5) ((f_Mt_max a4 0) + 1))) (rI F))))) : Ev wC G 4 q_Si_sees [.ref 43, .int a1, .int a2, .int a3, .int a4, .int a5] hp (rI F) := by
  refine ev_of rfl (Nat.le_of_ble_eq_true rfl) rfl ?_
  show Rn wC G 4 q_Si_sees 0 [some (.ref 43), some (.int a1), some (.int a2), some (.int a3), some (.int a4), some (.int a5), none] [] hp (rI F)
  refine r_iload d_Si_sees_0 rfl ?_
  refine r_iload_n (i := 3) d_Si_sees_2 rfl rfl ?_
  refine r_iload d_Si_sees_3 rfl ?_
  refine rk_SI (d' := 3) [.int a5, .int a3, .int a4] [] d_Si_sees_5 ml_Si_35 rfl rfl (by decide) (Nat.le_of_ble_eq_true rfl) (s_Ha_isThere a5 a3 a4 ?_)
  refine r_if_ne (tgt := 13) d_Si_sees_8 (by decide) (fun hc_8 => ?_) (fun hc_8 => ?_)
  · replace H := H.2 hc_8
    refine r_aload_n (i := 0) d_Si_sees_13 rfl rfl ?_
    refine r_aload_n (i := 0) d_Si_sees_14 rfl rfl ?_
    refine r_getR (b := 43) (r := 3) d_Si_sees_15 fl_Si_9 (by decide) rfl rfl rfl ?_
    refine r_getR (b := 3) (r := 4) d_Si_sees_18 fl_Si_39 (by decide) rfl rfl rfl ?_
    refine r_iload_n (i := 1) d_Si_sees_21 rfl rfl ?_
    obtain ⟨hi_22, H⟩ := H
    refine r_iald (b := 4) (v := hp.2.1 4 a1.toNatClampNeg) d_Si_sees_22 (by decide) rfl hi_22 rfl ?_
    refine r_putI (b := 43) d_Si_sees_23 fp_Si_43 ⟨rfl, rfl⟩ (by decide) rfl rfl ?_
    refine r_aload_n (i := 0) d_Si_sees_26 rfl rfl ?_
    refine r_aload_n (i := 0) d_Si_sees_27 rfl rfl ?_
    refine r_getR (b := 43) (r := 3) d_Si_sees_28 fl_Si_9 (by decide) rfl rfl rfl ?_
    refine r_getR (b := 3) (r := 5) d_Si_sees_31 fl_Si_46 (by decide) rfl rfl rfl ?_
    refine r_iload_n (i := 1) d_Si_sees_34 rfl rfl ?_
    refine r_iald (b := 5) (v := hp.2.1 5 a1.toNatClampNeg) d_Si_sees_35 (by decide) rfl hi_22 rfl ?_
    refine r_putI (b := 43) d_Si_sees_36 fp_Si_49 ⟨rfl, rfl⟩ (by decide) rfl rfl ?_
    refine r_aload_n (i := 0) d_Si_sees_39 rfl rfl ?_
    refine r_iload_n (i := 3) d_Si_sees_40 rfl rfl ?_
    refine r_aload_n (i := 0) d_Si_sees_41 rfl rfl ?_
    refine r_getR (b := 43) (r := 3) d_Si_sees_42 fl_Si_9 (by decide) rfl rfl rfl ?_
    refine r_getI (b := 3) (v := hp.1 3 5) d_Si_sees_45 fl_Si_52 (by decide) rfl rfl rfl ?_
    refine r_aload_n (i := 0) d_Si_sees_48 rfl rfl ?_
    refine r_getR (b := 43) (r := 3) d_Si_sees_49 fl_Si_9 (by decide) rfl rfl rfl ?_
    refine r_getR (b := 3) (r := 4) d_Si_sees_52 fl_Si_39 (by decide) rfl rfl rfl ?_
    refine r_iload_n (i := 2) d_Si_sees_55 rfl rfl ?_
    obtain ⟨hi_56, H⟩ := H
    refine r_iald (b := 4) (v := hp.2.1 4 a2.toNatClampNeg) d_Si_sees_56 (by decide) rfl hi_56 rfl ?_
    refine rk_SI (d' := 1) [.int a3, .int (hp.1 3 5), .int (hp.2.1 4 a2.toNatClampNeg)] [.ref 43] d_Si_sees_57 ml_Si_55 rfl rfl (by decide) (Nat.le_of_ble_eq_true rfl) (s_Ha_spot a3 (hp.1 3 5) (hp.2.1 4 a2.toNatClampNeg) ?_)
    refine r_aload_n (i := 0) d_Si_sees_60 rfl rfl ?_
    refine r_getI (b := 43) (v := (hp.2.1 4 a1.toNatClampNeg)) d_Si_sees_61 fl_Si_43 (by decide) rfl rfl rfl ?_
    refine r_isub d_Si_sees_64 ?_
    refine r_putI (b := 43) d_Si_sees_65 fp_Si_59 ⟨rfl, rfl⟩ (by decide) rfl rfl ?_
    refine r_aload_n (i := 0) d_Si_sees_68 rfl rfl ?_
    refine r_iload d_Si_sees_69 rfl ?_
    refine r_aload_n (i := 0) d_Si_sees_71 rfl rfl ?_
    refine r_getR (b := 43) (r := 3) d_Si_sees_72 fl_Si_9 (by decide) rfl rfl rfl ?_
    refine r_getI (b := 3) (v := hp.1 3 6) d_Si_sees_75 fl_Si_62 (by decide) rfl rfl rfl ?_
    refine r_aload_n (i := 0) d_Si_sees_78 rfl rfl ?_
    refine r_getR (b := 43) (r := 3) d_Si_sees_79 fl_Si_9 (by decide) rfl rfl rfl ?_
    refine r_getR (b := 3) (r := 5) d_Si_sees_82 fl_Si_46 (by decide) rfl rfl rfl ?_
    refine r_iload_n (i := 2) d_Si_sees_85 rfl rfl ?_
    refine r_iald (b := 5) (v := hp.2.1 5 a2.toNatClampNeg) d_Si_sees_86 (by decide) rfl hi_56 rfl ?_
    refine rk_SI (d' := 1) [.int a4, .int (hp.1 3 6), .int (hp.2.1 5 a2.toNatClampNeg)] [.ref 43] d_Si_sees_87 ml_Si_55 rfl rfl (by decide) (Nat.le_of_ble_eq_true rfl) (s_Ha_spot a4 (hp.1 3 6) (hp.2.1 5 a2.toNatClampNeg) ?_)
    refine r_aload_n (i := 0) d_Si_sees_90 rfl rfl ?_
    refine r_getI (b := 43) (v := (hp.2.1 5 a1.toNatClampNeg)) d_Si_sees_91 fl_Si_49 (by decide) rfl rfl rfl ?_
    refine r_isub d_Si_sees_94 ?_
    refine r_putI (b := 43) d_Si_sees_95 fp_Si_65 ⟨rfl, rfl⟩ (by decide) rfl rfl ?_
    refine r_aload_n (i := 0) d_Si_sees_98 rfl rfl ?_
    refine r_iload d_Si_sees_99 rfl ?_
    refine rk_SI (d' := 2) [.int a5] [.ref 43] d_Si_sees_101 ml_Si_68 rfl rfl (by decide) (Nat.le_of_ble_eq_true rfl) (s_Ha_lowI a5 ?_)
    refine r_iload_n (i := 3) d_Si_sees_104 rfl rfl ?_
    refine r_iconst d_Si_sees_105 ic_0 ?_
    refine rk_SI (d' := 1) [.int a3, .int 0] [.int (f_Ha_lowI a5), .ref 43] d_Si_sees_106 ml_Si_71 rfl rfl (by decide) (Nat.le_of_ble_eq_true rfl) (s_Mt_min a3 0 ?_)
    refine r_iconst d_Si_sees_109 ic_1 ?_
    refine r_isub d_Si_sees_110 ?_
    refine rk_SI (d' := 1) [.int (f_Ha_lowI a5), .int ((f_Mt_min a3 0) - 1)] [.ref 43] d_Si_sees_111 ml_Si_75 rfl rfl (by decide) (Nat.le_of_ble_eq_true rfl) (s_Mt_max (f_Ha_lowI a5) ((f_Mt_min a3 0) - 1) ?_)
    refine r_putI (b := 43) d_Si_sees_114 fp_Si_78 ⟨rfl, rfl⟩ (by decide) rfl rfl ?_
    refine r_aload_n (i := 0) d_Si_sees_117 rfl rfl ?_
    refine r_iload d_Si_sees_118 rfl ?_
    refine rk_SI (d' := 2) [.int a5] [.ref 43] d_Si_sees_120 ml_Si_80 rfl rfl (by decide) (Nat.le_of_ble_eq_true rfl) (s_Ha_highI a5 ?_)
    refine r_iload_n (i := 3) d_Si_sees_123 rfl rfl ?_
    refine r_iconst d_Si_sees_124 ic_0 ?_
    refine rk_SI (d' := 1) [.int a3, .int 0] [.int (f_Ha_highI a5), .ref 43] d_Si_sees_125 ml_Si_75 rfl rfl (by decide) (Nat.le_of_ble_eq_true rfl) (s_Mt_max a3 0 ?_)
    refine r_iconst d_Si_sees_128 ic_1 ?_
    refine r_iadd d_Si_sees_129 ?_
    refine rk_SI (d' := 1) [.int (f_Ha_highI a5), .int ((f_Mt_max a3 0) + 1)] [.ref 43] d_Si_sees_130 ml_Si_71 rfl rfl (by decide) (Nat.le_of_ble_eq_true rfl) (s_Mt_min (f_Ha_highI a5) ((f_Mt_max a3 0) + 1) ?_)
    refine r_putI (b := 43) d_Si_sees_133 fp_Si_83 ⟨rfl, rfl⟩ (by decide) rfl rfl ?_
    refine r_aload_n (i := 0) d_Si_sees_136 rfl rfl ?_
    refine r_iload d_Si_sees_137 rfl ?_
    refine rk_SI (d' := 2) [.int a5] [.ref 43] d_Si_sees_139 ml_Si_85 rfl rfl (by decide) (Nat.le_of_ble_eq_true rfl) (s_Ha_lowJ a5 ?_)
    refine r_iload d_Si_sees_142 rfl ?_
    refine r_iconst d_Si_sees_144 ic_0 ?_
    refine rk_SI (d' := 1) [.int a4, .int 0] [.int (f_Ha_lowJ a5), .ref 43] d_Si_sees_145 ml_Si_71 rfl rfl (by decide) (Nat.le_of_ble_eq_true rfl) (s_Mt_min a4 0 ?_)
    refine r_iconst d_Si_sees_148 ic_1 ?_
    refine r_isub d_Si_sees_149 ?_
    refine rk_SI (d' := 1) [.int (f_Ha_lowJ a5), .int ((f_Mt_min a4 0) - 1)] [.ref 43] d_Si_sees_150 ml_Si_75 rfl rfl (by decide) (Nat.le_of_ble_eq_true rfl) (s_Mt_max (f_Ha_lowJ a5) ((f_Mt_min a4 0) - 1) ?_)
    refine r_putI (b := 43) d_Si_sees_153 fp_Si_88 ⟨rfl, rfl⟩ (by decide) rfl rfl ?_
    refine r_aload_n (i := 0) d_Si_sees_156 rfl rfl ?_
    refine r_iload d_Si_sees_157 rfl ?_
    refine rk_SI (d' := 2) [.int a5] [.ref 43] d_Si_sees_159 ml_Si_90 rfl rfl (by decide) (Nat.le_of_ble_eq_true rfl) (s_Ha_highJ a5 ?_)
    refine r_iload d_Si_sees_162 rfl ?_
    refine r_iconst d_Si_sees_164 ic_0 ?_
    refine rk_SI (d' := 1) [.int a4, .int 0] [.int (f_Ha_highJ a5), .ref 43] d_Si_sees_165 ml_Si_75 rfl rfl (by decide) (Nat.le_of_ble_eq_true rfl) (s_Mt_max a4 0 ?_)
    refine r_iconst d_Si_sees_168 ic_1 ?_
    refine r_iadd d_Si_sees_169 ?_
    refine rk_SI (d' := 1) [.int (f_Ha_highJ a5), .int ((f_Mt_max a4 0) + 1)] [.ref 43] d_Si_sees_170 ml_Si_71 rfl rfl (by decide) (Nat.le_of_ble_eq_true rfl) (s_Mt_min (f_Ha_highJ a5) ((f_Mt_max a4 0) + 1) ?_)
    refine r_putI (b := 43) d_Si_sees_173 fp_Si_93 ⟨rfl, rfl⟩ (by decide) rfl rfl ?_
    refine r_iconst d_Si_sees_176 ic_0 ?_
    refine r_istore (lz := [some (.ref 43), some (.int a1), some (.int a2), some (.int a3), some (.int a4), some (.int a5), some (.int 0)]) d_Si_sees_177 (by decide) rfl rfl ?_
    exact rx_fgt [false, false, false, true, true, true] H
  · replace H := H.1 hc_8
    refine r_iconst d_Si_sees_11 ic_0 ?_
    exact rZ_ret d_Si_sees_12 rfl (Or.inl rfl) H
set_option maxHeartbeats 4000000 in
set_option maxRecDepth 20000 in
theorem w_Si_sees_179 {G : rx_Gh} {hp : rx_Hp} {F : Int32 → rx_Hp → Prop} (x1 : Int32) (x2 : Int32) (x6 : Int32) (H : ((hp.1 3 4) ≤ x6 → F 1 hp) ∧ (¬ (hp.1 3 4) ≤ x6 → (x6 = x1 → Rn wC G 4 q_Si_sees 179 [some (.ref 43), some (.int x1), some (.int x2), none, none, none, some (.int (x6 + 1))] [] hp (rI F)) ∧ (¬ x6 = x1 → (x6 = x2 → Rn wC G 4 q_Si_sees 179 [some (.ref 43), some (.int x1), some (.int x2), none, none, none, some (.int (x6 + 1))] [] hp (rI F)) ∧ (¬ x6 = x2 → Ev wC G 3 q_Si_blocks [.ref 43, .int x6] hp (rI fun r2 h1 => (r2 = 0 → Rn wC G 4 q_Si_sees 179 [some (.ref 43), some (.int x1), some (.int x2), none, none, none, some (.int (x6 + 1))] [] h1 (rI F)) ∧ (¬ r2 = 0 → F 0 h1)))))) : Rn wC G 4 q_Si_sees 179 [some (.ref 43), some (.int x1), some (.int x2), none, none, none, some (.int x6)] [] hp (rI F) := by
  refine r_iload d_Si_sees_179 rfl ?_
  refine r_aload_n (i := 0) d_Si_sees_181 rfl rfl ?_
  refine r_getR (b := 43) (r := 3) d_Si_sees_182 fl_Si_9 (by decide) rfl rfl rfl ?_
  refine r_getI (b := 3) (v := hp.1 3 4) d_Si_sees_185 fl_Si_15 (by decide) rfl rfl rfl ?_
  refine r_icmp_ge (tgt := 220) d_Si_sees_188 (by decide) (fun hc_188 => ?_) (fun hc_188 => ?_)
  · replace H := H.1 hc_188
    refine r_iconst d_Si_sees_220 ic_1 ?_
    exact rZ_ret d_Si_sees_221 rfl (Or.inr rfl) H
  · replace H := H.2 hc_188
    refine r_iload d_Si_sees_191 rfl ?_
    refine r_iload_n (i := 1) d_Si_sees_193 rfl rfl ?_
    refine r_icmp_eq (tgt := 214) d_Si_sees_194 (by decide) (fun hc_194 => ?_) (fun hc_194 => ?_)
    · replace H := H.1 hc_194
      refine r_iinc (v := x6 + 1) (lz := [some (.ref 43), some (.int x1), some (.int x2), none, none, none, some (.int (x6 + 1))]) d_Si_sees_214 rfl (by rw [ic_1]) (by decide) rfl rfl ?_
      refine r_goto (tgt := 179) d_Si_sees_217 (by decide) ?_
      exact H
    · replace H := H.2 hc_194
      refine r_iload d_Si_sees_197 rfl ?_
      refine r_iload_n (i := 2) d_Si_sees_199 rfl rfl ?_
      refine r_icmp_eq (tgt := 214) d_Si_sees_200 (by decide) (fun hc_200 => ?_) (fun hc_200 => ?_)
      · replace H := H.1 hc_200
        refine r_iinc (v := x6 + 1) (lz := [some (.ref 43), some (.int x1), some (.int x2), none, none, none, some (.int (x6 + 1))]) d_Si_sees_214 rfl (by rw [ic_1]) (by decide) rfl rfl ?_
        refine r_goto (tgt := 179) d_Si_sees_217 (by decide) ?_
        exact H
      · replace H := H.2 hc_200
        refine r_aload_n (i := 0) d_Si_sees_203 rfl rfl ?_
        refine r_iload d_Si_sees_204 rfl ?_
        refine rc_VI (b := 43) (d' := 3) [.int x6] [] d_Si_sees_206 ml_Si_95 rfl rfl (by decide) (by decide) rfl rfl (Nat.le_of_ble_eq_true rfl) H ?_
        intro r2 h1 H
        refine r_if_eq (tgt := 214) d_Si_sees_209 (by decide) (fun hc_209 => ?_) (fun hc_209 => ?_)
        · replace H := H.1 hc_209
          refine r_iinc (v := x6 + 1) (lz := [some (.ref 43), some (.int x1), some (.int x2), none, none, none, some (.int (x6 + 1))]) d_Si_sees_214 rfl (by rw [ic_1]) (by decide) rfl rfl ?_
          refine r_goto (tgt := 179) d_Si_sees_217 (by decide) ?_
          exact H
        · replace H := H.2 hc_209
          refine r_iconst d_Si_sees_212 ic_0 ?_
          exact rZ_ret d_Si_sees_213 rfl (Or.inl rfl) H
set_option maxHeartbeats 4000000 in
set_option maxRecDepth 20000 in
theorem w_Si_seenImages {G : rx_Gh} {hp : rx_Hp} {F : Int32 → rx_Hp → Prop} (a1 : Int32) (a2 : Int32) (a3 : Int32) (a4 : Int32) (H : Rn wC G 5 q_Si_seenImages 7 [some (.ref 43), some (.int a1), some (.int a2), some (.int a3), some (.int a4), some (.int 0), some (.int (-a3)), none, none] [] hp (rI F)) : Ev wC G 5 q_Si_seenImages [.ref 43, .int a1, .int a2, .int a3, .int a4] hp (rI F) := by
  refine ev_of rfl (Nat.le_of_ble_eq_true rfl) rfl ?_
  show Rn wC G 5 q_Si_seenImages 0 [some (.ref 43), some (.int a1), some (.int a2), some (.int a3), some (.int a4), none, none, none, none] [] hp (rI F)
  refine r_iconst d_Si_seenImages_0 ic_0 ?_
  refine r_istore (lz := [some (.ref 43), some (.int a1), some (.int a2), some (.int a3), some (.int a4), some (.int 0), none, none, none]) d_Si_seenImages_1 (by decide) rfl rfl ?_
  refine r_iload_n (i := 3) d_Si_seenImages_3 rfl rfl ?_
  refine r_ineg d_Si_seenImages_4 ?_
  refine r_istore (lz := [some (.ref 43), some (.int a1), some (.int a2), some (.int a3), some (.int a4), some (.int 0), some (.int (-a3)), none, none]) d_Si_seenImages_5 (by decide) rfl rfl ?_
  exact H
set_option maxHeartbeats 4000000 in
set_option maxRecDepth 20000 in
theorem w_Si_seenImages_7 {G : rx_Gh} {hp : rx_Hp} {F : Int32 → rx_Hp → Prop} (x1 : Int32) (x2 : Int32) (x3 : Int32) (x4 : Int32) (x5 : Int32) (x6 : Int32) (H : (x3 < x6 → F x5 hp) ∧ (¬ x3 < x6 → Rn wC G 5 q_Si_seenImages 27 [some (.ref 43), some (.int x1), some (.int x2), some (.int x3), some (.int x4), some (.int x5), some (.int x6), some (.int (x3 - (f_Mt_abs x6))), some (.int (-(x3 - (f_Mt_abs x6))))] [] hp (rI F))) : Rn wC G 5 q_Si_seenImages 7 [some (.ref 43), some (.int x1), some (.int x2), some (.int x3), some (.int x4), some (.int x5), some (.int x6), none, none] [] hp (rI F) := by
  refine r_iload d_Si_seenImages_7 rfl ?_
  refine r_iload_n (i := 3) d_Si_seenImages_9 rfl rfl ?_
  refine r_icmp_gt (tgt := 64) d_Si_seenImages_10 (by decide) (fun hc_10 => ?_) (fun hc_10 => ?_)
  · replace H := H.1 hc_10
    refine r_iload d_Si_seenImages_64 rfl ?_
    exact rI_ret d_Si_seenImages_66 rfl H
  · replace H := H.2 hc_10
    refine r_iload_n (i := 3) d_Si_seenImages_13 rfl rfl ?_
    refine r_iload d_Si_seenImages_14 rfl ?_
    refine rk_SI (d' := 1) [.int x6] [.int x3] d_Si_seenImages_16 ml_Si_25 rfl rfl (by decide) (Nat.le_of_ble_eq_true rfl) (s_Mt_abs x6 ?_)
    refine r_isub d_Si_seenImages_19 ?_
    refine r_istore (lz := [some (.ref 43), some (.int x1), some (.int x2), some (.int x3), some (.int x4), some (.int x5), some (.int x6), some (.int (x3 - (f_Mt_abs x6))), none]) d_Si_seenImages_20 (by decide) rfl rfl ?_
    refine r_iload d_Si_seenImages_22 rfl ?_
    refine r_ineg d_Si_seenImages_24 ?_
    refine r_istore (lz := [some (.ref 43), some (.int x1), some (.int x2), some (.int x3), some (.int x4), some (.int x5), some (.int x6), some (.int (x3 - (f_Mt_abs x6))), some (.int (-(x3 - (f_Mt_abs x6))))]) d_Si_seenImages_25 (by decide) rfl rfl ?_
    exact H
set_option maxHeartbeats 4000000 in
set_option maxRecDepth 20000 in
theorem w_Si_seenImages_27 {G : rx_Gh} {hp : rx_Hp} {F : Int32 → rx_Hp → Prop} (x1 : Int32) (x2 : Int32) (x3 : Int32) (x4 : Int32) (x5 : Int32) (x6 : Int32) (x7 : Int32) (x8 : Int32) (H : (x7 < x8 → Rn wC G 5 q_Si_seenImages 7 [some (.ref 43), some (.int x1), some (.int x2), some (.int x3), some (.int x4), some (.int x5), some (.int (x6 + 1)), none, none] [] hp (rI F)) ∧ (¬ x7 < x8 → Ev wC G 4 q_Si_sees [.ref 43, .int x1, .int x2, .int x6, .int x8, .int x4] hp (rI fun r2 h1 => Rn wC G 5 q_Si_seenImages 27 [some (.ref 43), some (.int x1), some (.int x2), some (.int x3), some (.int x4), some (.int ((if r2 = 0 then x5 else (x5 + 1)) : Int32)), some (.int x6), some (.int x7), some (.int (x8 + 1))] [] h1 (rI F)))) : Rn wC G 5 q_Si_seenImages 27 [some (.ref 43), some (.int x1), some (.int x2), some (.int x3), some (.int x4), some (.int x5), some (.int x6), some (.int x7), some (.int x8)] [] hp (rI F) := by
  refine r_iload d_Si_seenImages_27 rfl ?_
  refine r_iload d_Si_seenImages_29 rfl ?_
  refine r_icmp_gt (tgt := 58) d_Si_seenImages_31 (by decide) (fun hc_31 => ?_) (fun hc_31 => ?_)
  · replace H := H.1 hc_31
    refine r_iinc (v := x6 + 1) (lz := [some (.ref 43), some (.int x1), some (.int x2), some (.int x3), some (.int x4), some (.int x5), some (.int (x6 + 1)), some (.int x7), some (.int x8)]) d_Si_seenImages_58 rfl (by rw [ic_1]) (by decide) rfl rfl ?_
    refine r_goto (tgt := 7) d_Si_seenImages_61 (by decide) ?_
    exact rx_fgt [false, false, false, false, false, false, false, true, true] H
  · replace H := H.2 hc_31
    refine r_aload_n (i := 0) d_Si_seenImages_34 rfl rfl ?_
    refine r_iload_n (i := 1) d_Si_seenImages_35 rfl rfl ?_
    refine r_iload_n (i := 2) d_Si_seenImages_36 rfl rfl ?_
    refine r_iload d_Si_seenImages_37 rfl ?_
    refine r_iload d_Si_seenImages_39 rfl ?_
    refine r_iload d_Si_seenImages_41 rfl ?_
    refine rc_VI (b := 43) (d' := 4) [.int x1, .int x2, .int x6, .int x8, .int x4] [] d_Si_seenImages_43 ml_Si_31 rfl rfl (by decide) (by decide) rfl rfl (Nat.le_of_ble_eq_true rfl) H ?_
    intro r2 h1 H
    have J46 : ∀ (v46_0 : Int32), v46_0 = ((if r2 = 0 then x5 else (x5 + 1)) : Int32) → Rn wC G 5 q_Si_seenImages 52 [some (.ref 43), some (.int x1), some (.int x2), some (.int x3), some (.int x4), some (.int v46_0), some (.int x6), some (.int x7), some (.int x8)] [] h1 (rI F) := by
      rintro _ rfl
      refine r_iinc (v := x8 + 1) (lz := [some (.ref 43), some (.int x1), some (.int x2), some (.int x3), some (.int x4), some (.int ((if r2 = 0 then x5 else (x5 + 1)) : Int32)), some (.int x6), some (.int x7), some (.int (x8 + 1))]) d_Si_seenImages_52 rfl (by rw [ic_1]) (by decide) rfl rfl ?_
      refine r_goto (tgt := 27) d_Si_seenImages_55 (by decide) ?_
      exact H
    refine r_if_eq (tgt := 52) d_Si_seenImages_46 (by decide) (fun hc_46 => ?_) (fun hc_46 => ?_)
    · exact J46 _ (((if_pos hc_46).trans rfl)).symm
    · refine r_iinc (v := x5 + 1) (lz := [some (.ref 43), some (.int x1), some (.int x2), some (.int x3), some (.int x4), some (.int (x5 + 1)), some (.int x6), some (.int x7), some (.int x8)]) d_Si_seenImages_49 rfl (by rw [ic_1]) (by decide) rfl rfl ?_
      exact J46 _ (((if_neg hc_46).trans rfl)).symm
set_option maxHeartbeats 4000000 in
set_option maxRecDepth 20000 in
theorem w_Si_seesAll {G : rx_Gh} {hp : rx_Hp} {F : Int32 → rx_Hp → Prop} (a1 : Int32) (a2 : Int32) (a3 : Int32) (H : Rn wC G 6 q_Si_seesAll 3 [some (.ref 43), some (.int a1), some (.int a2), some (.int a3), some (.int 0)] [] hp (rI F)) : Ev wC G 6 q_Si_seesAll [.ref 43, .int a1, .int a2, .int a3] hp (rI F) := by
  refine ev_of rfl (Nat.le_of_ble_eq_true rfl) rfl ?_
  show Rn wC G 6 q_Si_seesAll 0 [some (.ref 43), some (.int a1), some (.int a2), some (.int a3), none] [] hp (rI F)
  refine r_iconst d_Si_seesAll_0 ic_0 ?_
  refine r_istore (lz := [some (.ref 43), some (.int a1), some (.int a2), some (.int a3), some (.int 0)]) d_Si_seesAll_1 (by decide) rfl rfl ?_
  exact H
set_option maxHeartbeats 4000000 in
set_option maxRecDepth 20000 in
theorem w_Si_seesAll_3 {G : rx_Gh} {hp : rx_Hp} {F : Int32 → rx_Hp → Prop} (x1 : Int32) (x2 : Int32) (x3 : Int32) (x4 : Int32) (H : ((hp.1 3 4) ≤ x4 → F 1 hp) ∧ (¬ (hp.1 3 4) ≤ x4 → (x4 = x1 → Rn wC G 6 q_Si_seesAll 3 [some (.ref 43), some (.int x1), some (.int x2), some (.int x3), some (.int (x4 + 1))] [] hp (rI F)) ∧ (¬ x4 = x1 → Ev wC G 5 q_Si_seenImages [.ref 43, .int x1, .int x4, .int 2, .int x3] hp (rI fun r2 h1 => (x2 ≤ r2 → Rn wC G 6 q_Si_seesAll 3 [some (.ref 43), some (.int x1), some (.int x2), some (.int x3), some (.int (x4 + 1))] [] h1 (rI F)) ∧ (¬ x2 ≤ r2 → F 0 h1))))) : Rn wC G 6 q_Si_seesAll 3 [some (.ref 43), some (.int x1), some (.int x2), some (.int x3), some (.int x4)] [] hp (rI F) := by
  refine r_iload d_Si_seesAll_3 rfl ?_
  refine r_aload_n (i := 0) d_Si_seesAll_5 rfl rfl ?_
  refine r_getR (b := 43) (r := 3) d_Si_seesAll_6 fl_Si_9 (by decide) rfl rfl rfl ?_
  refine r_getI (b := 3) (v := hp.1 3 4) d_Si_seesAll_9 fl_Si_15 (by decide) rfl rfl rfl ?_
  refine r_icmp_ge (tgt := 42) d_Si_seesAll_12 (by decide) (fun hc_12 => ?_) (fun hc_12 => ?_)
  · replace H := H.1 hc_12
    refine r_iconst d_Si_seesAll_42 ic_1 ?_
    exact rZ_ret d_Si_seesAll_43 rfl (Or.inr rfl) H
  · replace H := H.2 hc_12
    refine r_iload d_Si_seesAll_15 rfl ?_
    refine r_iload_n (i := 1) d_Si_seesAll_17 rfl rfl ?_
    refine r_icmp_eq (tgt := 36) d_Si_seesAll_18 (by decide) (fun hc_18 => ?_) (fun hc_18 => ?_)
    · replace H := H.1 hc_18
      refine r_iinc (v := x4 + 1) (lz := [some (.ref 43), some (.int x1), some (.int x2), some (.int x3), some (.int (x4 + 1))]) d_Si_seesAll_36 rfl (by rw [ic_1]) (by decide) rfl rfl ?_
      refine r_goto (tgt := 3) d_Si_seesAll_39 (by decide) ?_
      exact H
    · replace H := H.2 hc_18
      refine r_aload_n (i := 0) d_Si_seesAll_21 rfl rfl ?_
      refine r_iload_n (i := 1) d_Si_seesAll_22 rfl rfl ?_
      refine r_iload d_Si_seesAll_23 rfl ?_
      refine r_iconst d_Si_seesAll_25 ic_2 ?_
      refine r_iload_n (i := 3) d_Si_seesAll_26 rfl rfl ?_
      refine rc_VI (b := 43) (d' := 5) [.int x1, .int x4, .int 2, .int x3] [] d_Si_seesAll_27 ml_Si_21 rfl rfl (by decide) (by decide) rfl rfl (Nat.le_of_ble_eq_true rfl) H ?_
      intro r2 h1 H
      refine r_iload_n (i := 2) d_Si_seesAll_30 rfl rfl ?_
      refine r_icmp_ge (tgt := 36) d_Si_seesAll_31 (by decide) (fun hc_31 => ?_) (fun hc_31 => ?_)
      · replace H := H.1 hc_31
        refine r_iinc (v := x4 + 1) (lz := [some (.ref 43), some (.int x1), some (.int x2), some (.int x3), some (.int (x4 + 1))]) d_Si_seesAll_36 rfl (by rw [ic_1]) (by decide) rfl rfl ?_
        refine r_goto (tgt := 3) d_Si_seesAll_39 (by decide) ?_
        exact H
      · replace H := H.2 hc_31
        refine r_iconst d_Si_seesAll_34 ic_0 ?_
        exact rZ_ret d_Si_seesAll_35 rfl (Or.inl rfl) H
set_option maxHeartbeats 4000000 in
set_option maxRecDepth 20000 in
theorem w_GR_seen {G : rx_Gh} {hp : rx_Hp} {F : Int32 → rx_Hp → Prop} (a1 : Int32) (a2 : Int32) (a3 : Int32) (a4 : Int32) (H : ((f_GR_hasImage a1 a2 a3 hp) = 0 → F (-1) hp) ∧ (¬ (f_GR_hasImage a1 a2 a3 hp) = 0 → ((f_Ha_has a4 hp) = 0 → F (-1) hp) ∧ (¬ (f_Ha_has a4 hp) = 0 → Ev wC G 4 q_Si_sees [.ref 43, .int a4, .int a1, .int a2, .int a3, .int (hp.1 3 7)] hp (rI fun r2 h1 => F ((if r2 = 0 then 0 else 1) : Int32) h1)))) : Ev wC G 5 q_GR_seen [.ref 0, .int a1, .int a2, .int a3, .int a4] hp (rI F) := by
  refine ev_of rfl (Nat.le_of_ble_eq_true rfl) rfl ?_
  show Rn wC G 5 q_GR_seen 0 [some (.ref 0), some (.int a1), some (.int a2), some (.int a3), some (.int a4)] [] hp (rI F)
  refine r_aload_n (i := 0) d_GR_seen_0 rfl rfl ?_
  refine r_iload_n (i := 1) d_GR_seen_1 rfl rfl ?_
  refine r_iload_n (i := 2) d_GR_seen_2 rfl rfl ?_
  refine r_iload_n (i := 3) d_GR_seen_3 rfl rfl ?_
  refine rk_VI (b := 0) (d' := 2) [.int a1, .int a2, .int a3] [] d_GR_seen_4 ml_GR_192 rfl rfl (by decide) (by decide) rfl rfl (Nat.le_of_ble_eq_true rfl) (s_GR_hasImage a1 a2 a3 ?_)
  refine r_if_eq (tgt := 22) d_GR_seen_7 (by decide) (fun hc_7 => ?_) (fun hc_7 => ?_)
  · replace H := H.1 hc_7
    refine r_iconst d_GR_seen_22 ic_m1 ?_
    exact rI_ret d_GR_seen_23 rfl H
  · replace H := H.2 hc_7
    refine r_aload_n (i := 0) d_GR_seen_10 rfl rfl ?_
    refine r_getR (b := 0) (r := 3) d_GR_seen_11 fl_GR_19 (by decide) rfl rfl rfl ?_
    refine r_iload d_GR_seen_14 rfl ?_
    refine rk_VI (b := 3) (d' := 1) [.int a4] [] d_GR_seen_16 ml_GR_144 rfl rfl (by decide) (by decide) rfl rfl (Nat.le_of_ble_eq_true rfl) (s_Ha_has a4 ?_)
    refine r_if_ne (tgt := 24) d_GR_seen_19 (by decide) (fun hc_19 => ?_) (fun hc_19 => ?_)
    · replace H := H.2 hc_19
      refine r_aload_n (i := 0) d_GR_seen_24 rfl rfl ?_
      refine r_getR (b := 0) (r := 43) d_GR_seen_25 fl_GR_75 (by decide) rfl rfl rfl ?_
      refine r_iload d_GR_seen_28 rfl ?_
      refine r_iload_n (i := 1) d_GR_seen_30 rfl rfl ?_
      refine r_iload_n (i := 2) d_GR_seen_31 rfl rfl ?_
      refine r_iload_n (i := 3) d_GR_seen_32 rfl rfl ?_
      refine r_aload_n (i := 0) d_GR_seen_33 rfl rfl ?_
      refine r_getR (b := 0) (r := 3) d_GR_seen_34 fl_GR_19 (by decide) rfl rfl rfl ?_
      refine r_getI (b := 3) (v := hp.1 3 7) d_GR_seen_37 fl_GR_175 (by decide) rfl rfl rfl ?_
      refine rc_VI (b := 43) (d' := 4) [.int a4, .int a1, .int a2, .int a3, .int (hp.1 3 7)] [] d_GR_seen_40 ml_GR_260 rfl rfl (by decide) (by decide) rfl rfl (Nat.le_of_ble_eq_true rfl) H ?_
      intro r2 h1 H
      have J43 : ∀ (v43_0 : Int32), v43_0 = ((if r2 = 0 then 0 else 1) : Int32) → Rn wC G 5 q_GR_seen 51 [some (.ref 0), some (.int a1), some (.int a2), some (.int a3), some (.int a4)] [.int v43_0] h1 (rI F) := by
        rintro _ rfl
        exact rI_ret d_GR_seen_51 rfl H
      refine r_if_eq (tgt := 50) d_GR_seen_43 (by decide) (fun hc_43 => ?_) (fun hc_43 => ?_)
      · refine r_iconst d_GR_seen_50 ic_0 ?_
        exact J43 _ (((if_pos hc_43).trans rfl)).symm
      · refine r_iconst d_GR_seen_46 ic_1 ?_
        refine r_goto (tgt := 51) d_GR_seen_47 (by decide) ?_
        exact J43 _ (((if_neg hc_43).trans rfl)).symm
    · replace H := H.1 hc_19
      refine r_iconst d_GR_seen_22 ic_m1 ?_
      exact rI_ret d_GR_seen_23 rfl H
set_option maxHeartbeats 4000000 in
set_option maxRecDepth 20000 in
theorem w_GR_view {G : rx_Gh} {hp : rx_Hp} {F : Int32 → rx_Hp → Prop} (a1 : Int32) (a2 : Int32) (a3 : Int32) (H : ((f_Ha_has a1 hp) = 0 → F (-1) hp) ∧ (¬ (f_Ha_has a1 hp) = 0 → ((f_Ha_has a2 hp) = 0 → F (-1) hp) ∧ (¬ (f_Ha_has a2 hp) = 0 → (a3 < 0 → F (-1) hp) ∧ (¬ a3 < 0 → (a3 ≤ 6 → Ev wC G 5 q_Si_seenImages [.ref 43, .int a2, .int a1, .int a3, .int (hp.1 3 7)] hp (rI fun r2 h1 => F r2 h1)) ∧ (¬ a3 ≤ 6 → F (-1) hp))))) : Ev wC G 6 q_GR_view [.ref 0, .int a1, .int a2, .int a3] hp (rI F) := by
  refine ev_of rfl (Nat.le_of_ble_eq_true rfl) rfl ?_
  show Rn wC G 6 q_GR_view 0 [some (.ref 0), some (.int a1), some (.int a2), some (.int a3)] [] hp (rI F)
  refine r_aload_n (i := 0) d_GR_view_0 rfl rfl ?_
  refine r_getR (b := 0) (r := 3) d_GR_view_1 fl_GR_19 (by decide) rfl rfl rfl ?_
  refine r_iload_n (i := 1) d_GR_view_4 rfl rfl ?_
  refine rk_VI (b := 3) (d' := 1) [.int a1] [] d_GR_view_5 ml_GR_144 rfl rfl (by decide) (by decide) rfl rfl (Nat.le_of_ble_eq_true rfl) (s_Ha_has a1 ?_)
  refine r_if_eq (tgt := 32) d_GR_view_8 (by decide) (fun hc_8 => ?_) (fun hc_8 => ?_)
  · replace H := H.1 hc_8
    refine r_iconst d_GR_view_32 ic_m1 ?_
    exact rI_ret d_GR_view_33 rfl H
  · replace H := H.2 hc_8
    refine r_aload_n (i := 0) d_GR_view_11 rfl rfl ?_
    refine r_getR (b := 0) (r := 3) d_GR_view_12 fl_GR_19 (by decide) rfl rfl rfl ?_
    refine r_iload_n (i := 2) d_GR_view_15 rfl rfl ?_
    refine rk_VI (b := 3) (d' := 1) [.int a2] [] d_GR_view_16 ml_GR_144 rfl rfl (by decide) (by decide) rfl rfl (Nat.le_of_ble_eq_true rfl) (s_Ha_has a2 ?_)
    refine r_if_eq (tgt := 32) d_GR_view_19 (by decide) (fun hc_19 => ?_) (fun hc_19 => ?_)
    · replace H := H.1 hc_19
      refine r_iconst d_GR_view_32 ic_m1 ?_
      exact rI_ret d_GR_view_33 rfl H
    · replace H := H.2 hc_19
      refine r_iload_n (i := 3) d_GR_view_22 rfl rfl ?_
      refine r_if_lt (tgt := 32) d_GR_view_23 (by decide) (fun hc_23 => ?_) (fun hc_23 => ?_)
      · replace H := H.1 hc_23
        refine r_iconst d_GR_view_32 ic_m1 ?_
        exact rI_ret d_GR_view_33 rfl H
      · replace H := H.2 hc_23
        refine r_iload_n (i := 3) d_GR_view_26 rfl rfl ?_
        refine r_bipush d_GR_view_27 bp_6 ?_
        refine r_icmp_le (tgt := 34) d_GR_view_29 (by decide) (fun hc_29 => ?_) (fun hc_29 => ?_)
        · replace H := H.1 hc_29
          refine r_aload_n (i := 0) d_GR_view_34 rfl rfl ?_
          refine r_getR (b := 0) (r := 43) d_GR_view_35 fl_GR_75 (by decide) rfl rfl rfl ?_
          refine r_iload_n (i := 2) d_GR_view_38 rfl rfl ?_
          refine r_iload_n (i := 1) d_GR_view_39 rfl rfl ?_
          refine r_iload_n (i := 3) d_GR_view_40 rfl rfl ?_
          refine r_aload_n (i := 0) d_GR_view_41 rfl rfl ?_
          refine r_getR (b := 0) (r := 3) d_GR_view_42 fl_GR_19 (by decide) rfl rfl rfl ?_
          refine r_getI (b := 3) (v := hp.1 3 7) d_GR_view_45 fl_GR_175 (by decide) rfl rfl rfl ?_
          refine rc_VI (b := 43) (d' := 5) [.int a2, .int a1, .int a3, .int (hp.1 3 7)] [] d_GR_view_48 ml_GR_264 rfl rfl (by decide) (by decide) rfl rfl (Nat.le_of_ble_eq_true rfl) H ?_
          intro r2 h1 H
          exact rI_ret d_GR_view_51 rfl H
        · replace H := H.2 hc_29
          refine r_iconst d_GR_view_32 ic_m1 ?_
          exact rI_ret d_GR_view_33 rfl H
set_option maxHeartbeats 4000000 in
set_option maxRecDepth 20000 in
theorem w_GR_walls {G : rx_Gh} {hp : rx_Hp} {F : Int32 → rx_Hp → Prop} (a1 : Int32) (a2 : Int32) (H : ((f_Ha_has a1 hp) = 0 → F (-1) hp) ∧ (¬ (f_Ha_has a1 hp) = 0 → (a2 < 0 → F (-1) hp) ∧ (¬ a2 < 0 → (a2 ≤ 25 → Rn wC G 7 q_GR_walls 25 [some (.ref 0), some (.int a1), some (.int a2), some (.int 0), none] [] hp (rI F)) ∧ (¬ a2 ≤ 25 → F (-1) hp)))) : Ev wC G 7 q_GR_walls [.ref 0, .int a1, .int a2] hp (rI F) := by
  refine ev_of rfl (Nat.le_of_ble_eq_true rfl) rfl ?_
  show Rn wC G 7 q_GR_walls 0 [some (.ref 0), some (.int a1), some (.int a2), none, none] [] hp (rI F)
  refine r_aload_n (i := 0) d_GR_walls_0 rfl rfl ?_
  refine r_getR (b := 0) (r := 3) d_GR_walls_1 fl_GR_19 (by decide) rfl rfl rfl ?_
  refine r_iload_n (i := 1) d_GR_walls_4 rfl rfl ?_
  refine rk_VI (b := 3) (d' := 1) [.int a1] [] d_GR_walls_5 ml_GR_144 rfl rfl (by decide) (by decide) rfl rfl (Nat.le_of_ble_eq_true rfl) (s_Ha_has a1 ?_)
  refine r_if_eq (tgt := 21) d_GR_walls_8 (by decide) (fun hc_8 => ?_) (fun hc_8 => ?_)
  · replace H := H.1 hc_8
    refine r_iconst d_GR_walls_21 ic_m1 ?_
    exact rI_ret d_GR_walls_22 rfl H
  · replace H := H.2 hc_8
    refine r_iload_n (i := 2) d_GR_walls_11 rfl rfl ?_
    refine r_if_lt (tgt := 21) d_GR_walls_12 (by decide) (fun hc_12 => ?_) (fun hc_12 => ?_)
    · replace H := H.1 hc_12
      refine r_iconst d_GR_walls_21 ic_m1 ?_
      exact rI_ret d_GR_walls_22 rfl H
    · replace H := H.2 hc_12
      refine r_iload_n (i := 2) d_GR_walls_15 rfl rfl ?_
      refine r_bipush d_GR_walls_16 bp_25 ?_
      refine r_icmp_le (tgt := 23) d_GR_walls_18 (by decide) (fun hc_18 => ?_) (fun hc_18 => ?_)
      · replace H := H.1 hc_18
        refine r_iconst d_GR_walls_23 ic_0 ?_
        refine r_istore_n (i := 3) (lz := [some (.ref 0), some (.int a1), some (.int a2), some (.int 0), none]) d_GR_walls_24 rfl (by decide) rfl rfl ?_
        exact H
      · replace H := H.2 hc_18
        refine r_iconst d_GR_walls_21 ic_m1 ?_
        exact rI_ret d_GR_walls_22 rfl H
set_option maxHeartbeats 4000000 in
set_option maxRecDepth 20000 in
theorem w_GR_walls_25 {G : rx_Gh} {hp : rx_Hp} {F : Int32 → rx_Hp → Prop} (x1 : Int32) (x2 : Int32) (x3 : Int32) (H : (4 < x3 → F (-1) hp) ∧ (¬ 4 < x3 → Rn wC G 7 q_GR_walls 33 [some (.ref 0), some (.int x1), some (.int x2), some (.int x3), some (.int 0)] [] hp (rI F))) : Rn wC G 7 q_GR_walls 25 [some (.ref 0), some (.int x1), some (.int x2), some (.int x3), none] [] hp (rI F) := by
  refine r_iload_n (i := 3) d_GR_walls_25 rfl rfl ?_
  refine r_iconst d_GR_walls_26 ic_4 ?_
  refine r_icmp_gt (tgt := 78) d_GR_walls_27 (by decide) (fun hc_27 => ?_) (fun hc_27 => ?_)
  · replace H := H.1 hc_27
    refine r_iconst d_GR_walls_78 ic_m1 ?_
    exact rI_ret d_GR_walls_79 rfl H
  · replace H := H.2 hc_27
    refine r_iconst d_GR_walls_30 ic_0 ?_
    refine r_istore (lz := [some (.ref 0), some (.int x1), some (.int x2), some (.int x3), some (.int 0)]) d_GR_walls_31 (by decide) rfl rfl ?_
    exact H
set_option maxHeartbeats 4000000 in
set_option maxRecDepth 20000 in
theorem w_GR_walls_33 {G : rx_Gh} {hp : rx_Hp} {F : Int32 → rx_Hp → Prop} (x1 : Int32) (x2 : Int32) (x3 : Int32) (x4 : Int32) (H : (15 < x4 → Rn wC G 7 q_GR_walls 25 [some (.ref 0), some (.int x1), some (.int x2), some (.int (x3 + 1)), none] [] hp (rI F)) ∧ (¬ 15 < x4 → ((f_It_bitCount x4) = x3 → Ev wC G 6 q_Si_seesAll [.ref 43, .int x1, .int x2, .int x4] hp (rI fun r2 h1 => (r2 = 0 → Rn wC G 7 q_GR_walls 33 [some (.ref 0), some (.int x1), some (.int x2), some (.int x3), some (.int (x4 + 1))] [] h1 (rI F)) ∧ (¬ r2 = 0 → F x4 h1))) ∧ (¬ (f_It_bitCount x4) = x3 → Rn wC G 7 q_GR_walls 33 [some (.ref 0), some (.int x1), some (.int x2), some (.int x3), some (.int (x4 + 1))] [] hp (rI F)))) : Rn wC G 7 q_GR_walls 33 [some (.ref 0), some (.int x1), some (.int x2), some (.int x3), some (.int x4)] [] hp (rI F) := by
  refine r_iload d_GR_walls_33 rfl ?_
  refine r_bipush d_GR_walls_35 bp_15 ?_
  refine r_icmp_gt (tgt := 72) d_GR_walls_37 (by decide) (fun hc_37 => ?_) (fun hc_37 => ?_)
  · replace H := H.1 hc_37
    refine r_iinc (v := x3 + 1) (lz := [some (.ref 0), some (.int x1), some (.int x2), some (.int (x3 + 1)), some (.int x4)]) d_GR_walls_72 rfl (by rw [ic_1]) (by decide) rfl rfl ?_
    refine r_goto (tgt := 25) d_GR_walls_75 (by decide) ?_
    exact rx_fgt [false, false, false, false, true] H
  · replace H := H.2 hc_37
    refine r_iload d_GR_walls_40 rfl ?_
    refine rk_SI (d' := 1) [.int x4] [] d_GR_walls_42 ml_GR_267 rfl rfl (by decide) (Nat.le_of_ble_eq_true rfl) (s_It_bitCount x4 ?_)
    refine r_iload_n (i := 3) d_GR_walls_45 rfl rfl ?_
    refine r_icmp_ne (tgt := 66) d_GR_walls_46 (by decide) (fun hc_46 => ?_) (fun hc_46 => ?_)
    · replace H := H.2 hc_46
      refine r_iinc (v := x4 + 1) (lz := [some (.ref 0), some (.int x1), some (.int x2), some (.int x3), some (.int (x4 + 1))]) d_GR_walls_66 rfl (by rw [ic_1]) (by decide) rfl rfl ?_
      refine r_goto (tgt := 33) d_GR_walls_69 (by decide) ?_
      exact H
    · replace H := H.1 hc_46
      refine r_aload_n (i := 0) d_GR_walls_49 rfl rfl ?_
      refine r_getR (b := 0) (r := 43) d_GR_walls_50 fl_GR_75 (by decide) rfl rfl rfl ?_
      refine r_iload_n (i := 1) d_GR_walls_53 rfl rfl ?_
      refine r_iload_n (i := 2) d_GR_walls_54 rfl rfl ?_
      refine r_iload d_GR_walls_55 rfl ?_
      refine rc_VI (b := 43) (d' := 6) [.int x1, .int x2, .int x4] [] d_GR_walls_57 ml_GR_272 rfl rfl (by decide) (by decide) rfl rfl (Nat.le_of_ble_eq_true rfl) H ?_
      intro r2 h1 H
      refine r_if_eq (tgt := 66) d_GR_walls_60 (by decide) (fun hc_60 => ?_) (fun hc_60 => ?_)
      · replace H := H.1 hc_60
        refine r_iinc (v := x4 + 1) (lz := [some (.ref 0), some (.int x1), some (.int x2), some (.int x3), some (.int (x4 + 1))]) d_GR_walls_66 rfl (by rw [ic_1]) (by decide) rfl rfl ?_
        refine r_goto (tgt := 33) d_GR_walls_69 (by decide) ?_
        exact H
      · replace H := H.2 hc_60
        refine r_iload d_GR_walls_63 rfl ?_
        exact rI_ret d_GR_walls_65 rfl H
set_option maxHeartbeats 4000000 in
set_option maxRecDepth 20000 in
theorem w_M_isSeen {G : rx_Gh} {hp : rx_Hp} {F : Int32 → rx_Hp → Prop} (a1 : Int32) (a2 : Int32) (a3 : Int32) (a4 : Int32) (H : ((f_M_isThere a2 a3 hp) = 0 → F 0 hp) ∧ (¬ (f_M_isThere a2 a3 hp) = 0 → Ev wM G 4 q_M_isHidden [.ref 0, .int a1, .int a2, .int a3, .int a4] hp (rI fun r2 h1 => F ((if r2 = 0 then 1 else 0) : Int32) h1))) : Ev wM G 5 q_M_isSeen [.ref 0, .int a1, .int a2, .int a3, .int a4] hp (rI F) := by
  refine ev_of rfl (Nat.le_of_ble_eq_true rfl) rfl ?_
  show Rn wM G 5 q_M_isSeen 0 [some (.ref 0), some (.int a1), some (.int a2), some (.int a3), some (.int a4)] [] hp (rI F)
  refine r_aload_n (i := 0) d_M_isSeen_0 rfl rfl ?_
  refine r_iload_n (i := 2) d_M_isSeen_1 rfl rfl ?_
  refine r_iload_n (i := 3) d_M_isSeen_2 rfl rfl ?_
  refine rk_VI (b := 0) (d' := 3) [.int a2, .int a3] [] d_M_isSeen_3 ml_M_315 rfl rfl (by decide) (by decide) rfl rfl (Nat.le_of_ble_eq_true rfl) (s_M_isThere a2 a3 ?_)
  refine r_if_eq (tgt := 25) d_M_isSeen_6 (by decide) (fun hc_6 => ?_) (fun hc_6 => ?_)
  · replace H := H.1 hc_6
    refine r_iconst d_M_isSeen_25 ic_0 ?_
    exact rZ_ret d_M_isSeen_26 rfl (Or.inl rfl) H
  · replace H := H.2 hc_6
    refine r_aload_n (i := 0) d_M_isSeen_9 rfl rfl ?_
    refine r_iload_n (i := 1) d_M_isSeen_10 rfl rfl ?_
    refine r_iload_n (i := 2) d_M_isSeen_11 rfl rfl ?_
    refine r_iload_n (i := 3) d_M_isSeen_12 rfl rfl ?_
    refine r_iload d_M_isSeen_13 rfl ?_
    refine rc_VI (b := 0) (d' := 4) [.int a1, .int a2, .int a3, .int a4] [] d_M_isSeen_15 ml_M_338 rfl rfl (by decide) (by decide) rfl rfl (Nat.le_of_ble_eq_true rfl) H ?_
    intro r2 h1 H
    have J18 : ∀ (v18_0 : Int32), v18_0 = ((if r2 = 0 then 1 else 0) : Int32) → Rn wM G 5 q_M_isSeen 26 [some (.ref 0), some (.int a1), some (.int a2), some (.int a3), some (.int a4)] [.int v18_0] h1 (rI F) := by
      rintro _ rfl
      exact rZ_ret d_M_isSeen_26 rfl (rb_ite (Or.inr rfl) (Or.inl rfl)) H
    refine r_if_ne (tgt := 25) d_M_isSeen_18 (by decide) (fun hc_18 => ?_) (fun hc_18 => ?_)
    · refine r_iconst d_M_isSeen_25 ic_0 ?_
      exact J18 _ (((if_neg hc_18).trans rfl)).symm
    · refine r_iconst d_M_isSeen_21 ic_1 ?_
      refine r_goto (tgt := 26) d_M_isSeen_22 (by decide) ?_
      exact J18 _ (((if_pos hc_18).trans rfl)).symm
set_option maxHeartbeats 4000000 in
set_option maxRecDepth 20000 in
theorem w_M_seen {G : rx_Gh} {hp : rx_Hp} {F : Int32 → rx_Hp → Prop} (a1 : Int32) (a2 : Int32) (a3 : Int32) (a4 : Int32) (H : ((f_M_isImage a1 a2 a3 hp) = 0 → F (-1) hp) ∧ (¬ (f_M_isImage a1 a2 a3 hp) = 0 → ((f_M_isBody a4 hp) = 0 → F (-1) hp) ∧ (¬ (f_M_isBody a4 hp) = 0 → Ev wM G 5 q_M_isSeen [.ref 0, .int a1, .int a2, .int a3, .int a4] hp (rI fun r2 h1 => F ((if r2 = 0 then 0 else 1) : Int32) h1)))) : Ev wM G 6 q_M_seen [.ref 0, .int a1, .int a2, .int a3, .int a4] hp (rI F) := by
  refine ev_of rfl (Nat.le_of_ble_eq_true rfl) rfl ?_
  show Rn wM G 6 q_M_seen 0 [some (.ref 0), some (.int a1), some (.int a2), some (.int a3), some (.int a4)] [] hp (rI F)
  refine r_aload_n (i := 0) d_M_seen_0 rfl rfl ?_
  refine r_iload_n (i := 1) d_M_seen_1 rfl rfl ?_
  refine r_iload_n (i := 2) d_M_seen_2 rfl rfl ?_
  refine r_iload_n (i := 3) d_M_seen_3 rfl rfl ?_
  refine rk_VI (b := 0) (d' := 3) [.int a1, .int a2, .int a3] [] d_M_seen_4 ml_M_305 rfl rfl (by decide) (by decide) rfl rfl (Nat.le_of_ble_eq_true rfl) (s_M_isImage a1 a2 a3 ?_)
  refine r_if_eq (tgt := 19) d_M_seen_7 (by decide) (fun hc_7 => ?_) (fun hc_7 => ?_)
  · replace H := H.1 hc_7
    refine r_iconst d_M_seen_19 ic_m1 ?_
    refine r_goto (tgt := 40) d_M_seen_20 (by decide) ?_
    exact rI_ret d_M_seen_40 rfl H
  · replace H := H.2 hc_7
    refine r_aload_n (i := 0) d_M_seen_10 rfl rfl ?_
    refine r_iload d_M_seen_11 rfl ?_
    refine rk_VI (b := 0) (d' := 2) [.int a4] [] d_M_seen_13 ml_M_267 rfl rfl (by decide) (by decide) rfl rfl (Nat.le_of_ble_eq_true rfl) (s_M_isBody a4 ?_)
    refine r_if_ne (tgt := 23) d_M_seen_16 (by decide) (fun hc_16 => ?_) (fun hc_16 => ?_)
    · replace H := H.2 hc_16
      refine r_aload_n (i := 0) d_M_seen_23 rfl rfl ?_
      refine r_iload_n (i := 1) d_M_seen_24 rfl rfl ?_
      refine r_iload_n (i := 2) d_M_seen_25 rfl rfl ?_
      refine r_iload_n (i := 3) d_M_seen_26 rfl rfl ?_
      refine r_iload d_M_seen_27 rfl ?_
      refine rc_VI (b := 0) (d' := 5) [.int a1, .int a2, .int a3, .int a4] [] d_M_seen_29 ml_M_341 rfl rfl (by decide) (by decide) rfl rfl (Nat.le_of_ble_eq_true rfl) H ?_
      intro r2 h1 H
      have J32 : ∀ (v32_0 : Int32), v32_0 = ((if r2 = 0 then 0 else 1) : Int32) → Rn wM G 6 q_M_seen 40 [some (.ref 0), some (.int a1), some (.int a2), some (.int a3), some (.int a4)] [.int v32_0] h1 (rI F) := by
        rintro _ rfl
        exact rI_ret d_M_seen_40 rfl H
      refine r_if_eq (tgt := 39) d_M_seen_32 (by decide) (fun hc_32 => ?_) (fun hc_32 => ?_)
      · refine r_iconst d_M_seen_39 ic_0 ?_
        exact J32 _ (((if_pos hc_32).trans rfl)).symm
      · refine r_iconst d_M_seen_35 ic_1 ?_
        refine r_goto (tgt := 40) d_M_seen_36 (by decide) ?_
        exact J32 _ (((if_neg hc_32).trans rfl)).symm
    · replace H := H.1 hc_16
      refine r_iconst d_M_seen_19 ic_m1 ?_
      refine r_goto (tgt := 40) d_M_seen_20 (by decide) ?_
      exact rI_ret d_M_seen_40 rfl H
set_option maxHeartbeats 4000000 in
set_option maxRecDepth 20000 in
theorem w_M_viewOf {G : rx_Gh} {hp : rx_Hp} {F : Int32 → rx_Hp → Prop} (a1 : Int32) (a2 : Int32) (a3 : Int32) (H : Rn wM G 6 q_M_viewOf 7 [some (.ref 0), some (.int a1), some (.int a2), some (.int a3), some (.int 0), some (.int (-a3)), none] [] hp (rI F)) : Ev wM G 6 q_M_viewOf [.ref 0, .int a1, .int a2, .int a3] hp (rI F) := by
  refine ev_of rfl (Nat.le_of_ble_eq_true rfl) rfl ?_
  show Rn wM G 6 q_M_viewOf 0 [some (.ref 0), some (.int a1), some (.int a2), some (.int a3), none, none, none] [] hp (rI F)
  refine r_iconst d_M_viewOf_0 ic_0 ?_
  refine r_istore (lz := [some (.ref 0), some (.int a1), some (.int a2), some (.int a3), some (.int 0), none, none]) d_M_viewOf_1 (by decide) rfl rfl ?_
  refine r_iload_n (i := 3) d_M_viewOf_3 rfl rfl ?_
  refine r_ineg d_M_viewOf_4 ?_
  refine r_istore (lz := [some (.ref 0), some (.int a1), some (.int a2), some (.int a3), some (.int 0), some (.int (-a3)), none]) d_M_viewOf_5 (by decide) rfl rfl ?_
  exact H
set_option maxHeartbeats 4000000 in
set_option maxRecDepth 20000 in
theorem w_M_viewOf_7 {G : rx_Gh} {hp : rx_Hp} {F : Int32 → rx_Hp → Prop} (x1 : Int32) (x2 : Int32) (x3 : Int32) (x4 : Int32) (x5 : Int32) (H : (x3 < x5 → F x4 hp) ∧ (¬ x3 < x5 → Rn wM G 6 q_M_viewOf 17 [some (.ref 0), some (.int x1), some (.int x2), some (.int x3), some (.int x4), some (.int x5), some (.int (-x3))] [] hp (rI F))) : Rn wM G 6 q_M_viewOf 7 [some (.ref 0), some (.int x1), some (.int x2), some (.int x3), some (.int x4), some (.int x5), none] [] hp (rI F) := by
  refine r_iload d_M_viewOf_7 rfl ?_
  refine r_iload_n (i := 3) d_M_viewOf_9 rfl rfl ?_
  refine r_icmp_gt (tgt := 69) d_M_viewOf_10 (by decide) (fun hc_10 => ?_) (fun hc_10 => ?_)
  · replace H := H.1 hc_10
    refine r_iload d_M_viewOf_69 rfl ?_
    exact rI_ret d_M_viewOf_71 rfl H
  · replace H := H.2 hc_10
    refine r_iload_n (i := 3) d_M_viewOf_13 rfl rfl ?_
    refine r_ineg d_M_viewOf_14 ?_
    refine r_istore (lz := [some (.ref 0), some (.int x1), some (.int x2), some (.int x3), some (.int x4), some (.int x5), some (.int (-x3))]) d_M_viewOf_15 (by decide) rfl rfl ?_
    exact H
set_option maxHeartbeats 4000000 in
set_option maxRecDepth 20000 in
theorem w_M_viewOf_17 {G : rx_Gh} {hp : rx_Hp} {F : Int32 → rx_Hp → Prop} (x1 : Int32) (x2 : Int32) (x3 : Int32) (x4 : Int32) (x5 : Int32) (x6 : Int32) (H : (x3 < x6 → Rn wM G 6 q_M_viewOf 7 [some (.ref 0), some (.int x1), some (.int x2), some (.int x3), some (.int x4), some (.int (x5 + 1)), none] [] hp (rI F)) ∧ (¬ x3 < x6 → (x3 < (f_M_glasses x5 x6) → Rn wM G 6 q_M_viewOf 17 [some (.ref 0), some (.int x1), some (.int x2), some (.int x3), some (.int (x4 + 0)), some (.int x5), some (.int (x6 + 1))] [] hp (rI F)) ∧ (¬ x3 < (f_M_glasses x5 x6) → Ev wM G 5 q_M_isSeen [.ref 0, .int x1, .int x5, .int x6, .int x2] hp (rI fun r2 h1 => Rn wM G 6 q_M_viewOf 17 [some (.ref 0), some (.int x1), some (.int x2), some (.int x3), some (.int (x4 + ((if r2 = 0 then 0 else 1) : Int32))), some (.int x5), some (.int (x6 + 1))] [] h1 (rI F))))) : Rn wM G 6 q_M_viewOf 17 [some (.ref 0), some (.int x1), some (.int x2), some (.int x3), some (.int x4), some (.int x5), some (.int x6)] [] hp (rI F) := by
  refine r_iload d_M_viewOf_17 rfl ?_
  refine r_iload_n (i := 3) d_M_viewOf_19 rfl rfl ?_
  refine r_icmp_gt (tgt := 63) d_M_viewOf_20 (by decide) (fun hc_20 => ?_) (fun hc_20 => ?_)
  · replace H := H.1 hc_20
    refine r_iinc (v := x5 + 1) (lz := [some (.ref 0), some (.int x1), some (.int x2), some (.int x3), some (.int x4), some (.int (x5 + 1)), some (.int x6)]) d_M_viewOf_63 rfl (by rw [ic_1]) (by decide) rfl rfl ?_
    refine r_goto (tgt := 7) d_M_viewOf_66 (by decide) ?_
    exact rx_fgt [false, false, false, false, false, false, true] H
  · replace H := H.2 hc_20
    refine r_iload d_M_viewOf_23 rfl ?_
    refine r_iload d_M_viewOf_25 rfl ?_
    refine r_iload d_M_viewOf_27 rfl ?_
    refine rk_SI (d' := 2) [.int x5, .int x6] [.int x4] d_M_viewOf_29 ml_M_309 rfl rfl (by decide) (Nat.le_of_ble_eq_true rfl) (s_M_glasses x5 x6 ?_)
    refine r_iload_n (i := 3) d_M_viewOf_32 rfl rfl ?_
    refine r_icmp_gt (tgt := 53) d_M_viewOf_33 (by decide) (fun hc_33 => ?_) (fun hc_33 => ?_)
    · replace H := H.1 hc_33
      refine r_iconst d_M_viewOf_53 ic_0 ?_
      refine r_iadd d_M_viewOf_54 ?_
      refine r_istore (lz := [some (.ref 0), some (.int x1), some (.int x2), some (.int x3), some (.int (x4 + 0)), some (.int x5), some (.int x6)]) d_M_viewOf_55 (by decide) rfl rfl ?_
      refine r_iinc (v := x6 + 1) (lz := [some (.ref 0), some (.int x1), some (.int x2), some (.int x3), some (.int (x4 + 0)), some (.int x5), some (.int (x6 + 1))]) d_M_viewOf_57 rfl (by rw [ic_1]) (by decide) rfl rfl ?_
      refine r_goto (tgt := 17) d_M_viewOf_60 (by decide) ?_
      exact H
    · replace H := H.2 hc_33
      refine r_aload_n (i := 0) d_M_viewOf_36 rfl rfl ?_
      refine r_iload_n (i := 1) d_M_viewOf_37 rfl rfl ?_
      refine r_iload d_M_viewOf_38 rfl ?_
      refine r_iload d_M_viewOf_40 rfl ?_
      refine r_iload_n (i := 2) d_M_viewOf_42 rfl rfl ?_
      refine rc_VI (b := 0) (d' := 5) [.int x1, .int x5, .int x6, .int x2] [.int x4] d_M_viewOf_43 ml_M_341 rfl rfl (by decide) (by decide) rfl rfl (Nat.le_of_ble_eq_true rfl) H ?_
      intro r2 h1 H
      have J46 : ∀ (v46_0 : Int32), v46_0 = ((if r2 = 0 then 0 else 1) : Int32) → Rn wM G 6 q_M_viewOf 54 [some (.ref 0), some (.int x1), some (.int x2), some (.int x3), some (.int x4), some (.int x5), some (.int x6)] [.int v46_0, .int x4] h1 (rI F) := by
        rintro _ rfl
        refine r_iadd d_M_viewOf_54 ?_
        refine r_istore (lz := [some (.ref 0), some (.int x1), some (.int x2), some (.int x3), some (.int (x4 + ((if r2 = 0 then 0 else 1) : Int32))), some (.int x5), some (.int x6)]) d_M_viewOf_55 (by decide) rfl rfl ?_
        refine r_iinc (v := x6 + 1) (lz := [some (.ref 0), some (.int x1), some (.int x2), some (.int x3), some (.int (x4 + ((if r2 = 0 then 0 else 1) : Int32))), some (.int x5), some (.int (x6 + 1))]) d_M_viewOf_57 rfl (by rw [ic_1]) (by decide) rfl rfl ?_
        refine r_goto (tgt := 17) d_M_viewOf_60 (by decide) ?_
        exact H
      refine r_if_eq (tgt := 53) d_M_viewOf_46 (by decide) (fun hc_46 => ?_) (fun hc_46 => ?_)
      · refine r_iconst d_M_viewOf_53 ic_0 ?_
        exact J46 _ (((if_pos hc_46).trans rfl)).symm
      · refine r_iconst d_M_viewOf_49 ic_1 ?_
        refine r_goto (tgt := 54) d_M_viewOf_50 (by decide) ?_
        exact J46 _ (((if_neg hc_46).trans rfl)).symm
set_option maxHeartbeats 4000000 in
set_option maxRecDepth 20000 in
theorem w_M_view {G : rx_Gh} {hp : rx_Hp} {F : Int32 → rx_Hp → Prop} (a1 : Int32) (a2 : Int32) (a3 : Int32) (H : ((f_M_isBody a1 hp) = 0 → F (-1) hp) ∧ (¬ (f_M_isBody a1 hp) = 0 → ((f_M_isBody a2 hp) = 0 → F (-1) hp) ∧ (¬ (f_M_isBody a2 hp) = 0 → ((f_M_in a3 0 6) = 0 → F (-1) hp) ∧ (¬ (f_M_in a3 0 6) = 0 → Ev wM G 6 q_M_viewOf [.ref 0, .int a1, .int a2, .int a3] hp (rI fun r2 h1 => F r2 h1))))) : Ev wM G 7 q_M_view [.ref 0, .int a1, .int a2, .int a3] hp (rI F) := by
  refine ev_of rfl (Nat.le_of_ble_eq_true rfl) rfl ?_
  show Rn wM G 7 q_M_view 0 [some (.ref 0), some (.int a1), some (.int a2), some (.int a3)] [] hp (rI F)
  refine r_aload_n (i := 0) d_M_view_0 rfl rfl ?_
  refine r_iload_n (i := 1) d_M_view_1 rfl rfl ?_
  refine rk_VI (b := 0) (d' := 2) [.int a1] [] d_M_view_2 ml_M_267 rfl rfl (by decide) (by decide) rfl rfl (Nat.le_of_ble_eq_true rfl) (s_M_isBody a1 ?_)
  refine r_if_eq (tgt := 36) d_M_view_5 (by decide) (fun hc_5 => ?_) (fun hc_5 => ?_)
  · replace H := H.1 hc_5
    refine r_iconst d_M_view_36 ic_m1 ?_
    exact rI_ret d_M_view_37 rfl H
  · replace H := H.2 hc_5
    refine r_aload_n (i := 0) d_M_view_8 rfl rfl ?_
    refine r_iload_n (i := 2) d_M_view_9 rfl rfl ?_
    refine rk_VI (b := 0) (d' := 2) [.int a2] [] d_M_view_10 ml_M_267 rfl rfl (by decide) (by decide) rfl rfl (Nat.le_of_ble_eq_true rfl) (s_M_isBody a2 ?_)
    refine r_if_eq (tgt := 36) d_M_view_13 (by decide) (fun hc_13 => ?_) (fun hc_13 => ?_)
    · replace H := H.1 hc_13
      refine r_iconst d_M_view_36 ic_m1 ?_
      exact rI_ret d_M_view_37 rfl H
    · replace H := H.2 hc_13
      refine r_iload_n (i := 3) d_M_view_16 rfl rfl ?_
      refine r_iconst d_M_view_17 ic_0 ?_
      refine r_bipush d_M_view_18 bp_6 ?_
      refine rk_SI (d' := 1) [.int a3, .int 0, .int 6] [] d_M_view_20 ml_M_198 rfl rfl (by decide) (Nat.le_of_ble_eq_true rfl) (s_M_in a3 0 6 ?_)
      refine r_if_eq (tgt := 36) d_M_view_23 (by decide) (fun hc_23 => ?_) (fun hc_23 => ?_)
      · replace H := H.1 hc_23
        refine r_iconst d_M_view_36 ic_m1 ?_
        exact rI_ret d_M_view_37 rfl H
      · replace H := H.2 hc_23
        refine r_aload_n (i := 0) d_M_view_26 rfl rfl ?_
        refine r_iload_n (i := 1) d_M_view_27 rfl rfl ?_
        refine r_iload_n (i := 2) d_M_view_28 rfl rfl ?_
        refine r_iload_n (i := 3) d_M_view_29 rfl rfl ?_
        refine rc_VI (b := 0) (d' := 6) [.int a1, .int a2, .int a3] [] d_M_view_30 ml_M_344 rfl rfl (by decide) (by decide) rfl rfl (Nat.le_of_ble_eq_true rfl) H ?_
        intro r2 h1 H
        refine r_goto (tgt := 37) d_M_view_33 (by decide) ?_
        exact rI_ret d_M_view_37 rfl H
set_option maxHeartbeats 4000000 in
set_option maxRecDepth 20000 in
theorem w_M_seesAll {G : rx_Gh} {hp : rx_Hp} {F : Int32 → rx_Hp → Prop} (a1 : Int32) (a2 : Int32) (H : Rn wM G 7 q_M_seesAll 2 [some (.ref 0), some (.int a1), some (.int a2), some (.int 0)] [] hp (rI F)) : Ev wM G 7 q_M_seesAll [.ref 0, .int a1, .int a2] hp (rI F) := by
  refine ev_of rfl (Nat.le_of_ble_eq_true rfl) rfl ?_
  show Rn wM G 7 q_M_seesAll 0 [some (.ref 0), some (.int a1), some (.int a2), none] [] hp (rI F)
  refine r_iconst d_M_seesAll_0 ic_0 ?_
  refine r_istore_n (i := 3) (lz := [some (.ref 0), some (.int a1), some (.int a2), some (.int 0)]) d_M_seesAll_1 rfl (by decide) rfl rfl ?_
  exact H
set_option maxHeartbeats 4000000 in
set_option maxRecDepth 20000 in
theorem w_M_seesAll_2 {G : rx_Gh} {hp : rx_Hp} {F : Int32 → rx_Hp → Prop} (x1 : Int32) (x2 : Int32) (x3 : Int32) (H : ((hp.1 0 23) ≤ x3 → F 1 hp) ∧ (¬ (hp.1 0 23) ≤ x3 → (x3 = x1 → Rn wM G 7 q_M_seesAll 2 [some (.ref 0), some (.int x1), some (.int x2), some (.int (x3 + 1))] [] hp (rI F)) ∧ (¬ x3 = x1 → Ev wM G 6 q_M_viewOf [.ref 0, .int x3, .int x1, .int 2] hp (rI fun r2 h1 => (x2 ≤ r2 → Rn wM G 7 q_M_seesAll 2 [some (.ref 0), some (.int x1), some (.int x2), some (.int (x3 + 1))] [] h1 (rI F)) ∧ (¬ x2 ≤ r2 → F 0 h1))))) : Rn wM G 7 q_M_seesAll 2 [some (.ref 0), some (.int x1), some (.int x2), some (.int x3)] [] hp (rI F) := by
  refine r_iload_n (i := 3) d_M_seesAll_2 rfl rfl ?_
  refine r_aload_n (i := 0) d_M_seesAll_3 rfl rfl ?_
  refine r_getI (b := 0) (v := hp.1 0 23) d_M_seesAll_4 fl_M_236 (by decide) rfl rfl rfl ?_
  refine r_icmp_ge (tgt := 34) d_M_seesAll_7 (by decide) (fun hc_7 => ?_) (fun hc_7 => ?_)
  · replace H := H.1 hc_7
    refine r_iconst d_M_seesAll_34 ic_1 ?_
    exact rZ_ret d_M_seesAll_35 rfl (Or.inr rfl) H
  · replace H := H.2 hc_7
    refine r_iload_n (i := 3) d_M_seesAll_10 rfl rfl ?_
    refine r_iload_n (i := 1) d_M_seesAll_11 rfl rfl ?_
    refine r_icmp_eq (tgt := 28) d_M_seesAll_12 (by decide) (fun hc_12 => ?_) (fun hc_12 => ?_)
    · replace H := H.1 hc_12
      refine r_iinc (v := x3 + 1) (lz := [some (.ref 0), some (.int x1), some (.int x2), some (.int (x3 + 1))]) d_M_seesAll_28 rfl (by rw [ic_1]) (by decide) rfl rfl ?_
      refine r_goto (tgt := 2) d_M_seesAll_31 (by decide) ?_
      exact H
    · replace H := H.2 hc_12
      refine r_aload_n (i := 0) d_M_seesAll_15 rfl rfl ?_
      refine r_iload_n (i := 3) d_M_seesAll_16 rfl rfl ?_
      refine r_iload_n (i := 1) d_M_seesAll_17 rfl rfl ?_
      refine r_iconst d_M_seesAll_18 ic_2 ?_
      refine rc_VI (b := 0) (d' := 6) [.int x3, .int x1, .int 2] [] d_M_seesAll_19 ml_M_344 rfl rfl (by decide) (by decide) rfl rfl (Nat.le_of_ble_eq_true rfl) H ?_
      intro r2 h1 H
      refine r_iload_n (i := 2) d_M_seesAll_22 rfl rfl ?_
      refine r_icmp_ge (tgt := 28) d_M_seesAll_23 (by decide) (fun hc_23 => ?_) (fun hc_23 => ?_)
      · replace H := H.1 hc_23
        refine r_iinc (v := x3 + 1) (lz := [some (.ref 0), some (.int x1), some (.int x2), some (.int (x3 + 1))]) d_M_seesAll_28 rfl (by rw [ic_1]) (by decide) rfl rfl ?_
        refine r_goto (tgt := 2) d_M_seesAll_31 (by decide) ?_
        exact H
      · replace H := H.2 hc_23
        refine r_iconst d_M_seesAll_26 ic_0 ?_
        exact rZ_ret d_M_seesAll_27 rfl (Or.inl rfl) H
set_option maxHeartbeats 4000000 in
set_option maxRecDepth 20000 in
theorem w_M_walls {G : rx_Gh} {hp : rx_Hp} {F : Int32 → rx_Hp → Prop} (a1 : Int32) (a2 : Int32) (H : ((f_M_isBody a1 hp) = 0 → F (-1) hp) ∧ (¬ (f_M_isBody a1 hp) = 0 → ((f_M_in a2 0 25) = 0 → F (-1) hp) ∧ (¬ (f_M_in a2 0 25) = 0 → Rn wM G 8 q_M_walls 31 [some (.ref 0), some (.int a1), some (.int a2), some (.int (hp.1 0 26)), some (.int (-1)), some (.int 0)] [] hp (rI F)))) : Ev wM G 8 q_M_walls [.ref 0, .int a1, .int a2] hp (rI F) := by
  refine ev_of rfl (Nat.le_of_ble_eq_true rfl) rfl ?_
  show Rn wM G 8 q_M_walls 0 [some (.ref 0), some (.int a1), some (.int a2), none, none, none] [] hp (rI F)
  refine r_aload_n (i := 0) d_M_walls_0 rfl rfl ?_
  refine r_iload_n (i := 1) d_M_walls_1 rfl rfl ?_
  refine rk_VI (b := 0) (d' := 2) [.int a1] [] d_M_walls_2 ml_M_267 rfl rfl (by decide) (by decide) rfl rfl (Nat.le_of_ble_eq_true rfl) (s_M_isBody a1 ?_)
  refine r_if_eq (tgt := 18) d_M_walls_5 (by decide) (fun hc_5 => ?_) (fun hc_5 => ?_)
  · replace H := H.1 hc_5
    refine r_iconst d_M_walls_18 ic_m1 ?_
    exact rI_ret d_M_walls_19 rfl H
  · replace H := H.2 hc_5
    refine r_iload_n (i := 2) d_M_walls_8 rfl rfl ?_
    refine r_iconst d_M_walls_9 ic_0 ?_
    refine r_bipush d_M_walls_10 bp_25 ?_
    refine rk_SI (d' := 1) [.int a2, .int 0, .int 25] [] d_M_walls_12 ml_M_198 rfl rfl (by decide) (Nat.le_of_ble_eq_true rfl) (s_M_in a2 0 25 ?_)
    refine r_if_ne (tgt := 20) d_M_walls_15 (by decide) (fun hc_15 => ?_) (fun hc_15 => ?_)
    · replace H := H.2 hc_15
      refine r_aload_n (i := 0) d_M_walls_20 rfl rfl ?_
      refine r_getI (b := 0) (v := hp.1 0 26) d_M_walls_21 fl_M_245 (by decide) rfl rfl rfl ?_
      refine r_istore_n (i := 3) (lz := [some (.ref 0), some (.int a1), some (.int a2), some (.int (hp.1 0 26)), none, none]) d_M_walls_24 rfl (by decide) rfl rfl ?_
      refine r_iconst d_M_walls_25 ic_m1 ?_
      refine r_istore (lz := [some (.ref 0), some (.int a1), some (.int a2), some (.int (hp.1 0 26)), some (.int (-1)), none]) d_M_walls_26 (by decide) rfl rfl ?_
      refine r_iconst d_M_walls_28 ic_0 ?_
      refine r_istore (lz := [some (.ref 0), some (.int a1), some (.int a2), some (.int (hp.1 0 26)), some (.int (-1)), some (.int 0)]) d_M_walls_29 (by decide) rfl rfl ?_
      exact H
    · replace H := H.1 hc_15
      refine r_iconst d_M_walls_18 ic_m1 ?_
      exact rI_ret d_M_walls_19 rfl H
set_option maxHeartbeats 4000000 in
set_option maxRecDepth 20000 in
theorem w_M_walls_31 {G : rx_Gh} {hp : rx_Hp} {F : Int32 → rx_Hp → Prop} (x1 : Int32) (x2 : Int32) (x3 : Int32) (x4 : Int32) (x5 : Int32) (H : (16 ≤ x5 → F x4 (rx_pf hp 0 26 x3)) ∧ (¬ 16 ≤ x5 → (x4 = (-1) → Ev wM G 7 q_M_seesAll [.ref 0, .int x1, .int x2] (rx_pf hp 0 26 x5) (rI fun r2 h1 => Rn wM G 8 q_M_walls 31 [some (.ref 0), some (.int x1), some (.int x2), some (.int x3), some (.int ((if r2 = 0 then x4 else x5) : Int32)), some (.int (x5 + 1))] [] h1 (rI F))) ∧ (¬ x4 = (-1) → ((f_It_bitCount x4) ≤ (f_It_bitCount x5) → Rn wM G 8 q_M_walls 31 [some (.ref 0), some (.int x1), some (.int x2), some (.int x3), some (.int x4), some (.int (x5 + 1))] [] hp (rI F)) ∧ (¬ (f_It_bitCount x4) ≤ (f_It_bitCount x5) → Ev wM G 7 q_M_seesAll [.ref 0, .int x1, .int x2] (rx_pf hp 0 26 x5) (rI fun r4 h3 => Rn wM G 8 q_M_walls 31 [some (.ref 0), some (.int x1), some (.int x2), some (.int x3), some (.int ((if r4 = 0 then x4 else x5) : Int32)), some (.int (x5 + 1))] [] h3 (rI F)))))) : Rn wM G 8 q_M_walls 31 [some (.ref 0), some (.int x1), some (.int x2), some (.int x3), some (.int x4), some (.int x5)] [] hp (rI F) := by
  refine r_iload d_M_walls_31 rfl ?_
  refine r_bipush d_M_walls_33 bp_16 ?_
  refine r_icmp_ge (tgt := 87) d_M_walls_35 (by decide) (fun hc_35 => ?_) (fun hc_35 => ?_)
  · replace H := H.1 hc_35
    refine r_aload_n (i := 0) d_M_walls_87 rfl rfl ?_
    refine r_iload_n (i := 3) d_M_walls_88 rfl rfl ?_
    refine r_putI (b := 0) d_M_walls_89 fp_M_245 ⟨rfl, rfl⟩ (by decide) rfl rfl ?_
    refine r_iload d_M_walls_92 rfl ?_
    exact rI_ret d_M_walls_94 rfl H
  · replace H := H.2 hc_35
    refine r_iload d_M_walls_38 rfl ?_
    refine r_iconst d_M_walls_40 ic_m1 ?_
    refine r_icmp_eq (tgt := 57) d_M_walls_41 (by decide) (fun hc_41 => ?_) (fun hc_41 => ?_)
    · replace H := H.1 hc_41
      refine r_aload_n (i := 0) d_M_walls_57 rfl rfl ?_
      refine r_iload d_M_walls_58 rfl ?_
      refine r_putI (b := 0) d_M_walls_60 fp_M_245 ⟨rfl, rfl⟩ (by decide) rfl rfl ?_
      refine r_aload_n (i := 0) d_M_walls_63 rfl rfl ?_
      refine r_iload_n (i := 1) d_M_walls_64 rfl rfl ?_
      refine r_iload_n (i := 2) d_M_walls_65 rfl rfl ?_
      refine rc_VI (b := 0) (d' := 7) [.int x1, .int x2] [] d_M_walls_66 ml_M_352 rfl rfl (by decide) (by decide) rfl rfl (Nat.le_of_ble_eq_true rfl) H ?_
      intro r2 h1 H
      have J69 : ∀ (v69_0 : Int32), v69_0 = ((if r2 = 0 then x4 else x5) : Int32) → Rn wM G 8 q_M_walls 79 [some (.ref 0), some (.int x1), some (.int x2), some (.int x3), some (.int x4), some (.int x5)] [.int v69_0] h1 (rI F) := by
        rintro _ rfl
        refine r_istore (lz := [some (.ref 0), some (.int x1), some (.int x2), some (.int x3), some (.int ((if r2 = 0 then x4 else x5) : Int32)), some (.int x5)]) d_M_walls_79 (by decide) rfl rfl ?_
        refine r_iinc (v := x5 + 1) (lz := [some (.ref 0), some (.int x1), some (.int x2), some (.int x3), some (.int ((if r2 = 0 then x4 else x5) : Int32)), some (.int (x5 + 1))]) d_M_walls_81 rfl (by rw [ic_1]) (by decide) rfl rfl ?_
        refine r_goto (tgt := 31) d_M_walls_84 (by decide) ?_
        exact H
      refine r_if_eq (tgt := 77) d_M_walls_69 (by decide) (fun hc_69 => ?_) (fun hc_69 => ?_)
      · refine r_iload d_M_walls_77 rfl ?_
        exact J69 _ (((if_pos hc_69).trans rfl)).symm
      · refine r_iload d_M_walls_72 rfl ?_
        refine r_goto (tgt := 79) d_M_walls_74 (by decide) ?_
        exact J69 _ (((if_neg hc_69).trans rfl)).symm
    · replace H := H.2 hc_41
      refine r_iload d_M_walls_44 rfl ?_
      refine rk_SI (d' := 1) [.int x5] [] d_M_walls_46 ml_M_347 rfl rfl (by decide) (Nat.le_of_ble_eq_true rfl) (s_It_bitCount x5 ?_)
      refine r_iload d_M_walls_49 rfl ?_
      refine rk_SI (d' := 1) [.int x4] [.int (f_It_bitCount x5)] d_M_walls_51 ml_M_347 rfl rfl (by decide) (Nat.le_of_ble_eq_true rfl) (s_It_bitCount x4 ?_)
      refine r_icmp_ge (tgt := 81) d_M_walls_54 (by decide) (fun hc_54 => ?_) (fun hc_54 => ?_)
      · replace H := H.1 hc_54
        refine r_iinc (v := x5 + 1) (lz := [some (.ref 0), some (.int x1), some (.int x2), some (.int x3), some (.int x4), some (.int (x5 + 1))]) d_M_walls_81 rfl (by rw [ic_1]) (by decide) rfl rfl ?_
        refine r_goto (tgt := 31) d_M_walls_84 (by decide) ?_
        exact H
      · replace H := H.2 hc_54
        refine r_aload_n (i := 0) d_M_walls_57 rfl rfl ?_
        refine r_iload d_M_walls_58 rfl ?_
        refine r_putI (b := 0) d_M_walls_60 fp_M_245 ⟨rfl, rfl⟩ (by decide) rfl rfl ?_
        refine r_aload_n (i := 0) d_M_walls_63 rfl rfl ?_
        refine r_iload_n (i := 1) d_M_walls_64 rfl rfl ?_
        refine r_iload_n (i := 2) d_M_walls_65 rfl rfl ?_
        refine rc_VI (b := 0) (d' := 7) [.int x1, .int x2] [] d_M_walls_66 ml_M_352 rfl rfl (by decide) (by decide) rfl rfl (Nat.le_of_ble_eq_true rfl) H ?_
        intro r4 h3 H
        have J69 : ∀ (v69_0 : Int32), v69_0 = ((if r4 = 0 then x4 else x5) : Int32) → Rn wM G 8 q_M_walls 79 [some (.ref 0), some (.int x1), some (.int x2), some (.int x3), some (.int x4), some (.int x5)] [.int v69_0] h3 (rI F) := by
          rintro _ rfl
          refine r_istore (lz := [some (.ref 0), some (.int x1), some (.int x2), some (.int x3), some (.int ((if r4 = 0 then x4 else x5) : Int32)), some (.int x5)]) d_M_walls_79 (by decide) rfl rfl ?_
          refine r_iinc (v := x5 + 1) (lz := [some (.ref 0), some (.int x1), some (.int x2), some (.int x3), some (.int ((if r4 = 0 then x4 else x5) : Int32)), some (.int (x5 + 1))]) d_M_walls_81 rfl (by rw [ic_1]) (by decide) rfl rfl ?_
          refine r_goto (tgt := 31) d_M_walls_84 (by decide) ?_
          exact H
        refine r_if_eq (tgt := 77) d_M_walls_69 (by decide) (fun hc_69 => ?_) (fun hc_69 => ?_)
        · refine r_iload d_M_walls_77 rfl ?_
          exact J69 _ (((if_pos hc_69).trans rfl)).symm
        · refine r_iload d_M_walls_72 rfl ?_
          refine r_goto (tgt := 79) d_M_walls_74 (by decide) ?_
          exact J69 _ (((if_neg hc_69).trans rfl)).symm

theorem d_LR_readAtom_0 : decode q_LR_readAtom.2.1 0 = .ok (.aload_n 0, 1) := by decide +kernel
theorem d_LR_readAtom_1 : decode q_LR_readAtom.2.1 1 = .ok (.getfield 9, 3) := by decide +kernel
theorem fl_LR_9 : rx_F "GlassRoom$LightReader" 9 7 0 := ⟨(RX7, TX7, 2), rfl, by decide, (rx_s1 175 rfl rfl), rx_T7⟩
theorem d_LR_readAtom_4 : decode q_LR_readAtom.2.1 4 = .ok (.invokevirtual 35, 3) := by decide +kernel
theorem ml_LR_35 : rx_CV "GlassRoom$LightReader" 35 q_Ta_look 0 := ⟨⟨(rx_s3 79 rfl rfl), (rx_s2 179 rfl rfl), (rx_s2 180 rfl rfl)⟩, ⟨(rx_s1 2 rfl rfl), q_Ta_look_k, ⟨by decide, by decide, by decide +kernel⟩, by decide⟩⟩
theorem d_LR_readAtom_7 : decode q_LR_readAtom.2.1 7 = .ok (.istore_n 2, 1) := by decide +kernel
theorem d_LR_readAtom_8 : decode q_LR_readAtom.2.1 8 = .ok (.iload_n 2, 1) := by decide +kernel
theorem d_LR_readAtom_9 : decode q_LR_readAtom.2.1 9 = .ok (.bipush 91, 2) := by decide +kernel
theorem bp_91 : (Int8.ofInt (91)).toInt32 = (91 : Int32) := by decide
theorem d_LR_readAtom_11 : decode q_LR_readAtom.2.1 11 = .ok (.if_icmp .ne 63, 3) := by decide +kernel
theorem d_LR_readAtom_14 : decode q_LR_readAtom.2.1 14 = .ok (.iload_n 1, 1) := by decide +kernel
theorem d_LR_readAtom_15 : decode q_LR_readAtom.2.1 15 = .ok (.bipush 6, 2) := by decide +kernel
theorem d_LR_readAtom_17 : decode q_LR_readAtom.2.1 17 = .ok (.if_icmp .lt 5, 3) := by decide +kernel
theorem d_LR_readAtom_22 : decode q_LR_readAtom.2.1 22 = .ok (.aload_n 0, 1) := by decide +kernel
theorem d_LR_readAtom_23 : decode q_LR_readAtom.2.1 23 = .ok (.getfield 9, 3) := by decide +kernel
theorem d_LR_readAtom_26 : decode q_LR_readAtom.2.1 26 = .ok (.dup, 1) := by decide +kernel
theorem d_LR_readAtom_27 : decode q_LR_readAtom.2.1 27 = .ok (.getfield 26, 3) := by decide +kernel
theorem fl_LR_26 : rx_F "GlassRoom$LightReader" 26 10 2 := ⟨(RX10, TX10, 3), rfl, by decide, (rx_s1 44 rfl rfl), rx_T10⟩
theorem d_LR_readAtom_30 : decode q_LR_readAtom.2.1 30 = .ok (.iconst 1, 1) := by decide +kernel
theorem d_LR_readAtom_31 : decode q_LR_readAtom.2.1 31 = .ok (.iadd, 1) := by decide +kernel
theorem d_LR_readAtom_32 : decode q_LR_readAtom.2.1 32 = .ok (.putfield 26, 3) := by decide +kernel
theorem fp_LR_26 : rx_FP "GlassRoom$LightReader" 26 10 2 (.int) := ⟨(RX10, TX10, 3), tyX10, rfl, by decide, (rx_s1 44 rfl rfl), rx_T10, tyX10_ok, nmX10, rfl, rfl⟩
theorem d_LR_readAtom_35 : decode q_LR_readAtom.2.1 35 = .ok (.aload_n 0, 1) := by decide +kernel
theorem d_LR_readAtom_36 : decode q_LR_readAtom.2.1 36 = .ok (.iload_n 1, 1) := by decide +kernel
theorem d_LR_readAtom_37 : decode q_LR_readAtom.2.1 37 = .ok (.iconst 1, 1) := by decide +kernel
theorem d_LR_readAtom_38 : decode q_LR_readAtom.2.1 38 = .ok (.iadd, 1) := by decide +kernel
theorem d_LR_readAtom_39 : decode q_LR_readAtom.2.1 39 = .ok (.invokevirtual 43, 3) := by decide +kernel
theorem ml_LR_43 : rx_CV "GlassRoom$LightReader" 43 q_LR_readSum 1 := ⟨⟨(rx_s3 80 rfl rfl), (rx_s3 82 rfl rfl), (rx_s0 7 rfl rfl)⟩, ⟨(rx_s1 5 rfl rfl), q_LR_readSum_k, ⟨by decide, by decide, by decide +kernel⟩, by decide⟩⟩
theorem d_LR_readAtom_42 : decode q_LR_readAtom.2.1 42 = .ok (.ifCond .eq 15, 3) := by decide +kernel
theorem d_LR_readAtom_57 : decode q_LR_readAtom.2.1 57 = .ok (.iconst 0, 1) := by decide +kernel
theorem d_LR_readAtom_58 : decode q_LR_readAtom.2.1 58 = .ok (.ireturn, 1) := by decide +kernel
theorem d_LR_readAtom_45 : decode q_LR_readAtom.2.1 45 = .ok (.aload_n 0, 1) := by decide +kernel
theorem d_LR_readAtom_46 : decode q_LR_readAtom.2.1 46 = .ok (.getfield 9, 3) := by decide +kernel
theorem d_LR_readAtom_49 : decode q_LR_readAtom.2.1 49 = .ok (.invokevirtual 35, 3) := by decide +kernel
theorem d_LR_readAtom_52 : decode q_LR_readAtom.2.1 52 = .ok (.bipush 93, 2) := by decide +kernel
theorem bp_93 : (Int8.ofInt (93)).toInt32 = (93 : Int32) := by decide
theorem d_LR_readAtom_54 : decode q_LR_readAtom.2.1 54 = .ok (.if_icmp .eq 5, 3) := by decide +kernel
theorem d_LR_readAtom_59 : decode q_LR_readAtom.2.1 59 = .ok (.aload_n 0, 1) := by decide +kernel
theorem d_LR_readAtom_60 : decode q_LR_readAtom.2.1 60 = .ok (.getfield 9, 3) := by decide +kernel
theorem d_LR_readAtom_63 : decode q_LR_readAtom.2.1 63 = .ok (.dup, 1) := by decide +kernel
theorem d_LR_readAtom_64 : decode q_LR_readAtom.2.1 64 = .ok (.getfield 26, 3) := by decide +kernel
theorem d_LR_readAtom_67 : decode q_LR_readAtom.2.1 67 = .ok (.iconst 1, 1) := by decide +kernel
theorem d_LR_readAtom_68 : decode q_LR_readAtom.2.1 68 = .ok (.iadd, 1) := by decide +kernel
theorem d_LR_readAtom_69 : decode q_LR_readAtom.2.1 69 = .ok (.putfield 26, 3) := by decide +kernel
theorem d_LR_readAtom_72 : decode q_LR_readAtom.2.1 72 = .ok (.iconst 1, 1) := by decide +kernel
theorem d_LR_readAtom_73 : decode q_LR_readAtom.2.1 73 = .ok (.ireturn, 1) := by decide +kernel
theorem d_LR_readAtom_20 : decode q_LR_readAtom.2.1 20 = .ok (.iconst 0, 1) := by decide +kernel
theorem d_LR_readAtom_21 : decode q_LR_readAtom.2.1 21 = .ok (.ireturn, 1) := by decide +kernel
theorem d_LR_readAtom_74 : decode q_LR_readAtom.2.1 74 = .ok (.ldc 67, 2) := by decide +kernel
theorem d_LR_readAtom_76 : decode q_LR_readAtom.2.1 76 = .ok (.iload_n 2, 1) := by decide +kernel
theorem d_LR_readAtom_77 : decode q_LR_readAtom.2.1 77 = .ok (.i2c, 1) := by decide +kernel
theorem d_LR_readAtom_78 : decode q_LR_readAtom.2.1 78 = .ok (.invokevirtual 69, 3) := by decide +kernel
theorem ml_LR_69 : rx_CV "GlassRoom$LightReader" 69 q_St_indexOf 1 := ⟨⟨(rx_s3 89 rfl rfl), (rx_s2 192 rfl rfl), (rx_s2 193 rfl rfl)⟩, ⟨(rx_s1 14 rfl rfl), q_St_indexOf_k, ⟨by decide, by decide, by decide +kernel⟩, by decide⟩⟩
theorem d_LR_readAtom_81 : decode q_LR_readAtom.2.1 81 = .ok (.istore_n 3, 1) := by decide +kernel
theorem d_LR_readAtom_82 : decode q_LR_readAtom.2.1 82 = .ok (.iload_n 3, 1) := by decide +kernel
theorem d_LR_readAtom_83 : decode q_LR_readAtom.2.1 83 = .ok (.ifCond .lt 28, 3) := by decide +kernel
theorem d_LR_readAtom_111 : decode q_LR_readAtom.2.1 111 = .ok (.aload_n 0, 1) := by decide +kernel
theorem d_LR_readAtom_112 : decode q_LR_readAtom.2.1 112 = .ok (.getfield 9, 3) := by decide +kernel
theorem d_LR_readAtom_115 : decode q_LR_readAtom.2.1 115 = .ok (.iconst 4, 1) := by decide +kernel
theorem d_LR_readAtom_116 : decode q_LR_readAtom.2.1 116 = .ok (.invokevirtual 75, 3) := by decide +kernel
theorem ml_LR_75 : rx_CV "GlassRoom$LightReader" 75 q_Ta_number 1 := ⟨⟨(rx_s3 94 rfl rfl), (rx_s3 38 rfl rfl), (rx_s3 39 rfl rfl)⟩, ⟨(rx_s1 2 rfl rfl), q_Ta_number_k, ⟨by decide, by decide, by decide +kernel⟩, by decide⟩⟩
theorem d_LR_readAtom_119 : decode q_LR_readAtom.2.1 119 = .ok (.istore 4, 2) := by decide +kernel
theorem d_LR_readAtom_121 : decode q_LR_readAtom.2.1 121 = .ok (.iload 4, 2) := by decide +kernel
theorem d_LR_readAtom_123 : decode q_LR_readAtom.2.1 123 = .ok (.iconst (-1), 1) := by decide +kernel
theorem d_LR_readAtom_124 : decode q_LR_readAtom.2.1 124 = .ok (.if_icmp .ne 5, 3) := by decide +kernel
theorem d_LR_readAtom_127 : decode q_LR_readAtom.2.1 127 = .ok (.iconst 0, 1) := by decide +kernel
theorem d_LR_readAtom_128 : decode q_LR_readAtom.2.1 128 = .ok (.ireturn, 1) := by decide +kernel
theorem d_LR_readAtom_129 : decode q_LR_readAtom.2.1 129 = .ok (.aload_n 0, 1) := by decide +kernel
theorem d_LR_readAtom_130 : decode q_LR_readAtom.2.1 130 = .ok (.getfield 18, 3) := by decide +kernel
theorem fl_LR_18 : rx_F "GlassRoom$LightReader" 18 7 1 := ⟨(RX7, TX7, 2), rfl, by decide, (rx_s1 176 rfl rfl), rx_T7⟩
theorem d_LR_readAtom_133 : decode q_LR_readAtom.2.1 133 = .ok (.bipush 48, 2) := by decide +kernel
theorem d_LR_readAtom_135 : decode q_LR_readAtom.2.1 135 = .ok (.iload 4, 2) := by decide +kernel
theorem d_LR_readAtom_137 : decode q_LR_readAtom.2.1 137 = .ok (.invokevirtual 49, 3) := by decide +kernel
theorem ml_LR_49 : rx_CV "GlassRoom$LightReader" 49 q_Li_add 2 := ⟨⟨(rx_s3 90 rfl rfl), (rx_s3 91 rfl rfl), (rx_s3 92 rfl rfl)⟩, ⟨(rx_s1 6 rfl rfl), q_Li_add_k, ⟨by decide, by decide, by decide +kernel⟩, by decide⟩⟩
theorem d_LR_readAtom_140 : decode q_LR_readAtom.2.1 140 = .ok (.iconst 1, 1) := by decide +kernel
theorem d_LR_readAtom_141 : decode q_LR_readAtom.2.1 141 = .ok (.ireturn, 1) := by decide +kernel
theorem d_LR_readAtom_86 : decode q_LR_readAtom.2.1 86 = .ok (.aload_n 0, 1) := by decide +kernel
theorem d_LR_readAtom_87 : decode q_LR_readAtom.2.1 87 = .ok (.getfield 9, 3) := by decide +kernel
theorem d_LR_readAtom_90 : decode q_LR_readAtom.2.1 90 = .ok (.dup, 1) := by decide +kernel
theorem d_LR_readAtom_91 : decode q_LR_readAtom.2.1 91 = .ok (.getfield 26, 3) := by decide +kernel
theorem d_LR_readAtom_94 : decode q_LR_readAtom.2.1 94 = .ok (.iconst 1, 1) := by decide +kernel
theorem d_LR_readAtom_95 : decode q_LR_readAtom.2.1 95 = .ok (.iadd, 1) := by decide +kernel
theorem d_LR_readAtom_96 : decode q_LR_readAtom.2.1 96 = .ok (.putfield 26, 3) := by decide +kernel
theorem d_LR_readAtom_99 : decode q_LR_readAtom.2.1 99 = .ok (.aload_n 0, 1) := by decide +kernel
theorem d_LR_readAtom_100 : decode q_LR_readAtom.2.1 100 = .ok (.getfield 18, 3) := by decide +kernel
theorem d_LR_readAtom_103 : decode q_LR_readAtom.2.1 103 = .ok (.bipush 97, 2) := by decide +kernel
theorem d_LR_readAtom_105 : decode q_LR_readAtom.2.1 105 = .ok (.iload_n 3, 1) := by decide +kernel
theorem d_LR_readAtom_106 : decode q_LR_readAtom.2.1 106 = .ok (.invokevirtual 49, 3) := by decide +kernel
theorem d_LR_readAtom_109 : decode q_LR_readAtom.2.1 109 = .ok (.iconst 1, 1) := by decide +kernel
theorem d_LR_readAtom_110 : decode q_LR_readAtom.2.1 110 = .ok (.ireturn, 1) := by decide +kernel
theorem d_LR_readSum_0 : decode q_LR_readSum.2.1 0 = .ok (.aload_n 0, 1) := by decide +kernel
theorem d_LR_readSum_1 : decode q_LR_readSum.2.1 1 = .ok (.iload_n 1, 1) := by decide +kernel
theorem d_LR_readSum_2 : decode q_LR_readSum.2.1 2 = .ok (.invokevirtual 64, 3) := by decide +kernel
theorem ml_LR_64 : rx_CV "GlassRoom$LightReader" 64 q_LR_readAtom 1 := ⟨⟨(rx_s3 84 rfl rfl), (rx_s3 86 rfl rfl), (rx_s0 8 rfl rfl)⟩, ⟨(rx_s1 5 rfl rfl), q_LR_readAtom_k, ⟨by decide, by decide, by decide +kernel⟩, by decide⟩⟩
theorem d_LR_readSum_5 : decode q_LR_readSum.2.1 5 = .ok (.ifCond .ne 5, 3) := by decide +kernel
theorem d_LR_readSum_8 : decode q_LR_readSum.2.1 8 = .ok (.iconst 0, 1) := by decide +kernel
theorem d_LR_readSum_9 : decode q_LR_readSum.2.1 9 = .ok (.ireturn, 1) := by decide +kernel
theorem d_LR_readSum_10 : decode q_LR_readSum.2.1 10 = .ok (.iconst 0, 1) := by decide +kernel
theorem d_LR_readSum_11 : decode q_LR_readSum.2.1 11 = .ok (.istore_n 2, 1) := by decide +kernel
theorem d_LR_readSum_12 : decode q_LR_readSum.2.1 12 = .ok (.iconst 0, 1) := by decide +kernel
theorem d_LR_readSum_13 : decode q_LR_readSum.2.1 13 = .ok (.istore_n 3, 1) := by decide +kernel
theorem d_LR_readSum_14 : decode q_LR_readSum.2.1 14 = .ok (.iload_n 3, 1) := by decide +kernel
theorem d_LR_readSum_15 : decode q_LR_readSum.2.1 15 = .ok (.sipush 160, 3) := by decide +kernel
theorem d_LR_readSum_18 : decode q_LR_readSum.2.1 18 = .ok (.if_icmp .ge 120, 3) := by decide +kernel
theorem d_LR_readSum_138 : decode q_LR_readSum.2.1 138 = .ok (.iload_n 2, 1) := by decide +kernel
theorem d_LR_readSum_139 : decode q_LR_readSum.2.1 139 = .ok (.ifCond .eq 12, 3) := by decide +kernel
theorem d_LR_readSum_142 : decode q_LR_readSum.2.1 142 = .ok (.aload_n 0, 1) := by decide +kernel
theorem d_LR_readSum_143 : decode q_LR_readSum.2.1 143 = .ok (.getfield 18, 3) := by decide +kernel
theorem d_LR_readSum_151 : decode q_LR_readSum.2.1 151 = .ok (.iconst 1, 1) := by decide +kernel
theorem d_LR_readSum_152 : decode q_LR_readSum.2.1 152 = .ok (.ireturn, 1) := by decide +kernel
theorem d_LR_readSum_146 : decode q_LR_readSum.2.1 146 = .ok (.iload_n 2, 1) := by decide +kernel
theorem d_LR_readSum_147 : decode q_LR_readSum.2.1 147 = .ok (.iconst 0, 1) := by decide +kernel
theorem d_LR_readSum_148 : decode q_LR_readSum.2.1 148 = .ok (.invokevirtual 49, 3) := by decide +kernel
theorem d_LR_readSum_21 : decode q_LR_readSum.2.1 21 = .ok (.aload_n 0, 1) := by decide +kernel
theorem d_LR_readSum_22 : decode q_LR_readSum.2.1 22 = .ok (.getfield 9, 3) := by decide +kernel
theorem d_LR_readSum_25 : decode q_LR_readSum.2.1 25 = .ok (.invokevirtual 35, 3) := by decide +kernel
theorem d_LR_readSum_28 : decode q_LR_readSum.2.1 28 = .ok (.istore 4, 2) := by decide +kernel
theorem d_LR_readSum_30 : decode q_LR_readSum.2.1 30 = .ok (.iload 4, 2) := by decide +kernel
theorem d_LR_readSum_32 : decode q_LR_readSum.2.1 32 = .ok (.bipush 43, 2) := by decide +kernel
theorem bp_43 : (Int8.ofInt (43)).toInt32 = (43 : Int32) := by decide
theorem d_LR_readSum_34 : decode q_LR_readSum.2.1 34 = .ok (.if_icmp .eq 10, 3) := by decide +kernel
theorem d_LR_readSum_44 : decode q_LR_readSum.2.1 44 = .ok (.iconst 1, 1) := by decide +kernel
theorem d_LR_readSum_45 : decode q_LR_readSum.2.1 45 = .ok (.goto 4, 3) := by decide +kernel
theorem d_LR_readSum_37 : decode q_LR_readSum.2.1 37 = .ok (.iload 4, 2) := by decide +kernel
theorem d_LR_readSum_39 : decode q_LR_readSum.2.1 39 = .ok (.bipush 45, 2) := by decide +kernel
theorem bp_45 : (Int8.ofInt (45)).toInt32 = (45 : Int32) := by decide
theorem d_LR_readSum_41 : decode q_LR_readSum.2.1 41 = .ok (.if_icmp .ne 7, 3) := by decide +kernel
theorem d_LR_readSum_48 : decode q_LR_readSum.2.1 48 = .ok (.iconst 0, 1) := by decide +kernel
theorem d_LR_readSum_49 : decode q_LR_readSum.2.1 49 = .ok (.istore 5, 2) := by decide +kernel
theorem d_LR_readSum_51 : decode q_LR_readSum.2.1 51 = .ok (.iload 5, 2) := by decide +kernel
theorem d_LR_readSum_53 : decode q_LR_readSum.2.1 53 = .ok (.ifCond .ne 20, 3) := by decide +kernel
theorem d_LR_readSum_56 : decode q_LR_readSum.2.1 56 = .ok (.iload 4, 2) := by decide +kernel
theorem d_LR_readSum_58 : decode q_LR_readSum.2.1 58 = .ok (.bipush 42, 2) := by decide +kernel
theorem bp_42 : (Int8.ofInt (42)).toInt32 = (42 : Int32) := by decide
theorem d_LR_readSum_60 : decode q_LR_readSum.2.1 60 = .ok (.if_icmp .eq 13, 3) := by decide +kernel
theorem d_LR_readSum_73 : decode q_LR_readSum.2.1 73 = .ok (.aload_n 0, 1) := by decide +kernel
theorem d_LR_readSum_74 : decode q_LR_readSum.2.1 74 = .ok (.getfield 9, 3) := by decide +kernel
theorem d_LR_readSum_77 : decode q_LR_readSum.2.1 77 = .ok (.dup, 1) := by decide +kernel
theorem d_LR_readSum_78 : decode q_LR_readSum.2.1 78 = .ok (.getfield 26, 3) := by decide +kernel
theorem d_LR_readSum_81 : decode q_LR_readSum.2.1 81 = .ok (.iconst 1, 1) := by decide +kernel
theorem d_LR_readSum_82 : decode q_LR_readSum.2.1 82 = .ok (.iadd, 1) := by decide +kernel
theorem d_LR_readSum_83 : decode q_LR_readSum.2.1 83 = .ok (.putfield 26, 3) := by decide +kernel
theorem d_LR_readSum_86 : decode q_LR_readSum.2.1 86 = .ok (.iload 5, 2) := by decide +kernel
theorem d_LR_readSum_88 : decode q_LR_readSum.2.1 88 = .ok (.ifCond .eq 19, 3) := by decide +kernel
theorem d_LR_readSum_107 : decode q_LR_readSum.2.1 107 = .ok (.aload_n 0, 1) := by decide +kernel
theorem d_LR_readSum_108 : decode q_LR_readSum.2.1 108 = .ok (.iload_n 1, 1) := by decide +kernel
theorem d_LR_readSum_109 : decode q_LR_readSum.2.1 109 = .ok (.invokevirtual 64, 3) := by decide +kernel
theorem d_LR_readSum_112 : decode q_LR_readSum.2.1 112 = .ok (.ifCond .ne 5, 3) := by decide +kernel
theorem d_LR_readSum_115 : decode q_LR_readSum.2.1 115 = .ok (.iconst 0, 1) := by decide +kernel
theorem d_LR_readSum_116 : decode q_LR_readSum.2.1 116 = .ok (.ireturn, 1) := by decide +kernel
theorem d_LR_readSum_117 : decode q_LR_readSum.2.1 117 = .ok (.iload 5, 2) := by decide +kernel
theorem d_LR_readSum_119 : decode q_LR_readSum.2.1 119 = .ok (.ifCond .ne 13, 3) := by decide +kernel
theorem d_LR_readSum_122 : decode q_LR_readSum.2.1 122 = .ok (.aload_n 0, 1) := by decide +kernel
theorem d_LR_readSum_123 : decode q_LR_readSum.2.1 123 = .ok (.getfield 18, 3) := by decide +kernel
theorem d_LR_readSum_126 : decode q_LR_readSum.2.1 126 = .ok (.iload 4, 2) := by decide +kernel
theorem d_LR_readSum_128 : decode q_LR_readSum.2.1 128 = .ok (.iconst 0, 1) := by decide +kernel
theorem d_LR_readSum_129 : decode q_LR_readSum.2.1 129 = .ok (.invokevirtual 49, 3) := by decide +kernel
theorem d_LR_readSum_132 : decode q_LR_readSum.2.1 132 = .ok (.iinc 3 1, 3) := by decide +kernel
theorem d_LR_readSum_135 : decode q_LR_readSum.2.1 135 = .ok (.goto (-121), 3) := by decide +kernel
theorem d_LR_readSum_63 : decode q_LR_readSum.2.1 63 = .ok (.iload 4, 2) := by decide +kernel
theorem d_LR_readSum_65 : decode q_LR_readSum.2.1 65 = .ok (.bipush 47, 2) := by decide +kernel
theorem bp_47 : (Int8.ofInt (47)).toInt32 = (47 : Int32) := by decide
theorem d_LR_readSum_67 : decode q_LR_readSum.2.1 67 = .ok (.if_icmp .eq 6, 3) := by decide +kernel
theorem d_LR_readSum_70 : decode q_LR_readSum.2.1 70 = .ok (.goto 68, 3) := by decide +kernel
theorem d_LR_readSum_91 : decode q_LR_readSum.2.1 91 = .ok (.iload_n 2, 1) := by decide +kernel
theorem d_LR_readSum_92 : decode q_LR_readSum.2.1 92 = .ok (.ifCond .eq 12, 3) := by decide +kernel
theorem d_LR_readSum_95 : decode q_LR_readSum.2.1 95 = .ok (.aload_n 0, 1) := by decide +kernel
theorem d_LR_readSum_96 : decode q_LR_readSum.2.1 96 = .ok (.getfield 18, 3) := by decide +kernel
theorem d_LR_readSum_104 : decode q_LR_readSum.2.1 104 = .ok (.iload 4, 2) := by decide +kernel
theorem d_LR_readSum_106 : decode q_LR_readSum.2.1 106 = .ok (.istore_n 2, 1) := by decide +kernel
theorem d_LR_readSum_99 : decode q_LR_readSum.2.1 99 = .ok (.iload_n 2, 1) := by decide +kernel
theorem d_LR_readSum_100 : decode q_LR_readSum.2.1 100 = .ok (.iconst 0, 1) := by decide +kernel
theorem d_LR_readSum_101 : decode q_LR_readSum.2.1 101 = .ok (.invokevirtual 49, 3) := by decide +kernel
theorem d_LR_readUnit_0 : decode q_LR_readUnit.2.1 0 = .ok (.aload_n 0, 1) := by decide +kernel
theorem d_LR_readUnit_1 : decode q_LR_readUnit.2.1 1 = .ok (.getfield 9, 3) := by decide +kernel
theorem d_LR_readUnit_4 : decode q_LR_readUnit.2.1 4 = .ok (.invokevirtual 35, 3) := by decide +kernel
theorem d_LR_readUnit_7 : decode q_LR_readUnit.2.1 7 = .ok (.istore_n 3, 1) := by decide +kernel
theorem d_LR_readUnit_8 : decode q_LR_readUnit.2.1 8 = .ok (.iload_n 2, 1) := by decide +kernel
theorem d_LR_readUnit_9 : decode q_LR_readUnit.2.1 9 = .ok (.ifCond .ne 96, 3) := by decide +kernel
theorem d_LR_readUnit_12 : decode q_LR_readUnit.2.1 12 = .ok (.iload_n 3, 1) := by decide +kernel
theorem d_LR_readUnit_13 : decode q_LR_readUnit.2.1 13 = .ok (.bipush 33, 2) := by decide +kernel
theorem d_LR_readUnit_15 : decode q_LR_readUnit.2.1 15 = .ok (.if_icmp .eq 9, 3) := by decide +kernel
theorem d_LR_readUnit_24 : decode q_LR_readUnit.2.1 24 = .ok (.iload_n 1, 1) := by decide +kernel
theorem d_LR_readUnit_25 : decode q_LR_readUnit.2.1 25 = .ok (.bipush 6, 2) := by decide +kernel
theorem d_LR_readUnit_27 : decode q_LR_readUnit.2.1 27 = .ok (.if_icmp .lt 5, 3) := by decide +kernel
theorem d_LR_readUnit_32 : decode q_LR_readUnit.2.1 32 = .ok (.aload_n 0, 1) := by decide +kernel
theorem d_LR_readUnit_33 : decode q_LR_readUnit.2.1 33 = .ok (.getfield 9, 3) := by decide +kernel
theorem d_LR_readUnit_36 : decode q_LR_readUnit.2.1 36 = .ok (.dup, 1) := by decide +kernel
theorem d_LR_readUnit_37 : decode q_LR_readUnit.2.1 37 = .ok (.getfield 26, 3) := by decide +kernel
theorem d_LR_readUnit_40 : decode q_LR_readUnit.2.1 40 = .ok (.iconst 1, 1) := by decide +kernel
theorem d_LR_readUnit_41 : decode q_LR_readUnit.2.1 41 = .ok (.iadd, 1) := by decide +kernel
theorem d_LR_readUnit_42 : decode q_LR_readUnit.2.1 42 = .ok (.putfield 26, 3) := by decide +kernel
theorem d_LR_readUnit_45 : decode q_LR_readUnit.2.1 45 = .ok (.iload_n 3, 1) := by decide +kernel
theorem d_LR_readUnit_46 : decode q_LR_readUnit.2.1 46 = .ok (.bipush 40, 2) := by decide +kernel
theorem d_LR_readUnit_48 : decode q_LR_readUnit.2.1 48 = .ok (.if_icmp .ne 32, 3) := by decide +kernel
theorem d_LR_readUnit_51 : decode q_LR_readUnit.2.1 51 = .ok (.aload_n 0, 1) := by decide +kernel
theorem d_LR_readUnit_52 : decode q_LR_readUnit.2.1 52 = .ok (.iload_n 1, 1) := by decide +kernel
theorem d_LR_readUnit_53 : decode q_LR_readUnit.2.1 53 = .ok (.iconst 1, 1) := by decide +kernel
theorem d_LR_readUnit_54 : decode q_LR_readUnit.2.1 54 = .ok (.iadd, 1) := by decide +kernel
theorem d_LR_readUnit_55 : decode q_LR_readUnit.2.1 55 = .ok (.iconst 0, 1) := by decide +kernel
theorem d_LR_readUnit_56 : decode q_LR_readUnit.2.1 56 = .ok (.invokevirtual 53, 3) := by decide +kernel
theorem ml_LR_53 : rx_CV "GlassRoom$LightReader" 53 q_LR_readCondition 2 := ⟨⟨(rx_s3 98 rfl rfl), (rx_s3 100 rfl rfl), (rx_s0 9 rfl rfl)⟩, ⟨(rx_s1 5 rfl rfl), q_LR_readCondition_k, ⟨by decide, by decide, by decide +kernel⟩, by decide⟩⟩
theorem d_LR_readUnit_59 : decode q_LR_readUnit.2.1 59 = .ok (.ifCond .eq 19, 3) := by decide +kernel
theorem d_LR_readUnit_78 : decode q_LR_readUnit.2.1 78 = .ok (.iconst 0, 1) := by decide +kernel
theorem d_LR_readUnit_62 : decode q_LR_readUnit.2.1 62 = .ok (.aload_n 0, 1) := by decide +kernel
theorem d_LR_readUnit_63 : decode q_LR_readUnit.2.1 63 = .ok (.getfield 9, 3) := by decide +kernel
theorem d_LR_readUnit_66 : decode q_LR_readUnit.2.1 66 = .ok (.bipush 41, 2) := by decide +kernel
theorem bp_41 : (Int8.ofInt (41)).toInt32 = (41 : Int32) := by decide
theorem d_LR_readUnit_79 : decode q_LR_readUnit.2.1 79 = .ok (.ireturn, 1) := by decide +kernel
theorem d_LR_readUnit_68 : decode q_LR_readUnit.2.1 68 = .ok (.invokevirtual 39, 3) := by decide +kernel
theorem ml_LR_39 : rx_CV "GlassRoom$LightReader" 39 q_Ta_take 1 := ⟨⟨(rx_s3 78 rfl rfl), (rx_s3 62 rfl rfl), (rx_s3 63 rfl rfl)⟩, ⟨(rx_s1 2 rfl rfl), q_Ta_take_k, ⟨by decide, by decide, by decide +kernel⟩, by decide⟩⟩
theorem d_LR_readUnit_71 : decode q_LR_readUnit.2.1 71 = .ok (.ifCond .eq 7, 3) := by decide +kernel
theorem d_LR_readUnit_74 : decode q_LR_readUnit.2.1 74 = .ok (.iconst 1, 1) := by decide +kernel
theorem d_LR_readUnit_75 : decode q_LR_readUnit.2.1 75 = .ok (.goto 4, 3) := by decide +kernel
theorem d_LR_readUnit_80 : decode q_LR_readUnit.2.1 80 = .ok (.aload_n 0, 1) := by decide +kernel
theorem d_LR_readUnit_81 : decode q_LR_readUnit.2.1 81 = .ok (.iload_n 1, 1) := by decide +kernel
theorem d_LR_readUnit_82 : decode q_LR_readUnit.2.1 82 = .ok (.iconst 1, 1) := by decide +kernel
theorem d_LR_readUnit_83 : decode q_LR_readUnit.2.1 83 = .ok (.iadd, 1) := by decide +kernel
theorem d_LR_readUnit_84 : decode q_LR_readUnit.2.1 84 = .ok (.iconst 0, 1) := by decide +kernel
theorem d_LR_readUnit_85 : decode q_LR_readUnit.2.1 85 = .ok (.invokevirtual 61, 3) := by decide +kernel
theorem ml_LR_61 : rx_CV "GlassRoom$LightReader" 61 q_LR_readUnit 2 := ⟨⟨(rx_s3 102 rfl rfl), (rx_s3 104 rfl rfl), (rx_s0 10 rfl rfl)⟩, ⟨(rx_s1 5 rfl rfl), q_LR_readUnit_k, ⟨by decide, by decide, by decide +kernel⟩, by decide⟩⟩
theorem d_LR_readUnit_88 : decode q_LR_readUnit.2.1 88 = .ok (.ifCond .ne 5, 3) := by decide +kernel
theorem d_LR_readUnit_91 : decode q_LR_readUnit.2.1 91 = .ok (.iconst 0, 1) := by decide +kernel
theorem d_LR_readUnit_92 : decode q_LR_readUnit.2.1 92 = .ok (.ireturn, 1) := by decide +kernel
theorem d_LR_readUnit_93 : decode q_LR_readUnit.2.1 93 = .ok (.aload_n 0, 1) := by decide +kernel
theorem d_LR_readUnit_94 : decode q_LR_readUnit.2.1 94 = .ok (.getfield 18, 3) := by decide +kernel
theorem d_LR_readUnit_97 : decode q_LR_readUnit.2.1 97 = .ok (.bipush 33, 2) := by decide +kernel
theorem d_LR_readUnit_99 : decode q_LR_readUnit.2.1 99 = .ok (.iconst 0, 1) := by decide +kernel
theorem d_LR_readUnit_100 : decode q_LR_readUnit.2.1 100 = .ok (.invokevirtual 49, 3) := by decide +kernel
theorem d_LR_readUnit_103 : decode q_LR_readUnit.2.1 103 = .ok (.iconst 1, 1) := by decide +kernel
theorem d_LR_readUnit_104 : decode q_LR_readUnit.2.1 104 = .ok (.ireturn, 1) := by decide +kernel
theorem d_LR_readUnit_30 : decode q_LR_readUnit.2.1 30 = .ok (.iconst 0, 1) := by decide +kernel
theorem d_LR_readUnit_31 : decode q_LR_readUnit.2.1 31 = .ok (.ireturn, 1) := by decide +kernel
theorem d_LR_readUnit_18 : decode q_LR_readUnit.2.1 18 = .ok (.iload_n 3, 1) := by decide +kernel
theorem d_LR_readUnit_19 : decode q_LR_readUnit.2.1 19 = .ok (.bipush 40, 2) := by decide +kernel
theorem d_LR_readUnit_21 : decode q_LR_readUnit.2.1 21 = .ok (.if_icmp .ne 84, 3) := by decide +kernel
theorem d_LR_readUnit_105 : decode q_LR_readUnit.2.1 105 = .ok (.iload_n 2, 1) := by decide +kernel
theorem d_LR_readUnit_106 : decode q_LR_readUnit.2.1 106 = .ok (.ifCond .ne 13, 3) := by decide +kernel
theorem d_LR_readUnit_109 : decode q_LR_readUnit.2.1 109 = .ok (.aload_n 0, 1) := by decide +kernel
theorem d_LR_readUnit_110 : decode q_LR_readUnit.2.1 110 = .ok (.iload_n 1, 1) := by decide +kernel
theorem d_LR_readUnit_111 : decode q_LR_readUnit.2.1 111 = .ok (.invokevirtual 43, 3) := by decide +kernel
theorem d_LR_readUnit_114 : decode q_LR_readUnit.2.1 114 = .ok (.ifCond .ne 5, 3) := by decide +kernel
theorem d_LR_readUnit_117 : decode q_LR_readUnit.2.1 117 = .ok (.iconst 0, 1) := by decide +kernel
theorem d_LR_readUnit_118 : decode q_LR_readUnit.2.1 118 = .ok (.ireturn, 1) := by decide +kernel
theorem d_LR_readUnit_119 : decode q_LR_readUnit.2.1 119 = .ok (.aload_n 0, 1) := by decide +kernel
theorem d_LR_readUnit_120 : decode q_LR_readUnit.2.1 120 = .ok (.getfield 9, 3) := by decide +kernel
theorem d_LR_readUnit_123 : decode q_LR_readUnit.2.1 123 = .ok (.invokevirtual 35, 3) := by decide +kernel
theorem d_LR_readUnit_126 : decode q_LR_readUnit.2.1 126 = .ok (.istore 4, 2) := by decide +kernel
theorem d_LR_readUnit_128 : decode q_LR_readUnit.2.1 128 = .ok (.iload 4, 2) := by decide +kernel
theorem d_LR_readUnit_130 : decode q_LR_readUnit.2.1 130 = .ok (.invokestatic 46, 3) := by decide +kernel
theorem ml_LR_46 : rx_CS "GlassRoom$LightReader" 46 q_LR_isComparison 1 := ⟨⟨(rx_s3 95 rfl rfl), (rx_s3 96 rfl rfl)⟩, ⟨(rx_s1 5 rfl rfl), q_LR_isComparison_k, ⟨by decide, by decide, by decide +kernel⟩, by decide⟩⟩
theorem d_LR_readUnit_133 : decode q_LR_readUnit.2.1 133 = .ok (.ifCond .ne 5, 3) := by decide +kernel
theorem d_LR_readUnit_136 : decode q_LR_readUnit.2.1 136 = .ok (.iconst 0, 1) := by decide +kernel
theorem d_LR_readUnit_137 : decode q_LR_readUnit.2.1 137 = .ok (.ireturn, 1) := by decide +kernel
theorem d_LR_readUnit_138 : decode q_LR_readUnit.2.1 138 = .ok (.aload_n 0, 1) := by decide +kernel
theorem d_LR_readUnit_139 : decode q_LR_readUnit.2.1 139 = .ok (.getfield 9, 3) := by decide +kernel
theorem d_LR_readUnit_142 : decode q_LR_readUnit.2.1 142 = .ok (.dup, 1) := by decide +kernel
theorem d_LR_readUnit_143 : decode q_LR_readUnit.2.1 143 = .ok (.getfield 26, 3) := by decide +kernel
theorem d_LR_readUnit_146 : decode q_LR_readUnit.2.1 146 = .ok (.iconst 1, 1) := by decide +kernel
theorem d_LR_readUnit_147 : decode q_LR_readUnit.2.1 147 = .ok (.iadd, 1) := by decide +kernel
theorem d_LR_readUnit_148 : decode q_LR_readUnit.2.1 148 = .ok (.putfield 26, 3) := by decide +kernel
theorem d_LR_readUnit_151 : decode q_LR_readUnit.2.1 151 = .ok (.aload_n 0, 1) := by decide +kernel
theorem d_LR_readUnit_152 : decode q_LR_readUnit.2.1 152 = .ok (.iload_n 1, 1) := by decide +kernel
theorem d_LR_readUnit_153 : decode q_LR_readUnit.2.1 153 = .ok (.invokevirtual 43, 3) := by decide +kernel
theorem d_LR_readUnit_156 : decode q_LR_readUnit.2.1 156 = .ok (.ifCond .ne 5, 3) := by decide +kernel
theorem d_LR_readUnit_159 : decode q_LR_readUnit.2.1 159 = .ok (.iconst 0, 1) := by decide +kernel
theorem d_LR_readUnit_160 : decode q_LR_readUnit.2.1 160 = .ok (.ireturn, 1) := by decide +kernel
theorem d_LR_readUnit_161 : decode q_LR_readUnit.2.1 161 = .ok (.aload_n 0, 1) := by decide +kernel
theorem d_LR_readUnit_162 : decode q_LR_readUnit.2.1 162 = .ok (.getfield 18, 3) := by decide +kernel
theorem d_LR_readUnit_165 : decode q_LR_readUnit.2.1 165 = .ok (.iload 4, 2) := by decide +kernel
theorem d_LR_readUnit_167 : decode q_LR_readUnit.2.1 167 = .ok (.iconst 0, 1) := by decide +kernel
theorem d_LR_readUnit_168 : decode q_LR_readUnit.2.1 168 = .ok (.invokevirtual 49, 3) := by decide +kernel
theorem d_LR_readUnit_171 : decode q_LR_readUnit.2.1 171 = .ok (.iconst 1, 1) := by decide +kernel
theorem d_LR_readUnit_172 : decode q_LR_readUnit.2.1 172 = .ok (.ireturn, 1) := by decide +kernel
theorem d_LR_readCondition_0 : decode q_LR_readCondition.2.1 0 = .ok (.aload_n 0, 1) := by decide +kernel
theorem d_LR_readCondition_1 : decode q_LR_readCondition.2.1 1 = .ok (.iload_n 1, 1) := by decide +kernel
theorem d_LR_readCondition_2 : decode q_LR_readCondition.2.1 2 = .ok (.iload_n 2, 1) := by decide +kernel
theorem d_LR_readCondition_3 : decode q_LR_readCondition.2.1 3 = .ok (.invokevirtual 61, 3) := by decide +kernel
theorem d_LR_readCondition_6 : decode q_LR_readCondition.2.1 6 = .ok (.ifCond .ne 5, 3) := by decide +kernel
theorem d_LR_readCondition_9 : decode q_LR_readCondition.2.1 9 = .ok (.iconst 0, 1) := by decide +kernel
theorem d_LR_readCondition_10 : decode q_LR_readCondition.2.1 10 = .ok (.ireturn, 1) := by decide +kernel
theorem d_LR_readCondition_11 : decode q_LR_readCondition.2.1 11 = .ok (.iconst 0, 1) := by decide +kernel
theorem d_LR_readCondition_12 : decode q_LR_readCondition.2.1 12 = .ok (.istore_n 3, 1) := by decide +kernel
theorem d_LR_readCondition_13 : decode q_LR_readCondition.2.1 13 = .ok (.iconst 0, 1) := by decide +kernel
theorem d_LR_readCondition_14 : decode q_LR_readCondition.2.1 14 = .ok (.istore 4, 2) := by decide +kernel
theorem d_LR_readCondition_16 : decode q_LR_readCondition.2.1 16 = .ok (.iload 4, 2) := by decide +kernel
theorem d_LR_readCondition_18 : decode q_LR_readCondition.2.1 18 = .ok (.sipush 160, 3) := by decide +kernel
theorem d_LR_readCondition_21 : decode q_LR_readCondition.2.1 21 = .ok (.if_icmp .ge 114, 3) := by decide +kernel
theorem d_LR_readCondition_135 : decode q_LR_readCondition.2.1 135 = .ok (.iload_n 3, 1) := by decide +kernel
theorem d_LR_readCondition_136 : decode q_LR_readCondition.2.1 136 = .ok (.ifCond .eq 13, 3) := by decide +kernel
theorem d_LR_readCondition_139 : decode q_LR_readCondition.2.1 139 = .ok (.aload_n 0, 1) := by decide +kernel
theorem d_LR_readCondition_140 : decode q_LR_readCondition.2.1 140 = .ok (.getfield 18, 3) := by decide +kernel
theorem d_LR_readCondition_149 : decode q_LR_readCondition.2.1 149 = .ok (.iconst 1, 1) := by decide +kernel
theorem d_LR_readCondition_150 : decode q_LR_readCondition.2.1 150 = .ok (.ireturn, 1) := by decide +kernel
theorem d_LR_readCondition_143 : decode q_LR_readCondition.2.1 143 = .ok (.bipush 124, 2) := by decide +kernel
theorem bp_124 : (Int8.ofInt (124)).toInt32 = (124 : Int32) := by decide
theorem d_LR_readCondition_145 : decode q_LR_readCondition.2.1 145 = .ok (.iconst 0, 1) := by decide +kernel
theorem d_LR_readCondition_146 : decode q_LR_readCondition.2.1 146 = .ok (.invokevirtual 49, 3) := by decide +kernel
theorem d_LR_readCondition_24 : decode q_LR_readCondition.2.1 24 = .ok (.aload_n 0, 1) := by decide +kernel
theorem d_LR_readCondition_25 : decode q_LR_readCondition.2.1 25 = .ok (.getfield 9, 3) := by decide +kernel
theorem d_LR_readCondition_28 : decode q_LR_readCondition.2.1 28 = .ok (.invokevirtual 35, 3) := by decide +kernel
theorem d_LR_readCondition_31 : decode q_LR_readCondition.2.1 31 = .ok (.istore 5, 2) := by decide +kernel
theorem d_LR_readCondition_33 : decode q_LR_readCondition.2.1 33 = .ok (.iload 5, 2) := by decide +kernel
theorem d_LR_readCondition_35 : decode q_LR_readCondition.2.1 35 = .ok (.bipush 38, 2) := by decide +kernel
theorem bp_38 : (Int8.ofInt (38)).toInt32 = (38 : Int32) := by decide
theorem d_LR_readCondition_37 : decode q_LR_readCondition.2.1 37 = .ok (.if_icmp .eq 13, 3) := by decide +kernel
theorem d_LR_readCondition_50 : decode q_LR_readCondition.2.1 50 = .ok (.aload_n 0, 1) := by decide +kernel
theorem d_LR_readCondition_51 : decode q_LR_readCondition.2.1 51 = .ok (.getfield 9, 3) := by decide +kernel
theorem d_LR_readCondition_54 : decode q_LR_readCondition.2.1 54 = .ok (.dup, 1) := by decide +kernel
theorem d_LR_readCondition_55 : decode q_LR_readCondition.2.1 55 = .ok (.getfield 26, 3) := by decide +kernel
theorem d_LR_readCondition_58 : decode q_LR_readCondition.2.1 58 = .ok (.iconst 1, 1) := by decide +kernel
theorem d_LR_readCondition_59 : decode q_LR_readCondition.2.1 59 = .ok (.iadd, 1) := by decide +kernel
theorem d_LR_readCondition_60 : decode q_LR_readCondition.2.1 60 = .ok (.putfield 26, 3) := by decide +kernel
theorem d_LR_readCondition_63 : decode q_LR_readCondition.2.1 63 = .ok (.iload 5, 2) := by decide +kernel
theorem d_LR_readCondition_65 : decode q_LR_readCondition.2.1 65 = .ok (.bipush 124, 2) := by decide +kernel
theorem d_LR_readCondition_67 : decode q_LR_readCondition.2.1 67 = .ok (.if_icmp .ne 17, 3) := by decide +kernel
theorem d_LR_readCondition_70 : decode q_LR_readCondition.2.1 70 = .ok (.iload_n 3, 1) := by decide +kernel
theorem d_LR_readCondition_71 : decode q_LR_readCondition.2.1 71 = .ok (.ifCond .eq 13, 3) := by decide +kernel
theorem d_LR_readCondition_74 : decode q_LR_readCondition.2.1 74 = .ok (.aload_n 0, 1) := by decide +kernel
theorem d_LR_readCondition_75 : decode q_LR_readCondition.2.1 75 = .ok (.getfield 18, 3) := by decide +kernel
theorem d_LR_readCondition_84 : decode q_LR_readCondition.2.1 84 = .ok (.iload_n 3, 1) := by decide +kernel
theorem d_LR_readCondition_85 : decode q_LR_readCondition.2.1 85 = .ok (.ifCond .ne 10, 3) := by decide +kernel
theorem d_LR_readCondition_88 : decode q_LR_readCondition.2.1 88 = .ok (.iload 5, 2) := by decide +kernel
theorem d_LR_readCondition_90 : decode q_LR_readCondition.2.1 90 = .ok (.bipush 124, 2) := by decide +kernel
theorem d_LR_readCondition_92 : decode q_LR_readCondition.2.1 92 = .ok (.if_icmp .ne 7, 3) := by decide +kernel
theorem d_LR_readCondition_95 : decode q_LR_readCondition.2.1 95 = .ok (.iconst 1, 1) := by decide +kernel
theorem d_LR_readCondition_96 : decode q_LR_readCondition.2.1 96 = .ok (.goto 4, 3) := by decide +kernel
theorem d_LR_readCondition_100 : decode q_LR_readCondition.2.1 100 = .ok (.istore_n 3, 1) := by decide +kernel
theorem d_LR_readCondition_101 : decode q_LR_readCondition.2.1 101 = .ok (.aload_n 0, 1) := by decide +kernel
theorem d_LR_readCondition_102 : decode q_LR_readCondition.2.1 102 = .ok (.iload_n 1, 1) := by decide +kernel
theorem d_LR_readCondition_103 : decode q_LR_readCondition.2.1 103 = .ok (.iconst 0, 1) := by decide +kernel
theorem d_LR_readCondition_104 : decode q_LR_readCondition.2.1 104 = .ok (.invokevirtual 61, 3) := by decide +kernel
theorem d_LR_readCondition_107 : decode q_LR_readCondition.2.1 107 = .ok (.ifCond .ne 5, 3) := by decide +kernel
theorem d_LR_readCondition_110 : decode q_LR_readCondition.2.1 110 = .ok (.iconst 0, 1) := by decide +kernel
theorem d_LR_readCondition_111 : decode q_LR_readCondition.2.1 111 = .ok (.ireturn, 1) := by decide +kernel
theorem d_LR_readCondition_112 : decode q_LR_readCondition.2.1 112 = .ok (.iload 5, 2) := by decide +kernel
theorem d_LR_readCondition_114 : decode q_LR_readCondition.2.1 114 = .ok (.bipush 38, 2) := by decide +kernel
theorem d_LR_readCondition_116 : decode q_LR_readCondition.2.1 116 = .ok (.if_icmp .ne 13, 3) := by decide +kernel
theorem d_LR_readCondition_119 : decode q_LR_readCondition.2.1 119 = .ok (.aload_n 0, 1) := by decide +kernel
theorem d_LR_readCondition_120 : decode q_LR_readCondition.2.1 120 = .ok (.getfield 18, 3) := by decide +kernel
theorem d_LR_readCondition_123 : decode q_LR_readCondition.2.1 123 = .ok (.bipush 38, 2) := by decide +kernel
theorem d_LR_readCondition_125 : decode q_LR_readCondition.2.1 125 = .ok (.iconst 0, 1) := by decide +kernel
theorem d_LR_readCondition_126 : decode q_LR_readCondition.2.1 126 = .ok (.invokevirtual 49, 3) := by decide +kernel
theorem d_LR_readCondition_129 : decode q_LR_readCondition.2.1 129 = .ok (.iinc 4 1, 3) := by decide +kernel
theorem d_LR_readCondition_132 : decode q_LR_readCondition.2.1 132 = .ok (.goto (-116), 3) := by decide +kernel
theorem d_LR_readCondition_78 : decode q_LR_readCondition.2.1 78 = .ok (.bipush 124, 2) := by decide +kernel
theorem d_LR_readCondition_80 : decode q_LR_readCondition.2.1 80 = .ok (.iconst 0, 1) := by decide +kernel
theorem d_LR_readCondition_81 : decode q_LR_readCondition.2.1 81 = .ok (.invokevirtual 49, 3) := by decide +kernel
theorem d_LR_readCondition_99 : decode q_LR_readCondition.2.1 99 = .ok (.iconst 0, 1) := by decide +kernel
theorem d_LR_readCondition_40 : decode q_LR_readCondition.2.1 40 = .ok (.iload 5, 2) := by decide +kernel
theorem d_LR_readCondition_42 : decode q_LR_readCondition.2.1 42 = .ok (.bipush 124, 2) := by decide +kernel
theorem d_LR_readCondition_44 : decode q_LR_readCondition.2.1 44 = .ok (.if_icmp .eq 6, 3) := by decide +kernel
theorem d_LR_readCondition_47 : decode q_LR_readCondition.2.1 47 = .ok (.goto 88, 3) := by decide +kernel
theorem d_LR_readClause_0 : decode q_LR_readClause.2.1 0 = .ok (.aload_n 0, 1) := by decide +kernel
theorem d_LR_readClause_1 : decode q_LR_readClause.2.1 1 = .ok (.getfield 9, 3) := by decide +kernel
theorem d_LR_readClause_4 : decode q_LR_readClause.2.1 4 = .ok (.bipush 121, 2) := by decide +kernel
theorem d_LR_readClause_6 : decode q_LR_readClause.2.1 6 = .ok (.invokevirtual 39, 3) := by decide +kernel
theorem d_LR_readClause_9 : decode q_LR_readClause.2.1 9 = .ok (.ifCond .eq 15, 3) := by decide +kernel
theorem d_LR_readClause_24 : decode q_LR_readClause.2.1 24 = .ok (.iconst 0, 1) := by decide +kernel
theorem d_LR_readClause_25 : decode q_LR_readClause.2.1 25 = .ok (.ireturn, 1) := by decide +kernel
theorem d_LR_readClause_12 : decode q_LR_readClause.2.1 12 = .ok (.aload_n 0, 1) := by decide +kernel
theorem d_LR_readClause_13 : decode q_LR_readClause.2.1 13 = .ok (.getfield 9, 3) := by decide +kernel
theorem d_LR_readClause_16 : decode q_LR_readClause.2.1 16 = .ok (.bipush 58, 2) := by decide +kernel
theorem bp_58 : (Int8.ofInt (58)).toInt32 = (58 : Int32) := by decide
theorem d_LR_readClause_18 : decode q_LR_readClause.2.1 18 = .ok (.invokevirtual 39, 3) := by decide +kernel
theorem d_LR_readClause_21 : decode q_LR_readClause.2.1 21 = .ok (.ifCond .ne 5, 3) := by decide +kernel
theorem d_LR_readClause_26 : decode q_LR_readClause.2.1 26 = .ok (.aload_n 0, 1) := by decide +kernel
theorem d_LR_readClause_27 : decode q_LR_readClause.2.1 27 = .ok (.getfield 9, 3) := by decide +kernel
theorem d_LR_readClause_30 : decode q_LR_readClause.2.1 30 = .ok (.invokevirtual 35, 3) := by decide +kernel
theorem d_LR_readClause_33 : decode q_LR_readClause.2.1 33 = .ok (.istore_n 1, 1) := by decide +kernel
theorem d_LR_readClause_34 : decode q_LR_readClause.2.1 34 = .ok (.iload_n 1, 1) := by decide +kernel
theorem d_LR_readClause_35 : decode q_LR_readClause.2.1 35 = .ok (.bipush 33, 2) := by decide +kernel
theorem d_LR_readClause_37 : decode q_LR_readClause.2.1 37 = .ok (.if_icmp .eq 13, 3) := by decide +kernel
theorem d_LR_readClause_50 : decode q_LR_readClause.2.1 50 = .ok (.iconst 0, 1) := by decide +kernel
theorem d_LR_readClause_40 : decode q_LR_readClause.2.1 40 = .ok (.iload_n 1, 1) := by decide +kernel
theorem d_LR_readClause_41 : decode q_LR_readClause.2.1 41 = .ok (.bipush 40, 2) := by decide +kernel
theorem d_LR_readClause_43 : decode q_LR_readClause.2.1 43 = .ok (.if_icmp .eq 7, 3) := by decide +kernel
theorem d_LR_readClause_46 : decode q_LR_readClause.2.1 46 = .ok (.iconst 1, 1) := by decide +kernel
theorem d_LR_readClause_47 : decode q_LR_readClause.2.1 47 = .ok (.goto 4, 3) := by decide +kernel
theorem d_LR_readClause_51 : decode q_LR_readClause.2.1 51 = .ok (.istore_n 2, 1) := by decide +kernel
theorem d_LR_readClause_52 : decode q_LR_readClause.2.1 52 = .ok (.iload_n 2, 1) := by decide +kernel
theorem d_LR_readClause_53 : decode q_LR_readClause.2.1 53 = .ok (.ifCond .eq 13, 3) := by decide +kernel
theorem d_LR_readClause_66 : decode q_LR_readClause.2.1 66 = .ok (.iload_n 2, 1) := by decide +kernel
theorem d_LR_readClause_67 : decode q_LR_readClause.2.1 67 = .ok (.ifCond .eq 28, 3) := by decide +kernel
theorem d_LR_readClause_95 : decode q_LR_readClause.2.1 95 = .ok (.aload_n 0, 1) := by decide +kernel
theorem d_LR_readClause_96 : decode q_LR_readClause.2.1 96 = .ok (.iconst 0, 1) := by decide +kernel
theorem d_LR_readClause_97 : decode q_LR_readClause.2.1 97 = .ok (.iload_n 2, 1) := by decide +kernel
theorem d_LR_readClause_98 : decode q_LR_readClause.2.1 98 = .ok (.invokevirtual 53, 3) := by decide +kernel
theorem d_LR_readClause_101 : decode q_LR_readClause.2.1 101 = .ok (.ifCond .eq 15, 3) := by decide +kernel
theorem d_LR_readClause_116 : decode q_LR_readClause.2.1 116 = .ok (.iconst 0, 1) := by decide +kernel
theorem d_LR_readClause_117 : decode q_LR_readClause.2.1 117 = .ok (.ireturn, 1) := by decide +kernel
theorem d_LR_readClause_104 : decode q_LR_readClause.2.1 104 = .ok (.aload_n 0, 1) := by decide +kernel
theorem d_LR_readClause_105 : decode q_LR_readClause.2.1 105 = .ok (.getfield 9, 3) := by decide +kernel
theorem d_LR_readClause_108 : decode q_LR_readClause.2.1 108 = .ok (.bipush 63, 2) := by decide +kernel
theorem d_LR_readClause_110 : decode q_LR_readClause.2.1 110 = .ok (.invokevirtual 39, 3) := by decide +kernel
theorem d_LR_readClause_113 : decode q_LR_readClause.2.1 113 = .ok (.ifCond .ne 5, 3) := by decide +kernel
theorem d_LR_readClause_118 : decode q_LR_readClause.2.1 118 = .ok (.aload_n 0, 1) := by decide +kernel
theorem d_LR_readClause_119 : decode q_LR_readClause.2.1 119 = .ok (.getfield 18, 3) := by decide +kernel
theorem d_LR_readClause_122 : decode q_LR_readClause.2.1 122 = .ok (.getfield 22, 3) := by decide +kernel
theorem fl_LR_22 : rx_F "GlassRoom$LightReader" 22 6 2 := ⟨(RX6, TX6, 3), rfl, by decide, (rx_s1 167 rfl rfl), rx_T6⟩
theorem d_LR_readClause_125 : decode q_LR_readClause.2.1 125 = .ok (.istore_n 3, 1) := by decide +kernel
theorem d_LR_readClause_126 : decode q_LR_readClause.2.1 126 = .ok (.aload_n 0, 1) := by decide +kernel
theorem d_LR_readClause_127 : decode q_LR_readClause.2.1 127 = .ok (.getfield 18, 3) := by decide +kernel
theorem d_LR_readClause_130 : decode q_LR_readClause.2.1 130 = .ok (.bipush 63, 2) := by decide +kernel
theorem d_LR_readClause_132 : decode q_LR_readClause.2.1 132 = .ok (.iconst 0, 1) := by decide +kernel
theorem d_LR_readClause_133 : decode q_LR_readClause.2.1 133 = .ok (.invokevirtual 49, 3) := by decide +kernel
theorem d_LR_readClause_136 : decode q_LR_readClause.2.1 136 = .ok (.aload_n 0, 1) := by decide +kernel
theorem d_LR_readClause_137 : decode q_LR_readClause.2.1 137 = .ok (.iconst 0, 1) := by decide +kernel
theorem d_LR_readClause_138 : decode q_LR_readClause.2.1 138 = .ok (.invokevirtual 43, 3) := by decide +kernel
theorem d_LR_readClause_141 : decode q_LR_readClause.2.1 141 = .ok (.ifCond .ne 5, 3) := by decide +kernel
theorem d_LR_readClause_144 : decode q_LR_readClause.2.1 144 = .ok (.iconst 0, 1) := by decide +kernel
theorem d_LR_readClause_145 : decode q_LR_readClause.2.1 145 = .ok (.ireturn, 1) := by decide +kernel
theorem d_LR_readClause_146 : decode q_LR_readClause.2.1 146 = .ok (.aload_n 0, 1) := by decide +kernel
theorem d_LR_readClause_147 : decode q_LR_readClause.2.1 147 = .ok (.getfield 18, 3) := by decide +kernel
theorem d_LR_readClause_150 : decode q_LR_readClause.2.1 150 = .ok (.bipush 59, 2) := by decide +kernel
theorem d_LR_readClause_152 : decode q_LR_readClause.2.1 152 = .ok (.iconst 0, 1) := by decide +kernel
theorem d_LR_readClause_153 : decode q_LR_readClause.2.1 153 = .ok (.invokevirtual 49, 3) := by decide +kernel
theorem d_LR_readClause_156 : decode q_LR_readClause.2.1 156 = .ok (.aload_n 0, 1) := by decide +kernel
theorem d_LR_readClause_157 : decode q_LR_readClause.2.1 157 = .ok (.getfield 18, 3) := by decide +kernel
theorem d_LR_readClause_160 : decode q_LR_readClause.2.1 160 = .ok (.iload_n 3, 1) := by decide +kernel
theorem d_LR_readClause_161 : decode q_LR_readClause.2.1 161 = .ok (.invokevirtual 57, 3) := by decide +kernel
theorem ml_LR_57 : rx_CV "GlassRoom$LightReader" 57 q_Li_leadToEnd 1 := ⟨⟨(rx_s3 106 rfl rfl), (rx_s3 107 rfl rfl), (rx_s3 108 rfl rfl)⟩, ⟨(rx_s1 6 rfl rfl), q_Li_leadToEnd_k, ⟨by decide, by decide, by decide +kernel⟩, by decide⟩⟩
theorem d_LR_readClause_164 : decode q_LR_readClause.2.1 164 = .ok (.iconst 1, 1) := by decide +kernel
theorem d_LR_readClause_165 : decode q_LR_readClause.2.1 165 = .ok (.ireturn, 1) := by decide +kernel
theorem d_LR_readClause_56 : decode q_LR_readClause.2.1 56 = .ok (.aload_n 0, 1) := by decide +kernel
theorem d_LR_readClause_57 : decode q_LR_readClause.2.1 57 = .ok (.iconst 0, 1) := by decide +kernel
theorem d_LR_readClause_58 : decode q_LR_readClause.2.1 58 = .ok (.invokevirtual 43, 3) := by decide +kernel
theorem d_LR_readClause_61 : decode q_LR_readClause.2.1 61 = .ok (.ifCond .ne 5, 3) := by decide +kernel
theorem d_LR_readClause_64 : decode q_LR_readClause.2.1 64 = .ok (.iconst 0, 1) := by decide +kernel
theorem d_LR_readClause_65 : decode q_LR_readClause.2.1 65 = .ok (.ireturn, 1) := by decide +kernel
theorem d_LR_readClause_70 : decode q_LR_readClause.2.1 70 = .ok (.aload_n 0, 1) := by decide +kernel
theorem d_LR_readClause_71 : decode q_LR_readClause.2.1 71 = .ok (.getfield 9, 3) := by decide +kernel
theorem d_LR_readClause_74 : decode q_LR_readClause.2.1 74 = .ok (.invokevirtual 35, 3) := by decide +kernel
theorem d_LR_readClause_77 : decode q_LR_readClause.2.1 77 = .ok (.invokestatic 46, 3) := by decide +kernel
theorem d_LR_readClause_80 : decode q_LR_readClause.2.1 80 = .ok (.ifCond .ne 15, 3) := by decide +kernel
theorem d_LR_readClause_83 : decode q_LR_readClause.2.1 83 = .ok (.aload_n 0, 1) := by decide +kernel
theorem d_LR_readClause_84 : decode q_LR_readClause.2.1 84 = .ok (.getfield 18, 3) := by decide +kernel
theorem d_LR_readClause_87 : decode q_LR_readClause.2.1 87 = .ok (.bipush 59, 2) := by decide +kernel
theorem d_LR_readClause_89 : decode q_LR_readClause.2.1 89 = .ok (.iconst 0, 1) := by decide +kernel
theorem d_LR_readClause_90 : decode q_LR_readClause.2.1 90 = .ok (.invokevirtual 49, 3) := by decide +kernel
theorem d_LR_readClause_93 : decode q_LR_readClause.2.1 93 = .ok (.iconst 1, 1) := by decide +kernel
theorem d_LR_readClause_94 : decode q_LR_readClause.2.1 94 = .ok (.ireturn, 1) := by decide +kernel
theorem d_LR_read_0 : decode q_LR_read.2.1 0 = .ok (.aload_n 1, 1) := by decide +kernel
theorem d_LR_read_1 : decode q_LR_read.2.1 1 = .ok (.ifnull 8, 3) := by decide +kernel
theorem d_LR_read_4 : decode q_LR_read.2.1 4 = .ok (.aload_n 0, 1) := by decide +kernel
theorem d_LR_read_5 : decode q_LR_read.2.1 5 = .ok (.aload_n 1, 1) := by decide +kernel
theorem d_LR_read_6 : decode q_LR_read.2.1 6 = .ok (.putfield 18, 3) := by decide +kernel
theorem fp_LR_18 : rx_FP "GlassRoom$LightReader" 18 7 1 (.object "GlassRoom$Light") := ⟨(RX7, TX7, 2), tyX7, rfl, by decide, (rx_s1 176 rfl rfl), rx_T7, tyX7_ok, nmX7, rfl, rfl⟩
theorem d_LR_read_9 : decode q_LR_read.2.1 9 = .ok (.aload_n 0, 1) := by decide +kernel
theorem d_LR_read_10 : decode q_LR_read.2.1 10 = .ok (.getfield 18, 3) := by decide +kernel
theorem d_LR_read_13 : decode q_LR_read.2.1 13 = .ok (.iconst 0, 1) := by decide +kernel
theorem d_LR_read_14 : decode q_LR_read.2.1 14 = .ok (.putfield 22, 3) := by decide +kernel
theorem fp_LR_22 : rx_FP "GlassRoom$LightReader" 22 6 2 (.int) := ⟨(RX6, TX6, 3), tyX6, rfl, by decide, (rx_s1 167 rfl rfl), rx_T6, tyX6_ok, nmX6, rfl, rfl⟩
theorem d_LR_read_17 : decode q_LR_read.2.1 17 = .ok (.aload_n 0, 1) := by decide +kernel
theorem d_LR_read_18 : decode q_LR_read.2.1 18 = .ok (.getfield 9, 3) := by decide +kernel
theorem d_LR_read_21 : decode q_LR_read.2.1 21 = .ok (.iconst 0, 1) := by decide +kernel
theorem d_LR_read_22 : decode q_LR_read.2.1 22 = .ok (.putfield 26, 3) := by decide +kernel
theorem d_LR_read_25 : decode q_LR_read.2.1 25 = .ok (.iconst 0, 1) := by decide +kernel
theorem d_LR_read_26 : decode q_LR_read.2.1 26 = .ok (.istore_n 2, 1) := by decide +kernel
theorem d_LR_read_27 : decode q_LR_read.2.1 27 = .ok (.iload_n 2, 1) := by decide +kernel
theorem d_LR_read_28 : decode q_LR_read.2.1 28 = .ok (.sipush 160, 3) := by decide +kernel
theorem d_LR_read_31 : decode q_LR_read.2.1 31 = .ok (.if_icmp .ge 56, 3) := by decide +kernel
theorem d_LR_read_87 : decode q_LR_read.2.1 87 = .ok (.aload_n 0, 1) := by decide +kernel
theorem d_LR_read_88 : decode q_LR_read.2.1 88 = .ok (.getfield 9, 3) := by decide +kernel
theorem d_LR_read_91 : decode q_LR_read.2.1 91 = .ok (.getfield 26, 3) := by decide +kernel
theorem d_LR_read_94 : decode q_LR_read.2.1 94 = .ok (.ireturn, 1) := by decide +kernel
theorem d_LR_read_34 : decode q_LR_read.2.1 34 = .ok (.aload_n 0, 1) := by decide +kernel
theorem d_LR_read_35 : decode q_LR_read.2.1 35 = .ok (.invokevirtual 31, 3) := by decide +kernel
theorem ml_LR_31 : rx_CV "GlassRoom$LightReader" 31 q_LR_readClause 0 := ⟨⟨(rx_s3 74 rfl rfl), (rx_s3 76 rfl rfl), (rx_s0 6 rfl rfl)⟩, ⟨(rx_s1 5 rfl rfl), q_LR_readClause_k, ⟨by decide, by decide, by decide +kernel⟩, by decide⟩⟩
theorem d_LR_read_38 : decode q_LR_read.2.1 38 = .ok (.ifCond .ne 11, 3) := by decide +kernel
theorem d_LR_read_41 : decode q_LR_read.2.1 41 = .ok (.aload_n 0, 1) := by decide +kernel
theorem d_LR_read_42 : decode q_LR_read.2.1 42 = .ok (.getfield 9, 3) := by decide +kernel
theorem d_LR_read_45 : decode q_LR_read.2.1 45 = .ok (.getfield 26, 3) := by decide +kernel
theorem d_LR_read_48 : decode q_LR_read.2.1 48 = .ok (.ireturn, 1) := by decide +kernel
theorem d_LR_read_49 : decode q_LR_read.2.1 49 = .ok (.aload_n 0, 1) := by decide +kernel
theorem d_LR_read_50 : decode q_LR_read.2.1 50 = .ok (.getfield 9, 3) := by decide +kernel
theorem d_LR_read_53 : decode q_LR_read.2.1 53 = .ok (.invokevirtual 35, 3) := by decide +kernel
theorem d_LR_read_56 : decode q_LR_read.2.1 56 = .ok (.ifCond .ne 5, 3) := by decide +kernel
theorem d_LR_read_59 : decode q_LR_read.2.1 59 = .ok (.iconst (-1), 1) := by decide +kernel
theorem d_LR_read_60 : decode q_LR_read.2.1 60 = .ok (.ireturn, 1) := by decide +kernel
theorem d_LR_read_61 : decode q_LR_read.2.1 61 = .ok (.aload_n 0, 1) := by decide +kernel
theorem d_LR_read_62 : decode q_LR_read.2.1 62 = .ok (.getfield 9, 3) := by decide +kernel
theorem d_LR_read_65 : decode q_LR_read.2.1 65 = .ok (.bipush 59, 2) := by decide +kernel
theorem d_LR_read_67 : decode q_LR_read.2.1 67 = .ok (.invokevirtual 39, 3) := by decide +kernel
theorem d_LR_read_70 : decode q_LR_read.2.1 70 = .ok (.ifCond .ne 11, 3) := by decide +kernel
theorem d_LR_read_73 : decode q_LR_read.2.1 73 = .ok (.aload_n 0, 1) := by decide +kernel
theorem d_LR_read_74 : decode q_LR_read.2.1 74 = .ok (.getfield 9, 3) := by decide +kernel
theorem d_LR_read_77 : decode q_LR_read.2.1 77 = .ok (.getfield 26, 3) := by decide +kernel
theorem d_LR_read_80 : decode q_LR_read.2.1 80 = .ok (.ireturn, 1) := by decide +kernel
theorem d_LR_read_81 : decode q_LR_read.2.1 81 = .ok (.iinc 2 1, 3) := by decide +kernel
theorem d_LR_read_84 : decode q_LR_read.2.1 84 = .ok (.goto (-57), 3) := by decide +kernel
set_option maxHeartbeats 4000000 in
set_option maxRecDepth 20000 in
theorem w_LR_readAtom {G : rx_Gh} {hp : rx_Hp} {F : Int32 → rx_Hp → Prop} (a1 : Int32) {d : Nat} (H : Ev wC G 1 q_Ta_look [.ref 1] hp (rI fun r2 h1 => (r2 = 91 → (a1 < 6 → Ev wC G (d + 9) q_LR_readSum [.ref 15, .int (a1 + 1)] (rx_pf h1 1 2 ((h1.1 1 2) + 1)) (rI fun r4 h3 => (r4 = 0 → F 0 h3) ∧ (¬ r4 = 0 → Ev wC G 1 q_Ta_look [.ref 1] h3 (rI fun r6 h5 => (r6 = 93 → F 1 (rx_pf h5 1 2 ((h5.1 1 2) + 1))) ∧ (¬ r6 = 93 → F 0 h5))))) ∧ (¬ a1 < 6 → F 0 h1)) ∧ (¬ r2 = 91 → Ev wC G 7 q_St_indexOf [.ref (2000 + 1), .int ((r2.toUInt32 % 65536).toInt32)] h1 (rI fun r8 h7 => (r8 < 0 → Ev wC G 1 q_Ta_number [.ref 1, .int 4] h7 (rI fun r10 h9 => (r10 = (-1) → F 0 h9) ∧ (¬ r10 = (-1) → isL h9.2.2 ∧ (p_Li_add h9.2.2 48 r10 h9 ∧ (F 1 (g_Li_add h9.2.2 48 r10 h9)))))) ∧ (¬ r8 < 0 → isL h7.2.2 ∧ (p_Li_add h7.2.2 97 r8 (rx_pf h7 1 2 ((h7.1 1 2) + 1)) ∧ (F 1 (g_Li_add h7.2.2 97 r8 (rx_pf h7 1 2 ((h7.1 1 2) + 1)))))))))) : Ev wC G (d + 10) q_LR_readAtom [.ref 15, .int a1] hp (rI F) := by
  refine ev_of rfl (Nat.le_of_ble_eq_true rfl) rfl ?_
  show Rn wC G (d + 10) q_LR_readAtom 0 [some (.ref 15), some (.int a1), none, none, none] [] hp (rI F)
  refine r_aload_n (i := 0) d_LR_readAtom_0 rfl rfl ?_
  refine r_getR (b := 15) (r := 1) d_LR_readAtom_1 fl_LR_9 (by decide) rfl rfl rfl ?_
  refine rc_VI (b := 1) (d' := 1) [] [] d_LR_readAtom_4 ml_LR_35 rfl rfl (by omega) (by decide) rfl rfl (Nat.le_of_ble_eq_true rfl) H ?_
  intro r2 h1 H
  refine r_istore_n (i := 2) (lz := [some (.ref 15), some (.int a1), some (.int r2), none, none]) d_LR_readAtom_7 rfl (by decide) rfl rfl ?_
  refine r_iload_n (i := 2) d_LR_readAtom_8 rfl rfl ?_
  refine r_bipush d_LR_readAtom_9 bp_91 ?_
  refine r_icmp_ne (tgt := 74) d_LR_readAtom_11 (by decide) (fun hc_11 => ?_) (fun hc_11 => ?_)
  · replace H := H.2 hc_11
    refine r_ldcT (t := 1) d_LR_readAtom_74 (by decide) ?_
    refine r_iload_n (i := 2) d_LR_readAtom_76 rfl rfl ?_
    refine r_i2c d_LR_readAtom_77 ?_
    refine rc_TI (t := 1) (d' := 7) [.int ((r2.toUInt32 % 65536).toInt32)] [] d_LR_readAtom_78 ml_LR_69 rfl rfl (by omega) (by decide) rfl (Nat.le_of_ble_eq_true rfl) H ?_
    intro r8 h7 H
    refine r_istore_n (i := 3) (lz := [some (.ref 15), some (.int a1), some (.int r2), some (.int r8), none]) d_LR_readAtom_81 rfl (by decide) rfl rfl ?_
    refine r_iload_n (i := 3) d_LR_readAtom_82 rfl rfl ?_
    refine r_if_lt (tgt := 111) d_LR_readAtom_83 (by decide) (fun hc_83 => ?_) (fun hc_83 => ?_)
    · replace H := H.1 hc_83
      refine r_aload_n (i := 0) d_LR_readAtom_111 rfl rfl ?_
      refine r_getR (b := 15) (r := 1) d_LR_readAtom_112 fl_LR_9 (by decide) rfl rfl rfl ?_
      refine r_iconst d_LR_readAtom_115 ic_4 ?_
      refine rc_VI (b := 1) (d' := 1) [.int 4] [] d_LR_readAtom_116 ml_LR_75 rfl rfl (by omega) (by decide) rfl rfl (Nat.le_of_ble_eq_true rfl) H ?_
      intro r10 h9 H
      refine r_istore (lz := [some (.ref 15), some (.int a1), some (.int r2), some (.int r8), some (.int r10)]) d_LR_readAtom_119 (by decide) rfl rfl ?_
      refine r_iload d_LR_readAtom_121 rfl ?_
      refine r_iconst d_LR_readAtom_123 ic_m1 ?_
      refine r_icmp_ne (tgt := 129) d_LR_readAtom_124 (by decide) (fun hc_124 => ?_) (fun hc_124 => ?_)
      · replace H := H.2 hc_124
        refine r_aload_n (i := 0) d_LR_readAtom_129 rfl rfl ?_
        obtain ⟨hl_130, H⟩ := H
        refine r_getR (b := 15) (r := h9.2.2) d_LR_readAtom_130 fl_LR_18 (by decide) rfl rfl rfl ?_
        refine r_bipush d_LR_readAtom_133 bp_48 ?_
        refine r_iload d_LR_readAtom_135 rfl ?_
        obtain ⟨hp_137_1, H⟩ := H
        refine rk_VV (b := h9.2.2) (d' := 1) [.int 48, .int r10] [] d_LR_readAtom_137 ml_LR_49 rfl rfl (by omega) (isL_lt hl_130) (isL_k hl_130) rfl (Nat.le_of_ble_eq_true rfl) (s_Li_add h9.2.2 48 r10 hl_130 hp_137_1 ?_)
        refine r_iconst d_LR_readAtom_140 ic_1 ?_
        exact rZ_ret d_LR_readAtom_141 rfl (Or.inr rfl) H
      · replace H := H.1 hc_124
        refine r_iconst d_LR_readAtom_127 ic_0 ?_
        exact rZ_ret d_LR_readAtom_128 rfl (Or.inl rfl) H
    · replace H := H.2 hc_83
      refine r_aload_n (i := 0) d_LR_readAtom_86 rfl rfl ?_
      refine r_getR (b := 15) (r := 1) d_LR_readAtom_87 fl_LR_9 (by decide) rfl rfl rfl ?_
      refine r_dupr d_LR_readAtom_90 ?_
      refine r_getI (b := 1) (v := h7.1 1 2) d_LR_readAtom_91 fl_LR_26 (by decide) rfl rfl rfl ?_
      refine r_iconst d_LR_readAtom_94 ic_1 ?_
      refine r_iadd d_LR_readAtom_95 ?_
      refine r_putI (b := 1) d_LR_readAtom_96 fp_LR_26 ⟨rfl, rfl⟩ (by decide) rfl rfl ?_
      refine r_aload_n (i := 0) d_LR_readAtom_99 rfl rfl ?_
      obtain ⟨hl_100, H⟩ := H
      refine r_getR (b := 15) (r := h7.2.2) d_LR_readAtom_100 fl_LR_18 (by decide) rfl rfl rfl ?_
      refine r_bipush d_LR_readAtom_103 bp_97 ?_
      refine r_iload_n (i := 3) d_LR_readAtom_105 rfl rfl ?_
      obtain ⟨hp_106_1, H⟩ := H
      refine rk_VV (b := h7.2.2) (d' := 1) [.int 97, .int r8] [] d_LR_readAtom_106 ml_LR_49 rfl rfl (by omega) (isL_lt hl_100) (isL_k hl_100) rfl (Nat.le_of_ble_eq_true rfl) (s_Li_add h7.2.2 97 r8 hl_100 hp_106_1 ?_)
      refine r_iconst d_LR_readAtom_109 ic_1 ?_
      exact rZ_ret d_LR_readAtom_110 rfl (Or.inr rfl) H
  · replace H := H.1 hc_11
    refine r_iload_n (i := 1) d_LR_readAtom_14 rfl rfl ?_
    refine r_bipush d_LR_readAtom_15 bp_6 ?_
    refine r_icmp_lt (tgt := 22) d_LR_readAtom_17 (by decide) (fun hc_17 => ?_) (fun hc_17 => ?_)
    · replace H := H.1 hc_17
      refine r_aload_n (i := 0) d_LR_readAtom_22 rfl rfl ?_
      refine r_getR (b := 15) (r := 1) d_LR_readAtom_23 fl_LR_9 (by decide) rfl rfl rfl ?_
      refine r_dupr d_LR_readAtom_26 ?_
      refine r_getI (b := 1) (v := h1.1 1 2) d_LR_readAtom_27 fl_LR_26 (by decide) rfl rfl rfl ?_
      refine r_iconst d_LR_readAtom_30 ic_1 ?_
      refine r_iadd d_LR_readAtom_31 ?_
      refine r_putI (b := 1) d_LR_readAtom_32 fp_LR_26 ⟨rfl, rfl⟩ (by decide) rfl rfl ?_
      refine r_aload_n (i := 0) d_LR_readAtom_35 rfl rfl ?_
      refine r_iload_n (i := 1) d_LR_readAtom_36 rfl rfl ?_
      refine r_iconst d_LR_readAtom_37 ic_1 ?_
      refine r_iadd d_LR_readAtom_38 ?_
      refine rc_VI (b := 15) (d' := (d + 9)) [.int (a1 + 1)] [] d_LR_readAtom_39 ml_LR_43 rfl rfl (by omega) (by decide) rfl rfl (Nat.le_of_ble_eq_true rfl) H ?_
      intro r4 h3 H
      refine r_if_eq (tgt := 57) d_LR_readAtom_42 (by decide) (fun hc_42 => ?_) (fun hc_42 => ?_)
      · replace H := H.1 hc_42
        refine r_iconst d_LR_readAtom_57 ic_0 ?_
        exact rZ_ret d_LR_readAtom_58 rfl (Or.inl rfl) H
      · replace H := H.2 hc_42
        refine r_aload_n (i := 0) d_LR_readAtom_45 rfl rfl ?_
        refine r_getR (b := 15) (r := 1) d_LR_readAtom_46 fl_LR_9 (by decide) rfl rfl rfl ?_
        refine rc_VI (b := 1) (d' := 1) [] [] d_LR_readAtom_49 ml_LR_35 rfl rfl (by omega) (by decide) rfl rfl (Nat.le_of_ble_eq_true rfl) H ?_
        intro r6 h5 H
        refine r_bipush d_LR_readAtom_52 bp_93 ?_
        refine r_icmp_eq (tgt := 59) d_LR_readAtom_54 (by decide) (fun hc_54 => ?_) (fun hc_54 => ?_)
        · replace H := H.1 hc_54
          refine r_aload_n (i := 0) d_LR_readAtom_59 rfl rfl ?_
          refine r_getR (b := 15) (r := 1) d_LR_readAtom_60 fl_LR_9 (by decide) rfl rfl rfl ?_
          refine r_dupr d_LR_readAtom_63 ?_
          refine r_getI (b := 1) (v := h5.1 1 2) d_LR_readAtom_64 fl_LR_26 (by decide) rfl rfl rfl ?_
          refine r_iconst d_LR_readAtom_67 ic_1 ?_
          refine r_iadd d_LR_readAtom_68 ?_
          refine r_putI (b := 1) d_LR_readAtom_69 fp_LR_26 ⟨rfl, rfl⟩ (by decide) rfl rfl ?_
          refine r_iconst d_LR_readAtom_72 ic_1 ?_
          exact rZ_ret d_LR_readAtom_73 rfl (Or.inr rfl) H
        · replace H := H.2 hc_54
          refine r_iconst d_LR_readAtom_57 ic_0 ?_
          exact rZ_ret d_LR_readAtom_58 rfl (Or.inl rfl) H
    · replace H := H.2 hc_17
      refine r_iconst d_LR_readAtom_20 ic_0 ?_
      exact rZ_ret d_LR_readAtom_21 rfl (Or.inl rfl) H
set_option maxHeartbeats 4000000 in
set_option maxRecDepth 20000 in
theorem w_LR_readSum {G : rx_Gh} {hp : rx_Hp} {F : Int32 → rx_Hp → Prop} (a1 : Int32) {d : Nat} (H : Ev wC G (d + 10) q_LR_readAtom [.ref 15, .int a1] hp (rI fun r2 h1 => (r2 = 0 → F 0 h1) ∧ (¬ r2 = 0 → Rn wC G (d + 11) q_LR_readSum 14 [some (.ref 15), some (.int a1), some (.int 0), some (.int 0), none, none] [] h1 (rI F)))) : Ev wC G (d + 11) q_LR_readSum [.ref 15, .int a1] hp (rI F) := by
  refine ev_of rfl (Nat.le_of_ble_eq_true rfl) rfl ?_
  show Rn wC G (d + 11) q_LR_readSum 0 [some (.ref 15), some (.int a1), none, none, none, none] [] hp (rI F)
  refine r_aload_n (i := 0) d_LR_readSum_0 rfl rfl ?_
  refine r_iload_n (i := 1) d_LR_readSum_1 rfl rfl ?_
  refine rc_VI (b := 15) (d' := (d + 10)) [.int a1] [] d_LR_readSum_2 ml_LR_64 rfl rfl (by omega) (by decide) rfl rfl (Nat.le_of_ble_eq_true rfl) H ?_
  intro r2 h1 H
  refine r_if_ne (tgt := 10) d_LR_readSum_5 (by decide) (fun hc_5 => ?_) (fun hc_5 => ?_)
  · replace H := H.2 hc_5
    refine r_iconst d_LR_readSum_10 ic_0 ?_
    refine r_istore_n (i := 2) (lz := [some (.ref 15), some (.int a1), some (.int 0), none, none, none]) d_LR_readSum_11 rfl (by decide) rfl rfl ?_
    refine r_iconst d_LR_readSum_12 ic_0 ?_
    refine r_istore_n (i := 3) (lz := [some (.ref 15), some (.int a1), some (.int 0), some (.int 0), none, none]) d_LR_readSum_13 rfl (by decide) rfl rfl ?_
    exact H
  · replace H := H.1 hc_5
    refine r_iconst d_LR_readSum_8 ic_0 ?_
    exact rZ_ret d_LR_readSum_9 rfl (Or.inl rfl) H
set_option maxHeartbeats 4000000 in
set_option maxRecDepth 20000 in
theorem w_LR_readSum_14 {G : rx_Gh} {hp : rx_Hp} {F : Int32 → rx_Hp → Prop} (x1 : Int32) (x2 : Int32) (x3 : Int32) {d : Nat} (H : (160 ≤ x3 → (x2 = 0 → F 1 hp) ∧ (¬ x2 = 0 → isL hp.2.2 ∧ (p_Li_add hp.2.2 x2 0 hp ∧ (F 1 (g_Li_add hp.2.2 x2 0 hp))))) ∧ (¬ 160 ≤ x3 → Ev wC G 1 q_Ta_look [.ref 1] hp (rI fun r2 h1 => (((if r2 = 43 then 1 else ((if r2 = 45 then 1 else 0) : Int32)) : Int32) = 0 → (r2 = 42 → Ev wC G (d + 10) q_LR_readAtom [.ref 15, .int x1] (rx_pf h1 1 2 ((h1.1 1 2) + 1)) (rI fun r4 h3 => (r4 = 0 → F 0 h3) ∧ (¬ r4 = 0 → isL h3.2.2 ∧ (p_Li_add h3.2.2 r2 0 h3 ∧ (Rn wC G (d + 11) q_LR_readSum 14 [some (.ref 15), some (.int x1), some (.int x2), some (.int (x3 + 1)), none, none] [] (g_Li_add h3.2.2 r2 0 h3) (rI F)))))) ∧ (¬ r2 = 42 → (r2 = 47 → Ev wC G (d + 10) q_LR_readAtom [.ref 15, .int x1] (rx_pf h1 1 2 ((h1.1 1 2) + 1)) (rI fun r6 h5 => (r6 = 0 → F 0 h5) ∧ (¬ r6 = 0 → isL h5.2.2 ∧ (p_Li_add h5.2.2 r2 0 h5 ∧ (Rn wC G (d + 11) q_LR_readSum 14 [some (.ref 15), some (.int x1), some (.int x2), some (.int (x3 + 1)), none, none] [] (g_Li_add h5.2.2 r2 0 h5) (rI F)))))) ∧ (¬ r2 = 47 → (x2 = 0 → F 1 h1) ∧ (¬ x2 = 0 → isL h1.2.2 ∧ (p_Li_add h1.2.2 x2 0 h1 ∧ (F 1 (g_Li_add h1.2.2 x2 0 h1))))))) ∧ (¬ ((if r2 = 43 then 1 else ((if r2 = 45 then 1 else 0) : Int32)) : Int32) = 0 → (x2 = 0 → Ev wC G (d + 10) q_LR_readAtom [.ref 15, .int x1] (rx_pf h1 1 2 ((h1.1 1 2) + 1)) (rI fun r8 h7 => (r8 = 0 → F 0 h7) ∧ (¬ r8 = 0 → Rn wC G (d + 11) q_LR_readSum 14 [some (.ref 15), some (.int x1), some (.int r2), some (.int (x3 + 1)), none, none] [] h7 (rI F)))) ∧ (¬ x2 = 0 → isL h1.2.2 ∧ (p_Li_add h1.2.2 x2 0 (rx_pf h1 1 2 ((h1.1 1 2) + 1)) ∧ (Ev wC G (d + 10) q_LR_readAtom [.ref 15, .int x1] (g_Li_add h1.2.2 x2 0 (rx_pf h1 1 2 ((h1.1 1 2) + 1))) (rI fun r10 h9 => (r10 = 0 → F 0 h9) ∧ (¬ r10 = 0 → Rn wC G (d + 11) q_LR_readSum 14 [some (.ref 15), some (.int x1), some (.int r2), some (.int (x3 + 1)), none, none] [] h9 (rI F)))))))))) : Rn wC G (d + 11) q_LR_readSum 14 [some (.ref 15), some (.int x1), some (.int x2), some (.int x3), none, none] [] hp (rI F) := by
  refine r_iload_n (i := 3) d_LR_readSum_14 rfl rfl ?_
  refine r_sipush d_LR_readSum_15 sp_160 ?_
  refine r_icmp_ge (tgt := 138) d_LR_readSum_18 (by decide) (fun hc_18 => ?_) (fun hc_18 => ?_)
  · replace H := H.1 hc_18
    refine r_iload_n (i := 2) d_LR_readSum_138 rfl rfl ?_
    refine r_if_eq (tgt := 151) d_LR_readSum_139 (by decide) (fun hc_139 => ?_) (fun hc_139 => ?_)
    · replace H := H.1 hc_139
      refine r_iconst d_LR_readSum_151 ic_1 ?_
      exact rZ_ret d_LR_readSum_152 rfl (Or.inr rfl) H
    · replace H := H.2 hc_139
      refine r_aload_n (i := 0) d_LR_readSum_142 rfl rfl ?_
      obtain ⟨hl_143, H⟩ := H
      refine r_getR (b := 15) (r := hp.2.2) d_LR_readSum_143 fl_LR_18 (by decide) rfl rfl rfl ?_
      refine r_iload_n (i := 2) d_LR_readSum_146 rfl rfl ?_
      refine r_iconst d_LR_readSum_147 ic_0 ?_
      obtain ⟨hp_148_1, H⟩ := H
      refine rk_VV (b := hp.2.2) (d' := 1) [.int x2, .int 0] [] d_LR_readSum_148 ml_LR_49 rfl rfl (by omega) (isL_lt hl_143) (isL_k hl_143) rfl (Nat.le_of_ble_eq_true rfl) (s_Li_add hp.2.2 x2 0 hl_143 hp_148_1 ?_)
      refine r_iconst d_LR_readSum_151 ic_1 ?_
      exact rZ_ret d_LR_readSum_152 rfl (Or.inr rfl) H
  · replace H := H.2 hc_18
    refine r_aload_n (i := 0) d_LR_readSum_21 rfl rfl ?_
    refine r_getR (b := 15) (r := 1) d_LR_readSum_22 fl_LR_9 (by decide) rfl rfl rfl ?_
    refine rc_VI (b := 1) (d' := 1) [] [] d_LR_readSum_25 ml_LR_35 rfl rfl (by omega) (by decide) rfl rfl (Nat.le_of_ble_eq_true rfl) H ?_
    intro r2 h1 H
    have J34 : ∀ (v34_0 : Int32), v34_0 = ((if r2 = 43 then 1 else ((if r2 = 45 then 1 else 0) : Int32)) : Int32) → Rn wC G (d + 11) q_LR_readSum 49 [some (.ref 15), some (.int x1), some (.int x2), some (.int x3), some (.int r2), none] [.int v34_0] h1 (rI F) := by
      rintro _ rfl
      refine r_istore (lz := [some (.ref 15), some (.int x1), some (.int x2), some (.int x3), some (.int r2), some (.int ((if r2 = 43 then 1 else ((if r2 = 45 then 1 else 0) : Int32)) : Int32))]) d_LR_readSum_49 (by decide) rfl rfl ?_
      refine r_iload d_LR_readSum_51 rfl ?_
      refine r_if_ne (tgt := 73) d_LR_readSum_53 (by decide) (fun hc_53 => ?_) (fun hc_53 => ?_)
      · replace H := H.2 hc_53
        refine r_aload_n (i := 0) d_LR_readSum_73 rfl rfl ?_
        refine r_getR (b := 15) (r := 1) d_LR_readSum_74 fl_LR_9 (by decide) rfl rfl rfl ?_
        refine r_dupr d_LR_readSum_77 ?_
        refine r_getI (b := 1) (v := h1.1 1 2) d_LR_readSum_78 fl_LR_26 (by decide) rfl rfl rfl ?_
        refine r_iconst d_LR_readSum_81 ic_1 ?_
        refine r_iadd d_LR_readSum_82 ?_
        refine r_putI (b := 1) d_LR_readSum_83 fp_LR_26 ⟨rfl, rfl⟩ (by decide) rfl rfl ?_
        refine r_iload d_LR_readSum_86 rfl ?_
        refine r_if_eq (tgt := 107) d_LR_readSum_88 (by decide) (fun h => absurd h hc_53) (fun _ => ?_)
        refine r_iload_n (i := 2) d_LR_readSum_91 rfl rfl ?_
        refine r_if_eq (tgt := 104) d_LR_readSum_92 (by decide) (fun hc_92 => ?_) (fun hc_92 => ?_)
        · replace H := H.1 hc_92
          refine r_iload d_LR_readSum_104 rfl ?_
          refine r_istore_n (i := 2) (lz := [some (.ref 15), some (.int x1), some (.int r2), some (.int x3), some (.int r2), some (.int ((if r2 = 43 then 1 else ((if r2 = 45 then 1 else 0) : Int32)) : Int32))]) d_LR_readSum_106 rfl (by decide) rfl rfl ?_
          refine r_aload_n (i := 0) d_LR_readSum_107 rfl rfl ?_
          refine r_iload_n (i := 1) d_LR_readSum_108 rfl rfl ?_
          refine rc_VI (b := 15) (d' := (d + 10)) [.int x1] [] d_LR_readSum_109 ml_LR_64 rfl rfl (by omega) (by decide) rfl rfl (Nat.le_of_ble_eq_true rfl) H ?_
          intro r8 h7 H
          refine r_if_ne (tgt := 117) d_LR_readSum_112 (by decide) (fun hc_112 => ?_) (fun hc_112 => ?_)
          · replace H := H.2 hc_112
            refine r_iload d_LR_readSum_117 rfl ?_
            refine r_if_ne (tgt := 132) d_LR_readSum_119 (by decide) (fun _ => ?_) (fun h => absurd h hc_53)
            refine r_iinc (v := x3 + 1) (lz := [some (.ref 15), some (.int x1), some (.int r2), some (.int (x3 + 1)), some (.int r2), some (.int ((if r2 = 43 then 1 else ((if r2 = 45 then 1 else 0) : Int32)) : Int32))]) d_LR_readSum_132 rfl (by rw [ic_1]) (by decide) rfl rfl ?_
            refine r_goto (tgt := 14) d_LR_readSum_135 (by decide) ?_
            exact rx_fgt [false, false, false, false, true, true] H
          · replace H := H.1 hc_112
            refine r_iconst d_LR_readSum_115 ic_0 ?_
            exact rZ_ret d_LR_readSum_116 rfl (Or.inl rfl) H
        · replace H := H.2 hc_92
          refine r_aload_n (i := 0) d_LR_readSum_95 rfl rfl ?_
          obtain ⟨hl_96, H⟩ := H
          refine r_getR (b := 15) (r := h1.2.2) d_LR_readSum_96 fl_LR_18 (by decide) rfl rfl rfl ?_
          refine r_iload_n (i := 2) d_LR_readSum_99 rfl rfl ?_
          refine r_iconst d_LR_readSum_100 ic_0 ?_
          obtain ⟨hp_101_1, H⟩ := H
          refine rk_VV (b := h1.2.2) (d' := 1) [.int x2, .int 0] [] d_LR_readSum_101 ml_LR_49 rfl rfl (by omega) (isL_lt hl_96) (isL_k hl_96) rfl (Nat.le_of_ble_eq_true rfl) (s_Li_add h1.2.2 x2 0 hl_96 hp_101_1 ?_)
          refine r_iload d_LR_readSum_104 rfl ?_
          refine r_istore_n (i := 2) (lz := [some (.ref 15), some (.int x1), some (.int r2), some (.int x3), some (.int r2), some (.int ((if r2 = 43 then 1 else ((if r2 = 45 then 1 else 0) : Int32)) : Int32))]) d_LR_readSum_106 rfl (by decide) rfl rfl ?_
          refine r_aload_n (i := 0) d_LR_readSum_107 rfl rfl ?_
          refine r_iload_n (i := 1) d_LR_readSum_108 rfl rfl ?_
          refine rc_VI (b := 15) (d' := (d + 10)) [.int x1] [] d_LR_readSum_109 ml_LR_64 rfl rfl (by omega) (by decide) rfl rfl (Nat.le_of_ble_eq_true rfl) H ?_
          intro r10 h9 H
          refine r_if_ne (tgt := 117) d_LR_readSum_112 (by decide) (fun hc_112 => ?_) (fun hc_112 => ?_)
          · replace H := H.2 hc_112
            refine r_iload d_LR_readSum_117 rfl ?_
            refine r_if_ne (tgt := 132) d_LR_readSum_119 (by decide) (fun _ => ?_) (fun h => absurd h hc_53)
            refine r_iinc (v := x3 + 1) (lz := [some (.ref 15), some (.int x1), some (.int r2), some (.int (x3 + 1)), some (.int r2), some (.int ((if r2 = 43 then 1 else ((if r2 = 45 then 1 else 0) : Int32)) : Int32))]) d_LR_readSum_132 rfl (by rw [ic_1]) (by decide) rfl rfl ?_
            refine r_goto (tgt := 14) d_LR_readSum_135 (by decide) ?_
            exact rx_fgt [false, false, false, false, true, true] H
          · replace H := H.1 hc_112
            refine r_iconst d_LR_readSum_115 ic_0 ?_
            exact rZ_ret d_LR_readSum_116 rfl (Or.inl rfl) H
      · replace H := H.1 hc_53
        refine r_iload d_LR_readSum_56 rfl ?_
        refine r_bipush d_LR_readSum_58 bp_42 ?_
        refine r_icmp_eq (tgt := 73) d_LR_readSum_60 (by decide) (fun hc_60 => ?_) (fun hc_60 => ?_)
        · replace H := H.1 hc_60
          refine r_aload_n (i := 0) d_LR_readSum_73 rfl rfl ?_
          refine r_getR (b := 15) (r := 1) d_LR_readSum_74 fl_LR_9 (by decide) rfl rfl rfl ?_
          refine r_dupr d_LR_readSum_77 ?_
          refine r_getI (b := 1) (v := h1.1 1 2) d_LR_readSum_78 fl_LR_26 (by decide) rfl rfl rfl ?_
          refine r_iconst d_LR_readSum_81 ic_1 ?_
          refine r_iadd d_LR_readSum_82 ?_
          refine r_putI (b := 1) d_LR_readSum_83 fp_LR_26 ⟨rfl, rfl⟩ (by decide) rfl rfl ?_
          refine r_iload d_LR_readSum_86 rfl ?_
          refine r_if_eq (tgt := 107) d_LR_readSum_88 (by decide) (fun _ => ?_) (fun h => absurd hc_53 h)
          refine r_aload_n (i := 0) d_LR_readSum_107 rfl rfl ?_
          refine r_iload_n (i := 1) d_LR_readSum_108 rfl rfl ?_
          refine rc_VI (b := 15) (d' := (d + 10)) [.int x1] [] d_LR_readSum_109 ml_LR_64 rfl rfl (by omega) (by decide) rfl rfl (Nat.le_of_ble_eq_true rfl) H ?_
          intro r4 h3 H
          refine r_if_ne (tgt := 117) d_LR_readSum_112 (by decide) (fun hc_112 => ?_) (fun hc_112 => ?_)
          · replace H := H.2 hc_112
            refine r_iload d_LR_readSum_117 rfl ?_
            refine r_if_ne (tgt := 132) d_LR_readSum_119 (by decide) (fun h => absurd hc_53 h) (fun _ => ?_)
            refine r_aload_n (i := 0) d_LR_readSum_122 rfl rfl ?_
            obtain ⟨hl_123, H⟩ := H
            refine r_getR (b := 15) (r := h3.2.2) d_LR_readSum_123 fl_LR_18 (by decide) rfl rfl rfl ?_
            refine r_iload d_LR_readSum_126 rfl ?_
            refine r_iconst d_LR_readSum_128 ic_0 ?_
            obtain ⟨hp_129_1, H⟩ := H
            refine rk_VV (b := h3.2.2) (d' := 1) [.int r2, .int 0] [] d_LR_readSum_129 ml_LR_49 rfl rfl (by omega) (isL_lt hl_123) (isL_k hl_123) rfl (Nat.le_of_ble_eq_true rfl) (s_Li_add h3.2.2 r2 0 hl_123 hp_129_1 ?_)
            refine r_iinc (v := x3 + 1) (lz := [some (.ref 15), some (.int x1), some (.int x2), some (.int (x3 + 1)), some (.int r2), some (.int ((if r2 = 43 then 1 else ((if r2 = 45 then 1 else 0) : Int32)) : Int32))]) d_LR_readSum_132 rfl (by rw [ic_1]) (by decide) rfl rfl ?_
            refine r_goto (tgt := 14) d_LR_readSum_135 (by decide) ?_
            exact rx_fgt [false, false, false, false, true, true] H
          · replace H := H.1 hc_112
            refine r_iconst d_LR_readSum_115 ic_0 ?_
            exact rZ_ret d_LR_readSum_116 rfl (Or.inl rfl) H
        · replace H := H.2 hc_60
          refine r_iload d_LR_readSum_63 rfl ?_
          refine r_bipush d_LR_readSum_65 bp_47 ?_
          refine r_icmp_eq (tgt := 73) d_LR_readSum_67 (by decide) (fun hc_67 => ?_) (fun hc_67 => ?_)
          · replace H := H.1 hc_67
            refine r_aload_n (i := 0) d_LR_readSum_73 rfl rfl ?_
            refine r_getR (b := 15) (r := 1) d_LR_readSum_74 fl_LR_9 (by decide) rfl rfl rfl ?_
            refine r_dupr d_LR_readSum_77 ?_
            refine r_getI (b := 1) (v := h1.1 1 2) d_LR_readSum_78 fl_LR_26 (by decide) rfl rfl rfl ?_
            refine r_iconst d_LR_readSum_81 ic_1 ?_
            refine r_iadd d_LR_readSum_82 ?_
            refine r_putI (b := 1) d_LR_readSum_83 fp_LR_26 ⟨rfl, rfl⟩ (by decide) rfl rfl ?_
            refine r_iload d_LR_readSum_86 rfl ?_
            refine r_if_eq (tgt := 107) d_LR_readSum_88 (by decide) (fun _ => ?_) (fun h => absurd hc_53 h)
            refine r_aload_n (i := 0) d_LR_readSum_107 rfl rfl ?_
            refine r_iload_n (i := 1) d_LR_readSum_108 rfl rfl ?_
            refine rc_VI (b := 15) (d' := (d + 10)) [.int x1] [] d_LR_readSum_109 ml_LR_64 rfl rfl (by omega) (by decide) rfl rfl (Nat.le_of_ble_eq_true rfl) H ?_
            intro r6 h5 H
            refine r_if_ne (tgt := 117) d_LR_readSum_112 (by decide) (fun hc_112 => ?_) (fun hc_112 => ?_)
            · replace H := H.2 hc_112
              refine r_iload d_LR_readSum_117 rfl ?_
              refine r_if_ne (tgt := 132) d_LR_readSum_119 (by decide) (fun h => absurd hc_53 h) (fun _ => ?_)
              refine r_aload_n (i := 0) d_LR_readSum_122 rfl rfl ?_
              obtain ⟨hl_123, H⟩ := H
              refine r_getR (b := 15) (r := h5.2.2) d_LR_readSum_123 fl_LR_18 (by decide) rfl rfl rfl ?_
              refine r_iload d_LR_readSum_126 rfl ?_
              refine r_iconst d_LR_readSum_128 ic_0 ?_
              obtain ⟨hp_129_1, H⟩ := H
              refine rk_VV (b := h5.2.2) (d' := 1) [.int r2, .int 0] [] d_LR_readSum_129 ml_LR_49 rfl rfl (by omega) (isL_lt hl_123) (isL_k hl_123) rfl (Nat.le_of_ble_eq_true rfl) (s_Li_add h5.2.2 r2 0 hl_123 hp_129_1 ?_)
              refine r_iinc (v := x3 + 1) (lz := [some (.ref 15), some (.int x1), some (.int x2), some (.int (x3 + 1)), some (.int r2), some (.int ((if r2 = 43 then 1 else ((if r2 = 45 then 1 else 0) : Int32)) : Int32))]) d_LR_readSum_132 rfl (by rw [ic_1]) (by decide) rfl rfl ?_
              refine r_goto (tgt := 14) d_LR_readSum_135 (by decide) ?_
              exact rx_fgt [false, false, false, false, true, true] H
            · replace H := H.1 hc_112
              refine r_iconst d_LR_readSum_115 ic_0 ?_
              exact rZ_ret d_LR_readSum_116 rfl (Or.inl rfl) H
          · replace H := H.2 hc_67
            refine r_goto (tgt := 138) d_LR_readSum_70 (by decide) ?_
            refine r_iload_n (i := 2) d_LR_readSum_138 rfl rfl ?_
            refine r_if_eq (tgt := 151) d_LR_readSum_139 (by decide) (fun hc_139 => ?_) (fun hc_139 => ?_)
            · replace H := H.1 hc_139
              refine r_iconst d_LR_readSum_151 ic_1 ?_
              exact rZ_ret d_LR_readSum_152 rfl (Or.inr rfl) H
            · replace H := H.2 hc_139
              refine r_aload_n (i := 0) d_LR_readSum_142 rfl rfl ?_
              obtain ⟨hl_143, H⟩ := H
              refine r_getR (b := 15) (r := h1.2.2) d_LR_readSum_143 fl_LR_18 (by decide) rfl rfl rfl ?_
              refine r_iload_n (i := 2) d_LR_readSum_146 rfl rfl ?_
              refine r_iconst d_LR_readSum_147 ic_0 ?_
              obtain ⟨hp_148_1, H⟩ := H
              refine rk_VV (b := h1.2.2) (d' := 1) [.int x2, .int 0] [] d_LR_readSum_148 ml_LR_49 rfl rfl (by omega) (isL_lt hl_143) (isL_k hl_143) rfl (Nat.le_of_ble_eq_true rfl) (s_Li_add h1.2.2 x2 0 hl_143 hp_148_1 ?_)
              refine r_iconst d_LR_readSum_151 ic_1 ?_
              exact rZ_ret d_LR_readSum_152 rfl (Or.inr rfl) H
    refine r_istore (lz := [some (.ref 15), some (.int x1), some (.int x2), some (.int x3), some (.int r2), none]) d_LR_readSum_28 (by decide) rfl rfl ?_
    refine r_iload d_LR_readSum_30 rfl ?_
    refine r_bipush d_LR_readSum_32 bp_43 ?_
    refine r_icmp_eq (tgt := 44) d_LR_readSum_34 (by decide) (fun hc_34 => ?_) (fun hc_34 => ?_)
    · refine r_iconst d_LR_readSum_44 ic_1 ?_
      refine r_goto (tgt := 49) d_LR_readSum_45 (by decide) ?_
      exact J34 _ (((if_pos hc_34).trans rfl)).symm
    · refine r_iload d_LR_readSum_37 rfl ?_
      refine r_bipush d_LR_readSum_39 bp_45 ?_
      refine r_icmp_ne (tgt := 48) d_LR_readSum_41 (by decide) (fun hc_41 => ?_) (fun hc_41 => ?_)
      · refine r_iconst d_LR_readSum_48 ic_0 ?_
        exact J34 _ (((if_neg hc_34).trans ((if_neg hc_41).trans rfl))).symm
      · refine r_iconst d_LR_readSum_44 ic_1 ?_
        refine r_goto (tgt := 49) d_LR_readSum_45 (by decide) ?_
        exact J34 _ (((if_neg hc_34).trans ((if_pos hc_41).trans rfl))).symm
set_option maxHeartbeats 4000000 in
set_option maxRecDepth 20000 in
theorem w_LR_readUnit {G : rx_Gh} {hp : rx_Hp} {F : Int32 → rx_Hp → Prop} (a1 : Int32) (a2 : Int32) {d : Nat} (H : Ev wC G 1 q_Ta_look [.ref 1] hp (rI fun r2 h1 => (a2 = 0 → (r2 = 33 → (a1 < 6 → (r2 = 40 → Ev wC G (d + 29) q_LR_readCondition [.ref 15, .int (a1 + 1), .int 0] (rx_pf h1 1 2 ((h1.1 1 2) + 1)) (rI fun r4 h3 => (r4 = 0 → F 0 h3) ∧ (¬ r4 = 0 → Ev wC G 2 q_Ta_take [.ref 1, .int 41] h3 (rI fun r6 h5 => F ((if r6 = 0 then 0 else 1) : Int32) h5)))) ∧ (¬ r2 = 40 → Ev wC G (d + 28) q_LR_readUnit [.ref 15, .int (a1 + 1), .int 0] (rx_pf h1 1 2 ((h1.1 1 2) + 1)) (rI fun r8 h7 => (r8 = 0 → F 0 h7) ∧ (¬ r8 = 0 → isL h7.2.2 ∧ (p_Li_add h7.2.2 33 0 h7 ∧ (F 1 (g_Li_add h7.2.2 33 0 h7))))))) ∧ (¬ a1 < 6 → F 0 h1)) ∧ (¬ r2 = 33 → (r2 = 40 → (a1 < 6 → Ev wC G (d + 29) q_LR_readCondition [.ref 15, .int (a1 + 1), .int 0] (rx_pf h1 1 2 ((h1.1 1 2) + 1)) (rI fun r10 h9 => (r10 = 0 → F 0 h9) ∧ (¬ r10 = 0 → Ev wC G 2 q_Ta_take [.ref 1, .int 41] h9 (rI fun r12 h11 => F ((if r12 = 0 then 0 else 1) : Int32) h11)))) ∧ (¬ a1 < 6 → F 0 h1)) ∧ (¬ r2 = 40 → Ev wC G (d + 11) q_LR_readSum [.ref 15, .int a1] h1 (rI fun r14 h13 => (r14 = 0 → F 0 h13) ∧ (¬ r14 = 0 → Ev wC G 1 q_Ta_look [.ref 1] h13 (rI fun r16 h15 => ((f_LR_isComparison r16) = 0 → F 0 h15) ∧ (¬ (f_LR_isComparison r16) = 0 → Ev wC G (d + 11) q_LR_readSum [.ref 15, .int a1] (rx_pf h15 1 2 ((h15.1 1 2) + 1)) (rI fun r18 h17 => (r18 = 0 → F 0 h17) ∧ (¬ r18 = 0 → isL h17.2.2 ∧ (p_Li_add h17.2.2 r16 0 h17 ∧ (F 1 (g_Li_add h17.2.2 r16 0 h17)))))))))))) ∧ (¬ a2 = 0 → Ev wC G 1 q_Ta_look [.ref 1] h1 (rI fun r20 h19 => ((f_LR_isComparison r20) = 0 → F 0 h19) ∧ (¬ (f_LR_isComparison r20) = 0 → Ev wC G (d + 11) q_LR_readSum [.ref 15, .int a1] (rx_pf h19 1 2 ((h19.1 1 2) + 1)) (rI fun r22 h21 => (r22 = 0 → F 0 h21) ∧ (¬ r22 = 0 → isL h21.2.2 ∧ (p_Li_add h21.2.2 r20 0 h21 ∧ (F 1 (g_Li_add h21.2.2 r20 0 h21)))))))))) : Ev wC G (d + 30) q_LR_readUnit [.ref 15, .int a1, .int a2] hp (rI F) := by
  refine ev_of rfl (Nat.le_of_ble_eq_true rfl) rfl ?_
  show Rn wC G (d + 30) q_LR_readUnit 0 [some (.ref 15), some (.int a1), some (.int a2), none, none] [] hp (rI F)
  refine r_aload_n (i := 0) d_LR_readUnit_0 rfl rfl ?_
  refine r_getR (b := 15) (r := 1) d_LR_readUnit_1 fl_LR_9 (by decide) rfl rfl rfl ?_
  refine rc_VI (b := 1) (d' := 1) [] [] d_LR_readUnit_4 ml_LR_35 rfl rfl (by omega) (by decide) rfl rfl (Nat.le_of_ble_eq_true rfl) H ?_
  intro r2 h1 H
  refine r_istore_n (i := 3) (lz := [some (.ref 15), some (.int a1), some (.int a2), some (.int r2), none]) d_LR_readUnit_7 rfl (by decide) rfl rfl ?_
  refine r_iload_n (i := 2) d_LR_readUnit_8 rfl rfl ?_
  refine r_if_ne (tgt := 105) d_LR_readUnit_9 (by decide) (fun hc_9 => ?_) (fun hc_9 => ?_)
  · replace H := H.2 hc_9
    refine r_iload_n (i := 2) d_LR_readUnit_105 rfl rfl ?_
    refine r_if_ne (tgt := 119) d_LR_readUnit_106 (by decide) (fun _ => ?_) (fun h => absurd h hc_9)
    refine r_aload_n (i := 0) d_LR_readUnit_119 rfl rfl ?_
    refine r_getR (b := 15) (r := 1) d_LR_readUnit_120 fl_LR_9 (by decide) rfl rfl rfl ?_
    refine rc_VI (b := 1) (d' := 1) [] [] d_LR_readUnit_123 ml_LR_35 rfl rfl (by omega) (by decide) rfl rfl (Nat.le_of_ble_eq_true rfl) H ?_
    intro r20 h19 H
    refine r_istore (lz := [some (.ref 15), some (.int a1), some (.int a2), some (.int r2), some (.int r20)]) d_LR_readUnit_126 (by decide) rfl rfl ?_
    refine r_iload d_LR_readUnit_128 rfl ?_
    refine rk_SI (d' := 1) [.int r20] [] d_LR_readUnit_130 ml_LR_46 rfl rfl (by omega) (Nat.le_of_ble_eq_true rfl) (s_LR_isComparison r20 ?_)
    refine r_if_ne (tgt := 138) d_LR_readUnit_133 (by decide) (fun hc_133 => ?_) (fun hc_133 => ?_)
    · replace H := H.2 hc_133
      refine r_aload_n (i := 0) d_LR_readUnit_138 rfl rfl ?_
      refine r_getR (b := 15) (r := 1) d_LR_readUnit_139 fl_LR_9 (by decide) rfl rfl rfl ?_
      refine r_dupr d_LR_readUnit_142 ?_
      refine r_getI (b := 1) (v := h19.1 1 2) d_LR_readUnit_143 fl_LR_26 (by decide) rfl rfl rfl ?_
      refine r_iconst d_LR_readUnit_146 ic_1 ?_
      refine r_iadd d_LR_readUnit_147 ?_
      refine r_putI (b := 1) d_LR_readUnit_148 fp_LR_26 ⟨rfl, rfl⟩ (by decide) rfl rfl ?_
      refine r_aload_n (i := 0) d_LR_readUnit_151 rfl rfl ?_
      refine r_iload_n (i := 1) d_LR_readUnit_152 rfl rfl ?_
      refine rc_VI (b := 15) (d' := (d + 11)) [.int a1] [] d_LR_readUnit_153 ml_LR_43 rfl rfl (by omega) (by decide) rfl rfl (Nat.le_of_ble_eq_true rfl) H ?_
      intro r22 h21 H
      refine r_if_ne (tgt := 161) d_LR_readUnit_156 (by decide) (fun hc_156 => ?_) (fun hc_156 => ?_)
      · replace H := H.2 hc_156
        refine r_aload_n (i := 0) d_LR_readUnit_161 rfl rfl ?_
        obtain ⟨hl_162, H⟩ := H
        refine r_getR (b := 15) (r := h21.2.2) d_LR_readUnit_162 fl_LR_18 (by decide) rfl rfl rfl ?_
        refine r_iload d_LR_readUnit_165 rfl ?_
        refine r_iconst d_LR_readUnit_167 ic_0 ?_
        obtain ⟨hp_168_1, H⟩ := H
        refine rk_VV (b := h21.2.2) (d' := 1) [.int r20, .int 0] [] d_LR_readUnit_168 ml_LR_49 rfl rfl (by omega) (isL_lt hl_162) (isL_k hl_162) rfl (Nat.le_of_ble_eq_true rfl) (s_Li_add h21.2.2 r20 0 hl_162 hp_168_1 ?_)
        refine r_iconst d_LR_readUnit_171 ic_1 ?_
        exact rZ_ret d_LR_readUnit_172 rfl (Or.inr rfl) H
      · replace H := H.1 hc_156
        refine r_iconst d_LR_readUnit_159 ic_0 ?_
        exact rZ_ret d_LR_readUnit_160 rfl (Or.inl rfl) H
    · replace H := H.1 hc_133
      refine r_iconst d_LR_readUnit_136 ic_0 ?_
      exact rZ_ret d_LR_readUnit_137 rfl (Or.inl rfl) H
  · replace H := H.1 hc_9
    refine r_iload_n (i := 3) d_LR_readUnit_12 rfl rfl ?_
    refine r_bipush d_LR_readUnit_13 bp_33 ?_
    refine r_icmp_eq (tgt := 24) d_LR_readUnit_15 (by decide) (fun hc_15 => ?_) (fun hc_15 => ?_)
    · replace H := H.1 hc_15
      refine r_iload_n (i := 1) d_LR_readUnit_24 rfl rfl ?_
      refine r_bipush d_LR_readUnit_25 bp_6 ?_
      refine r_icmp_lt (tgt := 32) d_LR_readUnit_27 (by decide) (fun hc_27 => ?_) (fun hc_27 => ?_)
      · replace H := H.1 hc_27
        refine r_aload_n (i := 0) d_LR_readUnit_32 rfl rfl ?_
        refine r_getR (b := 15) (r := 1) d_LR_readUnit_33 fl_LR_9 (by decide) rfl rfl rfl ?_
        refine r_dupr d_LR_readUnit_36 ?_
        refine r_getI (b := 1) (v := h1.1 1 2) d_LR_readUnit_37 fl_LR_26 (by decide) rfl rfl rfl ?_
        refine r_iconst d_LR_readUnit_40 ic_1 ?_
        refine r_iadd d_LR_readUnit_41 ?_
        refine r_putI (b := 1) d_LR_readUnit_42 fp_LR_26 ⟨rfl, rfl⟩ (by decide) rfl rfl ?_
        refine r_iload_n (i := 3) d_LR_readUnit_45 rfl rfl ?_
        refine r_bipush d_LR_readUnit_46 bp_40 ?_
        refine r_icmp_ne (tgt := 80) d_LR_readUnit_48 (by decide) (fun hc_48 => ?_) (fun hc_48 => ?_)
        · replace H := H.2 hc_48
          refine r_aload_n (i := 0) d_LR_readUnit_80 rfl rfl ?_
          refine r_iload_n (i := 1) d_LR_readUnit_81 rfl rfl ?_
          refine r_iconst d_LR_readUnit_82 ic_1 ?_
          refine r_iadd d_LR_readUnit_83 ?_
          refine r_iconst d_LR_readUnit_84 ic_0 ?_
          refine rc_VI (b := 15) (d' := (d + 28)) [.int (a1 + 1), .int 0] [] d_LR_readUnit_85 ml_LR_61 rfl rfl (by omega) (by decide) rfl rfl (Nat.le_of_ble_eq_true rfl) H ?_
          intro r8 h7 H
          refine r_if_ne (tgt := 93) d_LR_readUnit_88 (by decide) (fun hc_88 => ?_) (fun hc_88 => ?_)
          · replace H := H.2 hc_88
            refine r_aload_n (i := 0) d_LR_readUnit_93 rfl rfl ?_
            obtain ⟨hl_94, H⟩ := H
            refine r_getR (b := 15) (r := h7.2.2) d_LR_readUnit_94 fl_LR_18 (by decide) rfl rfl rfl ?_
            refine r_bipush d_LR_readUnit_97 bp_33 ?_
            refine r_iconst d_LR_readUnit_99 ic_0 ?_
            obtain ⟨hp_100_1, H⟩ := H
            refine rk_VV (b := h7.2.2) (d' := 1) [.int 33, .int 0] [] d_LR_readUnit_100 ml_LR_49 rfl rfl (by omega) (isL_lt hl_94) (isL_k hl_94) rfl (Nat.le_of_ble_eq_true rfl) (s_Li_add h7.2.2 33 0 hl_94 hp_100_1 ?_)
            refine r_iconst d_LR_readUnit_103 ic_1 ?_
            exact rZ_ret d_LR_readUnit_104 rfl (Or.inr rfl) H
          · replace H := H.1 hc_88
            refine r_iconst d_LR_readUnit_91 ic_0 ?_
            exact rZ_ret d_LR_readUnit_92 rfl (Or.inl rfl) H
        · replace H := H.1 hc_48
          refine r_aload_n (i := 0) d_LR_readUnit_51 rfl rfl ?_
          refine r_iload_n (i := 1) d_LR_readUnit_52 rfl rfl ?_
          refine r_iconst d_LR_readUnit_53 ic_1 ?_
          refine r_iadd d_LR_readUnit_54 ?_
          refine r_iconst d_LR_readUnit_55 ic_0 ?_
          refine rc_VI (b := 15) (d' := (d + 29)) [.int (a1 + 1), .int 0] [] d_LR_readUnit_56 ml_LR_53 rfl rfl (by omega) (by decide) rfl rfl (Nat.le_of_ble_eq_true rfl) H ?_
          intro r4 h3 H
          refine r_if_eq (tgt := 78) d_LR_readUnit_59 (by decide) (fun hc_59 => ?_) (fun hc_59 => ?_)
          · replace H := H.1 hc_59
            refine r_iconst d_LR_readUnit_78 ic_0 ?_
            exact rZ_ret d_LR_readUnit_79 rfl (Or.inl rfl) H
          · replace H := H.2 hc_59
            refine r_aload_n (i := 0) d_LR_readUnit_62 rfl rfl ?_
            refine r_getR (b := 15) (r := 1) d_LR_readUnit_63 fl_LR_9 (by decide) rfl rfl rfl ?_
            refine r_bipush d_LR_readUnit_66 bp_41 ?_
            refine rc_VI (b := 1) (d' := 2) [.int 41] [] d_LR_readUnit_68 ml_LR_39 rfl rfl (by omega) (by decide) rfl rfl (Nat.le_of_ble_eq_true rfl) H ?_
            intro r6 h5 H
            have J71 : ∀ (v71_0 : Int32), v71_0 = ((if r6 = 0 then 0 else 1) : Int32) → Rn wC G (d + 30) q_LR_readUnit 79 [some (.ref 15), some (.int a1), some (.int a2), some (.int r2), none] [.int v71_0] h5 (rI F) := by
              rintro _ rfl
              exact rZ_ret d_LR_readUnit_79 rfl (rb_ite (Or.inl rfl) (Or.inr rfl)) H
            refine r_if_eq (tgt := 78) d_LR_readUnit_71 (by decide) (fun hc_71 => ?_) (fun hc_71 => ?_)
            · refine r_iconst d_LR_readUnit_78 ic_0 ?_
              exact J71 _ (((if_pos hc_71).trans rfl)).symm
            · refine r_iconst d_LR_readUnit_74 ic_1 ?_
              refine r_goto (tgt := 79) d_LR_readUnit_75 (by decide) ?_
              exact J71 _ (((if_neg hc_71).trans rfl)).symm
      · replace H := H.2 hc_27
        refine r_iconst d_LR_readUnit_30 ic_0 ?_
        exact rZ_ret d_LR_readUnit_31 rfl (Or.inl rfl) H
    · replace H := H.2 hc_15
      refine r_iload_n (i := 3) d_LR_readUnit_18 rfl rfl ?_
      refine r_bipush d_LR_readUnit_19 bp_40 ?_
      refine r_icmp_ne (tgt := 105) d_LR_readUnit_21 (by decide) (fun hc_21 => ?_) (fun hc_21 => ?_)
      · replace H := H.2 hc_21
        refine r_iload_n (i := 2) d_LR_readUnit_105 rfl rfl ?_
        refine r_if_ne (tgt := 119) d_LR_readUnit_106 (by decide) (fun h => absurd hc_9 h) (fun _ => ?_)
        refine r_aload_n (i := 0) d_LR_readUnit_109 rfl rfl ?_
        refine r_iload_n (i := 1) d_LR_readUnit_110 rfl rfl ?_
        refine rc_VI (b := 15) (d' := (d + 11)) [.int a1] [] d_LR_readUnit_111 ml_LR_43 rfl rfl (by omega) (by decide) rfl rfl (Nat.le_of_ble_eq_true rfl) H ?_
        intro r14 h13 H
        refine r_if_ne (tgt := 119) d_LR_readUnit_114 (by decide) (fun hc_114 => ?_) (fun hc_114 => ?_)
        · replace H := H.2 hc_114
          refine r_aload_n (i := 0) d_LR_readUnit_119 rfl rfl ?_
          refine r_getR (b := 15) (r := 1) d_LR_readUnit_120 fl_LR_9 (by decide) rfl rfl rfl ?_
          refine rc_VI (b := 1) (d' := 1) [] [] d_LR_readUnit_123 ml_LR_35 rfl rfl (by omega) (by decide) rfl rfl (Nat.le_of_ble_eq_true rfl) H ?_
          intro r16 h15 H
          refine r_istore (lz := [some (.ref 15), some (.int a1), some (.int a2), some (.int r2), some (.int r16)]) d_LR_readUnit_126 (by decide) rfl rfl ?_
          refine r_iload d_LR_readUnit_128 rfl ?_
          refine rk_SI (d' := 1) [.int r16] [] d_LR_readUnit_130 ml_LR_46 rfl rfl (by omega) (Nat.le_of_ble_eq_true rfl) (s_LR_isComparison r16 ?_)
          refine r_if_ne (tgt := 138) d_LR_readUnit_133 (by decide) (fun hc_133 => ?_) (fun hc_133 => ?_)
          · replace H := H.2 hc_133
            refine r_aload_n (i := 0) d_LR_readUnit_138 rfl rfl ?_
            refine r_getR (b := 15) (r := 1) d_LR_readUnit_139 fl_LR_9 (by decide) rfl rfl rfl ?_
            refine r_dupr d_LR_readUnit_142 ?_
            refine r_getI (b := 1) (v := h15.1 1 2) d_LR_readUnit_143 fl_LR_26 (by decide) rfl rfl rfl ?_
            refine r_iconst d_LR_readUnit_146 ic_1 ?_
            refine r_iadd d_LR_readUnit_147 ?_
            refine r_putI (b := 1) d_LR_readUnit_148 fp_LR_26 ⟨rfl, rfl⟩ (by decide) rfl rfl ?_
            refine r_aload_n (i := 0) d_LR_readUnit_151 rfl rfl ?_
            refine r_iload_n (i := 1) d_LR_readUnit_152 rfl rfl ?_
            refine rc_VI (b := 15) (d' := (d + 11)) [.int a1] [] d_LR_readUnit_153 ml_LR_43 rfl rfl (by omega) (by decide) rfl rfl (Nat.le_of_ble_eq_true rfl) H ?_
            intro r18 h17 H
            refine r_if_ne (tgt := 161) d_LR_readUnit_156 (by decide) (fun hc_156 => ?_) (fun hc_156 => ?_)
            · replace H := H.2 hc_156
              refine r_aload_n (i := 0) d_LR_readUnit_161 rfl rfl ?_
              obtain ⟨hl_162, H⟩ := H
              refine r_getR (b := 15) (r := h17.2.2) d_LR_readUnit_162 fl_LR_18 (by decide) rfl rfl rfl ?_
              refine r_iload d_LR_readUnit_165 rfl ?_
              refine r_iconst d_LR_readUnit_167 ic_0 ?_
              obtain ⟨hp_168_1, H⟩ := H
              refine rk_VV (b := h17.2.2) (d' := 1) [.int r16, .int 0] [] d_LR_readUnit_168 ml_LR_49 rfl rfl (by omega) (isL_lt hl_162) (isL_k hl_162) rfl (Nat.le_of_ble_eq_true rfl) (s_Li_add h17.2.2 r16 0 hl_162 hp_168_1 ?_)
              refine r_iconst d_LR_readUnit_171 ic_1 ?_
              exact rZ_ret d_LR_readUnit_172 rfl (Or.inr rfl) H
            · replace H := H.1 hc_156
              refine r_iconst d_LR_readUnit_159 ic_0 ?_
              exact rZ_ret d_LR_readUnit_160 rfl (Or.inl rfl) H
          · replace H := H.1 hc_133
            refine r_iconst d_LR_readUnit_136 ic_0 ?_
            exact rZ_ret d_LR_readUnit_137 rfl (Or.inl rfl) H
        · replace H := H.1 hc_114
          refine r_iconst d_LR_readUnit_117 ic_0 ?_
          exact rZ_ret d_LR_readUnit_118 rfl (Or.inl rfl) H
      · replace H := H.1 hc_21
        refine r_iload_n (i := 1) d_LR_readUnit_24 rfl rfl ?_
        refine r_bipush d_LR_readUnit_25 bp_6 ?_
        refine r_icmp_lt (tgt := 32) d_LR_readUnit_27 (by decide) (fun hc_27 => ?_) (fun hc_27 => ?_)
        · replace H := H.1 hc_27
          refine r_aload_n (i := 0) d_LR_readUnit_32 rfl rfl ?_
          refine r_getR (b := 15) (r := 1) d_LR_readUnit_33 fl_LR_9 (by decide) rfl rfl rfl ?_
          refine r_dupr d_LR_readUnit_36 ?_
          refine r_getI (b := 1) (v := h1.1 1 2) d_LR_readUnit_37 fl_LR_26 (by decide) rfl rfl rfl ?_
          refine r_iconst d_LR_readUnit_40 ic_1 ?_
          refine r_iadd d_LR_readUnit_41 ?_
          refine r_putI (b := 1) d_LR_readUnit_42 fp_LR_26 ⟨rfl, rfl⟩ (by decide) rfl rfl ?_
          refine r_iload_n (i := 3) d_LR_readUnit_45 rfl rfl ?_
          refine r_bipush d_LR_readUnit_46 bp_40 ?_
          refine r_icmp_ne (tgt := 80) d_LR_readUnit_48 (by decide) (fun h => absurd hc_21 h) (fun _ => ?_)
          refine r_aload_n (i := 0) d_LR_readUnit_51 rfl rfl ?_
          refine r_iload_n (i := 1) d_LR_readUnit_52 rfl rfl ?_
          refine r_iconst d_LR_readUnit_53 ic_1 ?_
          refine r_iadd d_LR_readUnit_54 ?_
          refine r_iconst d_LR_readUnit_55 ic_0 ?_
          refine rc_VI (b := 15) (d' := (d + 29)) [.int (a1 + 1), .int 0] [] d_LR_readUnit_56 ml_LR_53 rfl rfl (by omega) (by decide) rfl rfl (Nat.le_of_ble_eq_true rfl) H ?_
          intro r10 h9 H
          refine r_if_eq (tgt := 78) d_LR_readUnit_59 (by decide) (fun hc_59 => ?_) (fun hc_59 => ?_)
          · replace H := H.1 hc_59
            refine r_iconst d_LR_readUnit_78 ic_0 ?_
            exact rZ_ret d_LR_readUnit_79 rfl (Or.inl rfl) H
          · replace H := H.2 hc_59
            refine r_aload_n (i := 0) d_LR_readUnit_62 rfl rfl ?_
            refine r_getR (b := 15) (r := 1) d_LR_readUnit_63 fl_LR_9 (by decide) rfl rfl rfl ?_
            refine r_bipush d_LR_readUnit_66 bp_41 ?_
            refine rc_VI (b := 1) (d' := 2) [.int 41] [] d_LR_readUnit_68 ml_LR_39 rfl rfl (by omega) (by decide) rfl rfl (Nat.le_of_ble_eq_true rfl) H ?_
            intro r12 h11 H
            have J71 : ∀ (v71_0 : Int32), v71_0 = ((if r12 = 0 then 0 else 1) : Int32) → Rn wC G (d + 30) q_LR_readUnit 79 [some (.ref 15), some (.int a1), some (.int a2), some (.int r2), none] [.int v71_0] h11 (rI F) := by
              rintro _ rfl
              exact rZ_ret d_LR_readUnit_79 rfl (rb_ite (Or.inl rfl) (Or.inr rfl)) H
            refine r_if_eq (tgt := 78) d_LR_readUnit_71 (by decide) (fun hc_71 => ?_) (fun hc_71 => ?_)
            · refine r_iconst d_LR_readUnit_78 ic_0 ?_
              exact J71 _ (((if_pos hc_71).trans rfl)).symm
            · refine r_iconst d_LR_readUnit_74 ic_1 ?_
              refine r_goto (tgt := 79) d_LR_readUnit_75 (by decide) ?_
              exact J71 _ (((if_neg hc_71).trans rfl)).symm
        · replace H := H.2 hc_27
          refine r_iconst d_LR_readUnit_30 ic_0 ?_
          exact rZ_ret d_LR_readUnit_31 rfl (Or.inl rfl) H
set_option maxHeartbeats 4000000 in
set_option maxRecDepth 20000 in
theorem w_LR_readCondition {G : rx_Gh} {hp : rx_Hp} {F : Int32 → rx_Hp → Prop} (a1 : Int32) (a2 : Int32) {d : Nat} (H : Ev wC G (d + 30) q_LR_readUnit [.ref 15, .int a1, .int a2] hp (rI fun r2 h1 => (r2 = 0 → F 0 h1) ∧ (¬ r2 = 0 → Rn wC G (d + 31) q_LR_readCondition 16 [some (.ref 15), some (.int a1), none, some (.int 0), some (.int 0), none] [] h1 (rI F)))) : Ev wC G (d + 31) q_LR_readCondition [.ref 15, .int a1, .int a2] hp (rI F) := by
  refine ev_of rfl (Nat.le_of_ble_eq_true rfl) rfl ?_
  show Rn wC G (d + 31) q_LR_readCondition 0 [some (.ref 15), some (.int a1), some (.int a2), none, none, none] [] hp (rI F)
  refine r_aload_n (i := 0) d_LR_readCondition_0 rfl rfl ?_
  refine r_iload_n (i := 1) d_LR_readCondition_1 rfl rfl ?_
  refine r_iload_n (i := 2) d_LR_readCondition_2 rfl rfl ?_
  refine rc_VI (b := 15) (d' := (d + 30)) [.int a1, .int a2] [] d_LR_readCondition_3 ml_LR_61 rfl rfl (by omega) (by decide) rfl rfl (Nat.le_of_ble_eq_true rfl) H ?_
  intro r2 h1 H
  refine r_if_ne (tgt := 11) d_LR_readCondition_6 (by decide) (fun hc_6 => ?_) (fun hc_6 => ?_)
  · replace H := H.2 hc_6
    refine r_iconst d_LR_readCondition_11 ic_0 ?_
    refine r_istore_n (i := 3) (lz := [some (.ref 15), some (.int a1), some (.int a2), some (.int 0), none, none]) d_LR_readCondition_12 rfl (by decide) rfl rfl ?_
    refine r_iconst d_LR_readCondition_13 ic_0 ?_
    refine r_istore (lz := [some (.ref 15), some (.int a1), some (.int a2), some (.int 0), some (.int 0), none]) d_LR_readCondition_14 (by decide) rfl rfl ?_
    exact rx_fgt [false, false, true] H
  · replace H := H.1 hc_6
    refine r_iconst d_LR_readCondition_9 ic_0 ?_
    exact rZ_ret d_LR_readCondition_10 rfl (Or.inl rfl) H
set_option maxHeartbeats 4000000 in
set_option maxRecDepth 20000 in
theorem w_LR_readCondition_16 {G : rx_Gh} {hp : rx_Hp} {F : Int32 → rx_Hp → Prop} (x1 : Int32) (x3 : Int32) (x4 : Int32) {d : Nat} (H : (160 ≤ x4 → (x3 = 0 → F 1 hp) ∧ (¬ x3 = 0 → isL hp.2.2 ∧ (p_Li_add hp.2.2 124 0 hp ∧ (F 1 (g_Li_add hp.2.2 124 0 hp))))) ∧ (¬ 160 ≤ x4 → Ev wC G 1 q_Ta_look [.ref 1] hp (rI fun r2 h1 => (r2 = 38 → (r2 = 124 → (x3 = 0 → Ev wC G (d + 30) q_LR_readUnit [.ref 15, .int x1, .int 0] (rx_pf h1 1 2 ((h1.1 1 2) + 1)) (rI fun r4 h3 => (r4 = 0 → F 0 h3) ∧ (¬ r4 = 0 → isL h3.2.2 ∧ (p_Li_add h3.2.2 38 0 h3 ∧ (Rn wC G (d + 31) q_LR_readCondition 16 [some (.ref 15), some (.int x1), none, some (.int 1), some (.int (x4 + 1)), none] [] (g_Li_add h3.2.2 38 0 h3) (rI F)))))) ∧ (¬ x3 = 0 → isL h1.2.2 ∧ (p_Li_add h1.2.2 124 0 (rx_pf h1 1 2 ((h1.1 1 2) + 1)) ∧ (Ev wC G (d + 30) q_LR_readUnit [.ref 15, .int x1, .int 0] (g_Li_add h1.2.2 124 0 (rx_pf h1 1 2 ((h1.1 1 2) + 1))) (rI fun r6 h5 => (r6 = 0 → F 0 h5) ∧ (¬ r6 = 0 → isL h5.2.2 ∧ (p_Li_add h5.2.2 38 0 h5 ∧ (Rn wC G (d + 31) q_LR_readCondition 16 [some (.ref 15), some (.int x1), none, some (.int 1), some (.int (x4 + 1)), none] [] (g_Li_add h5.2.2 38 0 h5) (rI F))))))))) ∧ (¬ r2 = 124 → Ev wC G (d + 30) q_LR_readUnit [.ref 15, .int x1, .int 0] (rx_pf h1 1 2 ((h1.1 1 2) + 1)) (rI fun r8 h7 => (r8 = 0 → F 0 h7) ∧ (¬ r8 = 0 → isL h7.2.2 ∧ (p_Li_add h7.2.2 38 0 h7 ∧ (Rn wC G (d + 31) q_LR_readCondition 16 [some (.ref 15), some (.int x1), none, some (.int ((if x3 = 0 then 0 else 1) : Int32)), some (.int (x4 + 1)), none] [] (g_Li_add h7.2.2 38 0 h7) (rI F))))))) ∧ (¬ r2 = 38 → (r2 = 124 → (x3 = 0 → Ev wC G (d + 30) q_LR_readUnit [.ref 15, .int x1, .int 0] (rx_pf h1 1 2 ((h1.1 1 2) + 1)) (rI fun r10 h9 => (r10 = 0 → F 0 h9) ∧ (¬ r10 = 0 → Rn wC G (d + 31) q_LR_readCondition 16 [some (.ref 15), some (.int x1), none, some (.int 1), some (.int (x4 + 1)), none] [] h9 (rI F)))) ∧ (¬ x3 = 0 → isL h1.2.2 ∧ (p_Li_add h1.2.2 124 0 (rx_pf h1 1 2 ((h1.1 1 2) + 1)) ∧ (Ev wC G (d + 30) q_LR_readUnit [.ref 15, .int x1, .int 0] (g_Li_add h1.2.2 124 0 (rx_pf h1 1 2 ((h1.1 1 2) + 1))) (rI fun r12 h11 => (r12 = 0 → F 0 h11) ∧ (¬ r12 = 0 → Rn wC G (d + 31) q_LR_readCondition 16 [some (.ref 15), some (.int x1), none, some (.int 1), some (.int (x4 + 1)), none] [] h11 (rI F))))))) ∧ (¬ r2 = 124 → (x3 = 0 → F 1 h1) ∧ (¬ x3 = 0 → isL h1.2.2 ∧ (p_Li_add h1.2.2 124 0 h1 ∧ (F 1 (g_Li_add h1.2.2 124 0 h1))))))))) : Rn wC G (d + 31) q_LR_readCondition 16 [some (.ref 15), some (.int x1), none, some (.int x3), some (.int x4), none] [] hp (rI F) := by
  refine r_iload d_LR_readCondition_16 rfl ?_
  refine r_sipush d_LR_readCondition_18 sp_160 ?_
  refine r_icmp_ge (tgt := 135) d_LR_readCondition_21 (by decide) (fun hc_21 => ?_) (fun hc_21 => ?_)
  · replace H := H.1 hc_21
    refine r_iload_n (i := 3) d_LR_readCondition_135 rfl rfl ?_
    refine r_if_eq (tgt := 149) d_LR_readCondition_136 (by decide) (fun hc_136 => ?_) (fun hc_136 => ?_)
    · replace H := H.1 hc_136
      refine r_iconst d_LR_readCondition_149 ic_1 ?_
      exact rZ_ret d_LR_readCondition_150 rfl (Or.inr rfl) H
    · replace H := H.2 hc_136
      refine r_aload_n (i := 0) d_LR_readCondition_139 rfl rfl ?_
      obtain ⟨hl_140, H⟩ := H
      refine r_getR (b := 15) (r := hp.2.2) d_LR_readCondition_140 fl_LR_18 (by decide) rfl rfl rfl ?_
      refine r_bipush d_LR_readCondition_143 bp_124 ?_
      refine r_iconst d_LR_readCondition_145 ic_0 ?_
      obtain ⟨hp_146_1, H⟩ := H
      refine rk_VV (b := hp.2.2) (d' := 1) [.int 124, .int 0] [] d_LR_readCondition_146 ml_LR_49 rfl rfl (by omega) (isL_lt hl_140) (isL_k hl_140) rfl (Nat.le_of_ble_eq_true rfl) (s_Li_add hp.2.2 124 0 hl_140 hp_146_1 ?_)
      refine r_iconst d_LR_readCondition_149 ic_1 ?_
      exact rZ_ret d_LR_readCondition_150 rfl (Or.inr rfl) H
  · replace H := H.2 hc_21
    refine r_aload_n (i := 0) d_LR_readCondition_24 rfl rfl ?_
    refine r_getR (b := 15) (r := 1) d_LR_readCondition_25 fl_LR_9 (by decide) rfl rfl rfl ?_
    refine rc_VI (b := 1) (d' := 1) [] [] d_LR_readCondition_28 ml_LR_35 rfl rfl (by omega) (by decide) rfl rfl (Nat.le_of_ble_eq_true rfl) H ?_
    intro r2 h1 H
    refine r_istore (lz := [some (.ref 15), some (.int x1), none, some (.int x3), some (.int x4), some (.int r2)]) d_LR_readCondition_31 (by decide) rfl rfl ?_
    refine r_iload d_LR_readCondition_33 rfl ?_
    refine r_bipush d_LR_readCondition_35 bp_38 ?_
    refine r_icmp_eq (tgt := 50) d_LR_readCondition_37 (by decide) (fun hc_37 => ?_) (fun hc_37 => ?_)
    · replace H := H.1 hc_37
      refine r_aload_n (i := 0) d_LR_readCondition_50 rfl rfl ?_
      refine r_getR (b := 15) (r := 1) d_LR_readCondition_51 fl_LR_9 (by decide) rfl rfl rfl ?_
      refine r_dupr d_LR_readCondition_54 ?_
      refine r_getI (b := 1) (v := h1.1 1 2) d_LR_readCondition_55 fl_LR_26 (by decide) rfl rfl rfl ?_
      refine r_iconst d_LR_readCondition_58 ic_1 ?_
      refine r_iadd d_LR_readCondition_59 ?_
      refine r_putI (b := 1) d_LR_readCondition_60 fp_LR_26 ⟨rfl, rfl⟩ (by decide) rfl rfl ?_
      refine r_iload d_LR_readCondition_63 rfl ?_
      refine r_bipush d_LR_readCondition_65 bp_124 ?_
      refine r_icmp_ne (tgt := 84) d_LR_readCondition_67 (by decide) (fun hc_67 => ?_) (fun hc_67 => ?_)
      · replace H := H.2 hc_67
        have J85 : ∀ (v85_0 : Int32), v85_0 = ((if x3 = 0 then 0 else 1) : Int32) → Rn wC G (d + 31) q_LR_readCondition 100 [some (.ref 15), some (.int x1), none, some (.int x3), some (.int x4), some (.int r2)] [.int v85_0] (rx_pf h1 1 2 ((h1.1 1 2) + 1)) (rI F) := by
          rintro _ rfl
          refine r_istore_n (i := 3) (lz := [some (.ref 15), some (.int x1), none, some (.int ((if x3 = 0 then 0 else 1) : Int32)), some (.int x4), some (.int r2)]) d_LR_readCondition_100 rfl (by decide) rfl rfl ?_
          refine r_aload_n (i := 0) d_LR_readCondition_101 rfl rfl ?_
          refine r_iload_n (i := 1) d_LR_readCondition_102 rfl rfl ?_
          refine r_iconst d_LR_readCondition_103 ic_0 ?_
          refine rc_VI (b := 15) (d' := (d + 30)) [.int x1, .int 0] [] d_LR_readCondition_104 ml_LR_61 rfl rfl (by omega) (by decide) rfl rfl (Nat.le_of_ble_eq_true rfl) H ?_
          intro r8 h7 H
          refine r_if_ne (tgt := 112) d_LR_readCondition_107 (by decide) (fun hc_107 => ?_) (fun hc_107 => ?_)
          · replace H := H.2 hc_107
            refine r_iload d_LR_readCondition_112 rfl ?_
            refine r_bipush d_LR_readCondition_114 bp_38 ?_
            refine r_icmp_ne (tgt := 129) d_LR_readCondition_116 (by decide) (fun h => absurd hc_37 h) (fun _ => ?_)
            refine r_aload_n (i := 0) d_LR_readCondition_119 rfl rfl ?_
            obtain ⟨hl_120, H⟩ := H
            refine r_getR (b := 15) (r := h7.2.2) d_LR_readCondition_120 fl_LR_18 (by decide) rfl rfl rfl ?_
            refine r_bipush d_LR_readCondition_123 bp_38 ?_
            refine r_iconst d_LR_readCondition_125 ic_0 ?_
            obtain ⟨hp_126_1, H⟩ := H
            refine rk_VV (b := h7.2.2) (d' := 1) [.int 38, .int 0] [] d_LR_readCondition_126 ml_LR_49 rfl rfl (by omega) (isL_lt hl_120) (isL_k hl_120) rfl (Nat.le_of_ble_eq_true rfl) (s_Li_add h7.2.2 38 0 hl_120 hp_126_1 ?_)
            refine r_iinc (v := x4 + 1) (lz := [some (.ref 15), some (.int x1), none, some (.int ((if x3 = 0 then 0 else 1) : Int32)), some (.int (x4 + 1)), some (.int r2)]) d_LR_readCondition_129 rfl (by rw [ic_1]) (by decide) rfl rfl ?_
            refine r_goto (tgt := 16) d_LR_readCondition_132 (by decide) ?_
            exact rx_fgt [false, false, false, false, false, true] H
          · replace H := H.1 hc_107
            refine r_iconst d_LR_readCondition_110 ic_0 ?_
            exact rZ_ret d_LR_readCondition_111 rfl (Or.inl rfl) H
        refine r_iload_n (i := 3) d_LR_readCondition_84 rfl rfl ?_
        refine r_if_ne (tgt := 95) d_LR_readCondition_85 (by decide) (fun hc_85 => ?_) (fun hc_85 => ?_)
        · refine r_iconst d_LR_readCondition_95 ic_1 ?_
          refine r_goto (tgt := 100) d_LR_readCondition_96 (by decide) ?_
          exact J85 _ (((if_neg hc_85).trans rfl)).symm
        · refine r_iload d_LR_readCondition_88 rfl ?_
          refine r_bipush d_LR_readCondition_90 bp_124 ?_
          refine r_icmp_ne (tgt := 99) d_LR_readCondition_92 (by decide) (fun _ => ?_) (fun h => absurd h hc_67)
          refine r_iconst d_LR_readCondition_99 ic_0 ?_
          exact J85 _ (((if_pos hc_85).trans rfl)).symm
      · replace H := H.1 hc_67
        refine r_iload_n (i := 3) d_LR_readCondition_70 rfl rfl ?_
        refine r_if_eq (tgt := 84) d_LR_readCondition_71 (by decide) (fun hc_71 => ?_) (fun hc_71 => ?_)
        · replace H := H.1 hc_71
          refine r_iload_n (i := 3) d_LR_readCondition_84 rfl rfl ?_
          refine r_if_ne (tgt := 95) d_LR_readCondition_85 (by decide) (fun h => absurd hc_71 h) (fun _ => ?_)
          refine r_iload d_LR_readCondition_88 rfl ?_
          refine r_bipush d_LR_readCondition_90 bp_124 ?_
          refine r_icmp_ne (tgt := 99) d_LR_readCondition_92 (by decide) (fun h => absurd hc_67 h) (fun _ => ?_)
          refine r_iconst d_LR_readCondition_95 ic_1 ?_
          refine r_goto (tgt := 100) d_LR_readCondition_96 (by decide) ?_
          refine r_istore_n (i := 3) (lz := [some (.ref 15), some (.int x1), none, some (.int 1), some (.int x4), some (.int r2)]) d_LR_readCondition_100 rfl (by decide) rfl rfl ?_
          refine r_aload_n (i := 0) d_LR_readCondition_101 rfl rfl ?_
          refine r_iload_n (i := 1) d_LR_readCondition_102 rfl rfl ?_
          refine r_iconst d_LR_readCondition_103 ic_0 ?_
          refine rc_VI (b := 15) (d' := (d + 30)) [.int x1, .int 0] [] d_LR_readCondition_104 ml_LR_61 rfl rfl (by omega) (by decide) rfl rfl (Nat.le_of_ble_eq_true rfl) H ?_
          intro r4 h3 H
          refine r_if_ne (tgt := 112) d_LR_readCondition_107 (by decide) (fun hc_107 => ?_) (fun hc_107 => ?_)
          · replace H := H.2 hc_107
            refine r_iload d_LR_readCondition_112 rfl ?_
            refine r_bipush d_LR_readCondition_114 bp_38 ?_
            refine r_icmp_ne (tgt := 129) d_LR_readCondition_116 (by decide) (fun h => absurd hc_37 h) (fun _ => ?_)
            refine r_aload_n (i := 0) d_LR_readCondition_119 rfl rfl ?_
            obtain ⟨hl_120, H⟩ := H
            refine r_getR (b := 15) (r := h3.2.2) d_LR_readCondition_120 fl_LR_18 (by decide) rfl rfl rfl ?_
            refine r_bipush d_LR_readCondition_123 bp_38 ?_
            refine r_iconst d_LR_readCondition_125 ic_0 ?_
            obtain ⟨hp_126_1, H⟩ := H
            refine rk_VV (b := h3.2.2) (d' := 1) [.int 38, .int 0] [] d_LR_readCondition_126 ml_LR_49 rfl rfl (by omega) (isL_lt hl_120) (isL_k hl_120) rfl (Nat.le_of_ble_eq_true rfl) (s_Li_add h3.2.2 38 0 hl_120 hp_126_1 ?_)
            refine r_iinc (v := x4 + 1) (lz := [some (.ref 15), some (.int x1), none, some (.int 1), some (.int (x4 + 1)), some (.int r2)]) d_LR_readCondition_129 rfl (by rw [ic_1]) (by decide) rfl rfl ?_
            refine r_goto (tgt := 16) d_LR_readCondition_132 (by decide) ?_
            exact rx_fgt [false, false, false, false, false, true] H
          · replace H := H.1 hc_107
            refine r_iconst d_LR_readCondition_110 ic_0 ?_
            exact rZ_ret d_LR_readCondition_111 rfl (Or.inl rfl) H
        · replace H := H.2 hc_71
          refine r_aload_n (i := 0) d_LR_readCondition_74 rfl rfl ?_
          obtain ⟨hl_75, H⟩ := H
          refine r_getR (b := 15) (r := h1.2.2) d_LR_readCondition_75 fl_LR_18 (by decide) rfl rfl rfl ?_
          refine r_bipush d_LR_readCondition_78 bp_124 ?_
          refine r_iconst d_LR_readCondition_80 ic_0 ?_
          obtain ⟨hp_81_1, H⟩ := H
          refine rk_VV (b := h1.2.2) (d' := 1) [.int 124, .int 0] [] d_LR_readCondition_81 ml_LR_49 rfl rfl (by omega) (isL_lt hl_75) (isL_k hl_75) rfl (Nat.le_of_ble_eq_true rfl) (s_Li_add h1.2.2 124 0 hl_75 hp_81_1 ?_)
          refine r_iload_n (i := 3) d_LR_readCondition_84 rfl rfl ?_
          refine r_if_ne (tgt := 95) d_LR_readCondition_85 (by decide) (fun _ => ?_) (fun h => absurd h hc_71)
          refine r_iconst d_LR_readCondition_95 ic_1 ?_
          refine r_goto (tgt := 100) d_LR_readCondition_96 (by decide) ?_
          refine r_istore_n (i := 3) (lz := [some (.ref 15), some (.int x1), none, some (.int 1), some (.int x4), some (.int r2)]) d_LR_readCondition_100 rfl (by decide) rfl rfl ?_
          refine r_aload_n (i := 0) d_LR_readCondition_101 rfl rfl ?_
          refine r_iload_n (i := 1) d_LR_readCondition_102 rfl rfl ?_
          refine r_iconst d_LR_readCondition_103 ic_0 ?_
          refine rc_VI (b := 15) (d' := (d + 30)) [.int x1, .int 0] [] d_LR_readCondition_104 ml_LR_61 rfl rfl (by omega) (by decide) rfl rfl (Nat.le_of_ble_eq_true rfl) H ?_
          intro r6 h5 H
          refine r_if_ne (tgt := 112) d_LR_readCondition_107 (by decide) (fun hc_107 => ?_) (fun hc_107 => ?_)
          · replace H := H.2 hc_107
            refine r_iload d_LR_readCondition_112 rfl ?_
            refine r_bipush d_LR_readCondition_114 bp_38 ?_
            refine r_icmp_ne (tgt := 129) d_LR_readCondition_116 (by decide) (fun h => absurd hc_37 h) (fun _ => ?_)
            refine r_aload_n (i := 0) d_LR_readCondition_119 rfl rfl ?_
            obtain ⟨hl_120, H⟩ := H
            refine r_getR (b := 15) (r := h5.2.2) d_LR_readCondition_120 fl_LR_18 (by decide) rfl rfl rfl ?_
            refine r_bipush d_LR_readCondition_123 bp_38 ?_
            refine r_iconst d_LR_readCondition_125 ic_0 ?_
            obtain ⟨hp_126_1, H⟩ := H
            refine rk_VV (b := h5.2.2) (d' := 1) [.int 38, .int 0] [] d_LR_readCondition_126 ml_LR_49 rfl rfl (by omega) (isL_lt hl_120) (isL_k hl_120) rfl (Nat.le_of_ble_eq_true rfl) (s_Li_add h5.2.2 38 0 hl_120 hp_126_1 ?_)
            refine r_iinc (v := x4 + 1) (lz := [some (.ref 15), some (.int x1), none, some (.int 1), some (.int (x4 + 1)), some (.int r2)]) d_LR_readCondition_129 rfl (by rw [ic_1]) (by decide) rfl rfl ?_
            refine r_goto (tgt := 16) d_LR_readCondition_132 (by decide) ?_
            exact rx_fgt [false, false, false, false, false, true] H
          · replace H := H.1 hc_107
            refine r_iconst d_LR_readCondition_110 ic_0 ?_
            exact rZ_ret d_LR_readCondition_111 rfl (Or.inl rfl) H
    · replace H := H.2 hc_37
      refine r_iload d_LR_readCondition_40 rfl ?_
      refine r_bipush d_LR_readCondition_42 bp_124 ?_
      refine r_icmp_eq (tgt := 50) d_LR_readCondition_44 (by decide) (fun hc_44 => ?_) (fun hc_44 => ?_)
      · replace H := H.1 hc_44
        refine r_aload_n (i := 0) d_LR_readCondition_50 rfl rfl ?_
        refine r_getR (b := 15) (r := 1) d_LR_readCondition_51 fl_LR_9 (by decide) rfl rfl rfl ?_
        refine r_dupr d_LR_readCondition_54 ?_
        refine r_getI (b := 1) (v := h1.1 1 2) d_LR_readCondition_55 fl_LR_26 (by decide) rfl rfl rfl ?_
        refine r_iconst d_LR_readCondition_58 ic_1 ?_
        refine r_iadd d_LR_readCondition_59 ?_
        refine r_putI (b := 1) d_LR_readCondition_60 fp_LR_26 ⟨rfl, rfl⟩ (by decide) rfl rfl ?_
        refine r_iload d_LR_readCondition_63 rfl ?_
        refine r_bipush d_LR_readCondition_65 bp_124 ?_
        refine r_icmp_ne (tgt := 84) d_LR_readCondition_67 (by decide) (fun h => absurd hc_44 h) (fun _ => ?_)
        refine r_iload_n (i := 3) d_LR_readCondition_70 rfl rfl ?_
        refine r_if_eq (tgt := 84) d_LR_readCondition_71 (by decide) (fun hc_71 => ?_) (fun hc_71 => ?_)
        · replace H := H.1 hc_71
          refine r_iload_n (i := 3) d_LR_readCondition_84 rfl rfl ?_
          refine r_if_ne (tgt := 95) d_LR_readCondition_85 (by decide) (fun h => absurd hc_71 h) (fun _ => ?_)
          refine r_iload d_LR_readCondition_88 rfl ?_
          refine r_bipush d_LR_readCondition_90 bp_124 ?_
          refine r_icmp_ne (tgt := 99) d_LR_readCondition_92 (by decide) (fun h => absurd hc_44 h) (fun _ => ?_)
          refine r_iconst d_LR_readCondition_95 ic_1 ?_
          refine r_goto (tgt := 100) d_LR_readCondition_96 (by decide) ?_
          refine r_istore_n (i := 3) (lz := [some (.ref 15), some (.int x1), none, some (.int 1), some (.int x4), some (.int r2)]) d_LR_readCondition_100 rfl (by decide) rfl rfl ?_
          refine r_aload_n (i := 0) d_LR_readCondition_101 rfl rfl ?_
          refine r_iload_n (i := 1) d_LR_readCondition_102 rfl rfl ?_
          refine r_iconst d_LR_readCondition_103 ic_0 ?_
          refine rc_VI (b := 15) (d' := (d + 30)) [.int x1, .int 0] [] d_LR_readCondition_104 ml_LR_61 rfl rfl (by omega) (by decide) rfl rfl (Nat.le_of_ble_eq_true rfl) H ?_
          intro r10 h9 H
          refine r_if_ne (tgt := 112) d_LR_readCondition_107 (by decide) (fun hc_107 => ?_) (fun hc_107 => ?_)
          · replace H := H.2 hc_107
            refine r_iload d_LR_readCondition_112 rfl ?_
            refine r_bipush d_LR_readCondition_114 bp_38 ?_
            refine r_icmp_ne (tgt := 129) d_LR_readCondition_116 (by decide) (fun _ => ?_) (fun h => absurd h hc_37)
            refine r_iinc (v := x4 + 1) (lz := [some (.ref 15), some (.int x1), none, some (.int 1), some (.int (x4 + 1)), some (.int r2)]) d_LR_readCondition_129 rfl (by rw [ic_1]) (by decide) rfl rfl ?_
            refine r_goto (tgt := 16) d_LR_readCondition_132 (by decide) ?_
            exact rx_fgt [false, false, false, false, false, true] H
          · replace H := H.1 hc_107
            refine r_iconst d_LR_readCondition_110 ic_0 ?_
            exact rZ_ret d_LR_readCondition_111 rfl (Or.inl rfl) H
        · replace H := H.2 hc_71
          refine r_aload_n (i := 0) d_LR_readCondition_74 rfl rfl ?_
          obtain ⟨hl_75, H⟩ := H
          refine r_getR (b := 15) (r := h1.2.2) d_LR_readCondition_75 fl_LR_18 (by decide) rfl rfl rfl ?_
          refine r_bipush d_LR_readCondition_78 bp_124 ?_
          refine r_iconst d_LR_readCondition_80 ic_0 ?_
          obtain ⟨hp_81_1, H⟩ := H
          refine rk_VV (b := h1.2.2) (d' := 1) [.int 124, .int 0] [] d_LR_readCondition_81 ml_LR_49 rfl rfl (by omega) (isL_lt hl_75) (isL_k hl_75) rfl (Nat.le_of_ble_eq_true rfl) (s_Li_add h1.2.2 124 0 hl_75 hp_81_1 ?_)
          refine r_iload_n (i := 3) d_LR_readCondition_84 rfl rfl ?_
          refine r_if_ne (tgt := 95) d_LR_readCondition_85 (by decide) (fun _ => ?_) (fun h => absurd h hc_71)
          refine r_iconst d_LR_readCondition_95 ic_1 ?_
          refine r_goto (tgt := 100) d_LR_readCondition_96 (by decide) ?_
          refine r_istore_n (i := 3) (lz := [some (.ref 15), some (.int x1), none, some (.int 1), some (.int x4), some (.int r2)]) d_LR_readCondition_100 rfl (by decide) rfl rfl ?_
          refine r_aload_n (i := 0) d_LR_readCondition_101 rfl rfl ?_
          refine r_iload_n (i := 1) d_LR_readCondition_102 rfl rfl ?_
          refine r_iconst d_LR_readCondition_103 ic_0 ?_
          refine rc_VI (b := 15) (d' := (d + 30)) [.int x1, .int 0] [] d_LR_readCondition_104 ml_LR_61 rfl rfl (by omega) (by decide) rfl rfl (Nat.le_of_ble_eq_true rfl) H ?_
          intro r12 h11 H
          refine r_if_ne (tgt := 112) d_LR_readCondition_107 (by decide) (fun hc_107 => ?_) (fun hc_107 => ?_)
          · replace H := H.2 hc_107
            refine r_iload d_LR_readCondition_112 rfl ?_
            refine r_bipush d_LR_readCondition_114 bp_38 ?_
            refine r_icmp_ne (tgt := 129) d_LR_readCondition_116 (by decide) (fun _ => ?_) (fun h => absurd h hc_37)
            refine r_iinc (v := x4 + 1) (lz := [some (.ref 15), some (.int x1), none, some (.int 1), some (.int (x4 + 1)), some (.int r2)]) d_LR_readCondition_129 rfl (by rw [ic_1]) (by decide) rfl rfl ?_
            refine r_goto (tgt := 16) d_LR_readCondition_132 (by decide) ?_
            exact rx_fgt [false, false, false, false, false, true] H
          · replace H := H.1 hc_107
            refine r_iconst d_LR_readCondition_110 ic_0 ?_
            exact rZ_ret d_LR_readCondition_111 rfl (Or.inl rfl) H
      · replace H := H.2 hc_44
        refine r_goto (tgt := 135) d_LR_readCondition_47 (by decide) ?_
        refine r_iload_n (i := 3) d_LR_readCondition_135 rfl rfl ?_
        refine r_if_eq (tgt := 149) d_LR_readCondition_136 (by decide) (fun hc_136 => ?_) (fun hc_136 => ?_)
        · replace H := H.1 hc_136
          refine r_iconst d_LR_readCondition_149 ic_1 ?_
          exact rZ_ret d_LR_readCondition_150 rfl (Or.inr rfl) H
        · replace H := H.2 hc_136
          refine r_aload_n (i := 0) d_LR_readCondition_139 rfl rfl ?_
          obtain ⟨hl_140, H⟩ := H
          refine r_getR (b := 15) (r := h1.2.2) d_LR_readCondition_140 fl_LR_18 (by decide) rfl rfl rfl ?_
          refine r_bipush d_LR_readCondition_143 bp_124 ?_
          refine r_iconst d_LR_readCondition_145 ic_0 ?_
          obtain ⟨hp_146_1, H⟩ := H
          refine rk_VV (b := h1.2.2) (d' := 1) [.int 124, .int 0] [] d_LR_readCondition_146 ml_LR_49 rfl rfl (by omega) (isL_lt hl_140) (isL_k hl_140) rfl (Nat.le_of_ble_eq_true rfl) (s_Li_add h1.2.2 124 0 hl_140 hp_146_1 ?_)
          refine r_iconst d_LR_readCondition_149 ic_1 ?_
          exact rZ_ret d_LR_readCondition_150 rfl (Or.inr rfl) H
set_option maxHeartbeats 4000000 in
set_option maxRecDepth 20000 in
theorem w_LR_readClause {G : rx_Gh} {hp : rx_Hp} {F : Int32 → rx_Hp → Prop}  (H : Ev wC G 2 q_Ta_take [.ref 1, .int 121] hp (rI fun r2 h1 => (r2 = 0 → F 0 h1) ∧ (¬ r2 = 0 → Ev wC G 2 q_Ta_take [.ref 1, .int 58] h1 (rI fun r4 h3 => (r4 = 0 → F 0 h3) ∧ (¬ r4 = 0 → Ev wC G 1 q_Ta_look [.ref 1] h3 (rI fun r6 h5 => (((if r6 = 33 then 0 else ((if r6 = 40 then 0 else 1) : Int32)) : Int32) = 0 → Ev wC G 43 q_LR_readCondition [.ref 15, .int 0, .int ((if r6 = 33 then 0 else ((if r6 = 40 then 0 else 1) : Int32)) : Int32)] h5 (rI fun r8 h7 => (r8 = 0 → F 0 h7) ∧ (¬ r8 = 0 → Ev wC G 2 q_Ta_take [.ref 1, .int 63] h7 (rI fun r10 h9 => (r10 = 0 → F 0 h9) ∧ (¬ r10 = 0 → isL h9.2.2 ∧ (p_Li_add h9.2.2 63 0 h9 ∧ (Ev wC G 23 q_LR_readSum [.ref 15, .int 0] (g_Li_add h9.2.2 63 0 h9) (rI fun r12 h11 => (r12 = 0 → F 0 h11) ∧ (¬ r12 = 0 → isL h11.2.2 ∧ (p_Li_add h11.2.2 59 0 h11 ∧ (isL ((g_Li_add h11.2.2 59 0 h11).2.2) ∧ (p_Li_leadToEnd ((g_Li_add h11.2.2 59 0 h11).2.2) (h9.1 h9.2.2 2) (g_Li_add h11.2.2 59 0 h11) ∧ (F 1 (g_Li_leadToEnd ((g_Li_add h11.2.2 59 0 h11).2.2) (h9.1 h9.2.2 2) (g_Li_add h11.2.2 59 0 h11))))))))))))))) ∧ (¬ ((if r6 = 33 then 0 else ((if r6 = 40 then 0 else 1) : Int32)) : Int32) = 0 → Ev wC G 23 q_LR_readSum [.ref 15, .int 0] h5 (rI fun r14 h13 => (r14 = 0 → F 0 h13) ∧ (¬ r14 = 0 → Ev wC G 1 q_Ta_look [.ref 1] h13 (rI fun r16 h15 => ((f_LR_isComparison r16) = 0 → isL h15.2.2 ∧ (p_Li_add h15.2.2 59 0 h15 ∧ (F 1 (g_Li_add h15.2.2 59 0 h15)))) ∧ (¬ (f_LR_isComparison r16) = 0 → Ev wC G 43 q_LR_readCondition [.ref 15, .int 0, .int ((if r6 = 33 then 0 else ((if r6 = 40 then 0 else 1) : Int32)) : Int32)] h15 (rI fun r18 h17 => (r18 = 0 → F 0 h17) ∧ (¬ r18 = 0 → Ev wC G 2 q_Ta_take [.ref 1, .int 63] h17 (rI fun r20 h19 => (r20 = 0 → F 0 h19) ∧ (¬ r20 = 0 → isL h19.2.2 ∧ (p_Li_add h19.2.2 63 0 h19 ∧ (Ev wC G 23 q_LR_readSum [.ref 15, .int 0] (g_Li_add h19.2.2 63 0 h19) (rI fun r22 h21 => (r22 = 0 → F 0 h21) ∧ (¬ r22 = 0 → isL h21.2.2 ∧ (p_Li_add h21.2.2 59 0 h21 ∧ (isL ((g_Li_add h21.2.2 59 0 h21).2.2) ∧ (p_Li_leadToEnd ((g_Li_add h21.2.2 59 0 h21).2.2) (h19.1 h19.2.2 2) (g_Li_add h21.2.2 59 0 h21) ∧ (F 1 (g_Li_leadToEnd ((g_Li_add h21.2.2 59 0 h21).2.2) (h19.1 h19.2.2 2) (g_Li_add h21.2.2 59 0 h21))))))))))))))))))))))))) : Ev wC G 50 q_LR_readClause [.ref 15] hp (rI F) := by
  refine ev_of rfl (Nat.le_of_ble_eq_true rfl) rfl ?_
  show Rn wC G 50 q_LR_readClause 0 [some (.ref 15), none, none, none] [] hp (rI F)
  refine r_aload_n (i := 0) d_LR_readClause_0 rfl rfl ?_
  refine r_getR (b := 15) (r := 1) d_LR_readClause_1 fl_LR_9 (by decide) rfl rfl rfl ?_
  refine r_bipush d_LR_readClause_4 bp_121 ?_
  refine rc_VI (b := 1) (d' := 2) [.int 121] [] d_LR_readClause_6 ml_LR_39 rfl rfl (by decide) (by decide) rfl rfl (Nat.le_of_ble_eq_true rfl) H ?_
  intro r2 h1 H
  refine r_if_eq (tgt := 24) d_LR_readClause_9 (by decide) (fun hc_9 => ?_) (fun hc_9 => ?_)
  · replace H := H.1 hc_9
    refine r_iconst d_LR_readClause_24 ic_0 ?_
    exact rZ_ret d_LR_readClause_25 rfl (Or.inl rfl) H
  · replace H := H.2 hc_9
    refine r_aload_n (i := 0) d_LR_readClause_12 rfl rfl ?_
    refine r_getR (b := 15) (r := 1) d_LR_readClause_13 fl_LR_9 (by decide) rfl rfl rfl ?_
    refine r_bipush d_LR_readClause_16 bp_58 ?_
    refine rc_VI (b := 1) (d' := 2) [.int 58] [] d_LR_readClause_18 ml_LR_39 rfl rfl (by decide) (by decide) rfl rfl (Nat.le_of_ble_eq_true rfl) H ?_
    intro r4 h3 H
    refine r_if_ne (tgt := 26) d_LR_readClause_21 (by decide) (fun hc_21 => ?_) (fun hc_21 => ?_)
    · replace H := H.2 hc_21
      refine r_aload_n (i := 0) d_LR_readClause_26 rfl rfl ?_
      refine r_getR (b := 15) (r := 1) d_LR_readClause_27 fl_LR_9 (by decide) rfl rfl rfl ?_
      refine rc_VI (b := 1) (d' := 1) [] [] d_LR_readClause_30 ml_LR_35 rfl rfl (by decide) (by decide) rfl rfl (Nat.le_of_ble_eq_true rfl) H ?_
      intro r6 h5 H
      have J37 : ∀ (v37_0 : Int32), v37_0 = ((if r6 = 33 then 0 else ((if r6 = 40 then 0 else 1) : Int32)) : Int32) → Rn wC G 50 q_LR_readClause 51 [some (.ref 15), some (.int r6), none, none] [.int v37_0] h5 (rI F) := by
        rintro _ rfl
        refine r_istore_n (i := 2) (lz := [some (.ref 15), some (.int r6), some (.int ((if r6 = 33 then 0 else ((if r6 = 40 then 0 else 1) : Int32)) : Int32)), none]) d_LR_readClause_51 rfl (by decide) rfl rfl ?_
        refine r_iload_n (i := 2) d_LR_readClause_52 rfl rfl ?_
        refine r_if_eq (tgt := 66) d_LR_readClause_53 (by decide) (fun hc_53 => ?_) (fun hc_53 => ?_)
        · replace H := H.1 hc_53
          refine r_iload_n (i := 2) d_LR_readClause_66 rfl rfl ?_
          refine r_if_eq (tgt := 95) d_LR_readClause_67 (by decide) (fun _ => ?_) (fun h => absurd hc_53 h)
          refine r_aload_n (i := 0) d_LR_readClause_95 rfl rfl ?_
          refine r_iconst d_LR_readClause_96 ic_0 ?_
          refine r_iload_n (i := 2) d_LR_readClause_97 rfl rfl ?_
          refine rc_VI (b := 15) (d' := 43) [.int 0, .int ((if r6 = 33 then 0 else ((if r6 = 40 then 0 else 1) : Int32)) : Int32)] [] d_LR_readClause_98 ml_LR_53 rfl rfl (by decide) (by decide) rfl rfl (Nat.le_of_ble_eq_true rfl) H ?_
          intro r8 h7 H
          refine r_if_eq (tgt := 116) d_LR_readClause_101 (by decide) (fun hc_101 => ?_) (fun hc_101 => ?_)
          · replace H := H.1 hc_101
            refine r_iconst d_LR_readClause_116 ic_0 ?_
            exact rZ_ret d_LR_readClause_117 rfl (Or.inl rfl) H
          · replace H := H.2 hc_101
            refine r_aload_n (i := 0) d_LR_readClause_104 rfl rfl ?_
            refine r_getR (b := 15) (r := 1) d_LR_readClause_105 fl_LR_9 (by decide) rfl rfl rfl ?_
            refine r_bipush d_LR_readClause_108 bp_63 ?_
            refine rc_VI (b := 1) (d' := 2) [.int 63] [] d_LR_readClause_110 ml_LR_39 rfl rfl (by decide) (by decide) rfl rfl (Nat.le_of_ble_eq_true rfl) H ?_
            intro r10 h9 H
            refine r_if_ne (tgt := 118) d_LR_readClause_113 (by decide) (fun hc_113 => ?_) (fun hc_113 => ?_)
            · replace H := H.2 hc_113
              refine r_aload_n (i := 0) d_LR_readClause_118 rfl rfl ?_
              obtain ⟨hl_119, H⟩ := H
              refine r_getR (b := 15) (r := h9.2.2) d_LR_readClause_119 fl_LR_18 (by decide) rfl rfl rfl ?_
              refine r_getI (b := h9.2.2) (v := h9.1 h9.2.2 2) d_LR_readClause_122 fl_LR_22 (isL_lt hl_119) (isL_k hl_119) rfl rfl ?_
              refine r_istore_n (i := 3) (lz := [some (.ref 15), some (.int r6), some (.int ((if r6 = 33 then 0 else ((if r6 = 40 then 0 else 1) : Int32)) : Int32)), some (.int (h9.1 h9.2.2 2))]) d_LR_readClause_125 rfl (by decide) rfl rfl ?_
              refine r_aload_n (i := 0) d_LR_readClause_126 rfl rfl ?_
              refine r_getR (b := 15) (r := h9.2.2) d_LR_readClause_127 fl_LR_18 (by decide) rfl rfl rfl ?_
              refine r_bipush d_LR_readClause_130 bp_63 ?_
              refine r_iconst d_LR_readClause_132 ic_0 ?_
              obtain ⟨hp_133_1, H⟩ := H
              refine rk_VV (b := h9.2.2) (d' := 1) [.int 63, .int 0] [] d_LR_readClause_133 ml_LR_49 rfl rfl (by decide) (isL_lt hl_119) (isL_k hl_119) rfl (Nat.le_of_ble_eq_true rfl) (s_Li_add h9.2.2 63 0 hl_119 hp_133_1 ?_)
              refine r_aload_n (i := 0) d_LR_readClause_136 rfl rfl ?_
              refine r_iconst d_LR_readClause_137 ic_0 ?_
              refine rc_VI (b := 15) (d' := 23) [.int 0] [] d_LR_readClause_138 ml_LR_43 rfl rfl (by decide) (by decide) rfl rfl (Nat.le_of_ble_eq_true rfl) H ?_
              intro r12 h11 H
              refine r_if_ne (tgt := 146) d_LR_readClause_141 (by decide) (fun hc_141 => ?_) (fun hc_141 => ?_)
              · replace H := H.2 hc_141
                refine r_aload_n (i := 0) d_LR_readClause_146 rfl rfl ?_
                obtain ⟨hl_147, H⟩ := H
                refine r_getR (b := 15) (r := h11.2.2) d_LR_readClause_147 fl_LR_18 (by decide) rfl rfl rfl ?_
                refine r_bipush d_LR_readClause_150 bp_59 ?_
                refine r_iconst d_LR_readClause_152 ic_0 ?_
                obtain ⟨hp_153_1, H⟩ := H
                refine rk_VV (b := h11.2.2) (d' := 1) [.int 59, .int 0] [] d_LR_readClause_153 ml_LR_49 rfl rfl (by decide) (isL_lt hl_147) (isL_k hl_147) rfl (Nat.le_of_ble_eq_true rfl) (s_Li_add h11.2.2 59 0 hl_147 hp_153_1 ?_)
                refine r_aload_n (i := 0) d_LR_readClause_156 rfl rfl ?_
                obtain ⟨hl_157, H⟩ := H
                refine r_getR (b := 15) (r := (g_Li_add h11.2.2 59 0 h11).2.2) d_LR_readClause_157 fl_LR_18 (by decide) rfl rfl rfl ?_
                refine r_iload_n (i := 3) d_LR_readClause_160 rfl rfl ?_
                obtain ⟨hp_161_1, H⟩ := H
                refine rk_VV (b := (g_Li_add h11.2.2 59 0 h11).2.2) (d' := 1) [.int (h9.1 h9.2.2 2)] [] d_LR_readClause_161 ml_LR_57 rfl rfl (by decide) (isL_lt hl_157) (isL_k hl_157) rfl (Nat.le_of_ble_eq_true rfl) (s_Li_leadToEnd ((g_Li_add h11.2.2 59 0 h11).2.2) (h9.1 h9.2.2 2) hl_157 hp_161_1 ?_)
                refine r_iconst d_LR_readClause_164 ic_1 ?_
                exact rZ_ret d_LR_readClause_165 rfl (Or.inr rfl) H
              · replace H := H.1 hc_141
                refine r_iconst d_LR_readClause_144 ic_0 ?_
                exact rZ_ret d_LR_readClause_145 rfl (Or.inl rfl) H
            · replace H := H.1 hc_113
              refine r_iconst d_LR_readClause_116 ic_0 ?_
              exact rZ_ret d_LR_readClause_117 rfl (Or.inl rfl) H
        · replace H := H.2 hc_53
          refine r_aload_n (i := 0) d_LR_readClause_56 rfl rfl ?_
          refine r_iconst d_LR_readClause_57 ic_0 ?_
          refine rc_VI (b := 15) (d' := 23) [.int 0] [] d_LR_readClause_58 ml_LR_43 rfl rfl (by decide) (by decide) rfl rfl (Nat.le_of_ble_eq_true rfl) H ?_
          intro r14 h13 H
          refine r_if_ne (tgt := 66) d_LR_readClause_61 (by decide) (fun hc_61 => ?_) (fun hc_61 => ?_)
          · replace H := H.2 hc_61
            refine r_iload_n (i := 2) d_LR_readClause_66 rfl rfl ?_
            refine r_if_eq (tgt := 95) d_LR_readClause_67 (by decide) (fun h => absurd h hc_53) (fun _ => ?_)
            refine r_aload_n (i := 0) d_LR_readClause_70 rfl rfl ?_
            refine r_getR (b := 15) (r := 1) d_LR_readClause_71 fl_LR_9 (by decide) rfl rfl rfl ?_
            refine rc_VI (b := 1) (d' := 1) [] [] d_LR_readClause_74 ml_LR_35 rfl rfl (by decide) (by decide) rfl rfl (Nat.le_of_ble_eq_true rfl) H ?_
            intro r16 h15 H
            refine rk_SI (d' := 1) [.int r16] [] d_LR_readClause_77 ml_LR_46 rfl rfl (by decide) (Nat.le_of_ble_eq_true rfl) (s_LR_isComparison r16 ?_)
            refine r_if_ne (tgt := 95) d_LR_readClause_80 (by decide) (fun hc_80 => ?_) (fun hc_80 => ?_)
            · replace H := H.2 hc_80
              refine r_aload_n (i := 0) d_LR_readClause_95 rfl rfl ?_
              refine r_iconst d_LR_readClause_96 ic_0 ?_
              refine r_iload_n (i := 2) d_LR_readClause_97 rfl rfl ?_
              refine rc_VI (b := 15) (d' := 43) [.int 0, .int ((if r6 = 33 then 0 else ((if r6 = 40 then 0 else 1) : Int32)) : Int32)] [] d_LR_readClause_98 ml_LR_53 rfl rfl (by decide) (by decide) rfl rfl (Nat.le_of_ble_eq_true rfl) H ?_
              intro r18 h17 H
              refine r_if_eq (tgt := 116) d_LR_readClause_101 (by decide) (fun hc_101 => ?_) (fun hc_101 => ?_)
              · replace H := H.1 hc_101
                refine r_iconst d_LR_readClause_116 ic_0 ?_
                exact rZ_ret d_LR_readClause_117 rfl (Or.inl rfl) H
              · replace H := H.2 hc_101
                refine r_aload_n (i := 0) d_LR_readClause_104 rfl rfl ?_
                refine r_getR (b := 15) (r := 1) d_LR_readClause_105 fl_LR_9 (by decide) rfl rfl rfl ?_
                refine r_bipush d_LR_readClause_108 bp_63 ?_
                refine rc_VI (b := 1) (d' := 2) [.int 63] [] d_LR_readClause_110 ml_LR_39 rfl rfl (by decide) (by decide) rfl rfl (Nat.le_of_ble_eq_true rfl) H ?_
                intro r20 h19 H
                refine r_if_ne (tgt := 118) d_LR_readClause_113 (by decide) (fun hc_113 => ?_) (fun hc_113 => ?_)
                · replace H := H.2 hc_113
                  refine r_aload_n (i := 0) d_LR_readClause_118 rfl rfl ?_
                  obtain ⟨hl_119, H⟩ := H
                  refine r_getR (b := 15) (r := h19.2.2) d_LR_readClause_119 fl_LR_18 (by decide) rfl rfl rfl ?_
                  refine r_getI (b := h19.2.2) (v := h19.1 h19.2.2 2) d_LR_readClause_122 fl_LR_22 (isL_lt hl_119) (isL_k hl_119) rfl rfl ?_
                  refine r_istore_n (i := 3) (lz := [some (.ref 15), some (.int r6), some (.int ((if r6 = 33 then 0 else ((if r6 = 40 then 0 else 1) : Int32)) : Int32)), some (.int (h19.1 h19.2.2 2))]) d_LR_readClause_125 rfl (by decide) rfl rfl ?_
                  refine r_aload_n (i := 0) d_LR_readClause_126 rfl rfl ?_
                  refine r_getR (b := 15) (r := h19.2.2) d_LR_readClause_127 fl_LR_18 (by decide) rfl rfl rfl ?_
                  refine r_bipush d_LR_readClause_130 bp_63 ?_
                  refine r_iconst d_LR_readClause_132 ic_0 ?_
                  obtain ⟨hp_133_1, H⟩ := H
                  refine rk_VV (b := h19.2.2) (d' := 1) [.int 63, .int 0] [] d_LR_readClause_133 ml_LR_49 rfl rfl (by decide) (isL_lt hl_119) (isL_k hl_119) rfl (Nat.le_of_ble_eq_true rfl) (s_Li_add h19.2.2 63 0 hl_119 hp_133_1 ?_)
                  refine r_aload_n (i := 0) d_LR_readClause_136 rfl rfl ?_
                  refine r_iconst d_LR_readClause_137 ic_0 ?_
                  refine rc_VI (b := 15) (d' := 23) [.int 0] [] d_LR_readClause_138 ml_LR_43 rfl rfl (by decide) (by decide) rfl rfl (Nat.le_of_ble_eq_true rfl) H ?_
                  intro r22 h21 H
                  refine r_if_ne (tgt := 146) d_LR_readClause_141 (by decide) (fun hc_141 => ?_) (fun hc_141 => ?_)
                  · replace H := H.2 hc_141
                    refine r_aload_n (i := 0) d_LR_readClause_146 rfl rfl ?_
                    obtain ⟨hl_147, H⟩ := H
                    refine r_getR (b := 15) (r := h21.2.2) d_LR_readClause_147 fl_LR_18 (by decide) rfl rfl rfl ?_
                    refine r_bipush d_LR_readClause_150 bp_59 ?_
                    refine r_iconst d_LR_readClause_152 ic_0 ?_
                    obtain ⟨hp_153_1, H⟩ := H
                    refine rk_VV (b := h21.2.2) (d' := 1) [.int 59, .int 0] [] d_LR_readClause_153 ml_LR_49 rfl rfl (by decide) (isL_lt hl_147) (isL_k hl_147) rfl (Nat.le_of_ble_eq_true rfl) (s_Li_add h21.2.2 59 0 hl_147 hp_153_1 ?_)
                    refine r_aload_n (i := 0) d_LR_readClause_156 rfl rfl ?_
                    obtain ⟨hl_157, H⟩ := H
                    refine r_getR (b := 15) (r := (g_Li_add h21.2.2 59 0 h21).2.2) d_LR_readClause_157 fl_LR_18 (by decide) rfl rfl rfl ?_
                    refine r_iload_n (i := 3) d_LR_readClause_160 rfl rfl ?_
                    obtain ⟨hp_161_1, H⟩ := H
                    refine rk_VV (b := (g_Li_add h21.2.2 59 0 h21).2.2) (d' := 1) [.int (h19.1 h19.2.2 2)] [] d_LR_readClause_161 ml_LR_57 rfl rfl (by decide) (isL_lt hl_157) (isL_k hl_157) rfl (Nat.le_of_ble_eq_true rfl) (s_Li_leadToEnd ((g_Li_add h21.2.2 59 0 h21).2.2) (h19.1 h19.2.2 2) hl_157 hp_161_1 ?_)
                    refine r_iconst d_LR_readClause_164 ic_1 ?_
                    exact rZ_ret d_LR_readClause_165 rfl (Or.inr rfl) H
                  · replace H := H.1 hc_141
                    refine r_iconst d_LR_readClause_144 ic_0 ?_
                    exact rZ_ret d_LR_readClause_145 rfl (Or.inl rfl) H
                · replace H := H.1 hc_113
                  refine r_iconst d_LR_readClause_116 ic_0 ?_
                  exact rZ_ret d_LR_readClause_117 rfl (Or.inl rfl) H
            · replace H := H.1 hc_80
              refine r_aload_n (i := 0) d_LR_readClause_83 rfl rfl ?_
              obtain ⟨hl_84, H⟩ := H
              refine r_getR (b := 15) (r := h15.2.2) d_LR_readClause_84 fl_LR_18 (by decide) rfl rfl rfl ?_
              refine r_bipush d_LR_readClause_87 bp_59 ?_
              refine r_iconst d_LR_readClause_89 ic_0 ?_
              obtain ⟨hp_90_1, H⟩ := H
              refine rk_VV (b := h15.2.2) (d' := 1) [.int 59, .int 0] [] d_LR_readClause_90 ml_LR_49 rfl rfl (by decide) (isL_lt hl_84) (isL_k hl_84) rfl (Nat.le_of_ble_eq_true rfl) (s_Li_add h15.2.2 59 0 hl_84 hp_90_1 ?_)
              refine r_iconst d_LR_readClause_93 ic_1 ?_
              exact rZ_ret d_LR_readClause_94 rfl (Or.inr rfl) H
          · replace H := H.1 hc_61
            refine r_iconst d_LR_readClause_64 ic_0 ?_
            exact rZ_ret d_LR_readClause_65 rfl (Or.inl rfl) H
      refine r_istore_n (i := 1) (lz := [some (.ref 15), some (.int r6), none, none]) d_LR_readClause_33 rfl (by decide) rfl rfl ?_
      refine r_iload_n (i := 1) d_LR_readClause_34 rfl rfl ?_
      refine r_bipush d_LR_readClause_35 bp_33 ?_
      refine r_icmp_eq (tgt := 50) d_LR_readClause_37 (by decide) (fun hc_37 => ?_) (fun hc_37 => ?_)
      · refine r_iconst d_LR_readClause_50 ic_0 ?_
        exact J37 _ (((if_pos hc_37).trans rfl)).symm
      · refine r_iload_n (i := 1) d_LR_readClause_40 rfl rfl ?_
        refine r_bipush d_LR_readClause_41 bp_40 ?_
        refine r_icmp_eq (tgt := 50) d_LR_readClause_43 (by decide) (fun hc_43 => ?_) (fun hc_43 => ?_)
        · refine r_iconst d_LR_readClause_50 ic_0 ?_
          exact J37 _ (((if_neg hc_37).trans ((if_pos hc_43).trans rfl))).symm
        · refine r_iconst d_LR_readClause_46 ic_1 ?_
          refine r_goto (tgt := 51) d_LR_readClause_47 (by decide) ?_
          exact J37 _ (((if_neg hc_37).trans ((if_neg hc_43).trans rfl))).symm
    · replace H := H.1 hc_21
      refine r_iconst d_LR_readClause_24 ic_0 ?_
      exact rZ_ret d_LR_readClause_25 rfl (Or.inl rfl) H
set_option maxHeartbeats 4000000 in
set_option maxRecDepth 20000 in
theorem w_LR_read {G : rx_Gh} {hp : rx_Hp} {F : Int32 → rx_Hp → Prop}  {o : Nat} (ho : isL o) (H : Rn wC G 51 q_LR_read 27 [some (.ref 15), none, some (.int 0)] [] (rx_pf (rx_pf (rx_pl hp o) o 2 0) 1 2 0) (rI F)) : Ev wC G 51 q_LR_read [.ref 15, .ref o] hp (rI F) := by
  refine ev_of rfl (Nat.le_of_ble_eq_true rfl) rfl ?_
  show Rn wC G 51 q_LR_read 0 [some (.ref 15), some (.ref o), none] [] hp (rI F)
  refine r_aload_n (i := 1) d_LR_read_0 rfl rfl ?_
  refine r_ifnull d_LR_read_1 ?_
  refine r_aload_n (i := 0) d_LR_read_4 rfl rfl ?_
  refine r_aload_n (i := 1) d_LR_read_5 rfl rfl ?_
  refine r_putR (b := 15) (r := o) d_LR_read_6 fp_LR_18 (fun _ => ⟨rfl, rfl⟩) (by decide) rfl rfl rfl (wC_lr _ _) ?_
  refine r_aload_n (i := 0) d_LR_read_9 rfl rfl ?_
  refine r_getR (b := 15) (r := o) d_LR_read_10 fl_LR_18 (by decide) rfl rfl rfl ?_
  refine r_iconst d_LR_read_13 ic_0 ?_
  refine r_putI (b := o) d_LR_read_14 fp_LR_22 ⟨rfl, rfl⟩ (isL_lt ho) (isL_k ho) rfl ?_
  refine r_aload_n (i := 0) d_LR_read_17 rfl rfl ?_
  refine r_getR (b := 15) (r := 1) d_LR_read_18 fl_LR_9 (by decide) rfl rfl rfl ?_
  refine r_iconst d_LR_read_21 ic_0 ?_
  refine r_putI (b := 1) d_LR_read_22 fp_LR_26 ⟨rfl, rfl⟩ (by decide) rfl rfl ?_
  refine r_iconst d_LR_read_25 ic_0 ?_
  refine r_istore_n (i := 2) (lz := [some (.ref 15), some (.ref o), some (.int 0)]) d_LR_read_26 rfl (by decide) rfl rfl ?_
  exact rx_fgt [false, true] H
set_option maxHeartbeats 4000000 in
set_option maxRecDepth 20000 in
theorem w_LR_read_27 {G : rx_Gh} {hp : rx_Hp} {F : Int32 → rx_Hp → Prop} (x2 : Int32) {o : Nat} (ho : isL o) (H : (160 ≤ x2 → F (hp.1 1 2) hp) ∧ (¬ 160 ≤ x2 → Ev wC G 50 q_LR_readClause [.ref 15] hp (rI fun r2 h1 => (r2 = 0 → F (h1.1 1 2) h1) ∧ (¬ r2 = 0 → Ev wC G 1 q_Ta_look [.ref 1] h1 (rI fun r4 h3 => (r4 = 0 → F (-1) h3) ∧ (¬ r4 = 0 → Ev wC G 2 q_Ta_take [.ref 1, .int 59] h3 (rI fun r6 h5 => (r6 = 0 → F (h5.1 1 2) h5) ∧ (¬ r6 = 0 → Rn wC G 51 q_LR_read 27 [some (.ref 15), none, some (.int (x2 + 1))] [] h5 (rI F))))))))) : Rn wC G 51 q_LR_read 27 [some (.ref 15), none, some (.int x2)] [] hp (rI F) := by
  refine r_iload_n (i := 2) d_LR_read_27 rfl rfl ?_
  refine r_sipush d_LR_read_28 sp_160 ?_
  refine r_icmp_ge (tgt := 87) d_LR_read_31 (by decide) (fun hc_31 => ?_) (fun hc_31 => ?_)
  · replace H := H.1 hc_31
    refine r_aload_n (i := 0) d_LR_read_87 rfl rfl ?_
    refine r_getR (b := 15) (r := 1) d_LR_read_88 fl_LR_9 (by decide) rfl rfl rfl ?_
    refine r_getI (b := 1) (v := hp.1 1 2) d_LR_read_91 fl_LR_26 (by decide) rfl rfl rfl ?_
    exact rI_ret d_LR_read_94 rfl H
  · replace H := H.2 hc_31
    refine r_aload_n (i := 0) d_LR_read_34 rfl rfl ?_
    refine rc_VI (b := 15) (d' := 50) [] [] d_LR_read_35 ml_LR_31 rfl rfl (by decide) (by decide) rfl rfl (Nat.le_of_ble_eq_true rfl) H ?_
    intro r2 h1 H
    refine r_if_ne (tgt := 49) d_LR_read_38 (by decide) (fun hc_38 => ?_) (fun hc_38 => ?_)
    · replace H := H.2 hc_38
      refine r_aload_n (i := 0) d_LR_read_49 rfl rfl ?_
      refine r_getR (b := 15) (r := 1) d_LR_read_50 fl_LR_9 (by decide) rfl rfl rfl ?_
      refine rc_VI (b := 1) (d' := 1) [] [] d_LR_read_53 ml_LR_35 rfl rfl (by decide) (by decide) rfl rfl (Nat.le_of_ble_eq_true rfl) H ?_
      intro r4 h3 H
      refine r_if_ne (tgt := 61) d_LR_read_56 (by decide) (fun hc_56 => ?_) (fun hc_56 => ?_)
      · replace H := H.2 hc_56
        refine r_aload_n (i := 0) d_LR_read_61 rfl rfl ?_
        refine r_getR (b := 15) (r := 1) d_LR_read_62 fl_LR_9 (by decide) rfl rfl rfl ?_
        refine r_bipush d_LR_read_65 bp_59 ?_
        refine rc_VI (b := 1) (d' := 2) [.int 59] [] d_LR_read_67 ml_LR_39 rfl rfl (by decide) (by decide) rfl rfl (Nat.le_of_ble_eq_true rfl) H ?_
        intro r6 h5 H
        refine r_if_ne (tgt := 81) d_LR_read_70 (by decide) (fun hc_70 => ?_) (fun hc_70 => ?_)
        · replace H := H.2 hc_70
          refine r_iinc (v := x2 + 1) (lz := [some (.ref 15), none, some (.int (x2 + 1))]) d_LR_read_81 rfl (by rw [ic_1]) (by decide) rfl rfl ?_
          refine r_goto (tgt := 27) d_LR_read_84 (by decide) ?_
          exact H
        · replace H := H.1 hc_70
          refine r_aload_n (i := 0) d_LR_read_73 rfl rfl ?_
          refine r_getR (b := 15) (r := 1) d_LR_read_74 fl_LR_9 (by decide) rfl rfl rfl ?_
          refine r_getI (b := 1) (v := h5.1 1 2) d_LR_read_77 fl_LR_26 (by decide) rfl rfl rfl ?_
          exact rI_ret d_LR_read_80 rfl H
      · replace H := H.1 hc_56
        refine r_iconst d_LR_read_59 ic_m1 ?_
        exact rI_ret d_LR_read_60 rfl H
    · replace H := H.1 hc_38
      refine r_aload_n (i := 0) d_LR_read_41 rfl rfl ?_
      refine r_getR (b := 15) (r := 1) d_LR_read_42 fl_LR_9 (by decide) rfl rfl rfl ?_
      refine r_getI (b := 1) (v := h1.1 1 2) d_LR_read_45 fl_LR_26 (by decide) rfl rfl rfl ?_
      exact rI_ret d_LR_read_48 rfl H

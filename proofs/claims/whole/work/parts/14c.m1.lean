theorem d_M_layNear_0 : decode q_M_layNear.2.1 0 = .ok (.aload_n 0, 1) := by decide +kernel
theorem d_M_layNear_1 : decode q_M_layNear.2.1 1 = .ok (.iconst 0, 1) := by decide +kernel
theorem d_M_layNear_2 : decode q_M_layNear.2.1 2 = .ok (.putfield 328, 3) := by decide +kernel
theorem fp_M_328 : rx_FP "GlassRoomModel" 328 12 34 (.int) := ⟨(RX12, TX12, 45), tyX12, rfl, by decide, (rx_s5 133 rfl rfl), rx_T12, tyX12_ok, nmX12, rfl, rfl⟩
theorem d_M_layNear_5 : decode q_M_layNear.2.1 5 = .ok (.bipush (-10), 2) := by decide +kernel
theorem d_M_layNear_7 : decode q_M_layNear.2.1 7 = .ok (.istore_n 3, 1) := by decide +kernel
theorem d_M_layNear_8 : decode q_M_layNear.2.1 8 = .ok (.iload_n 3, 1) := by decide +kernel
theorem d_M_layNear_9 : decode q_M_layNear.2.1 9 = .ok (.bipush 10, 2) := by decide +kernel
theorem d_M_layNear_11 : decode q_M_layNear.2.1 11 = .ok (.if_icmp .gt 162, 3) := by decide +kernel
theorem d_M_layNear_14 : decode q_M_layNear.2.1 14 = .ok (.bipush (-10), 2) := by decide +kernel
theorem d_M_layNear_16 : decode q_M_layNear.2.1 16 = .ok (.istore 4, 2) := by decide +kernel
theorem d_M_layNear_173 : decode q_M_layNear.2.1 173 = .ok (.return_, 1) := by decide +kernel
theorem d_M_layNear_18 : decode q_M_layNear.2.1 18 = .ok (.iload 4, 2) := by decide +kernel
theorem d_M_layNear_20 : decode q_M_layNear.2.1 20 = .ok (.bipush 10, 2) := by decide +kernel
theorem d_M_layNear_22 : decode q_M_layNear.2.1 22 = .ok (.if_icmp .gt 145, 3) := by decide +kernel
theorem d_M_layNear_25 : decode q_M_layNear.2.1 25 = .ok (.aload_n 0, 1) := by decide +kernel
theorem d_M_layNear_26 : decode q_M_layNear.2.1 26 = .ok (.iload_n 3, 1) := by decide +kernel
theorem d_M_layNear_27 : decode q_M_layNear.2.1 27 = .ok (.iload 4, 2) := by decide +kernel
theorem d_M_layNear_29 : decode q_M_layNear.2.1 29 = .ok (.invokevirtual 315, 3) := by decide +kernel
theorem d_M_layNear_32 : decode q_M_layNear.2.1 32 = .ok (.ifCond .eq 129, 3) := by decide +kernel
theorem d_M_layNear_161 : decode q_M_layNear.2.1 161 = .ok (.iinc 4 1, 3) := by decide +kernel
theorem d_M_layNear_164 : decode q_M_layNear.2.1 164 = .ok (.goto (-146), 3) := by decide +kernel
theorem d_M_layNear_167 : decode q_M_layNear.2.1 167 = .ok (.iinc 3 1, 3) := by decide +kernel
theorem d_M_layNear_170 : decode q_M_layNear.2.1 170 = .ok (.goto (-162), 3) := by decide +kernel
theorem d_M_layNear_35 : decode q_M_layNear.2.1 35 = .ok (.aload_n 0, 1) := by decide +kernel
theorem d_M_layNear_36 : decode q_M_layNear.2.1 36 = .ok (.iload_n 1, 1) := by decide +kernel
theorem d_M_layNear_37 : decode q_M_layNear.2.1 37 = .ok (.iload_n 3, 1) := by decide +kernel
theorem d_M_layNear_38 : decode q_M_layNear.2.1 38 = .ok (.iload 4, 2) := by decide +kernel
theorem d_M_layNear_40 : decode q_M_layNear.2.1 40 = .ok (.iload_n 2, 1) := by decide +kernel
theorem d_M_layNear_41 : decode q_M_layNear.2.1 41 = .ok (.invokevirtual 318, 3) := by decide +kernel
theorem d_M_layNear_44 : decode q_M_layNear.2.1 44 = .ok (.istore 5, 2) := by decide +kernel
theorem d_M_layNear_46 : decode q_M_layNear.2.1 46 = .ok (.aload_n 0, 1) := by decide +kernel
theorem d_M_layNear_47 : decode q_M_layNear.2.1 47 = .ok (.getfield 328, 3) := by decide +kernel
theorem fl_M_328 : rx_F "GlassRoomModel" 328 12 34 := ⟨(RX12, TX12, 45), rfl, by decide, (rx_s5 133 rfl rfl), rx_T12⟩
theorem d_M_layNear_50 : decode q_M_layNear.2.1 50 = .ok (.istore 6, 2) := by decide +kernel
theorem d_M_layNear_52 : decode q_M_layNear.2.1 52 = .ok (.iload 6, 2) := by decide +kernel
theorem d_M_layNear_54 : decode q_M_layNear.2.1 54 = .ok (.ifCond .le 71, 3) := by decide +kernel
theorem d_M_layNear_57 : decode q_M_layNear.2.1 57 = .ok (.aload_n 0, 1) := by decide +kernel
theorem d_M_layNear_58 : decode q_M_layNear.2.1 58 = .ok (.getfield 68, 3) := by decide +kernel
theorem fl_M_68 : rx_F "GlassRoomModel" 68 12 33 := ⟨(RX12, TX12, 45), rfl, by decide, (rx_s5 132 rfl rfl), rx_T12⟩
theorem d_M_layNear_61 : decode q_M_layNear.2.1 61 = .ok (.iload 6, 2) := by decide +kernel
theorem d_M_layNear_63 : decode q_M_layNear.2.1 63 = .ok (.iconst 1, 1) := by decide +kernel
theorem d_M_layNear_64 : decode q_M_layNear.2.1 64 = .ok (.isub, 1) := by decide +kernel
theorem d_M_layNear_125 : decode q_M_layNear.2.1 125 = .ok (.aload_n 0, 1) := by decide +kernel
theorem d_M_layNear_126 : decode q_M_layNear.2.1 126 = .ok (.getfield 62, 3) := by decide +kernel
theorem fl_M_62 : rx_F "GlassRoomModel" 62 12 31 := ⟨(RX12, TX12, 45), rfl, by decide, (rx_s5 130 rfl rfl), rx_T12⟩
theorem d_M_layNear_129 : decode q_M_layNear.2.1 129 = .ok (.iload 6, 2) := by decide +kernel
theorem d_M_layNear_131 : decode q_M_layNear.2.1 131 = .ok (.iload_n 3, 1) := by decide +kernel
theorem d_M_layNear_132 : decode q_M_layNear.2.1 132 = .ok (.iastore, 1) := by decide +kernel
theorem d_M_layNear_133 : decode q_M_layNear.2.1 133 = .ok (.aload_n 0, 1) := by decide +kernel
theorem d_M_layNear_134 : decode q_M_layNear.2.1 134 = .ok (.getfield 65, 3) := by decide +kernel
theorem fl_M_65 : rx_F "GlassRoomModel" 65 12 32 := ⟨(RX12, TX12, 45), rfl, by decide, (rx_s5 131 rfl rfl), rx_T12⟩
theorem d_M_layNear_137 : decode q_M_layNear.2.1 137 = .ok (.iload 6, 2) := by decide +kernel
theorem d_M_layNear_139 : decode q_M_layNear.2.1 139 = .ok (.iload 4, 2) := by decide +kernel
theorem d_M_layNear_141 : decode q_M_layNear.2.1 141 = .ok (.iastore, 1) := by decide +kernel
theorem d_M_layNear_142 : decode q_M_layNear.2.1 142 = .ok (.aload_n 0, 1) := by decide +kernel
theorem d_M_layNear_143 : decode q_M_layNear.2.1 143 = .ok (.getfield 68, 3) := by decide +kernel
theorem d_M_layNear_146 : decode q_M_layNear.2.1 146 = .ok (.iload 6, 2) := by decide +kernel
theorem d_M_layNear_148 : decode q_M_layNear.2.1 148 = .ok (.iload 5, 2) := by decide +kernel
theorem d_M_layNear_150 : decode q_M_layNear.2.1 150 = .ok (.iastore, 1) := by decide +kernel
theorem d_M_layNear_151 : decode q_M_layNear.2.1 151 = .ok (.aload_n 0, 1) := by decide +kernel
theorem d_M_layNear_152 : decode q_M_layNear.2.1 152 = .ok (.dup, 1) := by decide +kernel
theorem d_M_layNear_153 : decode q_M_layNear.2.1 153 = .ok (.getfield 328, 3) := by decide +kernel
theorem d_M_layNear_156 : decode q_M_layNear.2.1 156 = .ok (.iconst 1, 1) := by decide +kernel
theorem d_M_layNear_157 : decode q_M_layNear.2.1 157 = .ok (.iadd, 1) := by decide +kernel
theorem d_M_layNear_158 : decode q_M_layNear.2.1 158 = .ok (.putfield 328, 3) := by decide +kernel
theorem d_M_layNear_65 : decode q_M_layNear.2.1 65 = .ok (.iaload, 1) := by decide +kernel
theorem d_M_layNear_66 : decode q_M_layNear.2.1 66 = .ok (.iload 5, 2) := by decide +kernel
theorem d_M_layNear_68 : decode q_M_layNear.2.1 68 = .ok (.if_icmp .le 57, 3) := by decide +kernel
theorem d_M_layNear_71 : decode q_M_layNear.2.1 71 = .ok (.aload_n 0, 1) := by decide +kernel
theorem d_M_layNear_72 : decode q_M_layNear.2.1 72 = .ok (.getfield 62, 3) := by decide +kernel
theorem d_M_layNear_75 : decode q_M_layNear.2.1 75 = .ok (.iload 6, 2) := by decide +kernel
theorem d_M_layNear_77 : decode q_M_layNear.2.1 77 = .ok (.aload_n 0, 1) := by decide +kernel
theorem d_M_layNear_78 : decode q_M_layNear.2.1 78 = .ok (.getfield 62, 3) := by decide +kernel
theorem d_M_layNear_81 : decode q_M_layNear.2.1 81 = .ok (.iload 6, 2) := by decide +kernel
theorem d_M_layNear_83 : decode q_M_layNear.2.1 83 = .ok (.iconst 1, 1) := by decide +kernel
theorem d_M_layNear_84 : decode q_M_layNear.2.1 84 = .ok (.isub, 1) := by decide +kernel
theorem d_M_layNear_85 : decode q_M_layNear.2.1 85 = .ok (.iaload, 1) := by decide +kernel
theorem d_M_layNear_86 : decode q_M_layNear.2.1 86 = .ok (.iastore, 1) := by decide +kernel
theorem d_M_layNear_87 : decode q_M_layNear.2.1 87 = .ok (.aload_n 0, 1) := by decide +kernel
theorem d_M_layNear_88 : decode q_M_layNear.2.1 88 = .ok (.getfield 65, 3) := by decide +kernel
theorem d_M_layNear_91 : decode q_M_layNear.2.1 91 = .ok (.iload 6, 2) := by decide +kernel
theorem d_M_layNear_93 : decode q_M_layNear.2.1 93 = .ok (.aload_n 0, 1) := by decide +kernel
theorem d_M_layNear_94 : decode q_M_layNear.2.1 94 = .ok (.getfield 65, 3) := by decide +kernel
theorem d_M_layNear_97 : decode q_M_layNear.2.1 97 = .ok (.iload 6, 2) := by decide +kernel
theorem d_M_layNear_99 : decode q_M_layNear.2.1 99 = .ok (.iconst 1, 1) := by decide +kernel
theorem d_M_layNear_100 : decode q_M_layNear.2.1 100 = .ok (.isub, 1) := by decide +kernel
theorem d_M_layNear_101 : decode q_M_layNear.2.1 101 = .ok (.iaload, 1) := by decide +kernel
theorem d_M_layNear_102 : decode q_M_layNear.2.1 102 = .ok (.iastore, 1) := by decide +kernel
theorem d_M_layNear_103 : decode q_M_layNear.2.1 103 = .ok (.aload_n 0, 1) := by decide +kernel
theorem d_M_layNear_104 : decode q_M_layNear.2.1 104 = .ok (.getfield 68, 3) := by decide +kernel
theorem d_M_layNear_107 : decode q_M_layNear.2.1 107 = .ok (.iload 6, 2) := by decide +kernel
theorem d_M_layNear_109 : decode q_M_layNear.2.1 109 = .ok (.aload_n 0, 1) := by decide +kernel
theorem d_M_layNear_110 : decode q_M_layNear.2.1 110 = .ok (.getfield 68, 3) := by decide +kernel
theorem d_M_layNear_113 : decode q_M_layNear.2.1 113 = .ok (.iload 6, 2) := by decide +kernel
theorem d_M_layNear_115 : decode q_M_layNear.2.1 115 = .ok (.iconst 1, 1) := by decide +kernel
theorem d_M_layNear_116 : decode q_M_layNear.2.1 116 = .ok (.isub, 1) := by decide +kernel
theorem d_M_layNear_117 : decode q_M_layNear.2.1 117 = .ok (.iaload, 1) := by decide +kernel
theorem d_M_layNear_118 : decode q_M_layNear.2.1 118 = .ok (.iastore, 1) := by decide +kernel
theorem d_M_layNear_119 : decode q_M_layNear.2.1 119 = .ok (.iinc 6 (-1), 3) := by decide +kernel
theorem d_M_layNear_122 : decode q_M_layNear.2.1 122 = .ok (.goto (-70), 3) := by decide +kernel
theorem d_M_isHidden_0 : decode q_M_isHidden.2.1 0 = .ok (.aload_n 0, 1) := by decide +kernel
theorem d_M_isHidden_1 : decode q_M_isHidden.2.1 1 = .ok (.iload_n 1, 1) := by decide +kernel
theorem d_M_isHidden_2 : decode q_M_isHidden.2.1 2 = .ok (.iload_n 2, 1) := by decide +kernel
theorem d_M_isHidden_3 : decode q_M_isHidden.2.1 3 = .ok (.invokevirtual 299, 3) := by decide +kernel
theorem d_M_isHidden_6 : decode q_M_isHidden.2.1 6 = .ok (.aload_n 0, 1) := by decide +kernel
theorem d_M_isHidden_7 : decode q_M_isHidden.2.1 7 = .ok (.getfield 46, 3) := by decide +kernel
theorem d_M_isHidden_10 : decode q_M_isHidden.2.1 10 = .ok (.iload 4, 2) := by decide +kernel
theorem d_M_isHidden_12 : decode q_M_isHidden.2.1 12 = .ok (.iaload, 1) := by decide +kernel
theorem d_M_isHidden_13 : decode q_M_isHidden.2.1 13 = .ok (.isub, 1) := by decide +kernel
theorem d_M_isHidden_14 : decode q_M_isHidden.2.1 14 = .ok (.istore 5, 2) := by decide +kernel
theorem d_M_isHidden_16 : decode q_M_isHidden.2.1 16 = .ok (.aload_n 0, 1) := by decide +kernel
theorem d_M_isHidden_17 : decode q_M_isHidden.2.1 17 = .ok (.iload_n 1, 1) := by decide +kernel
theorem d_M_isHidden_18 : decode q_M_isHidden.2.1 18 = .ok (.iload_n 3, 1) := by decide +kernel
theorem d_M_isHidden_19 : decode q_M_isHidden.2.1 19 = .ok (.invokevirtual 302, 3) := by decide +kernel
theorem d_M_isHidden_22 : decode q_M_isHidden.2.1 22 = .ok (.aload_n 0, 1) := by decide +kernel
theorem d_M_isHidden_23 : decode q_M_isHidden.2.1 23 = .ok (.getfield 49, 3) := by decide +kernel
theorem d_M_isHidden_26 : decode q_M_isHidden.2.1 26 = .ok (.iload 4, 2) := by decide +kernel
theorem d_M_isHidden_28 : decode q_M_isHidden.2.1 28 = .ok (.iaload, 1) := by decide +kernel
theorem d_M_isHidden_29 : decode q_M_isHidden.2.1 29 = .ok (.isub, 1) := by decide +kernel
theorem d_M_isHidden_30 : decode q_M_isHidden.2.1 30 = .ok (.istore 6, 2) := by decide +kernel
theorem d_M_isHidden_32 : decode q_M_isHidden.2.1 32 = .ok (.iconst 0, 1) := by decide +kernel
theorem d_M_isHidden_33 : decode q_M_isHidden.2.1 33 = .ok (.istore 7, 2) := by decide +kernel
theorem d_M_isHidden_35 : decode q_M_isHidden.2.1 35 = .ok (.iload 7, 2) := by decide +kernel
theorem d_M_isHidden_37 : decode q_M_isHidden.2.1 37 = .ok (.aload_n 0, 1) := by decide +kernel
theorem d_M_isHidden_38 : decode q_M_isHidden.2.1 38 = .ok (.getfield 236, 3) := by decide +kernel
theorem d_M_isHidden_41 : decode q_M_isHidden.2.1 41 = .ok (.if_icmp .ge 111, 3) := by decide +kernel
theorem d_M_isHidden_152 : decode q_M_isHidden.2.1 152 = .ok (.iconst 0, 1) := by decide +kernel
theorem d_M_isHidden_153 : decode q_M_isHidden.2.1 153 = .ok (.ireturn, 1) := by decide +kernel
theorem d_M_isHidden_44 : decode q_M_isHidden.2.1 44 = .ok (.bipush (-10), 2) := by decide +kernel
theorem d_M_isHidden_46 : decode q_M_isHidden.2.1 46 = .ok (.istore 8, 2) := by decide +kernel
theorem d_M_isHidden_48 : decode q_M_isHidden.2.1 48 = .ok (.iload 8, 2) := by decide +kernel
theorem d_M_isHidden_50 : decode q_M_isHidden.2.1 50 = .ok (.bipush 10, 2) := by decide +kernel
theorem d_M_isHidden_52 : decode q_M_isHidden.2.1 52 = .ok (.if_icmp .gt 94, 3) := by decide +kernel
theorem d_M_isHidden_146 : decode q_M_isHidden.2.1 146 = .ok (.iinc 7 1, 3) := by decide +kernel
theorem d_M_isHidden_149 : decode q_M_isHidden.2.1 149 = .ok (.goto (-114), 3) := by decide +kernel
theorem d_M_isHidden_55 : decode q_M_isHidden.2.1 55 = .ok (.iload 7, 2) := by decide +kernel
theorem d_M_isHidden_57 : decode q_M_isHidden.2.1 57 = .ok (.iload_n 1, 1) := by decide +kernel
theorem d_M_isHidden_58 : decode q_M_isHidden.2.1 58 = .ok (.if_icmp .eq 88, 3) := by decide +kernel
theorem d_M_isHidden_61 : decode q_M_isHidden.2.1 61 = .ok (.iload 7, 2) := by decide +kernel
theorem d_M_isHidden_63 : decode q_M_isHidden.2.1 63 = .ok (.iload 4, 2) := by decide +kernel
theorem d_M_isHidden_65 : decode q_M_isHidden.2.1 65 = .ok (.if_icmp .eq 81, 3) := by decide +kernel
theorem d_M_isHidden_68 : decode q_M_isHidden.2.1 68 = .ok (.bipush (-10), 2) := by decide +kernel
theorem d_M_isHidden_70 : decode q_M_isHidden.2.1 70 = .ok (.istore 9, 2) := by decide +kernel
theorem d_M_isHidden_72 : decode q_M_isHidden.2.1 72 = .ok (.iload 9, 2) := by decide +kernel
theorem d_M_isHidden_74 : decode q_M_isHidden.2.1 74 = .ok (.bipush 10, 2) := by decide +kernel
theorem d_M_isHidden_76 : decode q_M_isHidden.2.1 76 = .ok (.if_icmp .gt 64, 3) := by decide +kernel
theorem d_M_isHidden_140 : decode q_M_isHidden.2.1 140 = .ok (.iinc 8 1, 3) := by decide +kernel
theorem d_M_isHidden_143 : decode q_M_isHidden.2.1 143 = .ok (.goto (-95), 3) := by decide +kernel
theorem d_M_isHidden_79 : decode q_M_isHidden.2.1 79 = .ok (.aload_n 0, 1) := by decide +kernel
theorem d_M_isHidden_80 : decode q_M_isHidden.2.1 80 = .ok (.iload 8, 2) := by decide +kernel
theorem d_M_isHidden_82 : decode q_M_isHidden.2.1 82 = .ok (.iload 9, 2) := by decide +kernel
theorem d_M_isHidden_84 : decode q_M_isHidden.2.1 84 = .ok (.invokevirtual 315, 3) := by decide +kernel
theorem d_M_isHidden_87 : decode q_M_isHidden.2.1 87 = .ok (.ifCond .eq 47, 3) := by decide +kernel
theorem d_M_isHidden_134 : decode q_M_isHidden.2.1 134 = .ok (.iinc 9 1, 3) := by decide +kernel
theorem d_M_isHidden_137 : decode q_M_isHidden.2.1 137 = .ok (.goto (-65), 3) := by decide +kernel
theorem d_M_isHidden_90 : decode q_M_isHidden.2.1 90 = .ok (.iload 5, 2) := by decide +kernel
theorem d_M_isHidden_92 : decode q_M_isHidden.2.1 92 = .ok (.iload 6, 2) := by decide +kernel
theorem d_M_isHidden_94 : decode q_M_isHidden.2.1 94 = .ok (.aload_n 0, 1) := by decide +kernel
theorem d_M_isHidden_95 : decode q_M_isHidden.2.1 95 = .ok (.iload 7, 2) := by decide +kernel
theorem d_M_isHidden_97 : decode q_M_isHidden.2.1 97 = .ok (.iload 8, 2) := by decide +kernel
theorem d_M_isHidden_99 : decode q_M_isHidden.2.1 99 = .ok (.invokevirtual 299, 3) := by decide +kernel
theorem d_M_isHidden_102 : decode q_M_isHidden.2.1 102 = .ok (.aload_n 0, 1) := by decide +kernel
theorem d_M_isHidden_103 : decode q_M_isHidden.2.1 103 = .ok (.getfield 46, 3) := by decide +kernel
theorem d_M_isHidden_106 : decode q_M_isHidden.2.1 106 = .ok (.iload 4, 2) := by decide +kernel
theorem d_M_isHidden_108 : decode q_M_isHidden.2.1 108 = .ok (.iaload, 1) := by decide +kernel
theorem d_M_isHidden_109 : decode q_M_isHidden.2.1 109 = .ok (.isub, 1) := by decide +kernel
theorem d_M_isHidden_110 : decode q_M_isHidden.2.1 110 = .ok (.aload_n 0, 1) := by decide +kernel
theorem d_M_isHidden_111 : decode q_M_isHidden.2.1 111 = .ok (.iload 7, 2) := by decide +kernel
theorem d_M_isHidden_113 : decode q_M_isHidden.2.1 113 = .ok (.iload 9, 2) := by decide +kernel
theorem d_M_isHidden_115 : decode q_M_isHidden.2.1 115 = .ok (.invokevirtual 302, 3) := by decide +kernel
theorem d_M_isHidden_118 : decode q_M_isHidden.2.1 118 = .ok (.aload_n 0, 1) := by decide +kernel
theorem d_M_isHidden_119 : decode q_M_isHidden.2.1 119 = .ok (.getfield 49, 3) := by decide +kernel
theorem d_M_isHidden_122 : decode q_M_isHidden.2.1 122 = .ok (.iload 4, 2) := by decide +kernel
theorem d_M_isHidden_124 : decode q_M_isHidden.2.1 124 = .ok (.iaload, 1) := by decide +kernel
theorem d_M_isHidden_125 : decode q_M_isHidden.2.1 125 = .ok (.isub, 1) := by decide +kernel
theorem d_M_isHidden_126 : decode q_M_isHidden.2.1 126 = .ok (.invokestatic 334, 3) := by decide +kernel
theorem ml_M_334 : rx_CS "GlassRoomModel" 334 q_M_isOn 4 := ⟨⟨(rx_s7 44 rfl rfl), (rx_s7 45 rfl rfl)⟩, ⟨(rx_s1 13 rfl rfl), q_M_isOn_k, ⟨by decide, by decide, by decide +kernel⟩, by decide⟩⟩
theorem d_M_isHidden_129 : decode q_M_isHidden.2.1 129 = .ok (.ifCond .eq 5, 3) := by decide +kernel
theorem d_M_isHidden_132 : decode q_M_isHidden.2.1 132 = .ok (.iconst 1, 1) := by decide +kernel
theorem d_M_isHidden_133 : decode q_M_isHidden.2.1 133 = .ok (.ireturn, 1) := by decide +kernel
theorem d_M_isNew_0 : decode q_M_isNew.2.1 0 = .ok (.aload_n 0, 1) := by decide +kernel
theorem d_M_isNew_1 : decode q_M_isNew.2.1 1 = .ok (.iload_n 2, 1) := by decide +kernel
theorem d_M_isNew_2 : decode q_M_isNew.2.1 2 = .ok (.iload 4, 2) := by decide +kernel
theorem d_M_isNew_4 : decode q_M_isNew.2.1 4 = .ok (.invokevirtual 299, 3) := by decide +kernel
theorem d_M_isNew_7 : decode q_M_isNew.2.1 7 = .ok (.istore 6, 2) := by decide +kernel
theorem d_M_isNew_9 : decode q_M_isNew.2.1 9 = .ok (.aload_n 0, 1) := by decide +kernel
theorem d_M_isNew_10 : decode q_M_isNew.2.1 10 = .ok (.iload_n 2, 1) := by decide +kernel
theorem d_M_isNew_11 : decode q_M_isNew.2.1 11 = .ok (.iload 5, 2) := by decide +kernel
theorem d_M_isNew_13 : decode q_M_isNew.2.1 13 = .ok (.invokevirtual 302, 3) := by decide +kernel
theorem d_M_isNew_16 : decode q_M_isNew.2.1 16 = .ok (.istore 7, 2) := by decide +kernel
theorem d_M_isNew_18 : decode q_M_isNew.2.1 18 = .ok (.iload 6, 2) := by decide +kernel
theorem d_M_isNew_20 : decode q_M_isNew.2.1 20 = .ok (.aload_n 0, 1) := by decide +kernel
theorem d_M_isNew_21 : decode q_M_isNew.2.1 21 = .ok (.getfield 46, 3) := by decide +kernel
theorem d_M_isNew_24 : decode q_M_isNew.2.1 24 = .ok (.iload_n 1, 1) := by decide +kernel
theorem d_M_isNew_25 : decode q_M_isNew.2.1 25 = .ok (.iaload, 1) := by decide +kernel
theorem d_M_isNew_26 : decode q_M_isNew.2.1 26 = .ok (.if_icmp .ne 16, 3) := by decide +kernel
theorem d_M_isNew_29 : decode q_M_isNew.2.1 29 = .ok (.iload 7, 2) := by decide +kernel
theorem d_M_isNew_31 : decode q_M_isNew.2.1 31 = .ok (.aload_n 0, 1) := by decide +kernel
theorem d_M_isNew_32 : decode q_M_isNew.2.1 32 = .ok (.getfield 49, 3) := by decide +kernel
theorem d_M_isNew_35 : decode q_M_isNew.2.1 35 = .ok (.iload_n 1, 1) := by decide +kernel
theorem d_M_isNew_36 : decode q_M_isNew.2.1 36 = .ok (.iaload, 1) := by decide +kernel
theorem d_M_isNew_37 : decode q_M_isNew.2.1 37 = .ok (.if_icmp .ne 5, 3) := by decide +kernel
theorem d_M_isNew_40 : decode q_M_isNew.2.1 40 = .ok (.iconst 0, 1) := by decide +kernel
theorem d_M_isNew_41 : decode q_M_isNew.2.1 41 = .ok (.ireturn, 1) := by decide +kernel
theorem d_M_isNew_42 : decode q_M_isNew.2.1 42 = .ok (.iload_n 3, 1) := by decide +kernel
theorem d_M_isNew_43 : decode q_M_isNew.2.1 43 = .ok (.ineg, 1) := by decide +kernel
theorem d_M_isNew_44 : decode q_M_isNew.2.1 44 = .ok (.istore 8, 2) := by decide +kernel
theorem d_M_isNew_46 : decode q_M_isNew.2.1 46 = .ok (.iload 8, 2) := by decide +kernel
theorem d_M_isNew_48 : decode q_M_isNew.2.1 48 = .ok (.iload 4, 2) := by decide +kernel
theorem d_M_isNew_50 : decode q_M_isNew.2.1 50 = .ok (.if_icmp .gt 88, 3) := by decide +kernel
theorem d_M_isNew_138 : decode q_M_isNew.2.1 138 = .ok (.iconst 1, 1) := by decide +kernel
theorem d_M_isNew_139 : decode q_M_isNew.2.1 139 = .ok (.ireturn, 1) := by decide +kernel
theorem d_M_isNew_53 : decode q_M_isNew.2.1 53 = .ok (.iload_n 3, 1) := by decide +kernel
theorem d_M_isNew_54 : decode q_M_isNew.2.1 54 = .ok (.ineg, 1) := by decide +kernel
theorem d_M_isNew_55 : decode q_M_isNew.2.1 55 = .ok (.istore 9, 2) := by decide +kernel
theorem d_M_isNew_57 : decode q_M_isNew.2.1 57 = .ok (.iload 9, 2) := by decide +kernel
theorem d_M_isNew_59 : decode q_M_isNew.2.1 59 = .ok (.iload_n 3, 1) := by decide +kernel
theorem d_M_isNew_60 : decode q_M_isNew.2.1 60 = .ok (.if_icmp .gt 72, 3) := by decide +kernel
theorem d_M_isNew_132 : decode q_M_isNew.2.1 132 = .ok (.iinc 8 1, 3) := by decide +kernel
theorem d_M_isNew_135 : decode q_M_isNew.2.1 135 = .ok (.goto (-89), 3) := by decide +kernel
theorem d_M_isNew_63 : decode q_M_isNew.2.1 63 = .ok (.iload 8, 2) := by decide +kernel
theorem d_M_isNew_65 : decode q_M_isNew.2.1 65 = .ok (.iload 4, 2) := by decide +kernel
theorem d_M_isNew_67 : decode q_M_isNew.2.1 67 = .ok (.if_icmp .lt 10, 3) := by decide +kernel
theorem d_M_isNew_77 : decode q_M_isNew.2.1 77 = .ok (.iconst 1, 1) := by decide +kernel
theorem d_M_isNew_78 : decode q_M_isNew.2.1 78 = .ok (.goto 4, 3) := by decide +kernel
theorem d_M_isNew_70 : decode q_M_isNew.2.1 70 = .ok (.iload 9, 2) := by decide +kernel
theorem d_M_isNew_72 : decode q_M_isNew.2.1 72 = .ok (.iload 5, 2) := by decide +kernel
theorem d_M_isNew_74 : decode q_M_isNew.2.1 74 = .ok (.if_icmp .ge 7, 3) := by decide +kernel
theorem d_M_isNew_81 : decode q_M_isNew.2.1 81 = .ok (.iconst 0, 1) := by decide +kernel
theorem d_M_isNew_82 : decode q_M_isNew.2.1 82 = .ok (.istore 10, 2) := by decide +kernel
theorem d_M_isNew_84 : decode q_M_isNew.2.1 84 = .ok (.iload 10, 2) := by decide +kernel
theorem d_M_isNew_86 : decode q_M_isNew.2.1 86 = .ok (.ifCond .eq 40, 3) := by decide +kernel
theorem d_M_isNew_126 : decode q_M_isNew.2.1 126 = .ok (.iinc 9 1, 3) := by decide +kernel
theorem d_M_isNew_129 : decode q_M_isNew.2.1 129 = .ok (.goto (-72), 3) := by decide +kernel
theorem d_M_isNew_89 : decode q_M_isNew.2.1 89 = .ok (.iload 8, 2) := by decide +kernel
theorem d_M_isNew_91 : decode q_M_isNew.2.1 91 = .ok (.iload 9, 2) := by decide +kernel
theorem d_M_isNew_93 : decode q_M_isNew.2.1 93 = .ok (.invokestatic 309, 3) := by decide +kernel
theorem ml_M_309 : rx_CS "GlassRoomModel" 309 q_M_glasses 2 := ⟨⟨(rx_s6 205 rfl rfl), (rx_s6 206 rfl rfl)⟩, ⟨(rx_s1 13 rfl rfl), q_M_glasses_k, ⟨by decide, by decide, by decide +kernel⟩, by decide⟩⟩
theorem d_M_isNew_96 : decode q_M_isNew.2.1 96 = .ok (.iload_n 3, 1) := by decide +kernel
theorem d_M_isNew_97 : decode q_M_isNew.2.1 97 = .ok (.if_icmp .ne 29, 3) := by decide +kernel
theorem d_M_isNew_100 : decode q_M_isNew.2.1 100 = .ok (.aload_n 0, 1) := by decide +kernel
theorem d_M_isNew_101 : decode q_M_isNew.2.1 101 = .ok (.iload_n 2, 1) := by decide +kernel
theorem d_M_isNew_102 : decode q_M_isNew.2.1 102 = .ok (.iload 8, 2) := by decide +kernel
theorem d_M_isNew_104 : decode q_M_isNew.2.1 104 = .ok (.invokevirtual 299, 3) := by decide +kernel
theorem d_M_isNew_107 : decode q_M_isNew.2.1 107 = .ok (.iload 6, 2) := by decide +kernel
theorem d_M_isNew_109 : decode q_M_isNew.2.1 109 = .ok (.if_icmp .ne 17, 3) := by decide +kernel
theorem d_M_isNew_112 : decode q_M_isNew.2.1 112 = .ok (.aload_n 0, 1) := by decide +kernel
theorem d_M_isNew_113 : decode q_M_isNew.2.1 113 = .ok (.iload_n 2, 1) := by decide +kernel
theorem d_M_isNew_114 : decode q_M_isNew.2.1 114 = .ok (.iload 9, 2) := by decide +kernel
theorem d_M_isNew_116 : decode q_M_isNew.2.1 116 = .ok (.invokevirtual 302, 3) := by decide +kernel
theorem d_M_isNew_119 : decode q_M_isNew.2.1 119 = .ok (.iload 7, 2) := by decide +kernel
theorem d_M_isNew_121 : decode q_M_isNew.2.1 121 = .ok (.if_icmp .ne 5, 3) := by decide +kernel
theorem d_M_isNew_124 : decode q_M_isNew.2.1 124 = .ok (.iconst 0, 1) := by decide +kernel
theorem d_M_isNew_125 : decode q_M_isNew.2.1 125 = .ok (.ireturn, 1) := by decide +kernel
set_option maxHeartbeats 4000000 in
set_option maxRecDepth 20000 in
theorem w_M_layNear {G : rx_Gh} {hp : rx_Hp} {F : rx_Hp → Prop} (a1 : Int32) (a2 : Int32) (H : Rn wM G 4 q_M_layNear 8 [some (.ref 0), some (.int a1), some (.int a2), some (.int (-10)), none, none, none] [] (rx_pf hp 0 34 0) (rV F)) : Ev wM G 4 q_M_layNear [.ref 0, .int a1, .int a2] hp (rV F) := by
  refine ev_of rfl (Nat.le_of_ble_eq_true rfl) rfl ?_
  show Rn wM G 4 q_M_layNear 0 [some (.ref 0), some (.int a1), some (.int a2), none, none, none, none] [] hp (rV F)
  refine r_aload_n (i := 0) d_M_layNear_0 rfl rfl ?_
  refine r_iconst d_M_layNear_1 ic_0 ?_
  refine r_putI (b := 0) d_M_layNear_2 fp_M_328 ⟨rfl, rfl⟩ (by decide) rfl rfl ?_
  refine r_bipush d_M_layNear_5 bp_m10 ?_
  refine r_istore_n (i := 3) (lz := [some (.ref 0), some (.int a1), some (.int a2), some (.int (-10)), none, none, none]) d_M_layNear_7 rfl (by decide) rfl rfl ?_
  exact H
set_option maxHeartbeats 4000000 in
set_option maxRecDepth 20000 in
theorem w_M_layNear_8 {G : rx_Gh} {hp : rx_Hp} {F : rx_Hp → Prop} (x1 : Int32) (x2 : Int32) (x3 : Int32) (H : (10 < x3 → F hp) ∧ (¬ 10 < x3 → Rn wM G 4 q_M_layNear 18 [some (.ref 0), some (.int x1), some (.int x2), some (.int x3), some (.int (-10)), none, none] [] hp (rV F))) : Rn wM G 4 q_M_layNear 8 [some (.ref 0), some (.int x1), some (.int x2), some (.int x3), none, none, none] [] hp (rV F) := by
  refine r_iload_n (i := 3) d_M_layNear_8 rfl rfl ?_
  refine r_bipush d_M_layNear_9 bp_10 ?_
  refine r_icmp_gt (tgt := 173) d_M_layNear_11 (by decide) (fun hc_11 => ?_) (fun hc_11 => ?_)
  · replace H := H.1 hc_11
    exact rV_ret d_M_layNear_173 rfl H
  · replace H := H.2 hc_11
    refine r_bipush d_M_layNear_14 bp_m10 ?_
    refine r_istore (lz := [some (.ref 0), some (.int x1), some (.int x2), some (.int x3), some (.int (-10)), none, none]) d_M_layNear_16 (by decide) rfl rfl ?_
    exact H
set_option maxHeartbeats 4000000 in
set_option maxRecDepth 20000 in
theorem w_M_layNear_18 {G : rx_Gh} {hp : rx_Hp} {F : rx_Hp → Prop} (x1 : Int32) (x2 : Int32) (x3 : Int32) (x4 : Int32) (H : (10 < x4 → Rn wM G 4 q_M_layNear 8 [some (.ref 0), some (.int x1), some (.int x2), some (.int (x3 + 1)), none, none, none] [] hp (rV F)) ∧ (¬ 10 < x4 → ((f_M_isThere x3 x4 hp) = 0 → Rn wM G 4 q_M_layNear 18 [some (.ref 0), some (.int x1), some (.int x2), some (.int x3), some (.int (x4 + 1)), none, none] [] hp (rV F)) ∧ (¬ (f_M_isThere x3 x4 hp) = 0 → p_M_farOf x1 x3 x4 x2 ∧ (Rn wM G 4 q_M_layNear 52 [some (.ref 0), some (.int x1), some (.int x2), some (.int x3), some (.int x4), some (.int (f_M_farOf x1 x3 x4 x2 hp)), some (.int (hp.1 0 34))] [] hp (rV F))))) : Rn wM G 4 q_M_layNear 18 [some (.ref 0), some (.int x1), some (.int x2), some (.int x3), some (.int x4), none, none] [] hp (rV F) := by
  refine r_iload d_M_layNear_18 rfl ?_
  refine r_bipush d_M_layNear_20 bp_10 ?_
  refine r_icmp_gt (tgt := 167) d_M_layNear_22 (by decide) (fun hc_22 => ?_) (fun hc_22 => ?_)
  · replace H := H.1 hc_22
    refine r_iinc (v := x3 + 1) (lz := [some (.ref 0), some (.int x1), some (.int x2), some (.int (x3 + 1)), some (.int x4), none, none]) d_M_layNear_167 rfl (by rw [ic_1]) (by decide) rfl rfl ?_
    refine r_goto (tgt := 8) d_M_layNear_170 (by decide) ?_
    exact rx_fgt [false, false, false, false, true] H
  · replace H := H.2 hc_22
    refine r_aload_n (i := 0) d_M_layNear_25 rfl rfl ?_
    refine r_iload_n (i := 3) d_M_layNear_26 rfl rfl ?_
    refine r_iload d_M_layNear_27 rfl ?_
    refine rk_VI (b := 0) (d' := 3) [.int x3, .int x4] [] d_M_layNear_29 ml_M_315 rfl rfl (by decide) (by decide) rfl rfl (Nat.le_of_ble_eq_true rfl) (s_M_isThere x3 x4 ?_)
    refine r_if_eq (tgt := 161) d_M_layNear_32 (by decide) (fun hc_32 => ?_) (fun hc_32 => ?_)
    · replace H := H.1 hc_32
      refine r_iinc (v := x4 + 1) (lz := [some (.ref 0), some (.int x1), some (.int x2), some (.int x3), some (.int (x4 + 1)), none, none]) d_M_layNear_161 rfl (by rw [ic_1]) (by decide) rfl rfl ?_
      refine r_goto (tgt := 18) d_M_layNear_164 (by decide) ?_
      exact H
    · replace H := H.2 hc_32
      refine r_aload_n (i := 0) d_M_layNear_35 rfl rfl ?_
      refine r_iload_n (i := 1) d_M_layNear_36 rfl rfl ?_
      refine r_iload_n (i := 3) d_M_layNear_37 rfl rfl ?_
      refine r_iload d_M_layNear_38 rfl ?_
      refine r_iload_n (i := 2) d_M_layNear_40 rfl rfl ?_
      obtain ⟨hp_41_0, H⟩ := H
      refine rk_VI (b := 0) (d' := 3) [.int x1, .int x3, .int x4, .int x2] [] d_M_layNear_41 ml_M_318 rfl rfl (by decide) (by decide) rfl rfl (Nat.le_of_ble_eq_true rfl) (s_M_farOf x1 x3 x4 x2 hp_41_0 ?_)
      refine r_istore (lz := [some (.ref 0), some (.int x1), some (.int x2), some (.int x3), some (.int x4), some (.int (f_M_farOf x1 x3 x4 x2 hp)), none]) d_M_layNear_44 (by decide) rfl rfl ?_
      refine r_aload_n (i := 0) d_M_layNear_46 rfl rfl ?_
      refine r_getI (b := 0) (v := hp.1 0 34) d_M_layNear_47 fl_M_328 (by decide) rfl rfl rfl ?_
      refine r_istore (lz := [some (.ref 0), some (.int x1), some (.int x2), some (.int x3), some (.int x4), some (.int (f_M_farOf x1 x3 x4 x2 hp)), some (.int (hp.1 0 34))]) d_M_layNear_50 (by decide) rfl rfl ?_
      exact H
set_option maxHeartbeats 4000000 in
set_option maxRecDepth 20000 in
theorem w_M_layNear_52 {G : rx_Gh} {hp : rx_Hp} {F : rx_Hp → Prop} (x1 : Int32) (x2 : Int32) (x3 : Int32) (x4 : Int32) (x5 : Int32) (x6 : Int32) (H : (x6 ≤ 0 → vp_in x6 441 ∧ (Rn wM G 4 q_M_layNear 18 [some (.ref 0), some (.int x1), some (.int x2), some (.int x3), some (.int (x4 + 1)), none, none] [] (rx_pf (rx_pa (rx_pa (rx_pa hp 17 x6.toNatClampNeg x3) 18 x6.toNatClampNeg x4) 19 x6.toNatClampNeg x5) 0 34 ((hp.1 0 34) + 1)) (rV F))) ∧ (¬ x6 ≤ 0 → vp_in (x6 - 1) 441 ∧ (((hp.2.1 19 (x6 - 1).toNatClampNeg) ≤ x5 → vp_in x6 441 ∧ (Rn wM G 4 q_M_layNear 18 [some (.ref 0), some (.int x1), some (.int x2), some (.int x3), some (.int (x4 + 1)), none, none] [] (rx_pf (rx_pa (rx_pa (rx_pa hp 17 x6.toNatClampNeg x3) 18 x6.toNatClampNeg x4) 19 x6.toNatClampNeg x5) 0 34 ((hp.1 0 34) + 1)) (rV F))) ∧ (¬ (hp.2.1 19 (x6 - 1).toNatClampNeg) ≤ x5 → vp_in x6 441 ∧ (Rn wM G 4 q_M_layNear 52 [some (.ref 0), some (.int x1), some (.int x2), some (.int x3), some (.int x4), some (.int x5), some (.int (x6 + (-1)))] [] (rx_pa (rx_pa (rx_pa hp 17 x6.toNatClampNeg (hp.2.1 17 (x6 - 1).toNatClampNeg)) 18 x6.toNatClampNeg (hp.2.1 18 (x6 - 1).toNatClampNeg)) 19 x6.toNatClampNeg (hp.2.1 19 (x6 - 1).toNatClampNeg)) (rV F)))))) : Rn wM G 4 q_M_layNear 52 [some (.ref 0), some (.int x1), some (.int x2), some (.int x3), some (.int x4), some (.int x5), some (.int x6)] [] hp (rV F) := by
  refine r_iload d_M_layNear_52 rfl ?_
  refine r_if_le (tgt := 125) d_M_layNear_54 (by decide) (fun hc_54 => ?_) (fun hc_54 => ?_)
  · replace H := H.1 hc_54
    refine r_aload_n (i := 0) d_M_layNear_125 rfl rfl ?_
    refine r_getR (b := 0) (r := 17) d_M_layNear_126 fl_M_62 (by decide) rfl rfl rfl ?_
    refine r_iload d_M_layNear_129 rfl ?_
    refine r_iload_n (i := 3) d_M_layNear_131 rfl rfl ?_
    obtain ⟨hi_132, H⟩ := H
    refine r_iast (b := 17) (i := x6.toNatClampNeg) d_M_layNear_132 (by decide) rfl hi_132 rfl ?_
    refine r_aload_n (i := 0) d_M_layNear_133 rfl rfl ?_
    refine r_getR (b := 0) (r := 18) d_M_layNear_134 fl_M_65 (by decide) rfl rfl rfl ?_
    refine r_iload d_M_layNear_137 rfl ?_
    refine r_iload d_M_layNear_139 rfl ?_
    refine r_iast (b := 18) (i := x6.toNatClampNeg) d_M_layNear_141 (by decide) rfl hi_132 rfl ?_
    refine r_aload_n (i := 0) d_M_layNear_142 rfl rfl ?_
    refine r_getR (b := 0) (r := 19) d_M_layNear_143 fl_M_68 (by decide) rfl rfl rfl ?_
    refine r_iload d_M_layNear_146 rfl ?_
    refine r_iload d_M_layNear_148 rfl ?_
    refine r_iast (b := 19) (i := x6.toNatClampNeg) d_M_layNear_150 (by decide) rfl hi_132 rfl ?_
    refine r_aload_n (i := 0) d_M_layNear_151 rfl rfl ?_
    refine r_dupr d_M_layNear_152 ?_
    refine r_getI (b := 0) (v := hp.1 0 34) d_M_layNear_153 fl_M_328 (by decide) rfl rfl rfl ?_
    refine r_iconst d_M_layNear_156 ic_1 ?_
    refine r_iadd d_M_layNear_157 ?_
    refine r_putI (b := 0) d_M_layNear_158 fp_M_328 ⟨rfl, rfl⟩ (by decide) rfl rfl ?_
    refine r_iinc (v := x4 + 1) (lz := [some (.ref 0), some (.int x1), some (.int x2), some (.int x3), some (.int (x4 + 1)), some (.int x5), some (.int x6)]) d_M_layNear_161 rfl (by rw [ic_1]) (by decide) rfl rfl ?_
    refine r_goto (tgt := 18) d_M_layNear_164 (by decide) ?_
    exact rx_fgt [false, false, false, false, false, true, true] H
  · replace H := H.2 hc_54
    refine r_aload_n (i := 0) d_M_layNear_57 rfl rfl ?_
    refine r_getR (b := 0) (r := 19) d_M_layNear_58 fl_M_68 (by decide) rfl rfl rfl ?_
    refine r_iload d_M_layNear_61 rfl ?_
    refine r_iconst d_M_layNear_63 ic_1 ?_
    refine r_isub d_M_layNear_64 ?_
    obtain ⟨hi_65, H⟩ := H
    refine r_iald (b := 19) (v := hp.2.1 19 (x6 - 1).toNatClampNeg) d_M_layNear_65 (by decide) rfl hi_65 rfl ?_
    refine r_iload d_M_layNear_66 rfl ?_
    refine r_icmp_le (tgt := 125) d_M_layNear_68 (by decide) (fun hc_68 => ?_) (fun hc_68 => ?_)
    · replace H := H.1 hc_68
      refine r_aload_n (i := 0) d_M_layNear_125 rfl rfl ?_
      refine r_getR (b := 0) (r := 17) d_M_layNear_126 fl_M_62 (by decide) rfl rfl rfl ?_
      refine r_iload d_M_layNear_129 rfl ?_
      refine r_iload_n (i := 3) d_M_layNear_131 rfl rfl ?_
      obtain ⟨hi_132, H⟩ := H
      refine r_iast (b := 17) (i := x6.toNatClampNeg) d_M_layNear_132 (by decide) rfl hi_132 rfl ?_
      refine r_aload_n (i := 0) d_M_layNear_133 rfl rfl ?_
      refine r_getR (b := 0) (r := 18) d_M_layNear_134 fl_M_65 (by decide) rfl rfl rfl ?_
      refine r_iload d_M_layNear_137 rfl ?_
      refine r_iload d_M_layNear_139 rfl ?_
      refine r_iast (b := 18) (i := x6.toNatClampNeg) d_M_layNear_141 (by decide) rfl hi_132 rfl ?_
      refine r_aload_n (i := 0) d_M_layNear_142 rfl rfl ?_
      refine r_getR (b := 0) (r := 19) d_M_layNear_143 fl_M_68 (by decide) rfl rfl rfl ?_
      refine r_iload d_M_layNear_146 rfl ?_
      refine r_iload d_M_layNear_148 rfl ?_
      refine r_iast (b := 19) (i := x6.toNatClampNeg) d_M_layNear_150 (by decide) rfl hi_132 rfl ?_
      refine r_aload_n (i := 0) d_M_layNear_151 rfl rfl ?_
      refine r_dupr d_M_layNear_152 ?_
      refine r_getI (b := 0) (v := hp.1 0 34) d_M_layNear_153 fl_M_328 (by decide) rfl rfl rfl ?_
      refine r_iconst d_M_layNear_156 ic_1 ?_
      refine r_iadd d_M_layNear_157 ?_
      refine r_putI (b := 0) d_M_layNear_158 fp_M_328 ⟨rfl, rfl⟩ (by decide) rfl rfl ?_
      refine r_iinc (v := x4 + 1) (lz := [some (.ref 0), some (.int x1), some (.int x2), some (.int x3), some (.int (x4 + 1)), some (.int x5), some (.int x6)]) d_M_layNear_161 rfl (by rw [ic_1]) (by decide) rfl rfl ?_
      refine r_goto (tgt := 18) d_M_layNear_164 (by decide) ?_
      exact rx_fgt [false, false, false, false, false, true, true] H
    · replace H := H.2 hc_68
      refine r_aload_n (i := 0) d_M_layNear_71 rfl rfl ?_
      refine r_getR (b := 0) (r := 17) d_M_layNear_72 fl_M_62 (by decide) rfl rfl rfl ?_
      refine r_iload d_M_layNear_75 rfl ?_
      refine r_aload_n (i := 0) d_M_layNear_77 rfl rfl ?_
      refine r_getR (b := 0) (r := 17) d_M_layNear_78 fl_M_62 (by decide) rfl rfl rfl ?_
      refine r_iload d_M_layNear_81 rfl ?_
      refine r_iconst d_M_layNear_83 ic_1 ?_
      refine r_isub d_M_layNear_84 ?_
      refine r_iald (b := 17) (v := hp.2.1 17 (x6 - 1).toNatClampNeg) d_M_layNear_85 (by decide) rfl hi_65 rfl ?_
      obtain ⟨hi_86, H⟩ := H
      refine r_iast (b := 17) (i := x6.toNatClampNeg) d_M_layNear_86 (by decide) rfl hi_86 rfl ?_
      refine r_aload_n (i := 0) d_M_layNear_87 rfl rfl ?_
      refine r_getR (b := 0) (r := 18) d_M_layNear_88 fl_M_65 (by decide) rfl rfl rfl ?_
      refine r_iload d_M_layNear_91 rfl ?_
      refine r_aload_n (i := 0) d_M_layNear_93 rfl rfl ?_
      refine r_getR (b := 0) (r := 18) d_M_layNear_94 fl_M_65 (by decide) rfl rfl rfl ?_
      refine r_iload d_M_layNear_97 rfl ?_
      refine r_iconst d_M_layNear_99 ic_1 ?_
      refine r_isub d_M_layNear_100 ?_
      refine r_iald (b := 18) (v := hp.2.1 18 (x6 - 1).toNatClampNeg) d_M_layNear_101 (by decide) rfl hi_65 rfl ?_
      refine r_iast (b := 18) (i := x6.toNatClampNeg) d_M_layNear_102 (by decide) rfl hi_86 rfl ?_
      refine r_aload_n (i := 0) d_M_layNear_103 rfl rfl ?_
      refine r_getR (b := 0) (r := 19) d_M_layNear_104 fl_M_68 (by decide) rfl rfl rfl ?_
      refine r_iload d_M_layNear_107 rfl ?_
      refine r_aload_n (i := 0) d_M_layNear_109 rfl rfl ?_
      refine r_getR (b := 0) (r := 19) d_M_layNear_110 fl_M_68 (by decide) rfl rfl rfl ?_
      refine r_iload d_M_layNear_113 rfl ?_
      refine r_iconst d_M_layNear_115 ic_1 ?_
      refine r_isub d_M_layNear_116 ?_
      refine r_iald (b := 19) (v := hp.2.1 19 (x6 - 1).toNatClampNeg) d_M_layNear_117 (by decide) rfl hi_65 rfl ?_
      refine r_iast (b := 19) (i := x6.toNatClampNeg) d_M_layNear_118 (by decide) rfl hi_86 rfl ?_
      refine r_iinc (v := x6 + (-1)) (lz := [some (.ref 0), some (.int x1), some (.int x2), some (.int x3), some (.int x4), some (.int x5), some (.int (x6 + (-1)))]) d_M_layNear_119 rfl (by rw [ic_m1]) (by decide) rfl rfl ?_
      refine r_goto (tgt := 52) d_M_layNear_122 (by decide) ?_
      exact H
set_option maxHeartbeats 4000000 in
set_option maxRecDepth 20000 in
theorem w_M_isHidden {G : rx_Gh} {hp : rx_Hp} {F : Int32 → rx_Hp → Prop} (a1 : Int32) (a2 : Int32) (a3 : Int32) (a4 : Int32) (H : p_M_imageX a1 a2 ∧ (vp_in a4 6 ∧ (p_M_imageY a1 a3 ∧ (Rn wM G 4 q_M_isHidden 35 [some (.ref 0), some (.int a1), none, none, some (.int a4), some (.int ((f_M_imageX a1 a2 hp) - (hp.2.1 13 a4.toNatClampNeg))), some (.int ((f_M_imageY a1 a3 hp) - (hp.2.1 14 a4.toNatClampNeg))), some (.int 0), none, none] [] hp (rI F))))) : Ev wM G 4 q_M_isHidden [.ref 0, .int a1, .int a2, .int a3, .int a4] hp (rI F) := by
  refine ev_of rfl (Nat.le_of_ble_eq_true rfl) rfl ?_
  show Rn wM G 4 q_M_isHidden 0 [some (.ref 0), some (.int a1), some (.int a2), some (.int a3), some (.int a4), none, none, none, none, none] [] hp (rI F)
  refine r_aload_n (i := 0) d_M_isHidden_0 rfl rfl ?_
  refine r_iload_n (i := 1) d_M_isHidden_1 rfl rfl ?_
  refine r_iload_n (i := 2) d_M_isHidden_2 rfl rfl ?_
  obtain ⟨hp_3_0, H⟩ := H
  refine rk_VI (b := 0) (d' := 2) [.int a1, .int a2] [] d_M_isHidden_3 ml_M_299 rfl rfl (by decide) (by decide) rfl rfl (Nat.le_of_ble_eq_true rfl) (s_M_imageX a1 a2 hp_3_0 ?_)
  refine r_aload_n (i := 0) d_M_isHidden_6 rfl rfl ?_
  refine r_getR (b := 0) (r := 13) d_M_isHidden_7 fl_M_46 (by decide) rfl rfl rfl ?_
  refine r_iload d_M_isHidden_10 rfl ?_
  obtain ⟨hi_12, H⟩ := H
  refine r_iald (b := 13) (v := hp.2.1 13 a4.toNatClampNeg) d_M_isHidden_12 (by decide) rfl hi_12 rfl ?_
  refine r_isub d_M_isHidden_13 ?_
  refine r_istore (lz := [some (.ref 0), some (.int a1), some (.int a2), some (.int a3), some (.int a4), some (.int ((f_M_imageX a1 a2 hp) - (hp.2.1 13 a4.toNatClampNeg))), none, none, none, none]) d_M_isHidden_14 (by decide) rfl rfl ?_
  refine r_aload_n (i := 0) d_M_isHidden_16 rfl rfl ?_
  refine r_iload_n (i := 1) d_M_isHidden_17 rfl rfl ?_
  refine r_iload_n (i := 3) d_M_isHidden_18 rfl rfl ?_
  obtain ⟨hp_19_0, H⟩ := H
  refine rk_VI (b := 0) (d' := 2) [.int a1, .int a3] [] d_M_isHidden_19 ml_M_302 rfl rfl (by decide) (by decide) rfl rfl (Nat.le_of_ble_eq_true rfl) (s_M_imageY a1 a3 hp_19_0 ?_)
  refine r_aload_n (i := 0) d_M_isHidden_22 rfl rfl ?_
  refine r_getR (b := 0) (r := 14) d_M_isHidden_23 fl_M_49 (by decide) rfl rfl rfl ?_
  refine r_iload d_M_isHidden_26 rfl ?_
  refine r_iald (b := 14) (v := hp.2.1 14 a4.toNatClampNeg) d_M_isHidden_28 (by decide) rfl hi_12 rfl ?_
  refine r_isub d_M_isHidden_29 ?_
  refine r_istore (lz := [some (.ref 0), some (.int a1), some (.int a2), some (.int a3), some (.int a4), some (.int ((f_M_imageX a1 a2 hp) - (hp.2.1 13 a4.toNatClampNeg))), some (.int ((f_M_imageY a1 a3 hp) - (hp.2.1 14 a4.toNatClampNeg))), none, none, none]) d_M_isHidden_30 (by decide) rfl rfl ?_
  refine r_iconst d_M_isHidden_32 ic_0 ?_
  refine r_istore (lz := [some (.ref 0), some (.int a1), some (.int a2), some (.int a3), some (.int a4), some (.int ((f_M_imageX a1 a2 hp) - (hp.2.1 13 a4.toNatClampNeg))), some (.int ((f_M_imageY a1 a3 hp) - (hp.2.1 14 a4.toNatClampNeg))), some (.int 0), none, none]) d_M_isHidden_33 (by decide) rfl rfl ?_
  exact rx_fgt [false, false, true, true] H
set_option maxHeartbeats 4000000 in
set_option maxRecDepth 20000 in
theorem w_M_isHidden_35 {G : rx_Gh} {hp : rx_Hp} {F : Int32 → rx_Hp → Prop} (x1 : Int32) (x4 : Int32) (x5 : Int32) (x6 : Int32) (x7 : Int32) (H : ((hp.1 0 23) ≤ x7 → F 0 hp) ∧ (¬ (hp.1 0 23) ≤ x7 → Rn wM G 4 q_M_isHidden 48 [some (.ref 0), some (.int x1), none, none, some (.int x4), some (.int x5), some (.int x6), some (.int x7), some (.int (-10)), none] [] hp (rI F))) : Rn wM G 4 q_M_isHidden 35 [some (.ref 0), some (.int x1), none, none, some (.int x4), some (.int x5), some (.int x6), some (.int x7), none, none] [] hp (rI F) := by
  refine r_iload d_M_isHidden_35 rfl ?_
  refine r_aload_n (i := 0) d_M_isHidden_37 rfl rfl ?_
  refine r_getI (b := 0) (v := hp.1 0 23) d_M_isHidden_38 fl_M_236 (by decide) rfl rfl rfl ?_
  refine r_icmp_ge (tgt := 152) d_M_isHidden_41 (by decide) (fun hc_41 => ?_) (fun hc_41 => ?_)
  · replace H := H.1 hc_41
    refine r_iconst d_M_isHidden_152 ic_0 ?_
    exact rZ_ret d_M_isHidden_153 rfl (Or.inl rfl) H
  · replace H := H.2 hc_41
    refine r_bipush d_M_isHidden_44 bp_m10 ?_
    refine r_istore (lz := [some (.ref 0), some (.int x1), none, none, some (.int x4), some (.int x5), some (.int x6), some (.int x7), some (.int (-10)), none]) d_M_isHidden_46 (by decide) rfl rfl ?_
    exact H
set_option maxHeartbeats 4000000 in
set_option maxRecDepth 20000 in
theorem w_M_isHidden_48 {G : rx_Gh} {hp : rx_Hp} {F : Int32 → rx_Hp → Prop} (x1 : Int32) (x4 : Int32) (x5 : Int32) (x6 : Int32) (x7 : Int32) (x8 : Int32) (H : (10 < x8 → Rn wM G 4 q_M_isHidden 35 [some (.ref 0), some (.int x1), none, none, some (.int x4), some (.int x5), some (.int x6), some (.int (x7 + 1)), none, none] [] hp (rI F)) ∧ (¬ 10 < x8 → (x7 = x1 → Rn wM G 4 q_M_isHidden 35 [some (.ref 0), some (.int x1), none, none, some (.int x4), some (.int x5), some (.int x6), some (.int (x7 + 1)), none, none] [] hp (rI F)) ∧ (¬ x7 = x1 → (x7 = x4 → Rn wM G 4 q_M_isHidden 35 [some (.ref 0), some (.int x1), none, none, some (.int x4), some (.int x5), some (.int x6), some (.int (x7 + 1)), none, none] [] hp (rI F)) ∧ (¬ x7 = x4 → Rn wM G 4 q_M_isHidden 72 [some (.ref 0), some (.int x1), none, none, some (.int x4), some (.int x5), some (.int x6), some (.int x7), some (.int x8), some (.int (-10))] [] hp (rI F))))) : Rn wM G 4 q_M_isHidden 48 [some (.ref 0), some (.int x1), none, none, some (.int x4), some (.int x5), some (.int x6), some (.int x7), some (.int x8), none] [] hp (rI F) := by
  refine r_iload d_M_isHidden_48 rfl ?_
  refine r_bipush d_M_isHidden_50 bp_10 ?_
  refine r_icmp_gt (tgt := 146) d_M_isHidden_52 (by decide) (fun hc_52 => ?_) (fun hc_52 => ?_)
  · replace H := H.1 hc_52
    refine r_iinc (v := x7 + 1) (lz := [some (.ref 0), some (.int x1), none, none, some (.int x4), some (.int x5), some (.int x6), some (.int (x7 + 1)), some (.int x8), none]) d_M_isHidden_146 rfl (by rw [ic_1]) (by decide) rfl rfl ?_
    refine r_goto (tgt := 35) d_M_isHidden_149 (by decide) ?_
    exact rx_fgt [false, false, false, false, false, false, false, false, true] H
  · replace H := H.2 hc_52
    refine r_iload d_M_isHidden_55 rfl ?_
    refine r_iload_n (i := 1) d_M_isHidden_57 rfl rfl ?_
    refine r_icmp_eq (tgt := 146) d_M_isHidden_58 (by decide) (fun hc_58 => ?_) (fun hc_58 => ?_)
    · replace H := H.1 hc_58
      refine r_iinc (v := x7 + 1) (lz := [some (.ref 0), some (.int x1), none, none, some (.int x4), some (.int x5), some (.int x6), some (.int (x7 + 1)), some (.int x8), none]) d_M_isHidden_146 rfl (by rw [ic_1]) (by decide) rfl rfl ?_
      refine r_goto (tgt := 35) d_M_isHidden_149 (by decide) ?_
      exact rx_fgt [false, false, false, false, false, false, false, false, true] H
    · replace H := H.2 hc_58
      refine r_iload d_M_isHidden_61 rfl ?_
      refine r_iload d_M_isHidden_63 rfl ?_
      refine r_icmp_eq (tgt := 146) d_M_isHidden_65 (by decide) (fun hc_65 => ?_) (fun hc_65 => ?_)
      · replace H := H.1 hc_65
        refine r_iinc (v := x7 + 1) (lz := [some (.ref 0), some (.int x1), none, none, some (.int x4), some (.int x5), some (.int x6), some (.int (x7 + 1)), some (.int x8), none]) d_M_isHidden_146 rfl (by rw [ic_1]) (by decide) rfl rfl ?_
        refine r_goto (tgt := 35) d_M_isHidden_149 (by decide) ?_
        exact rx_fgt [false, false, false, false, false, false, false, false, true] H
      · replace H := H.2 hc_65
        refine r_bipush d_M_isHidden_68 bp_m10 ?_
        refine r_istore (lz := [some (.ref 0), some (.int x1), none, none, some (.int x4), some (.int x5), some (.int x6), some (.int x7), some (.int x8), some (.int (-10))]) d_M_isHidden_70 (by decide) rfl rfl ?_
        exact H
set_option maxHeartbeats 4000000 in
set_option maxRecDepth 20000 in
theorem w_M_isHidden_72 {G : rx_Gh} {hp : rx_Hp} {F : Int32 → rx_Hp → Prop} (x1 : Int32) (x4 : Int32) (x5 : Int32) (x6 : Int32) (x7 : Int32) (x8 : Int32) (x9 : Int32) (H : (10 < x9 → Rn wM G 4 q_M_isHidden 48 [some (.ref 0), some (.int x1), none, none, some (.int x4), some (.int x5), some (.int x6), some (.int x7), some (.int (x8 + 1)), none] [] hp (rI F)) ∧ (¬ 10 < x9 → ((f_M_isThere x8 x9 hp) = 0 → Rn wM G 4 q_M_isHidden 72 [some (.ref 0), some (.int x1), none, none, some (.int x4), some (.int x5), some (.int x6), some (.int x7), some (.int x8), some (.int (x9 + 1))] [] hp (rI F)) ∧ (¬ (f_M_isThere x8 x9 hp) = 0 → p_M_imageX x7 x8 ∧ (vp_in x4 6 ∧ (p_M_imageY x7 x9 ∧ (((f_M_isOn x5 x6 ((f_M_imageX x7 x8 hp) - (hp.2.1 13 x4.toNatClampNeg)) ((f_M_imageY x7 x9 hp) - (hp.2.1 14 x4.toNatClampNeg))) = 0 → Rn wM G 4 q_M_isHidden 72 [some (.ref 0), some (.int x1), none, none, some (.int x4), some (.int x5), some (.int x6), some (.int x7), some (.int x8), some (.int (x9 + 1))] [] hp (rI F)) ∧ (¬ (f_M_isOn x5 x6 ((f_M_imageX x7 x8 hp) - (hp.2.1 13 x4.toNatClampNeg)) ((f_M_imageY x7 x9 hp) - (hp.2.1 14 x4.toNatClampNeg))) = 0 → F 1 hp))))))) : Rn wM G 4 q_M_isHidden 72 [some (.ref 0), some (.int x1), none, none, some (.int x4), some (.int x5), some (.int x6), some (.int x7), some (.int x8), some (.int x9)] [] hp (rI F) := by
  refine r_iload d_M_isHidden_72 rfl ?_
  refine r_bipush d_M_isHidden_74 bp_10 ?_
  refine r_icmp_gt (tgt := 140) d_M_isHidden_76 (by decide) (fun hc_76 => ?_) (fun hc_76 => ?_)
  · replace H := H.1 hc_76
    refine r_iinc (v := x8 + 1) (lz := [some (.ref 0), some (.int x1), none, none, some (.int x4), some (.int x5), some (.int x6), some (.int x7), some (.int (x8 + 1)), some (.int x9)]) d_M_isHidden_140 rfl (by rw [ic_1]) (by decide) rfl rfl ?_
    refine r_goto (tgt := 48) d_M_isHidden_143 (by decide) ?_
    exact rx_fgt [false, false, false, false, false, false, false, false, false, true] H
  · replace H := H.2 hc_76
    refine r_aload_n (i := 0) d_M_isHidden_79 rfl rfl ?_
    refine r_iload d_M_isHidden_80 rfl ?_
    refine r_iload d_M_isHidden_82 rfl ?_
    refine rk_VI (b := 0) (d' := 3) [.int x8, .int x9] [] d_M_isHidden_84 ml_M_315 rfl rfl (by decide) (by decide) rfl rfl (Nat.le_of_ble_eq_true rfl) (s_M_isThere x8 x9 ?_)
    refine r_if_eq (tgt := 134) d_M_isHidden_87 (by decide) (fun hc_87 => ?_) (fun hc_87 => ?_)
    · replace H := H.1 hc_87
      refine r_iinc (v := x9 + 1) (lz := [some (.ref 0), some (.int x1), none, none, some (.int x4), some (.int x5), some (.int x6), some (.int x7), some (.int x8), some (.int (x9 + 1))]) d_M_isHidden_134 rfl (by rw [ic_1]) (by decide) rfl rfl ?_
      refine r_goto (tgt := 72) d_M_isHidden_137 (by decide) ?_
      exact H
    · replace H := H.2 hc_87
      refine r_iload d_M_isHidden_90 rfl ?_
      refine r_iload d_M_isHidden_92 rfl ?_
      refine r_aload_n (i := 0) d_M_isHidden_94 rfl rfl ?_
      refine r_iload d_M_isHidden_95 rfl ?_
      refine r_iload d_M_isHidden_97 rfl ?_
      obtain ⟨hp_99_0, H⟩ := H
      refine rk_VI (b := 0) (d' := 2) [.int x7, .int x8] [.int x6, .int x5] d_M_isHidden_99 ml_M_299 rfl rfl (by decide) (by decide) rfl rfl (Nat.le_of_ble_eq_true rfl) (s_M_imageX x7 x8 hp_99_0 ?_)
      refine r_aload_n (i := 0) d_M_isHidden_102 rfl rfl ?_
      refine r_getR (b := 0) (r := 13) d_M_isHidden_103 fl_M_46 (by decide) rfl rfl rfl ?_
      refine r_iload d_M_isHidden_106 rfl ?_
      obtain ⟨hi_108, H⟩ := H
      refine r_iald (b := 13) (v := hp.2.1 13 x4.toNatClampNeg) d_M_isHidden_108 (by decide) rfl hi_108 rfl ?_
      refine r_isub d_M_isHidden_109 ?_
      refine r_aload_n (i := 0) d_M_isHidden_110 rfl rfl ?_
      refine r_iload d_M_isHidden_111 rfl ?_
      refine r_iload d_M_isHidden_113 rfl ?_
      obtain ⟨hp_115_0, H⟩ := H
      refine rk_VI (b := 0) (d' := 2) [.int x7, .int x9] [.int ((f_M_imageX x7 x8 hp) - (hp.2.1 13 x4.toNatClampNeg)), .int x6, .int x5] d_M_isHidden_115 ml_M_302 rfl rfl (by decide) (by decide) rfl rfl (Nat.le_of_ble_eq_true rfl) (s_M_imageY x7 x9 hp_115_0 ?_)
      refine r_aload_n (i := 0) d_M_isHidden_118 rfl rfl ?_
      refine r_getR (b := 0) (r := 14) d_M_isHidden_119 fl_M_49 (by decide) rfl rfl rfl ?_
      refine r_iload d_M_isHidden_122 rfl ?_
      refine r_iald (b := 14) (v := hp.2.1 14 x4.toNatClampNeg) d_M_isHidden_124 (by decide) rfl hi_108 rfl ?_
      refine r_isub d_M_isHidden_125 ?_
      refine rk_SI (d' := 1) [.int x5, .int x6, .int ((f_M_imageX x7 x8 hp) - (hp.2.1 13 x4.toNatClampNeg)), .int ((f_M_imageY x7 x9 hp) - (hp.2.1 14 x4.toNatClampNeg))] [] d_M_isHidden_126 ml_M_334 rfl rfl (by decide) (Nat.le_of_ble_eq_true rfl) (s_M_isOn x5 x6 ((f_M_imageX x7 x8 hp) - (hp.2.1 13 x4.toNatClampNeg)) ((f_M_imageY x7 x9 hp) - (hp.2.1 14 x4.toNatClampNeg)) ?_)
      refine r_if_eq (tgt := 134) d_M_isHidden_129 (by decide) (fun hc_129 => ?_) (fun hc_129 => ?_)
      · replace H := H.1 hc_129
        refine r_iinc (v := x9 + 1) (lz := [some (.ref 0), some (.int x1), none, none, some (.int x4), some (.int x5), some (.int x6), some (.int x7), some (.int x8), some (.int (x9 + 1))]) d_M_isHidden_134 rfl (by rw [ic_1]) (by decide) rfl rfl ?_
        refine r_goto (tgt := 72) d_M_isHidden_137 (by decide) ?_
        exact H
      · replace H := H.2 hc_129
        refine r_iconst d_M_isHidden_132 ic_1 ?_
        exact rZ_ret d_M_isHidden_133 rfl (Or.inr rfl) H
set_option maxHeartbeats 4000000 in
set_option maxRecDepth 20000 in
theorem w_M_isNew {G : rx_Gh} {hp : rx_Hp} {F : Int32 → rx_Hp → Prop} (a1 : Int32) (a2 : Int32) (a3 : Int32) (a4 : Int32) (a5 : Int32) (H : p_M_imageX a2 a4 ∧ (p_M_imageY a2 a5 ∧ (vp_in a1 6 ∧ (((f_M_imageX a2 a4 hp) = (hp.2.1 13 a1.toNatClampNeg) → ((f_M_imageY a2 a5 hp) = (hp.2.1 14 a1.toNatClampNeg) → F 0 hp) ∧ (¬ (f_M_imageY a2 a5 hp) = (hp.2.1 14 a1.toNatClampNeg) → Rn wM G 3 q_M_isNew 46 [some (.ref 0), none, some (.int a2), some (.int a3), some (.int a4), some (.int a5), some (.int (f_M_imageX a2 a4 hp)), some (.int (f_M_imageY a2 a5 hp)), some (.int (-a3)), none, none] [] hp (rI F))) ∧ (¬ (f_M_imageX a2 a4 hp) = (hp.2.1 13 a1.toNatClampNeg) → Rn wM G 3 q_M_isNew 46 [some (.ref 0), none, some (.int a2), some (.int a3), some (.int a4), some (.int a5), some (.int (f_M_imageX a2 a4 hp)), some (.int (f_M_imageY a2 a5 hp)), some (.int (-a3)), none, none] [] hp (rI F)))))) : Ev wM G 3 q_M_isNew [.ref 0, .int a1, .int a2, .int a3, .int a4, .int a5] hp (rI F) := by
  refine ev_of rfl (Nat.le_of_ble_eq_true rfl) rfl ?_
  show Rn wM G 3 q_M_isNew 0 [some (.ref 0), some (.int a1), some (.int a2), some (.int a3), some (.int a4), some (.int a5), none, none, none, none, none] [] hp (rI F)
  refine r_aload_n (i := 0) d_M_isNew_0 rfl rfl ?_
  refine r_iload_n (i := 2) d_M_isNew_1 rfl rfl ?_
  refine r_iload d_M_isNew_2 rfl ?_
  obtain ⟨hp_4_0, H⟩ := H
  refine rk_VI (b := 0) (d' := 2) [.int a2, .int a4] [] d_M_isNew_4 ml_M_299 rfl rfl (by decide) (by decide) rfl rfl (Nat.le_of_ble_eq_true rfl) (s_M_imageX a2 a4 hp_4_0 ?_)
  refine r_istore (lz := [some (.ref 0), some (.int a1), some (.int a2), some (.int a3), some (.int a4), some (.int a5), some (.int (f_M_imageX a2 a4 hp)), none, none, none, none]) d_M_isNew_7 (by decide) rfl rfl ?_
  refine r_aload_n (i := 0) d_M_isNew_9 rfl rfl ?_
  refine r_iload_n (i := 2) d_M_isNew_10 rfl rfl ?_
  refine r_iload d_M_isNew_11 rfl ?_
  obtain ⟨hp_13_0, H⟩ := H
  refine rk_VI (b := 0) (d' := 2) [.int a2, .int a5] [] d_M_isNew_13 ml_M_302 rfl rfl (by decide) (by decide) rfl rfl (Nat.le_of_ble_eq_true rfl) (s_M_imageY a2 a5 hp_13_0 ?_)
  refine r_istore (lz := [some (.ref 0), some (.int a1), some (.int a2), some (.int a3), some (.int a4), some (.int a5), some (.int (f_M_imageX a2 a4 hp)), some (.int (f_M_imageY a2 a5 hp)), none, none, none]) d_M_isNew_16 (by decide) rfl rfl ?_
  refine r_iload d_M_isNew_18 rfl ?_
  refine r_aload_n (i := 0) d_M_isNew_20 rfl rfl ?_
  refine r_getR (b := 0) (r := 13) d_M_isNew_21 fl_M_46 (by decide) rfl rfl rfl ?_
  refine r_iload_n (i := 1) d_M_isNew_24 rfl rfl ?_
  obtain ⟨hi_25, H⟩ := H
  refine r_iald (b := 13) (v := hp.2.1 13 a1.toNatClampNeg) d_M_isNew_25 (by decide) rfl hi_25 rfl ?_
  refine r_icmp_ne (tgt := 42) d_M_isNew_26 (by decide) (fun hc_26 => ?_) (fun hc_26 => ?_)
  · replace H := H.2 hc_26
    refine r_iload_n (i := 3) d_M_isNew_42 rfl rfl ?_
    refine r_ineg d_M_isNew_43 ?_
    refine r_istore (lz := [some (.ref 0), some (.int a1), some (.int a2), some (.int a3), some (.int a4), some (.int a5), some (.int (f_M_imageX a2 a4 hp)), some (.int (f_M_imageY a2 a5 hp)), some (.int (-a3)), none, none]) d_M_isNew_44 (by decide) rfl rfl ?_
    exact rx_fgt [false, true] H
  · replace H := H.1 hc_26
    refine r_iload d_M_isNew_29 rfl ?_
    refine r_aload_n (i := 0) d_M_isNew_31 rfl rfl ?_
    refine r_getR (b := 0) (r := 14) d_M_isNew_32 fl_M_49 (by decide) rfl rfl rfl ?_
    refine r_iload_n (i := 1) d_M_isNew_35 rfl rfl ?_
    refine r_iald (b := 14) (v := hp.2.1 14 a1.toNatClampNeg) d_M_isNew_36 (by decide) rfl hi_25 rfl ?_
    refine r_icmp_ne (tgt := 42) d_M_isNew_37 (by decide) (fun hc_37 => ?_) (fun hc_37 => ?_)
    · replace H := H.2 hc_37
      refine r_iload_n (i := 3) d_M_isNew_42 rfl rfl ?_
      refine r_ineg d_M_isNew_43 ?_
      refine r_istore (lz := [some (.ref 0), some (.int a1), some (.int a2), some (.int a3), some (.int a4), some (.int a5), some (.int (f_M_imageX a2 a4 hp)), some (.int (f_M_imageY a2 a5 hp)), some (.int (-a3)), none, none]) d_M_isNew_44 (by decide) rfl rfl ?_
      exact rx_fgt [false, true] H
    · replace H := H.1 hc_37
      refine r_iconst d_M_isNew_40 ic_0 ?_
      exact rZ_ret d_M_isNew_41 rfl (Or.inl rfl) H
set_option maxHeartbeats 4000000 in
set_option maxRecDepth 20000 in
theorem w_M_isNew_46 {G : rx_Gh} {hp : rx_Hp} {F : Int32 → rx_Hp → Prop} (x2 : Int32) (x3 : Int32) (x4 : Int32) (x5 : Int32) (x6 : Int32) (x7 : Int32) (x8 : Int32) (H : (x4 < x8 → F 1 hp) ∧ (¬ x4 < x8 → Rn wM G 3 q_M_isNew 57 [some (.ref 0), none, some (.int x2), some (.int x3), some (.int x4), some (.int x5), some (.int x6), some (.int x7), some (.int x8), some (.int (-x3)), none] [] hp (rI F))) : Rn wM G 3 q_M_isNew 46 [some (.ref 0), none, some (.int x2), some (.int x3), some (.int x4), some (.int x5), some (.int x6), some (.int x7), some (.int x8), none, none] [] hp (rI F) := by
  refine r_iload d_M_isNew_46 rfl ?_
  refine r_iload d_M_isNew_48 rfl ?_
  refine r_icmp_gt (tgt := 138) d_M_isNew_50 (by decide) (fun hc_50 => ?_) (fun hc_50 => ?_)
  · replace H := H.1 hc_50
    refine r_iconst d_M_isNew_138 ic_1 ?_
    exact rZ_ret d_M_isNew_139 rfl (Or.inr rfl) H
  · replace H := H.2 hc_50
    refine r_iload_n (i := 3) d_M_isNew_53 rfl rfl ?_
    refine r_ineg d_M_isNew_54 ?_
    refine r_istore (lz := [some (.ref 0), none, some (.int x2), some (.int x3), some (.int x4), some (.int x5), some (.int x6), some (.int x7), some (.int x8), some (.int (-x3)), none]) d_M_isNew_55 (by decide) rfl rfl ?_
    exact H
set_option maxHeartbeats 4000000 in
set_option maxRecDepth 20000 in
theorem w_M_isNew_57 {G : rx_Gh} {hp : rx_Hp} {F : Int32 → rx_Hp → Prop} (x2 : Int32) (x3 : Int32) (x4 : Int32) (x5 : Int32) (x6 : Int32) (x7 : Int32) (x8 : Int32) (x9 : Int32) (H : (x3 < x9 → Rn wM G 3 q_M_isNew 46 [some (.ref 0), none, some (.int x2), some (.int x3), some (.int x4), some (.int x5), some (.int x6), some (.int x7), some (.int (x8 + 1)), none, none] [] hp (rI F)) ∧ (¬ x3 < x9 → (((if x8 < x4 then 1 else ((if x5 ≤ x9 then 0 else 1) : Int32)) : Int32) = 0 → Rn wM G 3 q_M_isNew 57 [some (.ref 0), none, some (.int x2), some (.int x3), some (.int x4), some (.int x5), some (.int x6), some (.int x7), some (.int x8), some (.int (x9 + 1)), none] [] hp (rI F)) ∧ (¬ ((if x8 < x4 then 1 else ((if x5 ≤ x9 then 0 else 1) : Int32)) : Int32) = 0 → ((f_M_glasses x8 x9) = x3 → p_M_imageX x2 x8 ∧ (((f_M_imageX x2 x8 hp) = x6 → p_M_imageY x2 x9 ∧ (((f_M_imageY x2 x9 hp) = x7 → F 0 hp) ∧ (¬ (f_M_imageY x2 x9 hp) = x7 → Rn wM G 3 q_M_isNew 57 [some (.ref 0), none, some (.int x2), some (.int x3), some (.int x4), some (.int x5), some (.int x6), some (.int x7), some (.int x8), some (.int (x9 + 1)), none] [] hp (rI F)))) ∧ (¬ (f_M_imageX x2 x8 hp) = x6 → Rn wM G 3 q_M_isNew 57 [some (.ref 0), none, some (.int x2), some (.int x3), some (.int x4), some (.int x5), some (.int x6), some (.int x7), some (.int x8), some (.int (x9 + 1)), none] [] hp (rI F)))) ∧ (¬ (f_M_glasses x8 x9) = x3 → Rn wM G 3 q_M_isNew 57 [some (.ref 0), none, some (.int x2), some (.int x3), some (.int x4), some (.int x5), some (.int x6), some (.int x7), some (.int x8), some (.int (x9 + 1)), none] [] hp (rI F))))) : Rn wM G 3 q_M_isNew 57 [some (.ref 0), none, some (.int x2), some (.int x3), some (.int x4), some (.int x5), some (.int x6), some (.int x7), some (.int x8), some (.int x9), none] [] hp (rI F) := by
  refine r_iload d_M_isNew_57 rfl ?_
  refine r_iload_n (i := 3) d_M_isNew_59 rfl rfl ?_
  refine r_icmp_gt (tgt := 132) d_M_isNew_60 (by decide) (fun hc_60 => ?_) (fun hc_60 => ?_)
  · replace H := H.1 hc_60
    refine r_iinc (v := x8 + 1) (lz := [some (.ref 0), none, some (.int x2), some (.int x3), some (.int x4), some (.int x5), some (.int x6), some (.int x7), some (.int (x8 + 1)), some (.int x9), none]) d_M_isNew_132 rfl (by rw [ic_1]) (by decide) rfl rfl ?_
    refine r_goto (tgt := 46) d_M_isNew_135 (by decide) ?_
    exact rx_fgt [false, false, false, false, false, false, false, false, false, true] H
  · replace H := H.2 hc_60
    have J67 : ∀ (v67_0 : Int32), v67_0 = ((if x8 < x4 then 1 else ((if x5 ≤ x9 then 0 else 1) : Int32)) : Int32) → Rn wM G 3 q_M_isNew 82 [some (.ref 0), none, some (.int x2), some (.int x3), some (.int x4), some (.int x5), some (.int x6), some (.int x7), some (.int x8), some (.int x9), none] [.int v67_0] hp (rI F) := by
      rintro _ rfl
      refine r_istore (lz := [some (.ref 0), none, some (.int x2), some (.int x3), some (.int x4), some (.int x5), some (.int x6), some (.int x7), some (.int x8), some (.int x9), some (.int ((if x8 < x4 then 1 else ((if x5 ≤ x9 then 0 else 1) : Int32)) : Int32))]) d_M_isNew_82 (by decide) rfl rfl ?_
      refine r_iload d_M_isNew_84 rfl ?_
      refine r_if_eq (tgt := 126) d_M_isNew_86 (by decide) (fun hc_86 => ?_) (fun hc_86 => ?_)
      · replace H := H.1 hc_86
        refine r_iinc (v := x9 + 1) (lz := [some (.ref 0), none, some (.int x2), some (.int x3), some (.int x4), some (.int x5), some (.int x6), some (.int x7), some (.int x8), some (.int (x9 + 1)), some (.int ((if x8 < x4 then 1 else ((if x5 ≤ x9 then 0 else 1) : Int32)) : Int32))]) d_M_isNew_126 rfl (by rw [ic_1]) (by decide) rfl rfl ?_
        refine r_goto (tgt := 57) d_M_isNew_129 (by decide) ?_
        exact rx_fgt [false, false, false, false, false, false, false, false, false, false, true] H
      · replace H := H.2 hc_86
        refine r_iload d_M_isNew_89 rfl ?_
        refine r_iload d_M_isNew_91 rfl ?_
        refine rk_SI (d' := 2) [.int x8, .int x9] [] d_M_isNew_93 ml_M_309 rfl rfl (by decide) (Nat.le_of_ble_eq_true rfl) (s_M_glasses x8 x9 ?_)
        refine r_iload_n (i := 3) d_M_isNew_96 rfl rfl ?_
        refine r_icmp_ne (tgt := 126) d_M_isNew_97 (by decide) (fun hc_97 => ?_) (fun hc_97 => ?_)
        · replace H := H.2 hc_97
          refine r_iinc (v := x9 + 1) (lz := [some (.ref 0), none, some (.int x2), some (.int x3), some (.int x4), some (.int x5), some (.int x6), some (.int x7), some (.int x8), some (.int (x9 + 1)), some (.int ((if x8 < x4 then 1 else ((if x5 ≤ x9 then 0 else 1) : Int32)) : Int32))]) d_M_isNew_126 rfl (by rw [ic_1]) (by decide) rfl rfl ?_
          refine r_goto (tgt := 57) d_M_isNew_129 (by decide) ?_
          exact rx_fgt [false, false, false, false, false, false, false, false, false, false, true] H
        · replace H := H.1 hc_97
          refine r_aload_n (i := 0) d_M_isNew_100 rfl rfl ?_
          refine r_iload_n (i := 2) d_M_isNew_101 rfl rfl ?_
          refine r_iload d_M_isNew_102 rfl ?_
          obtain ⟨hp_104_0, H⟩ := H
          refine rk_VI (b := 0) (d' := 2) [.int x2, .int x8] [] d_M_isNew_104 ml_M_299 rfl rfl (by decide) (by decide) rfl rfl (Nat.le_of_ble_eq_true rfl) (s_M_imageX x2 x8 hp_104_0 ?_)
          refine r_iload d_M_isNew_107 rfl ?_
          refine r_icmp_ne (tgt := 126) d_M_isNew_109 (by decide) (fun hc_109 => ?_) (fun hc_109 => ?_)
          · replace H := H.2 hc_109
            refine r_iinc (v := x9 + 1) (lz := [some (.ref 0), none, some (.int x2), some (.int x3), some (.int x4), some (.int x5), some (.int x6), some (.int x7), some (.int x8), some (.int (x9 + 1)), some (.int ((if x8 < x4 then 1 else ((if x5 ≤ x9 then 0 else 1) : Int32)) : Int32))]) d_M_isNew_126 rfl (by rw [ic_1]) (by decide) rfl rfl ?_
            refine r_goto (tgt := 57) d_M_isNew_129 (by decide) ?_
            exact rx_fgt [false, false, false, false, false, false, false, false, false, false, true] H
          · replace H := H.1 hc_109
            refine r_aload_n (i := 0) d_M_isNew_112 rfl rfl ?_
            refine r_iload_n (i := 2) d_M_isNew_113 rfl rfl ?_
            refine r_iload d_M_isNew_114 rfl ?_
            obtain ⟨hp_116_0, H⟩ := H
            refine rk_VI (b := 0) (d' := 2) [.int x2, .int x9] [] d_M_isNew_116 ml_M_302 rfl rfl (by decide) (by decide) rfl rfl (Nat.le_of_ble_eq_true rfl) (s_M_imageY x2 x9 hp_116_0 ?_)
            refine r_iload d_M_isNew_119 rfl ?_
            refine r_icmp_ne (tgt := 126) d_M_isNew_121 (by decide) (fun hc_121 => ?_) (fun hc_121 => ?_)
            · replace H := H.2 hc_121
              refine r_iinc (v := x9 + 1) (lz := [some (.ref 0), none, some (.int x2), some (.int x3), some (.int x4), some (.int x5), some (.int x6), some (.int x7), some (.int x8), some (.int (x9 + 1)), some (.int ((if x8 < x4 then 1 else ((if x5 ≤ x9 then 0 else 1) : Int32)) : Int32))]) d_M_isNew_126 rfl (by rw [ic_1]) (by decide) rfl rfl ?_
              refine r_goto (tgt := 57) d_M_isNew_129 (by decide) ?_
              exact rx_fgt [false, false, false, false, false, false, false, false, false, false, true] H
            · replace H := H.1 hc_121
              refine r_iconst d_M_isNew_124 ic_0 ?_
              exact rZ_ret d_M_isNew_125 rfl (Or.inl rfl) H
    refine r_iload d_M_isNew_63 rfl ?_
    refine r_iload d_M_isNew_65 rfl ?_
    refine r_icmp_lt (tgt := 77) d_M_isNew_67 (by decide) (fun hc_67 => ?_) (fun hc_67 => ?_)
    · refine r_iconst d_M_isNew_77 ic_1 ?_
      refine r_goto (tgt := 82) d_M_isNew_78 (by decide) ?_
      exact J67 _ (((if_pos hc_67).trans rfl)).symm
    · refine r_iload d_M_isNew_70 rfl ?_
      refine r_iload d_M_isNew_72 rfl ?_
      refine r_icmp_ge (tgt := 81) d_M_isNew_74 (by decide) (fun hc_74 => ?_) (fun hc_74 => ?_)
      · refine r_iconst d_M_isNew_81 ic_0 ?_
        exact J67 _ (((if_neg hc_67).trans ((if_pos hc_74).trans rfl))).symm
      · refine r_iconst d_M_isNew_77 ic_1 ?_
        refine r_goto (tgt := 82) d_M_isNew_78 (by decide) ?_
        exact J67 _ (((if_neg hc_67).trans ((if_neg hc_74).trans rfl))).symm

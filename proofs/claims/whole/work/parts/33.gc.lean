theorem d_M_round_0 : decode q_M_round.2.1 0 = .ok (.aload_n 0, 1) := by decide +kernel
theorem d_M_round_1 : decode q_M_round.2.1 1 = .ok (.getfield 236, 3) := by decide +kernel
theorem d_M_round_4 : decode q_M_round.2.1 4 = .ok (.ifCond .eq 33, 3) := by decide +kernel
theorem d_M_round_37 : decode q_M_round.2.1 37 = .ok (.iconst (-1), 1) := by decide +kernel
theorem d_M_round_38 : decode q_M_round.2.1 38 = .ok (.ireturn, 1) := by decide +kernel
theorem d_M_round_7 : decode q_M_round.2.1 7 = .ok (.iload_n 1, 1) := by decide +kernel
theorem d_M_round_8 : decode q_M_round.2.1 8 = .ok (.bipush (-9), 2) := by decide +kernel
theorem d_M_round_10 : decode q_M_round.2.1 10 = .ok (.bipush 9, 2) := by decide +kernel
theorem d_M_round_12 : decode q_M_round.2.1 12 = .ok (.invokestatic 198, 3) := by decide +kernel
theorem d_M_round_15 : decode q_M_round.2.1 15 = .ok (.ifCond .eq 22, 3) := by decide +kernel
theorem d_M_round_18 : decode q_M_round.2.1 18 = .ok (.iload_n 2, 1) := by decide +kernel
theorem d_M_round_19 : decode q_M_round.2.1 19 = .ok (.bipush (-9), 2) := by decide +kernel
theorem d_M_round_21 : decode q_M_round.2.1 21 = .ok (.bipush 9, 2) := by decide +kernel
theorem d_M_round_23 : decode q_M_round.2.1 23 = .ok (.invokestatic 198, 3) := by decide +kernel
theorem d_M_round_26 : decode q_M_round.2.1 26 = .ok (.ifCond .eq 11, 3) := by decide +kernel
theorem d_M_round_29 : decode q_M_round.2.1 29 = .ok (.iload_n 1, 1) := by decide +kernel
theorem d_M_round_30 : decode q_M_round.2.1 30 = .ok (.ifCond .ne 9, 3) := by decide +kernel
theorem d_M_round_33 : decode q_M_round.2.1 33 = .ok (.iload_n 2, 1) := by decide +kernel
theorem d_M_round_34 : decode q_M_round.2.1 34 = .ok (.ifCond .ne 5, 3) := by decide +kernel
theorem d_M_round_39 : decode q_M_round.2.1 39 = .ok (.aload_n 0, 1) := by decide +kernel
theorem d_M_round_40 : decode q_M_round.2.1 40 = .ok (.getfield 242, 3) := by decide +kernel
theorem d_M_round_43 : decode q_M_round.2.1 43 = .ok (.iload_n 1, 1) := by decide +kernel
theorem d_M_round_44 : decode q_M_round.2.1 44 = .ok (.invokestatic 295, 3) := by decide +kernel
theorem d_M_round_47 : decode q_M_round.2.1 47 = .ok (.imul, 1) := by decide +kernel
theorem d_M_round_48 : decode q_M_round.2.1 48 = .ok (.istore_n 3, 1) := by decide +kernel
theorem d_M_round_49 : decode q_M_round.2.1 49 = .ok (.aload_n 0, 1) := by decide +kernel
theorem d_M_round_50 : decode q_M_round.2.1 50 = .ok (.getfield 239, 3) := by decide +kernel
theorem d_M_round_53 : decode q_M_round.2.1 53 = .ok (.iload_n 2, 1) := by decide +kernel
theorem d_M_round_54 : decode q_M_round.2.1 54 = .ok (.invokestatic 295, 3) := by decide +kernel
theorem d_M_round_57 : decode q_M_round.2.1 57 = .ok (.imul, 1) := by decide +kernel
theorem d_M_round_58 : decode q_M_round.2.1 58 = .ok (.istore 4, 2) := by decide +kernel
theorem d_M_round_60 : decode q_M_round.2.1 60 = .ok (.iconst 2, 1) := by decide +kernel
theorem d_M_round_61 : decode q_M_round.2.1 61 = .ok (.iload_n 3, 1) := by decide +kernel
theorem d_M_round_62 : decode q_M_round.2.1 62 = .ok (.iload 4, 2) := by decide +kernel
theorem d_M_round_64 : decode q_M_round.2.1 64 = .ok (.iadd, 1) := by decide +kernel
theorem d_M_round_65 : decode q_M_round.2.1 65 = .ok (.imul, 1) := by decide +kernel
theorem d_M_round_66 : decode q_M_round.2.1 66 = .ok (.iload_n 3, 1) := by decide +kernel
theorem d_M_round_67 : decode q_M_round.2.1 67 = .ok (.iload 4, 2) := by decide +kernel
theorem d_M_round_69 : decode q_M_round.2.1 69 = .ok (.invokestatic 355, 3) := by decide +kernel
theorem d_M_round_72 : decode q_M_round.2.1 72 = .ok (.idiv, 1) := by decide +kernel
theorem d_M_round_73 : decode q_M_round.2.1 73 = .ok (.ireturn, 1) := by decide +kernel
theorem d_M_plain_0 : decode q_M_plain.2.1 0 = .ok (.iload_n 1, 1) := by decide +kernel
theorem d_M_plain_1 : decode q_M_plain.2.1 1 = .ok (.iload_n 0, 1) := by decide +kernel
theorem d_M_plain_2 : decode q_M_plain.2.1 2 = .ok (.invokestatic 355, 3) := by decide +kernel
theorem d_M_plain_5 : decode q_M_plain.2.1 5 = .ok (.istore_n 3, 1) := by decide +kernel
theorem d_M_plain_6 : decode q_M_plain.2.1 6 = .ok (.iload_n 2, 1) := by decide +kernel
theorem d_M_plain_7 : decode q_M_plain.2.1 7 = .ok (.ifCond .ne 9, 3) := by decide +kernel
theorem d_M_plain_10 : decode q_M_plain.2.1 10 = .ok (.iload_n 0, 1) := by decide +kernel
theorem d_M_plain_11 : decode q_M_plain.2.1 11 = .ok (.iload_n 3, 1) := by decide +kernel
theorem d_M_plain_12 : decode q_M_plain.2.1 12 = .ok (.idiv, 1) := by decide +kernel
theorem d_M_plain_13 : decode q_M_plain.2.1 13 = .ok (.goto 6, 3) := by decide +kernel
theorem d_M_plain_19 : decode q_M_plain.2.1 19 = .ok (.ireturn, 1) := by decide +kernel
theorem d_M_plain_16 : decode q_M_plain.2.1 16 = .ok (.iload_n 1, 1) := by decide +kernel
theorem d_M_plain_17 : decode q_M_plain.2.1 17 = .ok (.iload_n 3, 1) := by decide +kernel
theorem d_M_plain_18 : decode q_M_plain.2.1 18 = .ok (.idiv, 1) := by decide +kernel
theorem d_M_hang_0 : decode q_M_hang.2.1 0 = .ok (.aload_n 0, 1) := by decide +kernel
theorem d_M_hang_1 : decode q_M_hang.2.1 1 = .ok (.iload_n 1, 1) := by decide +kernel
theorem d_M_hang_2 : decode q_M_hang.2.1 2 = .ok (.invokevirtual 267, 3) := by decide +kernel
theorem d_M_hang_5 : decode q_M_hang.2.1 5 = .ok (.ifCond .eq 45, 3) := by decide +kernel
theorem d_M_hang_50 : decode q_M_hang.2.1 50 = .ok (.iconst (-1), 1) := by decide +kernel
theorem d_M_hang_51 : decode q_M_hang.2.1 51 = .ok (.ireturn, 1) := by decide +kernel
theorem d_M_hang_8 : decode q_M_hang.2.1 8 = .ok (.aload_n 0, 1) := by decide +kernel
theorem d_M_hang_9 : decode q_M_hang.2.1 9 = .ok (.iload_n 2, 1) := by decide +kernel
theorem d_M_hang_10 : decode q_M_hang.2.1 10 = .ok (.invokevirtual 267, 3) := by decide +kernel
theorem d_M_hang_13 : decode q_M_hang.2.1 13 = .ok (.ifCond .eq 37, 3) := by decide +kernel
theorem d_M_hang_16 : decode q_M_hang.2.1 16 = .ok (.iload_n 1, 1) := by decide +kernel
theorem d_M_hang_17 : decode q_M_hang.2.1 17 = .ok (.iload_n 2, 1) := by decide +kernel
theorem d_M_hang_18 : decode q_M_hang.2.1 18 = .ok (.if_icmp .eq 32, 3) := by decide +kernel
theorem d_M_hang_21 : decode q_M_hang.2.1 21 = .ok (.iload_n 3, 1) := by decide +kernel
theorem d_M_hang_22 : decode q_M_hang.2.1 22 = .ok (.iconst 0, 1) := by decide +kernel
theorem d_M_hang_23 : decode q_M_hang.2.1 23 = .ok (.iconst 3, 1) := by decide +kernel
theorem d_M_hang_24 : decode q_M_hang.2.1 24 = .ok (.invokestatic 198, 3) := by decide +kernel
theorem d_M_hang_27 : decode q_M_hang.2.1 27 = .ok (.ifCond .eq 23, 3) := by decide +kernel
theorem d_M_hang_30 : decode q_M_hang.2.1 30 = .ok (.iload 4, 2) := by decide +kernel
theorem d_M_hang_32 : decode q_M_hang.2.1 32 = .ok (.iconst 0, 1) := by decide +kernel
theorem d_M_hang_33 : decode q_M_hang.2.1 33 = .ok (.iconst 1, 1) := by decide +kernel
theorem d_M_hang_34 : decode q_M_hang.2.1 34 = .ok (.invokestatic 198, 3) := by decide +kernel
theorem d_M_hang_37 : decode q_M_hang.2.1 37 = .ok (.ifCond .eq 13, 3) := by decide +kernel
theorem d_M_hang_40 : decode q_M_hang.2.1 40 = .ok (.aload_n 0, 1) := by decide +kernel
theorem d_M_hang_41 : decode q_M_hang.2.1 41 = .ok (.iload_n 1, 1) := by decide +kernel
theorem d_M_hang_42 : decode q_M_hang.2.1 42 = .ok (.iload_n 2, 1) := by decide +kernel
theorem d_M_hang_43 : decode q_M_hang.2.1 43 = .ok (.iload_n 3, 1) := by decide +kernel
theorem d_M_hang_44 : decode q_M_hang.2.1 44 = .ok (.invokevirtual 368, 3) := by decide +kernel
theorem ml_M_368 : rx_CV "GlassRoomModel" 368 q_M_layHang 3 := ⟨⟨(rx_s7 87 rfl rfl), (rx_s7 89 rfl rfl), (rx_s0 68 rfl rfl)⟩, ⟨(rx_s1 13 rfl rfl), q_M_layHang_k, ⟨by decide, by decide, by decide +kernel⟩, by decide⟩⟩
theorem d_M_hang_47 : decode q_M_hang.2.1 47 = .ok (.ifCond .ne 5, 3) := by decide +kernel
theorem d_M_hang_52 : decode q_M_hang.2.1 52 = .ok (.aload_n 0, 1) := by decide +kernel
theorem d_M_hang_53 : decode q_M_hang.2.1 53 = .ok (.getfield 362, 3) := by decide +kernel
theorem fl_M_362 : rx_F "GlassRoomModel" 362 12 35 := ⟨(RX12, TX12, 45), rfl, by decide, (rx_s5 134 rfl rfl), rx_T12⟩
theorem d_M_hang_56 : decode q_M_hang.2.1 56 = .ok (.aload_n 0, 1) := by decide +kernel
theorem d_M_hang_57 : decode q_M_hang.2.1 57 = .ok (.getfield 365, 3) := by decide +kernel
theorem d_M_hang_60 : decode q_M_hang.2.1 60 = .ok (.iload 4, 2) := by decide +kernel
theorem d_M_hang_62 : decode q_M_hang.2.1 62 = .ok (.invokestatic 371, 3) := by decide +kernel
theorem ml_M_371 : rx_CS "GlassRoomModel" 371 q_M_plain 3 := ⟨⟨(rx_s7 91 rfl rfl), (rx_s7 92 rfl rfl)⟩, ⟨(rx_s1 13 rfl rfl), q_M_plain_k, ⟨by decide, by decide, by decide +kernel⟩, by decide⟩⟩
theorem d_M_hang_65 : decode q_M_hang.2.1 65 = .ok (.ireturn, 1) := by decide +kernel
theorem d_M_pane_0 : decode q_M_pane.2.1 0 = .ok (.aload_n 0, 1) := by decide +kernel
theorem d_M_pane_1 : decode q_M_pane.2.1 1 = .ok (.iload_n 1, 1) := by decide +kernel
theorem d_M_pane_2 : decode q_M_pane.2.1 2 = .ok (.invokevirtual 267, 3) := by decide +kernel
theorem d_M_pane_5 : decode q_M_pane.2.1 5 = .ok (.ifCond .eq 21, 3) := by decide +kernel
theorem d_M_pane_26 : decode q_M_pane.2.1 26 = .ok (.iconst (-1), 1) := by decide +kernel
theorem d_M_pane_27 : decode q_M_pane.2.1 27 = .ok (.ireturn, 1) := by decide +kernel
theorem d_M_pane_8 : decode q_M_pane.2.1 8 = .ok (.iload_n 2, 1) := by decide +kernel
theorem d_M_pane_9 : decode q_M_pane.2.1 9 = .ok (.iconst 0, 1) := by decide +kernel
theorem d_M_pane_10 : decode q_M_pane.2.1 10 = .ok (.iconst 3, 1) := by decide +kernel
theorem d_M_pane_11 : decode q_M_pane.2.1 11 = .ok (.invokestatic 198, 3) := by decide +kernel
theorem d_M_pane_14 : decode q_M_pane.2.1 14 = .ok (.ifCond .eq 12, 3) := by decide +kernel
theorem d_M_pane_17 : decode q_M_pane.2.1 17 = .ok (.iload_n 3, 1) := by decide +kernel
theorem d_M_pane_18 : decode q_M_pane.2.1 18 = .ok (.iconst 0, 1) := by decide +kernel
theorem d_M_pane_19 : decode q_M_pane.2.1 19 = .ok (.iconst 1, 1) := by decide +kernel
theorem d_M_pane_20 : decode q_M_pane.2.1 20 = .ok (.invokestatic 198, 3) := by decide +kernel
theorem d_M_pane_23 : decode q_M_pane.2.1 23 = .ok (.ifCond .ne 5, 3) := by decide +kernel
theorem d_M_pane_28 : decode q_M_pane.2.1 28 = .ok (.iconst 0, 1) := by decide +kernel
theorem d_M_pane_29 : decode q_M_pane.2.1 29 = .ok (.istore 4, 2) := by decide +kernel
theorem d_M_pane_31 : decode q_M_pane.2.1 31 = .ok (.iconst 0, 1) := by decide +kernel
theorem d_M_pane_32 : decode q_M_pane.2.1 32 = .ok (.istore 5, 2) := by decide +kernel
theorem d_M_pane_34 : decode q_M_pane.2.1 34 = .ok (.iconst 0, 1) := by decide +kernel
theorem d_M_pane_35 : decode q_M_pane.2.1 35 = .ok (.istore 6, 2) := by decide +kernel
theorem d_M_pane_37 : decode q_M_pane.2.1 37 = .ok (.iconst 0, 1) := by decide +kernel
theorem d_M_pane_38 : decode q_M_pane.2.1 38 = .ok (.istore 7, 2) := by decide +kernel
theorem d_M_pane_40 : decode q_M_pane.2.1 40 = .ok (.iconst 0, 1) := by decide +kernel
theorem d_M_pane_41 : decode q_M_pane.2.1 41 = .ok (.istore 8, 2) := by decide +kernel
theorem d_M_pane_43 : decode q_M_pane.2.1 43 = .ok (.iload 8, 2) := by decide +kernel
theorem d_M_pane_45 : decode q_M_pane.2.1 45 = .ok (.aload_n 0, 1) := by decide +kernel
theorem d_M_pane_46 : decode q_M_pane.2.1 46 = .ok (.getfield 236, 3) := by decide +kernel
theorem d_M_pane_49 : decode q_M_pane.2.1 49 = .ok (.if_icmp .ge 94, 3) := by decide +kernel
theorem d_M_pane_52 : decode q_M_pane.2.1 52 = .ok (.iload 8, 2) := by decide +kernel
theorem d_M_pane_54 : decode q_M_pane.2.1 54 = .ok (.iload_n 1, 1) := by decide +kernel
theorem d_M_pane_55 : decode q_M_pane.2.1 55 = .ok (.if_icmp .eq 82, 3) := by decide +kernel
theorem d_M_pane_137 : decode q_M_pane.2.1 137 = .ok (.iinc 8 1, 3) := by decide +kernel
theorem d_M_pane_140 : decode q_M_pane.2.1 140 = .ok (.goto (-97), 3) := by decide +kernel
theorem d_M_pane_143 : decode q_M_pane.2.1 143 = .ok (.iload 5, 2) := by decide +kernel
theorem d_M_pane_145 : decode q_M_pane.2.1 145 = .ok (.ifCond .ne 7, 3) := by decide +kernel
theorem d_M_pane_148 : decode q_M_pane.2.1 148 = .ok (.iconst (-1), 1) := by decide +kernel
theorem d_M_pane_149 : decode q_M_pane.2.1 149 = .ok (.goto 23, 3) := by decide +kernel
theorem d_M_pane_152 : decode q_M_pane.2.1 152 = .ok (.iload 6, 2) := by decide +kernel
theorem d_M_pane_154 : decode q_M_pane.2.1 154 = .ok (.iload 5, 2) := by decide +kernel
theorem d_M_pane_156 : decode q_M_pane.2.1 156 = .ok (.imul, 1) := by decide +kernel
theorem d_M_pane_157 : decode q_M_pane.2.1 157 = .ok (.iload 4, 2) := by decide +kernel
theorem d_M_pane_159 : decode q_M_pane.2.1 159 = .ok (.iload 7, 2) := by decide +kernel
theorem d_M_pane_161 : decode q_M_pane.2.1 161 = .ok (.imul, 1) := by decide +kernel
theorem d_M_pane_162 : decode q_M_pane.2.1 162 = .ok (.isub, 1) := by decide +kernel
theorem d_M_pane_163 : decode q_M_pane.2.1 163 = .ok (.iload 7, 2) := by decide +kernel
theorem d_M_pane_165 : decode q_M_pane.2.1 165 = .ok (.iload 5, 2) := by decide +kernel
theorem d_M_pane_167 : decode q_M_pane.2.1 167 = .ok (.imul, 1) := by decide +kernel
theorem d_M_pane_168 : decode q_M_pane.2.1 168 = .ok (.iload_n 3, 1) := by decide +kernel
theorem d_M_pane_172 : decode q_M_pane.2.1 172 = .ok (.ireturn, 1) := by decide +kernel
theorem d_M_pane_169 : decode q_M_pane.2.1 169 = .ok (.invokestatic 371, 3) := by decide +kernel
theorem d_M_pane_58 : decode q_M_pane.2.1 58 = .ok (.aload_n 0, 1) := by decide +kernel
theorem d_M_pane_59 : decode q_M_pane.2.1 59 = .ok (.iload_n 1, 1) := by decide +kernel
theorem d_M_pane_60 : decode q_M_pane.2.1 60 = .ok (.iload 8, 2) := by decide +kernel
theorem d_M_pane_62 : decode q_M_pane.2.1 62 = .ok (.iload_n 2, 1) := by decide +kernel
theorem d_M_pane_63 : decode q_M_pane.2.1 63 = .ok (.invokevirtual 368, 3) := by decide +kernel
theorem d_M_pane_66 : decode q_M_pane.2.1 66 = .ok (.ifCond .eq 71, 3) := by decide +kernel
theorem d_M_pane_69 : decode q_M_pane.2.1 69 = .ok (.iload 5, 2) := by decide +kernel
theorem d_M_pane_71 : decode q_M_pane.2.1 71 = .ok (.ifCond .eq 20, 3) := by decide +kernel
theorem d_M_pane_91 : decode q_M_pane.2.1 91 = .ok (.aload_n 0, 1) := by decide +kernel
theorem d_M_pane_92 : decode q_M_pane.2.1 92 = .ok (.getfield 362, 3) := by decide +kernel
theorem d_M_pane_95 : decode q_M_pane.2.1 95 = .ok (.istore 4, 2) := by decide +kernel
theorem d_M_pane_97 : decode q_M_pane.2.1 97 = .ok (.aload_n 0, 1) := by decide +kernel
theorem d_M_pane_98 : decode q_M_pane.2.1 98 = .ok (.getfield 365, 3) := by decide +kernel
theorem d_M_pane_101 : decode q_M_pane.2.1 101 = .ok (.istore 5, 2) := by decide +kernel
theorem d_M_pane_103 : decode q_M_pane.2.1 103 = .ok (.iload 7, 2) := by decide +kernel
theorem d_M_pane_105 : decode q_M_pane.2.1 105 = .ok (.ifCond .eq 20, 3) := by decide +kernel
theorem d_M_pane_125 : decode q_M_pane.2.1 125 = .ok (.aload_n 0, 1) := by decide +kernel
theorem d_M_pane_126 : decode q_M_pane.2.1 126 = .ok (.getfield 362, 3) := by decide +kernel
theorem d_M_pane_129 : decode q_M_pane.2.1 129 = .ok (.istore 6, 2) := by decide +kernel
theorem d_M_pane_131 : decode q_M_pane.2.1 131 = .ok (.aload_n 0, 1) := by decide +kernel
theorem d_M_pane_132 : decode q_M_pane.2.1 132 = .ok (.getfield 365, 3) := by decide +kernel
theorem d_M_pane_135 : decode q_M_pane.2.1 135 = .ok (.istore 7, 2) := by decide +kernel
theorem d_M_pane_108 : decode q_M_pane.2.1 108 = .ok (.aload_n 0, 1) := by decide +kernel
theorem d_M_pane_109 : decode q_M_pane.2.1 109 = .ok (.getfield 362, 3) := by decide +kernel
theorem d_M_pane_112 : decode q_M_pane.2.1 112 = .ok (.iload 7, 2) := by decide +kernel
theorem d_M_pane_114 : decode q_M_pane.2.1 114 = .ok (.imul, 1) := by decide +kernel
theorem d_M_pane_115 : decode q_M_pane.2.1 115 = .ok (.iload 6, 2) := by decide +kernel
theorem d_M_pane_117 : decode q_M_pane.2.1 117 = .ok (.aload_n 0, 1) := by decide +kernel
theorem d_M_pane_118 : decode q_M_pane.2.1 118 = .ok (.getfield 365, 3) := by decide +kernel
theorem d_M_pane_121 : decode q_M_pane.2.1 121 = .ok (.imul, 1) := by decide +kernel
theorem d_M_pane_122 : decode q_M_pane.2.1 122 = .ok (.if_icmp .le 15, 3) := by decide +kernel
theorem d_M_pane_74 : decode q_M_pane.2.1 74 = .ok (.aload_n 0, 1) := by decide +kernel
theorem d_M_pane_75 : decode q_M_pane.2.1 75 = .ok (.getfield 362, 3) := by decide +kernel
theorem d_M_pane_78 : decode q_M_pane.2.1 78 = .ok (.iload 5, 2) := by decide +kernel
theorem d_M_pane_80 : decode q_M_pane.2.1 80 = .ok (.imul, 1) := by decide +kernel
theorem d_M_pane_81 : decode q_M_pane.2.1 81 = .ok (.iload 4, 2) := by decide +kernel
theorem d_M_pane_83 : decode q_M_pane.2.1 83 = .ok (.aload_n 0, 1) := by decide +kernel
theorem d_M_pane_84 : decode q_M_pane.2.1 84 = .ok (.getfield 365, 3) := by decide +kernel
theorem d_M_pane_87 : decode q_M_pane.2.1 87 = .ok (.imul, 1) := by decide +kernel
theorem d_M_pane_88 : decode q_M_pane.2.1 88 = .ok (.if_icmp .ge 15, 3) := by decide +kernel
theorem d_Ba_cushionsRound_0 : decode q_Ba_cushionsRound.2.1 0 = .ok (.aload_n 0, 1) := by decide +kernel
theorem d_Ba_cushionsRound_1 : decode q_Ba_cushionsRound.2.1 1 = .ok (.getfield 15, 3) := by decide +kernel
theorem d_Ba_cushionsRound_4 : decode q_Ba_cushionsRound.2.1 4 = .ok (.getfield 32, 3) := by decide +kernel
theorem d_Ba_cushionsRound_7 : decode q_Ba_cushionsRound.2.1 7 = .ok (.iload_n 1, 1) := by decide +kernel
theorem d_Ba_cushionsRound_8 : decode q_Ba_cushionsRound.2.1 8 = .ok (.imul, 1) := by decide +kernel
theorem d_Ba_cushionsRound_9 : decode q_Ba_cushionsRound.2.1 9 = .ok (.istore_n 3, 1) := by decide +kernel
theorem d_Ba_cushionsRound_10 : decode q_Ba_cushionsRound.2.1 10 = .ok (.aload_n 0, 1) := by decide +kernel
theorem d_Ba_cushionsRound_11 : decode q_Ba_cushionsRound.2.1 11 = .ok (.getfield 15, 3) := by decide +kernel
theorem d_Ba_cushionsRound_14 : decode q_Ba_cushionsRound.2.1 14 = .ok (.getfield 19, 3) := by decide +kernel
theorem d_Ba_cushionsRound_17 : decode q_Ba_cushionsRound.2.1 17 = .ok (.iload_n 2, 1) := by decide +kernel
theorem d_Ba_cushionsRound_18 : decode q_Ba_cushionsRound.2.1 18 = .ok (.imul, 1) := by decide +kernel
theorem d_Ba_cushionsRound_19 : decode q_Ba_cushionsRound.2.1 19 = .ok (.istore 4, 2) := by decide +kernel
theorem d_Ba_cushionsRound_21 : decode q_Ba_cushionsRound.2.1 21 = .ok (.iload_n 3, 1) := by decide +kernel
theorem d_Ba_cushionsRound_22 : decode q_Ba_cushionsRound.2.1 22 = .ok (.iload 4, 2) := by decide +kernel
theorem d_Ba_cushionsRound_24 : decode q_Ba_cushionsRound.2.1 24 = .ok (.invokestatic 48, 3) := by decide +kernel
theorem ml_Ba_48 : rx_CN "GlassRoom$Ball" 48 q_GR_divisor 2 := ⟨⟨Or.inr (Or.inl rfl), (rx_s4 129 rfl rfl)⟩, ⟨(rx_s1 1 rfl rfl), q_GR_divisor_k, ⟨by decide, by decide, by decide +kernel⟩, by decide⟩⟩
theorem d_Ba_cushionsRound_27 : decode q_Ba_cushionsRound.2.1 27 = .ok (.istore 5, 2) := by decide +kernel
theorem d_Ba_cushionsRound_29 : decode q_Ba_cushionsRound.2.1 29 = .ok (.iload 5, 2) := by decide +kernel
theorem d_Ba_cushionsRound_31 : decode q_Ba_cushionsRound.2.1 31 = .ok (.ifCond .ne 7, 3) := by decide +kernel
theorem d_Ba_cushionsRound_34 : decode q_Ba_cushionsRound.2.1 34 = .ok (.iconst (-1), 1) := by decide +kernel
theorem d_Ba_cushionsRound_35 : decode q_Ba_cushionsRound.2.1 35 = .ok (.goto 15, 3) := by decide +kernel
theorem d_Ba_cushionsRound_38 : decode q_Ba_cushionsRound.2.1 38 = .ok (.iconst 2, 1) := by decide +kernel
theorem d_Ba_cushionsRound_39 : decode q_Ba_cushionsRound.2.1 39 = .ok (.iload_n 3, 1) := by decide +kernel
theorem d_Ba_cushionsRound_40 : decode q_Ba_cushionsRound.2.1 40 = .ok (.iload 5, 2) := by decide +kernel
theorem d_Ba_cushionsRound_42 : decode q_Ba_cushionsRound.2.1 42 = .ok (.idiv, 1) := by decide +kernel
theorem d_Ba_cushionsRound_43 : decode q_Ba_cushionsRound.2.1 43 = .ok (.iload 4, 2) := by decide +kernel
theorem d_Ba_cushionsRound_45 : decode q_Ba_cushionsRound.2.1 45 = .ok (.iload 5, 2) := by decide +kernel
theorem d_Ba_cushionsRound_47 : decode q_Ba_cushionsRound.2.1 47 = .ok (.idiv, 1) := by decide +kernel
theorem d_Ba_cushionsRound_48 : decode q_Ba_cushionsRound.2.1 48 = .ok (.iadd, 1) := by decide +kernel
theorem d_Ba_cushionsRound_49 : decode q_Ba_cushionsRound.2.1 49 = .ok (.imul, 1) := by decide +kernel
theorem d_Ba_cushionsRound_50 : decode q_Ba_cushionsRound.2.1 50 = .ok (.ireturn, 1) := by decide +kernel
theorem d_GR_round_0 : decode q_GR_round.2.1 0 = .ok (.aload_n 0, 1) := by decide +kernel
theorem d_GR_round_1 : decode q_GR_round.2.1 1 = .ok (.getfield 19, 3) := by decide +kernel
theorem d_GR_round_4 : decode q_GR_round.2.1 4 = .ok (.invokevirtual 171, 3) := by decide +kernel
theorem ml_GR_171 : rx_CV "GlassRoom" 171 q_Ha_stands 0 := ⟨⟨(rx_s3 145 rfl rfl), (rx_s3 58 rfl rfl), (rx_s3 59 rfl rfl)⟩, ⟨(rx_s1 3 rfl rfl), q_Ha_stands_k, ⟨by decide, by decide, by decide +kernel⟩, by decide⟩⟩
theorem d_GR_round_7 : decode q_GR_round.2.1 7 = .ok (.ifCond .eq 11, 3) := by decide +kernel
theorem d_GR_round_18 : decode q_GR_round.2.1 18 = .ok (.iconst (-1), 1) := by decide +kernel
theorem d_GR_round_19 : decode q_GR_round.2.1 19 = .ok (.ireturn, 1) := by decide +kernel
theorem d_GR_round_10 : decode q_GR_round.2.1 10 = .ok (.iload_n 1, 1) := by decide +kernel
theorem d_GR_round_11 : decode q_GR_round.2.1 11 = .ok (.iload_n 2, 1) := by decide +kernel
theorem d_GR_round_12 : decode q_GR_round.2.1 12 = .ok (.invokestatic 275, 3) := by decide +kernel
theorem d_GR_round_15 : decode q_GR_round.2.1 15 = .ok (.ifCond .ne 5, 3) := by decide +kernel
theorem d_GR_round_20 : decode q_GR_round.2.1 20 = .ok (.aload_n 0, 1) := by decide +kernel
theorem d_GR_round_21 : decode q_GR_round.2.1 21 = .ok (.getfield 82, 3) := by decide +kernel
theorem d_GR_round_24 : decode q_GR_round.2.1 24 = .ok (.iload_n 1, 1) := by decide +kernel
theorem d_GR_round_25 : decode q_GR_round.2.1 25 = .ok (.invokestatic 288, 3) := by decide +kernel
theorem d_GR_round_28 : decode q_GR_round.2.1 28 = .ok (.iload_n 2, 1) := by decide +kernel
theorem d_GR_round_29 : decode q_GR_round.2.1 29 = .ok (.invokestatic 288, 3) := by decide +kernel
theorem d_GR_round_32 : decode q_GR_round.2.1 32 = .ok (.invokevirtual 293, 3) := by decide +kernel
theorem ml_GR_293 : rx_CV "GlassRoom" 293 q_Ba_cushionsRound 2 := ⟨⟨(rx_s4 124 rfl rfl), (rx_s4 125 rfl rfl), (rx_s4 126 rfl rfl)⟩, ⟨(rx_s1 10 rfl rfl), q_Ba_cushionsRound_k, ⟨by decide, by decide, by decide +kernel⟩, by decide⟩⟩
theorem d_GR_round_35 : decode q_GR_round.2.1 35 = .ok (.ireturn, 1) := by decide +kernel
theorem d_Hg_become_0 : decode q_Hg_become.2.1 0 = .ok (.iload_n 1, 1) := by decide +kernel
theorem d_Hg_become_1 : decode q_Hg_become.2.1 1 = .ok (.iload_n 2, 1) := by decide +kernel
theorem d_Hg_become_2 : decode q_Hg_become.2.1 2 = .ok (.invokestatic 40, 3) := by decide +kernel
theorem ml_Hg_40 : rx_CN "GlassRoom$Hanger" 40 q_GR_divisor 2 := ⟨⟨Or.inr (Or.inr rfl), (rx_s4 129 rfl rfl)⟩, ⟨(rx_s1 1 rfl rfl), q_GR_divisor_k, ⟨by decide, by decide, by decide +kernel⟩, by decide⟩⟩
theorem d_Hg_become_5 : decode q_Hg_become.2.1 5 = .ok (.istore_n 3, 1) := by decide +kernel
theorem d_Hg_become_6 : decode q_Hg_become.2.1 6 = .ok (.iload_n 2, 1) := by decide +kernel
theorem d_Hg_become_7 : decode q_Hg_become.2.1 7 = .ok (.ifCond .le 7, 3) := by decide +kernel
theorem d_Hg_become_14 : decode q_Hg_become.2.1 14 = .ok (.iconst 0, 1) := by decide +kernel
theorem d_Hg_become_15 : decode q_Hg_become.2.1 15 = .ok (.ireturn, 1) := by decide +kernel
theorem d_Hg_become_10 : decode q_Hg_become.2.1 10 = .ok (.iload_n 3, 1) := by decide +kernel
theorem d_Hg_become_11 : decode q_Hg_become.2.1 11 = .ok (.ifCond .gt 5, 3) := by decide +kernel
theorem d_Hg_become_16 : decode q_Hg_become.2.1 16 = .ok (.aload_n 0, 1) := by decide +kernel
theorem d_Hg_become_17 : decode q_Hg_become.2.1 17 = .ok (.iload_n 1, 1) := by decide +kernel
theorem d_Hg_become_18 : decode q_Hg_become.2.1 18 = .ok (.iload_n 3, 1) := by decide +kernel
theorem d_Hg_become_19 : decode q_Hg_become.2.1 19 = .ok (.idiv, 1) := by decide +kernel
theorem d_Hg_become_20 : decode q_Hg_become.2.1 20 = .ok (.putfield 34, 3) := by decide +kernel
theorem fp_Hg_34 : rx_FP "GlassRoom$Hanger" 34 5 1 (.int) := ⟨(RX5, TX5, 3), tyX5, rfl, by decide, (rx_s2 68 rfl rfl), rx_T5, tyX5_ok, nmX5, rfl, rfl⟩
theorem d_Hg_become_23 : decode q_Hg_become.2.1 23 = .ok (.aload_n 0, 1) := by decide +kernel
theorem d_Hg_become_24 : decode q_Hg_become.2.1 24 = .ok (.iload_n 2, 1) := by decide +kernel
theorem d_Hg_become_25 : decode q_Hg_become.2.1 25 = .ok (.iload_n 3, 1) := by decide +kernel
theorem d_Hg_become_26 : decode q_Hg_become.2.1 26 = .ok (.idiv, 1) := by decide +kernel
theorem d_Hg_become_27 : decode q_Hg_become.2.1 27 = .ok (.putfield 37, 3) := by decide +kernel
theorem fp_Hg_37 : rx_FP "GlassRoom$Hanger" 37 5 2 (.int) := ⟨(RX5, TX5, 3), tyX5, rfl, by decide, (rx_s2 70 rfl rfl), rx_T5, tyX5_ok, nmX5, rfl, rfl⟩
theorem d_Hg_become_30 : decode q_Hg_become.2.1 30 = .ok (.iconst 1, 1) := by decide +kernel
theorem d_Hg_become_31 : decode q_Hg_become.2.1 31 = .ok (.ireturn, 1) := by decide +kernel
theorem d_Hg_place_0 : decode q_Hg_place.2.1 0 = .ok (.aload_n 0, 1) := by decide +kernel
theorem d_Hg_place_1 : decode q_Hg_place.2.1 1 = .ok (.iload_n 1, 1) := by decide +kernel
theorem d_Hg_place_2 : decode q_Hg_place.2.1 2 = .ok (.iload_n 3, 1) := by decide +kernel
theorem d_Hg_place_3 : decode q_Hg_place.2.1 3 = .ok (.invokevirtual 13, 3) := by decide +kernel
theorem ml_Hg_13 : rx_CV "GlassRoom$Hanger" 13 q_Hg_offWall 2 := ⟨⟨(rx_s4 158 rfl rfl), (rx_s4 160 rfl rfl), (rx_s0 17 rfl rfl)⟩, ⟨(rx_s1 11 rfl rfl), q_Hg_offWall_k, ⟨by decide, by decide, by decide +kernel⟩, by decide⟩⟩
theorem d_Hg_place_6 : decode q_Hg_place.2.1 6 = .ok (.istore 4, 2) := by decide +kernel
theorem d_Hg_place_8 : decode q_Hg_place.2.1 8 = .ok (.aload_n 0, 1) := by decide +kernel
theorem d_Hg_place_9 : decode q_Hg_place.2.1 9 = .ok (.iload_n 2, 1) := by decide +kernel
theorem d_Hg_place_10 : decode q_Hg_place.2.1 10 = .ok (.iload_n 3, 1) := by decide +kernel
theorem d_Hg_place_11 : decode q_Hg_place.2.1 11 = .ok (.invokevirtual 13, 3) := by decide +kernel
theorem d_Hg_place_14 : decode q_Hg_place.2.1 14 = .ok (.istore 5, 2) := by decide +kernel
theorem d_Hg_place_16 : decode q_Hg_place.2.1 16 = .ok (.aload_n 0, 1) := by decide +kernel
theorem d_Hg_place_17 : decode q_Hg_place.2.1 17 = .ok (.aload_n 0, 1) := by decide +kernel
theorem d_Hg_place_18 : decode q_Hg_place.2.1 18 = .ok (.iload_n 1, 1) := by decide +kernel
theorem d_Hg_place_19 : decode q_Hg_place.2.1 19 = .ok (.iload_n 3, 1) := by decide +kernel
theorem d_Hg_place_20 : decode q_Hg_place.2.1 20 = .ok (.invokevirtual 17, 3) := by decide +kernel
theorem ml_Hg_17 : rx_CV "GlassRoom$Hanger" 17 q_Hg_alongWall 2 := ⟨⟨(rx_s4 162 rfl rfl), (rx_s4 164 rfl rfl), (rx_s0 18 rfl rfl)⟩, ⟨(rx_s1 11 rfl rfl), q_Hg_alongWall_k, ⟨by decide, by decide, by decide +kernel⟩, by decide⟩⟩
theorem d_Hg_place_23 : decode q_Hg_place.2.1 23 = .ok (.iload 5, 2) := by decide +kernel
theorem d_Hg_place_25 : decode q_Hg_place.2.1 25 = .ok (.imul, 1) := by decide +kernel
theorem d_Hg_place_26 : decode q_Hg_place.2.1 26 = .ok (.aload_n 0, 1) := by decide +kernel
theorem d_Hg_place_27 : decode q_Hg_place.2.1 27 = .ok (.iload_n 2, 1) := by decide +kernel
theorem d_Hg_place_28 : decode q_Hg_place.2.1 28 = .ok (.iload_n 3, 1) := by decide +kernel
theorem d_Hg_place_29 : decode q_Hg_place.2.1 29 = .ok (.invokevirtual 17, 3) := by decide +kernel
theorem d_Hg_place_32 : decode q_Hg_place.2.1 32 = .ok (.iload 4, 2) := by decide +kernel
theorem d_Hg_place_34 : decode q_Hg_place.2.1 34 = .ok (.imul, 1) := by decide +kernel
theorem d_Hg_place_35 : decode q_Hg_place.2.1 35 = .ok (.iadd, 1) := by decide +kernel
theorem d_Hg_place_36 : decode q_Hg_place.2.1 36 = .ok (.iload 4, 2) := by decide +kernel
theorem d_Hg_place_38 : decode q_Hg_place.2.1 38 = .ok (.iload 5, 2) := by decide +kernel
theorem d_Hg_place_40 : decode q_Hg_place.2.1 40 = .ok (.iadd, 1) := by decide +kernel
theorem d_Hg_place_41 : decode q_Hg_place.2.1 41 = .ok (.invokevirtual 20, 3) := by decide +kernel
theorem ml_Hg_20 : rx_CV "GlassRoom$Hanger" 20 q_Hg_become 2 := ⟨⟨(rx_s4 166 rfl rfl), (rx_s4 168 rfl rfl), (rx_s0 19 rfl rfl)⟩, ⟨(rx_s1 11 rfl rfl), q_Hg_become_k, ⟨by decide, by decide, by decide +kernel⟩, by decide⟩⟩
theorem d_Hg_place_44 : decode q_Hg_place.2.1 44 = .ok (.ireturn, 1) := by decide +kernel
theorem d_Hg_span_0 : decode q_Hg_span.2.1 0 = .ok (.iconst 0, 1) := by decide +kernel
theorem d_Hg_span_1 : decode q_Hg_span.2.1 1 = .ok (.istore_n 3, 1) := by decide +kernel
theorem d_Hg_span_2 : decode q_Hg_span.2.1 2 = .ok (.iconst 0, 1) := by decide +kernel
theorem d_Hg_span_3 : decode q_Hg_span.2.1 3 = .ok (.istore 4, 2) := by decide +kernel
theorem d_Hg_span_5 : decode q_Hg_span.2.1 5 = .ok (.iconst 0, 1) := by decide +kernel
theorem d_Hg_span_6 : decode q_Hg_span.2.1 6 = .ok (.istore 5, 2) := by decide +kernel
theorem d_Hg_span_8 : decode q_Hg_span.2.1 8 = .ok (.iconst 0, 1) := by decide +kernel
theorem d_Hg_span_9 : decode q_Hg_span.2.1 9 = .ok (.istore 6, 2) := by decide +kernel
theorem d_Hg_span_11 : decode q_Hg_span.2.1 11 = .ok (.iconst 0, 1) := by decide +kernel
theorem d_Hg_span_12 : decode q_Hg_span.2.1 12 = .ok (.istore 7, 2) := by decide +kernel
theorem d_Hg_span_14 : decode q_Hg_span.2.1 14 = .ok (.iload 7, 2) := by decide +kernel
theorem d_Hg_span_16 : decode q_Hg_span.2.1 16 = .ok (.aload_n 0, 1) := by decide +kernel
theorem d_Hg_span_17 : decode q_Hg_span.2.1 17 = .ok (.getfield 7, 3) := by decide +kernel
theorem d_Hg_span_20 : decode q_Hg_span.2.1 20 = .ok (.getfield 24, 3) := by decide +kernel
theorem fl_Hg_24 : rx_F "GlassRoom$Hanger" 24 3 4 := ⟨(RX3, TX3, 9), rfl, by decide, (rx_s1 83 rfl rfl), rx_T3⟩
theorem d_Hg_span_23 : decode q_Hg_span.2.1 23 = .ok (.if_icmp .ge 92, 3) := by decide +kernel
theorem d_Hg_span_26 : decode q_Hg_span.2.1 26 = .ok (.iload 7, 2) := by decide +kernel
theorem d_Hg_span_28 : decode q_Hg_span.2.1 28 = .ok (.iload_n 1, 1) := by decide +kernel
theorem d_Hg_span_29 : decode q_Hg_span.2.1 29 = .ok (.if_icmp .eq 80, 3) := by decide +kernel
theorem d_Hg_span_109 : decode q_Hg_span.2.1 109 = .ok (.iinc 7 1, 3) := by decide +kernel
theorem d_Hg_span_112 : decode q_Hg_span.2.1 112 = .ok (.goto (-98), 3) := by decide +kernel
theorem d_Hg_span_115 : decode q_Hg_span.2.1 115 = .ok (.aload_n 0, 1) := by decide +kernel
theorem d_Hg_span_116 : decode q_Hg_span.2.1 116 = .ok (.iload 5, 2) := by decide +kernel
theorem d_Hg_span_118 : decode q_Hg_span.2.1 118 = .ok (.iload 4, 2) := by decide +kernel
theorem d_Hg_span_120 : decode q_Hg_span.2.1 120 = .ok (.imul, 1) := by decide +kernel
theorem d_Hg_span_121 : decode q_Hg_span.2.1 121 = .ok (.iload_n 3, 1) := by decide +kernel
theorem d_Hg_span_122 : decode q_Hg_span.2.1 122 = .ok (.iload 6, 2) := by decide +kernel
theorem d_Hg_span_124 : decode q_Hg_span.2.1 124 = .ok (.imul, 1) := by decide +kernel
theorem d_Hg_span_125 : decode q_Hg_span.2.1 125 = .ok (.isub, 1) := by decide +kernel
theorem d_Hg_span_126 : decode q_Hg_span.2.1 126 = .ok (.iload 6, 2) := by decide +kernel
theorem d_Hg_span_128 : decode q_Hg_span.2.1 128 = .ok (.iload 4, 2) := by decide +kernel
theorem d_Hg_span_130 : decode q_Hg_span.2.1 130 = .ok (.imul, 1) := by decide +kernel
theorem d_Hg_span_131 : decode q_Hg_span.2.1 131 = .ok (.invokevirtual 20, 3) := by decide +kernel
theorem d_Hg_span_134 : decode q_Hg_span.2.1 134 = .ok (.ireturn, 1) := by decide +kernel
theorem d_Hg_span_32 : decode q_Hg_span.2.1 32 = .ok (.aload_n 0, 1) := by decide +kernel
theorem d_Hg_span_33 : decode q_Hg_span.2.1 33 = .ok (.iload_n 1, 1) := by decide +kernel
theorem d_Hg_span_34 : decode q_Hg_span.2.1 34 = .ok (.iload 7, 2) := by decide +kernel
theorem d_Hg_span_36 : decode q_Hg_span.2.1 36 = .ok (.iload_n 2, 1) := by decide +kernel
theorem d_Hg_span_37 : decode q_Hg_span.2.1 37 = .ok (.invokevirtual 30, 3) := by decide +kernel
theorem ml_Hg_30 : rx_CV "GlassRoom$Hanger" 30 q_Hg_place 3 := ⟨⟨(rx_s4 179 rfl rfl), (rx_s4 155 rfl rfl), (rx_s4 156 rfl rfl)⟩, ⟨(rx_s1 11 rfl rfl), q_Hg_place_k, ⟨by decide, by decide, by decide +kernel⟩, by decide⟩⟩
theorem d_Hg_span_40 : decode q_Hg_span.2.1 40 = .ok (.ifCond .eq 69, 3) := by decide +kernel
theorem d_Hg_span_43 : decode q_Hg_span.2.1 43 = .ok (.iload 4, 2) := by decide +kernel
theorem d_Hg_span_45 : decode q_Hg_span.2.1 45 = .ok (.ifCond .eq 19, 3) := by decide +kernel
theorem d_Hg_span_64 : decode q_Hg_span.2.1 64 = .ok (.aload_n 0, 1) := by decide +kernel
theorem d_Hg_span_65 : decode q_Hg_span.2.1 65 = .ok (.getfield 34, 3) := by decide +kernel
theorem fl_Hg_34 : rx_F "GlassRoom$Hanger" 34 5 1 := ⟨(RX5, TX5, 3), rfl, by decide, (rx_s2 68 rfl rfl), rx_T5⟩
theorem d_Hg_span_68 : decode q_Hg_span.2.1 68 = .ok (.istore_n 3, 1) := by decide +kernel
theorem d_Hg_span_69 : decode q_Hg_span.2.1 69 = .ok (.aload_n 0, 1) := by decide +kernel
theorem d_Hg_span_70 : decode q_Hg_span.2.1 70 = .ok (.getfield 37, 3) := by decide +kernel
theorem fl_Hg_37 : rx_F "GlassRoom$Hanger" 37 5 2 := ⟨(RX5, TX5, 3), rfl, by decide, (rx_s2 70 rfl rfl), rx_T5⟩
theorem d_Hg_span_73 : decode q_Hg_span.2.1 73 = .ok (.istore 4, 2) := by decide +kernel
theorem d_Hg_span_75 : decode q_Hg_span.2.1 75 = .ok (.iload 6, 2) := by decide +kernel
theorem d_Hg_span_77 : decode q_Hg_span.2.1 77 = .ok (.ifCond .eq 20, 3) := by decide +kernel
theorem d_Hg_span_97 : decode q_Hg_span.2.1 97 = .ok (.aload_n 0, 1) := by decide +kernel
theorem d_Hg_span_98 : decode q_Hg_span.2.1 98 = .ok (.getfield 34, 3) := by decide +kernel
theorem d_Hg_span_101 : decode q_Hg_span.2.1 101 = .ok (.istore 5, 2) := by decide +kernel
theorem d_Hg_span_103 : decode q_Hg_span.2.1 103 = .ok (.aload_n 0, 1) := by decide +kernel
theorem d_Hg_span_104 : decode q_Hg_span.2.1 104 = .ok (.getfield 37, 3) := by decide +kernel
theorem d_Hg_span_107 : decode q_Hg_span.2.1 107 = .ok (.istore 6, 2) := by decide +kernel
theorem d_Hg_span_80 : decode q_Hg_span.2.1 80 = .ok (.aload_n 0, 1) := by decide +kernel
theorem d_Hg_span_81 : decode q_Hg_span.2.1 81 = .ok (.getfield 34, 3) := by decide +kernel
theorem d_Hg_span_84 : decode q_Hg_span.2.1 84 = .ok (.iload 6, 2) := by decide +kernel
theorem d_Hg_span_86 : decode q_Hg_span.2.1 86 = .ok (.imul, 1) := by decide +kernel
theorem d_Hg_span_87 : decode q_Hg_span.2.1 87 = .ok (.iload 5, 2) := by decide +kernel
theorem d_Hg_span_89 : decode q_Hg_span.2.1 89 = .ok (.aload_n 0, 1) := by decide +kernel
theorem d_Hg_span_90 : decode q_Hg_span.2.1 90 = .ok (.getfield 37, 3) := by decide +kernel
theorem d_Hg_span_93 : decode q_Hg_span.2.1 93 = .ok (.imul, 1) := by decide +kernel
theorem d_Hg_span_94 : decode q_Hg_span.2.1 94 = .ok (.if_icmp .le 15, 3) := by decide +kernel
theorem d_Hg_span_48 : decode q_Hg_span.2.1 48 = .ok (.aload_n 0, 1) := by decide +kernel
theorem d_Hg_span_49 : decode q_Hg_span.2.1 49 = .ok (.getfield 34, 3) := by decide +kernel
theorem d_Hg_span_52 : decode q_Hg_span.2.1 52 = .ok (.iload 4, 2) := by decide +kernel
theorem d_Hg_span_54 : decode q_Hg_span.2.1 54 = .ok (.imul, 1) := by decide +kernel
theorem d_Hg_span_55 : decode q_Hg_span.2.1 55 = .ok (.iload_n 3, 1) := by decide +kernel
theorem d_Hg_span_56 : decode q_Hg_span.2.1 56 = .ok (.aload_n 0, 1) := by decide +kernel
theorem d_Hg_span_57 : decode q_Hg_span.2.1 57 = .ok (.getfield 37, 3) := by decide +kernel
theorem d_Hg_span_60 : decode q_Hg_span.2.1 60 = .ok (.imul, 1) := by decide +kernel
theorem d_Hg_span_61 : decode q_Hg_span.2.1 61 = .ok (.if_icmp .ge 14, 3) := by decide +kernel
theorem d_GR_hang_0 : decode q_GR_hang.2.1 0 = .ok (.aload_n 0, 1) := by decide +kernel
theorem d_GR_hang_1 : decode q_GR_hang.2.1 1 = .ok (.getfield 19, 3) := by decide +kernel
theorem d_GR_hang_4 : decode q_GR_hang.2.1 4 = .ok (.iload_n 1, 1) := by decide +kernel
theorem d_GR_hang_5 : decode q_GR_hang.2.1 5 = .ok (.invokevirtual 144, 3) := by decide +kernel
theorem d_GR_hang_8 : decode q_GR_hang.2.1 8 = .ok (.ifCond .eq 28, 3) := by decide +kernel
theorem d_GR_hang_36 : decode q_GR_hang.2.1 36 = .ok (.iconst (-1), 1) := by decide +kernel
theorem d_GR_hang_37 : decode q_GR_hang.2.1 37 = .ok (.ireturn, 1) := by decide +kernel
theorem d_GR_hang_11 : decode q_GR_hang.2.1 11 = .ok (.aload_n 0, 1) := by decide +kernel
theorem d_GR_hang_12 : decode q_GR_hang.2.1 12 = .ok (.getfield 19, 3) := by decide +kernel
theorem d_GR_hang_15 : decode q_GR_hang.2.1 15 = .ok (.iload_n 2, 1) := by decide +kernel
theorem d_GR_hang_16 : decode q_GR_hang.2.1 16 = .ok (.invokevirtual 144, 3) := by decide +kernel
theorem d_GR_hang_19 : decode q_GR_hang.2.1 19 = .ok (.ifCond .eq 17, 3) := by decide +kernel
theorem d_GR_hang_22 : decode q_GR_hang.2.1 22 = .ok (.iload_n 1, 1) := by decide +kernel
theorem d_GR_hang_23 : decode q_GR_hang.2.1 23 = .ok (.iload_n 2, 1) := by decide +kernel
theorem d_GR_hang_24 : decode q_GR_hang.2.1 24 = .ok (.if_icmp .eq 12, 3) := by decide +kernel
theorem d_GR_hang_27 : decode q_GR_hang.2.1 27 = .ok (.iload_n 3, 1) := by decide +kernel
theorem d_GR_hang_28 : decode q_GR_hang.2.1 28 = .ok (.iload 4, 2) := by decide +kernel
theorem d_GR_hang_30 : decode q_GR_hang.2.1 30 = .ok (.invokestatic 299, 3) := by decide +kernel
theorem ml_GR_299 : rx_CS "GlassRoom" 299 q_GR_isWallPart 2 := ⟨⟨(rx_s4 151 rfl rfl), (rx_s4 152 rfl rfl)⟩, ⟨(rx_s1 1 rfl rfl), q_GR_isWallPart_k, ⟨by decide, by decide, by decide +kernel⟩, by decide⟩⟩
theorem d_GR_hang_33 : decode q_GR_hang.2.1 33 = .ok (.ifCond .ne 5, 3) := by decide +kernel
theorem d_GR_hang_38 : decode q_GR_hang.2.1 38 = .ok (.aload_n 0, 1) := by decide +kernel
theorem d_GR_hang_39 : decode q_GR_hang.2.1 39 = .ok (.getfield 89, 3) := by decide +kernel
theorem fl_GR_89 : rx_F "GlassRoom" 89 11 12 := ⟨(RX11, TX11, 17), rfl, by decide, (rx_s2 111 rfl rfl), rx_T11⟩
theorem d_GR_hang_42 : decode q_GR_hang.2.1 42 = .ok (.iload_n 1, 1) := by decide +kernel
theorem d_GR_hang_43 : decode q_GR_hang.2.1 43 = .ok (.iload_n 2, 1) := by decide +kernel
theorem d_GR_hang_44 : decode q_GR_hang.2.1 44 = .ok (.iload_n 3, 1) := by decide +kernel
theorem d_GR_hang_45 : decode q_GR_hang.2.1 45 = .ok (.invokevirtual 302, 3) := by decide +kernel
theorem ml_GR_302 : rx_CV "GlassRoom" 302 q_Hg_place 3 := ⟨⟨(rx_s4 154 rfl rfl), (rx_s4 155 rfl rfl), (rx_s4 156 rfl rfl)⟩, ⟨(rx_s1 11 rfl rfl), q_Hg_place_k, ⟨by decide, by decide, by decide +kernel⟩, by decide⟩⟩
theorem d_GR_hang_48 : decode q_GR_hang.2.1 48 = .ok (.ifCond .ne 5, 3) := by decide +kernel
theorem d_GR_hang_51 : decode q_GR_hang.2.1 51 = .ok (.iconst (-1), 1) := by decide +kernel
theorem d_GR_hang_52 : decode q_GR_hang.2.1 52 = .ok (.ireturn, 1) := by decide +kernel
theorem d_GR_hang_53 : decode q_GR_hang.2.1 53 = .ok (.iload 4, 2) := by decide +kernel
theorem d_GR_hang_55 : decode q_GR_hang.2.1 55 = .ok (.ifCond .ne 13, 3) := by decide +kernel
theorem d_GR_hang_58 : decode q_GR_hang.2.1 58 = .ok (.aload_n 0, 1) := by decide +kernel
theorem d_GR_hang_59 : decode q_GR_hang.2.1 59 = .ok (.getfield 89, 3) := by decide +kernel
theorem d_GR_hang_62 : decode q_GR_hang.2.1 62 = .ok (.getfield 305, 3) := by decide +kernel
theorem fl_GR_305 : rx_F "GlassRoom" 305 5 1 := ⟨(RX5, TX5, 3), rfl, by decide, (rx_s2 69 rfl rfl), rx_T5⟩
theorem d_GR_hang_65 : decode q_GR_hang.2.1 65 = .ok (.goto 10, 3) := by decide +kernel
theorem d_GR_hang_68 : decode q_GR_hang.2.1 68 = .ok (.aload_n 0, 1) := by decide +kernel
theorem d_GR_hang_69 : decode q_GR_hang.2.1 69 = .ok (.getfield 89, 3) := by decide +kernel
theorem d_GR_hang_72 : decode q_GR_hang.2.1 72 = .ok (.getfield 308, 3) := by decide +kernel
theorem fl_GR_308 : rx_F "GlassRoom" 308 5 2 := ⟨(RX5, TX5, 3), rfl, by decide, (rx_s2 71 rfl rfl), rx_T5⟩
theorem d_GR_hang_75 : decode q_GR_hang.2.1 75 = .ok (.ireturn, 1) := by decide +kernel
theorem d_GR_pane_0 : decode q_GR_pane.2.1 0 = .ok (.aload_n 0, 1) := by decide +kernel
theorem d_GR_pane_1 : decode q_GR_pane.2.1 1 = .ok (.getfield 19, 3) := by decide +kernel
theorem d_GR_pane_4 : decode q_GR_pane.2.1 4 = .ok (.iload_n 1, 1) := by decide +kernel
theorem d_GR_pane_5 : decode q_GR_pane.2.1 5 = .ok (.invokevirtual 144, 3) := by decide +kernel
theorem d_GR_pane_8 : decode q_GR_pane.2.1 8 = .ok (.ifCond .eq 23, 3) := by decide +kernel
theorem d_GR_pane_31 : decode q_GR_pane.2.1 31 = .ok (.iconst (-1), 1) := by decide +kernel
theorem d_GR_pane_32 : decode q_GR_pane.2.1 32 = .ok (.ireturn, 1) := by decide +kernel
theorem d_GR_pane_11 : decode q_GR_pane.2.1 11 = .ok (.iload_n 2, 1) := by decide +kernel
theorem d_GR_pane_12 : decode q_GR_pane.2.1 12 = .ok (.iload_n 3, 1) := by decide +kernel
theorem d_GR_pane_13 : decode q_GR_pane.2.1 13 = .ok (.invokestatic 299, 3) := by decide +kernel
theorem d_GR_pane_16 : decode q_GR_pane.2.1 16 = .ok (.ifCond .eq 15, 3) := by decide +kernel
theorem d_GR_pane_19 : decode q_GR_pane.2.1 19 = .ok (.aload_n 0, 1) := by decide +kernel
theorem d_GR_pane_20 : decode q_GR_pane.2.1 20 = .ok (.getfield 89, 3) := by decide +kernel
theorem d_GR_pane_23 : decode q_GR_pane.2.1 23 = .ok (.iload_n 1, 1) := by decide +kernel
theorem d_GR_pane_24 : decode q_GR_pane.2.1 24 = .ok (.iload_n 2, 1) := by decide +kernel
theorem d_GR_pane_25 : decode q_GR_pane.2.1 25 = .ok (.invokevirtual 311, 3) := by decide +kernel
theorem ml_GR_311 : rx_CV "GlassRoom" 311 q_Hg_span 2 := ⟨⟨(rx_s4 175 rfl rfl), (rx_s4 176 rfl rfl), (rx_s4 177 rfl rfl)⟩, ⟨(rx_s1 11 rfl rfl), q_Hg_span_k, ⟨by decide, by decide, by decide +kernel⟩, by decide⟩⟩
theorem d_GR_pane_28 : decode q_GR_pane.2.1 28 = .ok (.ifCond .ne 5, 3) := by decide +kernel
theorem d_GR_pane_33 : decode q_GR_pane.2.1 33 = .ok (.iload_n 3, 1) := by decide +kernel
theorem d_GR_pane_34 : decode q_GR_pane.2.1 34 = .ok (.ifCond .ne 13, 3) := by decide +kernel
theorem d_GR_pane_37 : decode q_GR_pane.2.1 37 = .ok (.aload_n 0, 1) := by decide +kernel
theorem d_GR_pane_38 : decode q_GR_pane.2.1 38 = .ok (.getfield 89, 3) := by decide +kernel
theorem d_GR_pane_41 : decode q_GR_pane.2.1 41 = .ok (.getfield 305, 3) := by decide +kernel
theorem d_GR_pane_44 : decode q_GR_pane.2.1 44 = .ok (.goto 10, 3) := by decide +kernel
theorem d_GR_pane_47 : decode q_GR_pane.2.1 47 = .ok (.aload_n 0, 1) := by decide +kernel
theorem d_GR_pane_48 : decode q_GR_pane.2.1 48 = .ok (.getfield 89, 3) := by decide +kernel
theorem d_GR_pane_51 : decode q_GR_pane.2.1 51 = .ok (.getfield 308, 3) := by decide +kernel
theorem d_GR_pane_54 : decode q_GR_pane.2.1 54 = .ok (.ireturn, 1) := by decide +kernel
set_option maxHeartbeats 4000000 in
set_option maxRecDepth 20000 in
theorem w_M_round {G : rx_Gh} {hp : rx_Hp} {F : Int32 → rx_Hp → Prop} (a1 : Int32) (a2 : Int32) (H : ((hp.1 0 23) = 0 → F (-1) hp) ∧ (¬ (hp.1 0 23) = 0 → ((f_M_in a1 (-9) 9) = 0 → F (-1) hp) ∧ (¬ (f_M_in a1 (-9) 9) = 0 → ((f_M_in a2 (-9) 9) = 0 → F (-1) hp) ∧ (¬ (f_M_in a2 (-9) 9) = 0 → (a1 = 0 → (a2 = 0 → F (-1) hp) ∧ (¬ a2 = 0 → p_M_divisor ((hp.1 0 25) * (f_Mt_abs a1)) ((hp.1 0 24) * (f_Mt_abs a2)) ∧ (¬ (f_M_divisor ((hp.1 0 25) * (f_Mt_abs a1)) ((hp.1 0 24) * (f_Mt_abs a2))) = 0 ∧ (F ((2 * (((hp.1 0 25) * (f_Mt_abs a1)) + ((hp.1 0 24) * (f_Mt_abs a2)))) / (f_M_divisor ((hp.1 0 25) * (f_Mt_abs a1)) ((hp.1 0 24) * (f_Mt_abs a2)))) hp)))) ∧ (¬ a1 = 0 → p_M_divisor ((hp.1 0 25) * (f_Mt_abs a1)) ((hp.1 0 24) * (f_Mt_abs a2)) ∧ (¬ (f_M_divisor ((hp.1 0 25) * (f_Mt_abs a1)) ((hp.1 0 24) * (f_Mt_abs a2))) = 0 ∧ (F ((2 * (((hp.1 0 25) * (f_Mt_abs a1)) + ((hp.1 0 24) * (f_Mt_abs a2)))) / (f_M_divisor ((hp.1 0 25) * (f_Mt_abs a1)) ((hp.1 0 24) * (f_Mt_abs a2)))) hp))))))) : Ev wM G 41 q_M_round [.ref 0, .int a1, .int a2] hp (rI F) := by
  refine ev_of rfl (Nat.le_of_ble_eq_true rfl) rfl ?_
  show Rn wM G 41 q_M_round 0 [some (.ref 0), some (.int a1), some (.int a2), none, none] [] hp (rI F)
  refine r_aload_n (i := 0) d_M_round_0 rfl rfl ?_
  refine r_getI (b := 0) (v := hp.1 0 23) d_M_round_1 fl_M_236 (by decide) rfl rfl rfl ?_
  refine r_if_eq (tgt := 37) d_M_round_4 (by decide) (fun hc_4 => ?_) (fun hc_4 => ?_)
  · replace H := H.1 hc_4
    refine r_iconst d_M_round_37 ic_m1 ?_
    exact rI_ret d_M_round_38 rfl H
  · replace H := H.2 hc_4
    refine r_iload_n (i := 1) d_M_round_7 rfl rfl ?_
    refine r_bipush d_M_round_8 bp_m9 ?_
    refine r_bipush d_M_round_10 bp_9 ?_
    refine rk_SI (d' := 1) [.int a1, .int (-9), .int 9] [] d_M_round_12 ml_M_198 rfl rfl (by decide) (Nat.le_of_ble_eq_true rfl) (s_M_in a1 (-9) 9 ?_)
    refine r_if_eq (tgt := 37) d_M_round_15 (by decide) (fun hc_15 => ?_) (fun hc_15 => ?_)
    · replace H := H.1 hc_15
      refine r_iconst d_M_round_37 ic_m1 ?_
      exact rI_ret d_M_round_38 rfl H
    · replace H := H.2 hc_15
      refine r_iload_n (i := 2) d_M_round_18 rfl rfl ?_
      refine r_bipush d_M_round_19 bp_m9 ?_
      refine r_bipush d_M_round_21 bp_9 ?_
      refine rk_SI (d' := 1) [.int a2, .int (-9), .int 9] [] d_M_round_23 ml_M_198 rfl rfl (by decide) (Nat.le_of_ble_eq_true rfl) (s_M_in a2 (-9) 9 ?_)
      refine r_if_eq (tgt := 37) d_M_round_26 (by decide) (fun hc_26 => ?_) (fun hc_26 => ?_)
      · replace H := H.1 hc_26
        refine r_iconst d_M_round_37 ic_m1 ?_
        exact rI_ret d_M_round_38 rfl H
      · replace H := H.2 hc_26
        refine r_iload_n (i := 1) d_M_round_29 rfl rfl ?_
        refine r_if_ne (tgt := 39) d_M_round_30 (by decide) (fun hc_30 => ?_) (fun hc_30 => ?_)
        · replace H := H.2 hc_30
          refine r_aload_n (i := 0) d_M_round_39 rfl rfl ?_
          refine r_getI (b := 0) (v := hp.1 0 25) d_M_round_40 fl_M_242 (by decide) rfl rfl rfl ?_
          refine r_iload_n (i := 1) d_M_round_43 rfl rfl ?_
          refine rk_SI (d' := 1) [.int a1] [.int (hp.1 0 25)] d_M_round_44 ml_M_295 rfl rfl (by decide) (Nat.le_of_ble_eq_true rfl) (s_Mt_abs a1 ?_)
          refine r_imul d_M_round_47 ?_
          refine r_istore_n (i := 3) (lz := [some (.ref 0), some (.int a1), some (.int a2), some (.int ((hp.1 0 25) * (f_Mt_abs a1))), none]) d_M_round_48 rfl (by decide) rfl rfl ?_
          refine r_aload_n (i := 0) d_M_round_49 rfl rfl ?_
          refine r_getI (b := 0) (v := hp.1 0 24) d_M_round_50 fl_M_239 (by decide) rfl rfl rfl ?_
          refine r_iload_n (i := 2) d_M_round_53 rfl rfl ?_
          refine rk_SI (d' := 1) [.int a2] [.int (hp.1 0 24)] d_M_round_54 ml_M_295 rfl rfl (by decide) (Nat.le_of_ble_eq_true rfl) (s_Mt_abs a2 ?_)
          refine r_imul d_M_round_57 ?_
          refine r_istore (lz := [some (.ref 0), some (.int a1), some (.int a2), some (.int ((hp.1 0 25) * (f_Mt_abs a1))), some (.int ((hp.1 0 24) * (f_Mt_abs a2)))]) d_M_round_58 (by decide) rfl rfl ?_
          refine r_iconst d_M_round_60 ic_2 ?_
          refine r_iload_n (i := 3) d_M_round_61 rfl rfl ?_
          refine r_iload d_M_round_62 rfl ?_
          refine r_iadd d_M_round_64 ?_
          refine r_imul d_M_round_65 ?_
          refine r_iload_n (i := 3) d_M_round_66 rfl rfl ?_
          refine r_iload d_M_round_67 rfl ?_
          obtain ⟨hp_69_0, H⟩ := H
          refine rk_SI (d' := 40) [.int ((hp.1 0 25) * (f_Mt_abs a1)), .int ((hp.1 0 24) * (f_Mt_abs a2))] [.int (2 * (((hp.1 0 25) * (f_Mt_abs a1)) + ((hp.1 0 24) * (f_Mt_abs a2))))] d_M_round_69 ml_M_355 rfl rfl (by decide) (Nat.le_of_ble_eq_true rfl) (s_M_divisor ((hp.1 0 25) * (f_Mt_abs a1)) ((hp.1 0 24) * (f_Mt_abs a2)) hp_69_0 ?_)
          obtain ⟨hz_72, H⟩ := H
          refine r_idiv d_M_round_72 hz_72 ?_
          exact rI_ret d_M_round_73 rfl H
        · replace H := H.1 hc_30
          refine r_iload_n (i := 2) d_M_round_33 rfl rfl ?_
          refine r_if_ne (tgt := 39) d_M_round_34 (by decide) (fun hc_34 => ?_) (fun hc_34 => ?_)
          · replace H := H.2 hc_34
            refine r_aload_n (i := 0) d_M_round_39 rfl rfl ?_
            refine r_getI (b := 0) (v := hp.1 0 25) d_M_round_40 fl_M_242 (by decide) rfl rfl rfl ?_
            refine r_iload_n (i := 1) d_M_round_43 rfl rfl ?_
            refine rk_SI (d' := 1) [.int a1] [.int (hp.1 0 25)] d_M_round_44 ml_M_295 rfl rfl (by decide) (Nat.le_of_ble_eq_true rfl) (s_Mt_abs a1 ?_)
            refine r_imul d_M_round_47 ?_
            refine r_istore_n (i := 3) (lz := [some (.ref 0), some (.int a1), some (.int a2), some (.int ((hp.1 0 25) * (f_Mt_abs a1))), none]) d_M_round_48 rfl (by decide) rfl rfl ?_
            refine r_aload_n (i := 0) d_M_round_49 rfl rfl ?_
            refine r_getI (b := 0) (v := hp.1 0 24) d_M_round_50 fl_M_239 (by decide) rfl rfl rfl ?_
            refine r_iload_n (i := 2) d_M_round_53 rfl rfl ?_
            refine rk_SI (d' := 1) [.int a2] [.int (hp.1 0 24)] d_M_round_54 ml_M_295 rfl rfl (by decide) (Nat.le_of_ble_eq_true rfl) (s_Mt_abs a2 ?_)
            refine r_imul d_M_round_57 ?_
            refine r_istore (lz := [some (.ref 0), some (.int a1), some (.int a2), some (.int ((hp.1 0 25) * (f_Mt_abs a1))), some (.int ((hp.1 0 24) * (f_Mt_abs a2)))]) d_M_round_58 (by decide) rfl rfl ?_
            refine r_iconst d_M_round_60 ic_2 ?_
            refine r_iload_n (i := 3) d_M_round_61 rfl rfl ?_
            refine r_iload d_M_round_62 rfl ?_
            refine r_iadd d_M_round_64 ?_
            refine r_imul d_M_round_65 ?_
            refine r_iload_n (i := 3) d_M_round_66 rfl rfl ?_
            refine r_iload d_M_round_67 rfl ?_
            obtain ⟨hp_69_0, H⟩ := H
            refine rk_SI (d' := 40) [.int ((hp.1 0 25) * (f_Mt_abs a1)), .int ((hp.1 0 24) * (f_Mt_abs a2))] [.int (2 * (((hp.1 0 25) * (f_Mt_abs a1)) + ((hp.1 0 24) * (f_Mt_abs a2))))] d_M_round_69 ml_M_355 rfl rfl (by decide) (Nat.le_of_ble_eq_true rfl) (s_M_divisor ((hp.1 0 25) * (f_Mt_abs a1)) ((hp.1 0 24) * (f_Mt_abs a2)) hp_69_0 ?_)
            obtain ⟨hz_72, H⟩ := H
            refine r_idiv d_M_round_72 hz_72 ?_
            exact rI_ret d_M_round_73 rfl H
          · replace H := H.1 hc_34
            refine r_iconst d_M_round_37 ic_m1 ?_
            exact rI_ret d_M_round_38 rfl H
def f_M_round (a1 : Int32) (a2 : Int32) (hp : rx_Hp) : Int32 := (if (hp.1 0 23) = 0 then (-1) else (if (f_M_in a1 (-9) 9) = 0 then (-1) else (if (f_M_in a2 (-9) 9) = 0 then (-1) else (if a1 = 0 then (if a2 = 0 then (-1) else ((2 * (((hp.1 0 25) * (f_Mt_abs a1)) + ((hp.1 0 24) * (f_Mt_abs a2)))) / (f_M_divisor ((hp.1 0 25) * (f_Mt_abs a1)) ((hp.1 0 24) * (f_Mt_abs a2))))) else ((2 * (((hp.1 0 25) * (f_Mt_abs a1)) + ((hp.1 0 24) * (f_Mt_abs a2)))) / (f_M_divisor ((hp.1 0 25) * (f_Mt_abs a1)) ((hp.1 0 24) * (f_Mt_abs a2))))))))
def p_M_round (a1 : Int32) (a2 : Int32) (hp : rx_Hp) : Prop := (¬ (hp.1 0 23) = 0 → (¬ (f_M_in a1 (-9) 9) = 0 → (¬ (f_M_in a2 (-9) 9) = 0 → (a1 = 0 → (¬ a2 = 0 → p_M_divisor ((hp.1 0 25) * (f_Mt_abs a1)) ((hp.1 0 24) * (f_Mt_abs a2)) ∧ (¬ (f_M_divisor ((hp.1 0 25) * (f_Mt_abs a1)) ((hp.1 0 24) * (f_Mt_abs a2))) = 0))) ∧ (¬ a1 = 0 → p_M_divisor ((hp.1 0 25) * (f_Mt_abs a1)) ((hp.1 0 24) * (f_Mt_abs a2)) ∧ (¬ (f_M_divisor ((hp.1 0 25) * (f_Mt_abs a1)) ((hp.1 0 24) * (f_Mt_abs a2))) = 0)))))
theorem s_M_round {G : rx_Gh} {hp : rx_Hp} {F : Int32 → rx_Hp → Prop} (a1 : Int32) (a2 : Int32) (hP : (p_M_round a1 a2 hp)) (H0 : F (f_M_round a1 a2 hp) hp) : Ev wM G 41 q_M_round [.ref 0, .int a1, .int a2] hp (rI F) := by
  have H : ∀ v h, v = (f_M_round a1 a2 hp) → h = hp → F v h := by rintro _ _ rfl rfl; exact H0
  unfold p_M_round at hP
  refine w_M_round a1 a2  ?_
  refine ⟨fun hc_4 => ?_, fun hc_4 => ?_⟩
  · exact H _ _ (((if_pos hc_4).trans rfl)).symm (rfl).symm
  · refine ⟨fun hc_15 => ?_, fun hc_15 => ?_⟩
    · exact H _ _ (((if_neg hc_4).trans ((if_pos hc_15).trans rfl))).symm (rfl).symm
    · refine ⟨fun hc_26 => ?_, fun hc_26 => ?_⟩
      · exact H _ _ (((if_neg hc_4).trans ((if_neg hc_15).trans ((if_pos hc_26).trans rfl)))).symm (rfl).symm
      · refine ⟨fun hc_30 => ?_, fun hc_30 => ?_⟩
        · refine ⟨fun hc_34 => ?_, fun hc_34 => ?_⟩
          · exact H _ _ (((if_neg hc_4).trans ((if_neg hc_15).trans ((if_neg hc_26).trans ((if_pos hc_30).trans ((if_pos hc_34).trans rfl)))))).symm (rfl).symm
          · refine ⟨(((((hP hc_4) hc_15) hc_26).1 hc_30) hc_34).1, ?_⟩
            refine ⟨(((((hP hc_4) hc_15) hc_26).1 hc_30) hc_34).2, ?_⟩
            exact H _ _ (((if_neg hc_4).trans ((if_neg hc_15).trans ((if_neg hc_26).trans ((if_pos hc_30).trans ((if_neg hc_34).trans rfl)))))).symm (rfl).symm
        · refine ⟨((((hP hc_4) hc_15) hc_26).2 hc_30).1, ?_⟩
          refine ⟨((((hP hc_4) hc_15) hc_26).2 hc_30).2, ?_⟩
          exact H _ _ (((if_neg hc_4).trans ((if_neg hc_15).trans ((if_neg hc_26).trans ((if_neg hc_30).trans rfl))))).symm (rfl).symm
set_option maxHeartbeats 4000000 in
set_option maxRecDepth 20000 in
theorem w_M_plain {Ω : rx_Om} {G : rx_Gh} {hp : rx_Hp} {F : Int32 → rx_Hp → Prop} (a1 : Int32) (a2 : Int32) (a3 : Int32) (H : p_M_divisor a2 a1 ∧ ((a3 = 0 → ¬ (f_M_divisor a2 a1) = 0 ∧ (F (a1 / (f_M_divisor a2 a1)) hp)) ∧ (¬ a3 = 0 → ¬ (f_M_divisor a2 a1) = 0 ∧ (F (a2 / (f_M_divisor a2 a1)) hp)))) : Ev Ω G 41 q_M_plain [.int a1, .int a2, .int a3] hp (rI F) := by
  refine ev_of rfl (Nat.le_of_ble_eq_true rfl) rfl ?_
  show Rn Ω G 41 q_M_plain 0 [some (.int a1), some (.int a2), some (.int a3), none] [] hp (rI F)
  refine r_iload_n (i := 1) d_M_plain_0 rfl rfl ?_
  refine r_iload_n (i := 0) d_M_plain_1 rfl rfl ?_
  obtain ⟨hp_2_0, H⟩ := H
  refine rk_SI (d' := 40) [.int a2, .int a1] [] d_M_plain_2 ml_M_355 rfl rfl (by decide) (Nat.le_of_ble_eq_true rfl) (s_M_divisor a2 a1 hp_2_0 ?_)
  refine r_istore_n (i := 3) (lz := [some (.int a1), some (.int a2), some (.int a3), some (.int (f_M_divisor a2 a1))]) d_M_plain_5 rfl (by decide) rfl rfl ?_
  refine r_iload_n (i := 2) d_M_plain_6 rfl rfl ?_
  refine r_if_ne (tgt := 16) d_M_plain_7 (by decide) (fun hc_7 => ?_) (fun hc_7 => ?_)
  · replace H := H.2 hc_7
    refine r_iload_n (i := 1) d_M_plain_16 rfl rfl ?_
    refine r_iload_n (i := 3) d_M_plain_17 rfl rfl ?_
    obtain ⟨hz_18, H⟩ := H
    refine r_idiv d_M_plain_18 hz_18 ?_
    exact rI_ret d_M_plain_19 rfl H
  · replace H := H.1 hc_7
    refine r_iload_n (i := 0) d_M_plain_10 rfl rfl ?_
    refine r_iload_n (i := 3) d_M_plain_11 rfl rfl ?_
    obtain ⟨hz_12, H⟩ := H
    refine r_idiv d_M_plain_12 hz_12 ?_
    refine r_goto (tgt := 19) d_M_plain_13 (by decide) ?_
    exact rI_ret d_M_plain_19 rfl H
def f_M_plain (a1 : Int32) (a2 : Int32) (a3 : Int32) : Int32 := (if a3 = 0 then (a1 / (f_M_divisor a2 a1)) else (a2 / (f_M_divisor a2 a1)))
def p_M_plain (a1 : Int32) (a2 : Int32) (a3 : Int32) : Prop := p_M_divisor a2 a1 ∧ ((a3 = 0 → ¬ (f_M_divisor a2 a1) = 0) ∧ (¬ a3 = 0 → ¬ (f_M_divisor a2 a1) = 0))
theorem s_M_plain {Ω : rx_Om} {G : rx_Gh} {hp : rx_Hp} {F : Int32 → rx_Hp → Prop} (a1 : Int32) (a2 : Int32) (a3 : Int32) (hP : (p_M_plain a1 a2 a3)) (H0 : F (f_M_plain a1 a2 a3) hp) : Ev Ω G 41 q_M_plain [.int a1, .int a2, .int a3] hp (rI F) := by
  have H : ∀ v h, v = (f_M_plain a1 a2 a3) → h = hp → F v h := by rintro _ _ rfl rfl; exact H0
  unfold p_M_plain at hP
  refine w_M_plain a1 a2 a3  ?_
  refine ⟨hP.1, ?_⟩
  refine ⟨fun hc_7 => ?_, fun hc_7 => ?_⟩
  · refine ⟨(hP.2.1 hc_7), ?_⟩
    exact H _ _ (((if_pos hc_7).trans rfl)).symm (rfl).symm
  · refine ⟨(hP.2.2 hc_7), ?_⟩
    exact H _ _ (((if_neg hc_7).trans rfl)).symm (rfl).symm
set_option maxHeartbeats 4000000 in
set_option maxRecDepth 20000 in
theorem w_M_hang {G : rx_Gh} {hp : rx_Hp} {F : Int32 → rx_Hp → Prop} (a1 : Int32) (a2 : Int32) (a3 : Int32) (a4 : Int32) (H : ((f_M_isBody a1 hp) = 0 → F (-1) hp) ∧ (¬ (f_M_isBody a1 hp) = 0 → ((f_M_isBody a2 hp) = 0 → F (-1) hp) ∧ (¬ (f_M_isBody a2 hp) = 0 → (a1 = a2 → F (-1) hp) ∧ (¬ a1 = a2 → ((f_M_in a3 0 3) = 0 → F (-1) hp) ∧ (¬ (f_M_in a3 0 3) = 0 → ((f_M_in a4 0 1) = 0 → F (-1) hp) ∧ (¬ (f_M_in a4 0 1) = 0 → p_M_layHang a1 a2 a3 ∧ (((f_M_layHang a1 a2 a3 hp) = 0 → F (-1) (g_M_layHang a1 a2 a3 hp)) ∧ (¬ (f_M_layHang a1 a2 a3 hp) = 0 → p_M_plain ((g_M_layHang a1 a2 a3 hp).1 0 35) ((g_M_layHang a1 a2 a3 hp).1 0 36) a4 ∧ (F (f_M_plain ((g_M_layHang a1 a2 a3 hp).1 0 35) ((g_M_layHang a1 a2 a3 hp).1 0 36) a4) (g_M_layHang a1 a2 a3 hp)))))))))) : Ev wM G 42 q_M_hang [.ref 0, .int a1, .int a2, .int a3, .int a4] hp (rI F) := by
  refine ev_of rfl (Nat.le_of_ble_eq_true rfl) rfl ?_
  show Rn wM G 42 q_M_hang 0 [some (.ref 0), some (.int a1), some (.int a2), some (.int a3), some (.int a4)] [] hp (rI F)
  refine r_aload_n (i := 0) d_M_hang_0 rfl rfl ?_
  refine r_iload_n (i := 1) d_M_hang_1 rfl rfl ?_
  refine rk_VI (b := 0) (d' := 2) [.int a1] [] d_M_hang_2 ml_M_267 rfl rfl (by decide) (by decide) rfl rfl (Nat.le_of_ble_eq_true rfl) (s_M_isBody a1 ?_)
  refine r_if_eq (tgt := 50) d_M_hang_5 (by decide) (fun hc_5 => ?_) (fun hc_5 => ?_)
  · replace H := H.1 hc_5
    refine r_iconst d_M_hang_50 ic_m1 ?_
    exact rI_ret d_M_hang_51 rfl H
  · replace H := H.2 hc_5
    refine r_aload_n (i := 0) d_M_hang_8 rfl rfl ?_
    refine r_iload_n (i := 2) d_M_hang_9 rfl rfl ?_
    refine rk_VI (b := 0) (d' := 2) [.int a2] [] d_M_hang_10 ml_M_267 rfl rfl (by decide) (by decide) rfl rfl (Nat.le_of_ble_eq_true rfl) (s_M_isBody a2 ?_)
    refine r_if_eq (tgt := 50) d_M_hang_13 (by decide) (fun hc_13 => ?_) (fun hc_13 => ?_)
    · replace H := H.1 hc_13
      refine r_iconst d_M_hang_50 ic_m1 ?_
      exact rI_ret d_M_hang_51 rfl H
    · replace H := H.2 hc_13
      refine r_iload_n (i := 1) d_M_hang_16 rfl rfl ?_
      refine r_iload_n (i := 2) d_M_hang_17 rfl rfl ?_
      refine r_icmp_eq (tgt := 50) d_M_hang_18 (by decide) (fun hc_18 => ?_) (fun hc_18 => ?_)
      · replace H := H.1 hc_18
        refine r_iconst d_M_hang_50 ic_m1 ?_
        exact rI_ret d_M_hang_51 rfl H
      · replace H := H.2 hc_18
        refine r_iload_n (i := 3) d_M_hang_21 rfl rfl ?_
        refine r_iconst d_M_hang_22 ic_0 ?_
        refine r_iconst d_M_hang_23 ic_3 ?_
        refine rk_SI (d' := 1) [.int a3, .int 0, .int 3] [] d_M_hang_24 ml_M_198 rfl rfl (by decide) (Nat.le_of_ble_eq_true rfl) (s_M_in a3 0 3 ?_)
        refine r_if_eq (tgt := 50) d_M_hang_27 (by decide) (fun hc_27 => ?_) (fun hc_27 => ?_)
        · replace H := H.1 hc_27
          refine r_iconst d_M_hang_50 ic_m1 ?_
          exact rI_ret d_M_hang_51 rfl H
        · replace H := H.2 hc_27
          refine r_iload d_M_hang_30 rfl ?_
          refine r_iconst d_M_hang_32 ic_0 ?_
          refine r_iconst d_M_hang_33 ic_1 ?_
          refine rk_SI (d' := 1) [.int a4, .int 0, .int 1] [] d_M_hang_34 ml_M_198 rfl rfl (by decide) (Nat.le_of_ble_eq_true rfl) (s_M_in a4 0 1 ?_)
          refine r_if_eq (tgt := 50) d_M_hang_37 (by decide) (fun hc_37 => ?_) (fun hc_37 => ?_)
          · replace H := H.1 hc_37
            refine r_iconst d_M_hang_50 ic_m1 ?_
            exact rI_ret d_M_hang_51 rfl H
          · replace H := H.2 hc_37
            refine r_aload_n (i := 0) d_M_hang_40 rfl rfl ?_
            refine r_iload_n (i := 1) d_M_hang_41 rfl rfl ?_
            refine r_iload_n (i := 2) d_M_hang_42 rfl rfl ?_
            refine r_iload_n (i := 3) d_M_hang_43 rfl rfl ?_
            obtain ⟨hp_44_0, H⟩ := H
            refine rk_VI (b := 0) (d' := 1) [.int a1, .int a2, .int a3] [] d_M_hang_44 ml_M_368 rfl rfl (by decide) (by decide) rfl rfl (Nat.le_of_ble_eq_true rfl) (s_M_layHang a1 a2 a3 hp_44_0 ?_)
            refine r_if_ne (tgt := 52) d_M_hang_47 (by decide) (fun hc_47 => ?_) (fun hc_47 => ?_)
            · replace H := H.2 hc_47
              refine r_aload_n (i := 0) d_M_hang_52 rfl rfl ?_
              refine r_getI (b := 0) (v := (g_M_layHang a1 a2 a3 hp).1 0 35) d_M_hang_53 fl_M_362 (by decide) rfl rfl rfl ?_
              refine r_aload_n (i := 0) d_M_hang_56 rfl rfl ?_
              refine r_getI (b := 0) (v := (g_M_layHang a1 a2 a3 hp).1 0 36) d_M_hang_57 fl_M_365 (by decide) rfl rfl rfl ?_
              refine r_iload d_M_hang_60 rfl ?_
              obtain ⟨hp_62_0, H⟩ := H
              refine rk_SI (d' := 41) [.int ((g_M_layHang a1 a2 a3 hp).1 0 35), .int ((g_M_layHang a1 a2 a3 hp).1 0 36), .int a4] [] d_M_hang_62 ml_M_371 rfl rfl (by decide) (Nat.le_of_ble_eq_true rfl) (s_M_plain ((g_M_layHang a1 a2 a3 hp).1 0 35) ((g_M_layHang a1 a2 a3 hp).1 0 36) a4 hp_62_0 ?_)
              exact rI_ret d_M_hang_65 rfl H
            · replace H := H.1 hc_47
              refine r_iconst d_M_hang_50 ic_m1 ?_
              exact rI_ret d_M_hang_51 rfl H
def f_M_hang (a1 : Int32) (a2 : Int32) (a3 : Int32) (a4 : Int32) (hp : rx_Hp) : Int32 := (if (f_M_isBody a1 hp) = 0 then (-1) else (if (f_M_isBody a2 hp) = 0 then (-1) else (if a1 = a2 then (-1) else (if (f_M_in a3 0 3) = 0 then (-1) else (if (f_M_in a4 0 1) = 0 then (-1) else (if (f_M_layHang a1 a2 a3 hp) = 0 then (-1) else (f_M_plain ((g_M_layHang a1 a2 a3 hp).1 0 35) ((g_M_layHang a1 a2 a3 hp).1 0 36) a4)))))))
def g_M_hang (a1 : Int32) (a2 : Int32) (a3 : Int32) (a4 : Int32) (hp : rx_Hp) : rx_Hp := (if (f_M_isBody a1 hp) = 0 then hp else (if (f_M_isBody a2 hp) = 0 then hp else (if a1 = a2 then hp else (if (f_M_in a3 0 3) = 0 then hp else (if (f_M_in a4 0 1) = 0 then hp else (g_M_layHang a1 a2 a3 hp))))))
def p_M_hang (a1 : Int32) (a2 : Int32) (a3 : Int32) (a4 : Int32) (hp : rx_Hp) : Prop := (¬ (f_M_isBody a1 hp) = 0 → (¬ (f_M_isBody a2 hp) = 0 → (¬ a1 = a2 → (¬ (f_M_in a3 0 3) = 0 → (¬ (f_M_in a4 0 1) = 0 → p_M_layHang a1 a2 a3 ∧ ((¬ (f_M_layHang a1 a2 a3 hp) = 0 → p_M_plain ((g_M_layHang a1 a2 a3 hp).1 0 35) ((g_M_layHang a1 a2 a3 hp).1 0 36) a4)))))))
theorem s_M_hang {G : rx_Gh} {hp : rx_Hp} {F : Int32 → rx_Hp → Prop} (a1 : Int32) (a2 : Int32) (a3 : Int32) (a4 : Int32) (hP : (p_M_hang a1 a2 a3 a4 hp)) (H0 : F (f_M_hang a1 a2 a3 a4 hp) (g_M_hang a1 a2 a3 a4 hp)) : Ev wM G 42 q_M_hang [.ref 0, .int a1, .int a2, .int a3, .int a4] hp (rI F) := by
  have H : ∀ v h, v = (f_M_hang a1 a2 a3 a4 hp) → h = (g_M_hang a1 a2 a3 a4 hp) → F v h := by rintro _ _ rfl rfl; exact H0
  unfold p_M_hang at hP
  refine w_M_hang a1 a2 a3 a4  ?_
  refine ⟨fun hc_5 => ?_, fun hc_5 => ?_⟩
  · exact H _ _ (((if_pos hc_5).trans rfl)).symm (((if_pos hc_5).trans rfl)).symm
  · refine ⟨fun hc_13 => ?_, fun hc_13 => ?_⟩
    · exact H _ _ (((if_neg hc_5).trans ((if_pos hc_13).trans rfl))).symm (((if_neg hc_5).trans ((if_pos hc_13).trans rfl))).symm
    · refine ⟨fun hc_18 => ?_, fun hc_18 => ?_⟩
      · exact H _ _ (((if_neg hc_5).trans ((if_neg hc_13).trans ((if_pos hc_18).trans rfl)))).symm (((if_neg hc_5).trans ((if_neg hc_13).trans ((if_pos hc_18).trans rfl)))).symm
      · refine ⟨fun hc_27 => ?_, fun hc_27 => ?_⟩
        · exact H _ _ (((if_neg hc_5).trans ((if_neg hc_13).trans ((if_neg hc_18).trans ((if_pos hc_27).trans rfl))))).symm (((if_neg hc_5).trans ((if_neg hc_13).trans ((if_neg hc_18).trans ((if_pos hc_27).trans rfl))))).symm
        · refine ⟨fun hc_37 => ?_, fun hc_37 => ?_⟩
          · exact H _ _ (((if_neg hc_5).trans ((if_neg hc_13).trans ((if_neg hc_18).trans ((if_neg hc_27).trans ((if_pos hc_37).trans rfl)))))).symm (((if_neg hc_5).trans ((if_neg hc_13).trans ((if_neg hc_18).trans ((if_neg hc_27).trans ((if_pos hc_37).trans rfl)))))).symm
          · refine ⟨(((((hP hc_5) hc_13) hc_18) hc_27) hc_37).1, ?_⟩
            refine ⟨fun hc_47 => ?_, fun hc_47 => ?_⟩
            · exact H _ _ (((if_neg hc_5).trans ((if_neg hc_13).trans ((if_neg hc_18).trans ((if_neg hc_27).trans ((if_neg hc_37).trans ((if_pos hc_47).trans rfl))))))).symm (((if_neg hc_5).trans ((if_neg hc_13).trans ((if_neg hc_18).trans ((if_neg hc_27).trans ((if_neg hc_37).trans rfl)))))).symm
            · refine ⟨((((((hP hc_5) hc_13) hc_18) hc_27) hc_37).2 hc_47), ?_⟩
              exact H _ _ (((if_neg hc_5).trans ((if_neg hc_13).trans ((if_neg hc_18).trans ((if_neg hc_27).trans ((if_neg hc_37).trans ((if_neg hc_47).trans rfl))))))).symm (((if_neg hc_5).trans ((if_neg hc_13).trans ((if_neg hc_18).trans ((if_neg hc_27).trans ((if_neg hc_37).trans rfl)))))).symm
set_option maxHeartbeats 4000000 in
set_option maxRecDepth 20000 in
theorem w_M_pane {G : rx_Gh} {hp : rx_Hp} {F : Int32 → rx_Hp → Prop} (a1 : Int32) (a2 : Int32) (a3 : Int32) (H : ((f_M_isBody a1 hp) = 0 → F (-1) hp) ∧ (¬ (f_M_isBody a1 hp) = 0 → ((f_M_in a2 0 3) = 0 → F (-1) hp) ∧ (¬ (f_M_in a2 0 3) = 0 → ((f_M_in a3 0 1) = 0 → F (-1) hp) ∧ (¬ (f_M_in a3 0 1) = 0 → Rn wM G 42 q_M_pane 43 [some (.ref 0), some (.int a1), some (.int a2), some (.int a3), some (.int 0), some (.int 0), some (.int 0), some (.int 0), some (.int 0)] [] hp (rI F))))) : Ev wM G 42 q_M_pane [.ref 0, .int a1, .int a2, .int a3] hp (rI F) := by
  refine ev_of rfl (Nat.le_of_ble_eq_true rfl) rfl ?_
  show Rn wM G 42 q_M_pane 0 [some (.ref 0), some (.int a1), some (.int a2), some (.int a3), none, none, none, none, none] [] hp (rI F)
  refine r_aload_n (i := 0) d_M_pane_0 rfl rfl ?_
  refine r_iload_n (i := 1) d_M_pane_1 rfl rfl ?_
  refine rk_VI (b := 0) (d' := 2) [.int a1] [] d_M_pane_2 ml_M_267 rfl rfl (by decide) (by decide) rfl rfl (Nat.le_of_ble_eq_true rfl) (s_M_isBody a1 ?_)
  refine r_if_eq (tgt := 26) d_M_pane_5 (by decide) (fun hc_5 => ?_) (fun hc_5 => ?_)
  · replace H := H.1 hc_5
    refine r_iconst d_M_pane_26 ic_m1 ?_
    exact rI_ret d_M_pane_27 rfl H
  · replace H := H.2 hc_5
    refine r_iload_n (i := 2) d_M_pane_8 rfl rfl ?_
    refine r_iconst d_M_pane_9 ic_0 ?_
    refine r_iconst d_M_pane_10 ic_3 ?_
    refine rk_SI (d' := 1) [.int a2, .int 0, .int 3] [] d_M_pane_11 ml_M_198 rfl rfl (by decide) (Nat.le_of_ble_eq_true rfl) (s_M_in a2 0 3 ?_)
    refine r_if_eq (tgt := 26) d_M_pane_14 (by decide) (fun hc_14 => ?_) (fun hc_14 => ?_)
    · replace H := H.1 hc_14
      refine r_iconst d_M_pane_26 ic_m1 ?_
      exact rI_ret d_M_pane_27 rfl H
    · replace H := H.2 hc_14
      refine r_iload_n (i := 3) d_M_pane_17 rfl rfl ?_
      refine r_iconst d_M_pane_18 ic_0 ?_
      refine r_iconst d_M_pane_19 ic_1 ?_
      refine rk_SI (d' := 1) [.int a3, .int 0, .int 1] [] d_M_pane_20 ml_M_198 rfl rfl (by decide) (Nat.le_of_ble_eq_true rfl) (s_M_in a3 0 1 ?_)
      refine r_if_ne (tgt := 28) d_M_pane_23 (by decide) (fun hc_23 => ?_) (fun hc_23 => ?_)
      · replace H := H.2 hc_23
        refine r_iconst d_M_pane_28 ic_0 ?_
        refine r_istore (lz := [some (.ref 0), some (.int a1), some (.int a2), some (.int a3), some (.int 0), none, none, none, none]) d_M_pane_29 (by decide) rfl rfl ?_
        refine r_iconst d_M_pane_31 ic_0 ?_
        refine r_istore (lz := [some (.ref 0), some (.int a1), some (.int a2), some (.int a3), some (.int 0), some (.int 0), none, none, none]) d_M_pane_32 (by decide) rfl rfl ?_
        refine r_iconst d_M_pane_34 ic_0 ?_
        refine r_istore (lz := [some (.ref 0), some (.int a1), some (.int a2), some (.int a3), some (.int 0), some (.int 0), some (.int 0), none, none]) d_M_pane_35 (by decide) rfl rfl ?_
        refine r_iconst d_M_pane_37 ic_0 ?_
        refine r_istore (lz := [some (.ref 0), some (.int a1), some (.int a2), some (.int a3), some (.int 0), some (.int 0), some (.int 0), some (.int 0), none]) d_M_pane_38 (by decide) rfl rfl ?_
        refine r_iconst d_M_pane_40 ic_0 ?_
        refine r_istore (lz := [some (.ref 0), some (.int a1), some (.int a2), some (.int a3), some (.int 0), some (.int 0), some (.int 0), some (.int 0), some (.int 0)]) d_M_pane_41 (by decide) rfl rfl ?_
        exact H
      · replace H := H.1 hc_23
        refine r_iconst d_M_pane_26 ic_m1 ?_
        exact rI_ret d_M_pane_27 rfl H
set_option maxHeartbeats 4000000 in
set_option maxRecDepth 20000 in
theorem w_M_pane_43 {G : rx_Gh} {hp : rx_Hp} {F : Int32 → rx_Hp → Prop} (x1 : Int32) (x2 : Int32) (x3 : Int32) (x4 : Int32) (x5 : Int32) (x6 : Int32) (x7 : Int32) (x8 : Int32) (H : ((hp.1 0 23) ≤ x8 → (x5 = 0 → F (-1) hp) ∧ (¬ x5 = 0 → p_M_plain ((x6 * x5) - (x4 * x7)) (x7 * x5) x3 ∧ (F (f_M_plain ((x6 * x5) - (x4 * x7)) (x7 * x5) x3) hp))) ∧ (¬ (hp.1 0 23) ≤ x8 → (x8 = x1 → Rn wM G 42 q_M_pane 43 [some (.ref 0), some (.int x1), some (.int x2), some (.int x3), some (.int x4), some (.int x5), some (.int x6), some (.int x7), some (.int (x8 + 1))] [] hp (rI F)) ∧ (¬ x8 = x1 → p_M_layHang x1 x8 x2 ∧ (((f_M_layHang x1 x8 x2 hp) = 0 → Rn wM G 42 q_M_pane 43 [some (.ref 0), some (.int x1), some (.int x2), some (.int x3), some (.int x4), some (.int x5), some (.int x6), some (.int x7), some (.int (x8 + 1))] [] (g_M_layHang x1 x8 x2 hp) (rI F)) ∧ (¬ (f_M_layHang x1 x8 x2 hp) = 0 → Rn wM G 42 q_M_pane 43 [some (.ref 0), some (.int x1), some (.int x2), some (.int x3), some (.int ((if x5 = 0 then ((g_M_layHang x1 x8 x2 hp).1 0 35) else ((if (x4 * ((g_M_layHang x1 x8 x2 hp).1 0 36)) ≤ (((g_M_layHang x1 x8 x2 hp).1 0 35) * x5) then x4 else ((g_M_layHang x1 x8 x2 hp).1 0 35)) : Int32)) : Int32)), some (.int ((if x5 = 0 then ((g_M_layHang x1 x8 x2 hp).1 0 36) else ((if (x4 * ((g_M_layHang x1 x8 x2 hp).1 0 36)) ≤ (((g_M_layHang x1 x8 x2 hp).1 0 35) * x5) then x5 else ((g_M_layHang x1 x8 x2 hp).1 0 36)) : Int32)) : Int32)), some (.int ((if x7 = 0 then ((g_M_layHang x1 x8 x2 hp).1 0 35) else ((if (((g_M_layHang x1 x8 x2 hp).1 0 35) * x7) ≤ (x6 * ((g_M_layHang x1 x8 x2 hp).1 0 36)) then x6 else ((g_M_layHang x1 x8 x2 hp).1 0 35)) : Int32)) : Int32)), some (.int ((if x7 = 0 then ((g_M_layHang x1 x8 x2 hp).1 0 36) else ((if (((g_M_layHang x1 x8 x2 hp).1 0 35) * x7) ≤ (x6 * ((g_M_layHang x1 x8 x2 hp).1 0 36)) then x7 else ((g_M_layHang x1 x8 x2 hp).1 0 36)) : Int32)) : Int32)), some (.int (x8 + 1))] [] (g_M_layHang x1 x8 x2 hp) (rI F)))))) : Rn wM G 42 q_M_pane 43 [some (.ref 0), some (.int x1), some (.int x2), some (.int x3), some (.int x4), some (.int x5), some (.int x6), some (.int x7), some (.int x8)] [] hp (rI F) := by
  refine r_iload d_M_pane_43 rfl ?_
  refine r_aload_n (i := 0) d_M_pane_45 rfl rfl ?_
  refine r_getI (b := 0) (v := hp.1 0 23) d_M_pane_46 fl_M_236 (by decide) rfl rfl rfl ?_
  refine r_icmp_ge (tgt := 143) d_M_pane_49 (by decide) (fun hc_49 => ?_) (fun hc_49 => ?_)
  · replace H := H.1 hc_49
    refine r_iload d_M_pane_143 rfl ?_
    refine r_if_ne (tgt := 152) d_M_pane_145 (by decide) (fun hc_145 => ?_) (fun hc_145 => ?_)
    · replace H := H.2 hc_145
      refine r_iload d_M_pane_152 rfl ?_
      refine r_iload d_M_pane_154 rfl ?_
      refine r_imul d_M_pane_156 ?_
      refine r_iload d_M_pane_157 rfl ?_
      refine r_iload d_M_pane_159 rfl ?_
      refine r_imul d_M_pane_161 ?_
      refine r_isub d_M_pane_162 ?_
      refine r_iload d_M_pane_163 rfl ?_
      refine r_iload d_M_pane_165 rfl ?_
      refine r_imul d_M_pane_167 ?_
      refine r_iload_n (i := 3) d_M_pane_168 rfl rfl ?_
      obtain ⟨hp_169_0, H⟩ := H
      refine rk_SI (d' := 41) [.int ((x6 * x5) - (x4 * x7)), .int (x7 * x5), .int x3] [] d_M_pane_169 ml_M_371 rfl rfl (by decide) (Nat.le_of_ble_eq_true rfl) (s_M_plain ((x6 * x5) - (x4 * x7)) (x7 * x5) x3 hp_169_0 ?_)
      exact rI_ret d_M_pane_172 rfl H
    · replace H := H.1 hc_145
      refine r_iconst d_M_pane_148 ic_m1 ?_
      refine r_goto (tgt := 172) d_M_pane_149 (by decide) ?_
      exact rI_ret d_M_pane_172 rfl H
  · replace H := H.2 hc_49
    refine r_iload d_M_pane_52 rfl ?_
    refine r_iload_n (i := 1) d_M_pane_54 rfl rfl ?_
    refine r_icmp_eq (tgt := 137) d_M_pane_55 (by decide) (fun hc_55 => ?_) (fun hc_55 => ?_)
    · replace H := H.1 hc_55
      refine r_iinc (v := x8 + 1) (lz := [some (.ref 0), some (.int x1), some (.int x2), some (.int x3), some (.int x4), some (.int x5), some (.int x6), some (.int x7), some (.int (x8 + 1))]) d_M_pane_137 rfl (by rw [ic_1]) (by decide) rfl rfl ?_
      refine r_goto (tgt := 43) d_M_pane_140 (by decide) ?_
      exact H
    · replace H := H.2 hc_55
      refine r_aload_n (i := 0) d_M_pane_58 rfl rfl ?_
      refine r_iload_n (i := 1) d_M_pane_59 rfl rfl ?_
      refine r_iload d_M_pane_60 rfl ?_
      refine r_iload_n (i := 2) d_M_pane_62 rfl rfl ?_
      obtain ⟨hp_63_0, H⟩ := H
      refine rk_VI (b := 0) (d' := 1) [.int x1, .int x8, .int x2] [] d_M_pane_63 ml_M_368 rfl rfl (by decide) (by decide) rfl rfl (Nat.le_of_ble_eq_true rfl) (s_M_layHang x1 x8 x2 hp_63_0 ?_)
      refine r_if_eq (tgt := 137) d_M_pane_66 (by decide) (fun hc_66 => ?_) (fun hc_66 => ?_)
      · replace H := H.1 hc_66
        refine r_iinc (v := x8 + 1) (lz := [some (.ref 0), some (.int x1), some (.int x2), some (.int x3), some (.int x4), some (.int x5), some (.int x6), some (.int x7), some (.int (x8 + 1))]) d_M_pane_137 rfl (by rw [ic_1]) (by decide) rfl rfl ?_
        refine r_goto (tgt := 43) d_M_pane_140 (by decide) ?_
        exact H
      · replace H := H.2 hc_66
        have J71 : ∀ (v71_0 : Int32) (v71_1 : Int32), v71_0 = ((if x5 = 0 then ((g_M_layHang x1 x8 x2 hp).1 0 35) else ((if (x4 * ((g_M_layHang x1 x8 x2 hp).1 0 36)) ≤ (((g_M_layHang x1 x8 x2 hp).1 0 35) * x5) then x4 else ((g_M_layHang x1 x8 x2 hp).1 0 35)) : Int32)) : Int32) → v71_1 = ((if x5 = 0 then ((g_M_layHang x1 x8 x2 hp).1 0 36) else ((if (x4 * ((g_M_layHang x1 x8 x2 hp).1 0 36)) ≤ (((g_M_layHang x1 x8 x2 hp).1 0 35) * x5) then x5 else ((g_M_layHang x1 x8 x2 hp).1 0 36)) : Int32)) : Int32) → Rn wM G 42 q_M_pane 103 [some (.ref 0), some (.int x1), some (.int x2), some (.int x3), some (.int v71_0), some (.int v71_1), some (.int x6), some (.int x7), some (.int x8)] [] (g_M_layHang x1 x8 x2 hp) (rI F) := by
          rintro _ _ rfl rfl
          have J105 : ∀ (v105_0 : Int32) (v105_1 : Int32), v105_0 = ((if x7 = 0 then ((g_M_layHang x1 x8 x2 hp).1 0 35) else ((if (((g_M_layHang x1 x8 x2 hp).1 0 35) * x7) ≤ (x6 * ((g_M_layHang x1 x8 x2 hp).1 0 36)) then x6 else ((g_M_layHang x1 x8 x2 hp).1 0 35)) : Int32)) : Int32) → v105_1 = ((if x7 = 0 then ((g_M_layHang x1 x8 x2 hp).1 0 36) else ((if (((g_M_layHang x1 x8 x2 hp).1 0 35) * x7) ≤ (x6 * ((g_M_layHang x1 x8 x2 hp).1 0 36)) then x7 else ((g_M_layHang x1 x8 x2 hp).1 0 36)) : Int32)) : Int32) → Rn wM G 42 q_M_pane 137 [some (.ref 0), some (.int x1), some (.int x2), some (.int x3), some (.int ((if x5 = 0 then ((g_M_layHang x1 x8 x2 hp).1 0 35) else ((if (x4 * ((g_M_layHang x1 x8 x2 hp).1 0 36)) ≤ (((g_M_layHang x1 x8 x2 hp).1 0 35) * x5) then x4 else ((g_M_layHang x1 x8 x2 hp).1 0 35)) : Int32)) : Int32)), some (.int ((if x5 = 0 then ((g_M_layHang x1 x8 x2 hp).1 0 36) else ((if (x4 * ((g_M_layHang x1 x8 x2 hp).1 0 36)) ≤ (((g_M_layHang x1 x8 x2 hp).1 0 35) * x5) then x5 else ((g_M_layHang x1 x8 x2 hp).1 0 36)) : Int32)) : Int32)), some (.int v105_0), some (.int v105_1), some (.int x8)] [] (g_M_layHang x1 x8 x2 hp) (rI F) := by
            rintro _ _ rfl rfl
            refine r_iinc (v := x8 + 1) (lz := [some (.ref 0), some (.int x1), some (.int x2), some (.int x3), some (.int ((if x5 = 0 then ((g_M_layHang x1 x8 x2 hp).1 0 35) else ((if (x4 * ((g_M_layHang x1 x8 x2 hp).1 0 36)) ≤ (((g_M_layHang x1 x8 x2 hp).1 0 35) * x5) then x4 else ((g_M_layHang x1 x8 x2 hp).1 0 35)) : Int32)) : Int32)), some (.int ((if x5 = 0 then ((g_M_layHang x1 x8 x2 hp).1 0 36) else ((if (x4 * ((g_M_layHang x1 x8 x2 hp).1 0 36)) ≤ (((g_M_layHang x1 x8 x2 hp).1 0 35) * x5) then x5 else ((g_M_layHang x1 x8 x2 hp).1 0 36)) : Int32)) : Int32)), some (.int ((if x7 = 0 then ((g_M_layHang x1 x8 x2 hp).1 0 35) else ((if (((g_M_layHang x1 x8 x2 hp).1 0 35) * x7) ≤ (x6 * ((g_M_layHang x1 x8 x2 hp).1 0 36)) then x6 else ((g_M_layHang x1 x8 x2 hp).1 0 35)) : Int32)) : Int32)), some (.int ((if x7 = 0 then ((g_M_layHang x1 x8 x2 hp).1 0 36) else ((if (((g_M_layHang x1 x8 x2 hp).1 0 35) * x7) ≤ (x6 * ((g_M_layHang x1 x8 x2 hp).1 0 36)) then x7 else ((g_M_layHang x1 x8 x2 hp).1 0 36)) : Int32)) : Int32)), some (.int (x8 + 1))]) d_M_pane_137 rfl (by rw [ic_1]) (by decide) rfl rfl ?_
            refine r_goto (tgt := 43) d_M_pane_140 (by decide) ?_
            exact H
          refine r_iload d_M_pane_103 rfl ?_
          refine r_if_eq (tgt := 125) d_M_pane_105 (by decide) (fun hc_105 => ?_) (fun hc_105 => ?_)
          · refine r_aload_n (i := 0) d_M_pane_125 rfl rfl ?_
            refine r_getI (b := 0) (v := (g_M_layHang x1 x8 x2 hp).1 0 35) d_M_pane_126 fl_M_362 (by decide) rfl rfl rfl ?_
            refine r_istore (lz := [some (.ref 0), some (.int x1), some (.int x2), some (.int x3), some (.int ((if x5 = 0 then ((g_M_layHang x1 x8 x2 hp).1 0 35) else ((if (x4 * ((g_M_layHang x1 x8 x2 hp).1 0 36)) ≤ (((g_M_layHang x1 x8 x2 hp).1 0 35) * x5) then x4 else ((g_M_layHang x1 x8 x2 hp).1 0 35)) : Int32)) : Int32)), some (.int ((if x5 = 0 then ((g_M_layHang x1 x8 x2 hp).1 0 36) else ((if (x4 * ((g_M_layHang x1 x8 x2 hp).1 0 36)) ≤ (((g_M_layHang x1 x8 x2 hp).1 0 35) * x5) then x5 else ((g_M_layHang x1 x8 x2 hp).1 0 36)) : Int32)) : Int32)), some (.int ((g_M_layHang x1 x8 x2 hp).1 0 35)), some (.int x7), some (.int x8)]) d_M_pane_129 (by decide) rfl rfl ?_
            refine r_aload_n (i := 0) d_M_pane_131 rfl rfl ?_
            refine r_getI (b := 0) (v := (g_M_layHang x1 x8 x2 hp).1 0 36) d_M_pane_132 fl_M_365 (by decide) rfl rfl rfl ?_
            refine r_istore (lz := [some (.ref 0), some (.int x1), some (.int x2), some (.int x3), some (.int ((if x5 = 0 then ((g_M_layHang x1 x8 x2 hp).1 0 35) else ((if (x4 * ((g_M_layHang x1 x8 x2 hp).1 0 36)) ≤ (((g_M_layHang x1 x8 x2 hp).1 0 35) * x5) then x4 else ((g_M_layHang x1 x8 x2 hp).1 0 35)) : Int32)) : Int32)), some (.int ((if x5 = 0 then ((g_M_layHang x1 x8 x2 hp).1 0 36) else ((if (x4 * ((g_M_layHang x1 x8 x2 hp).1 0 36)) ≤ (((g_M_layHang x1 x8 x2 hp).1 0 35) * x5) then x5 else ((g_M_layHang x1 x8 x2 hp).1 0 36)) : Int32)) : Int32)), some (.int ((g_M_layHang x1 x8 x2 hp).1 0 35)), some (.int ((g_M_layHang x1 x8 x2 hp).1 0 36)), some (.int x8)]) d_M_pane_135 (by decide) rfl rfl ?_
            exact J105 _ _ (((if_pos hc_105).trans rfl)).symm (((if_pos hc_105).trans rfl)).symm
          · refine r_aload_n (i := 0) d_M_pane_108 rfl rfl ?_
            refine r_getI (b := 0) (v := (g_M_layHang x1 x8 x2 hp).1 0 35) d_M_pane_109 fl_M_362 (by decide) rfl rfl rfl ?_
            refine r_iload d_M_pane_112 rfl ?_
            refine r_imul d_M_pane_114 ?_
            refine r_iload d_M_pane_115 rfl ?_
            refine r_aload_n (i := 0) d_M_pane_117 rfl rfl ?_
            refine r_getI (b := 0) (v := (g_M_layHang x1 x8 x2 hp).1 0 36) d_M_pane_118 fl_M_365 (by decide) rfl rfl rfl ?_
            refine r_imul d_M_pane_121 ?_
            refine r_icmp_le (tgt := 137) d_M_pane_122 (by decide) (fun hc_122 => ?_) (fun hc_122 => ?_)
            · exact J105 _ _ (((if_neg hc_105).trans ((if_pos hc_122).trans rfl))).symm (((if_neg hc_105).trans ((if_pos hc_122).trans rfl))).symm
            · refine r_aload_n (i := 0) d_M_pane_125 rfl rfl ?_
              refine r_getI (b := 0) (v := (g_M_layHang x1 x8 x2 hp).1 0 35) d_M_pane_126 fl_M_362 (by decide) rfl rfl rfl ?_
              refine r_istore (lz := [some (.ref 0), some (.int x1), some (.int x2), some (.int x3), some (.int ((if x5 = 0 then ((g_M_layHang x1 x8 x2 hp).1 0 35) else ((if (x4 * ((g_M_layHang x1 x8 x2 hp).1 0 36)) ≤ (((g_M_layHang x1 x8 x2 hp).1 0 35) * x5) then x4 else ((g_M_layHang x1 x8 x2 hp).1 0 35)) : Int32)) : Int32)), some (.int ((if x5 = 0 then ((g_M_layHang x1 x8 x2 hp).1 0 36) else ((if (x4 * ((g_M_layHang x1 x8 x2 hp).1 0 36)) ≤ (((g_M_layHang x1 x8 x2 hp).1 0 35) * x5) then x5 else ((g_M_layHang x1 x8 x2 hp).1 0 36)) : Int32)) : Int32)), some (.int ((g_M_layHang x1 x8 x2 hp).1 0 35)), some (.int x7), some (.int x8)]) d_M_pane_129 (by decide) rfl rfl ?_
              refine r_aload_n (i := 0) d_M_pane_131 rfl rfl ?_
              refine r_getI (b := 0) (v := (g_M_layHang x1 x8 x2 hp).1 0 36) d_M_pane_132 fl_M_365 (by decide) rfl rfl rfl ?_
              refine r_istore (lz := [some (.ref 0), some (.int x1), some (.int x2), some (.int x3), some (.int ((if x5 = 0 then ((g_M_layHang x1 x8 x2 hp).1 0 35) else ((if (x4 * ((g_M_layHang x1 x8 x2 hp).1 0 36)) ≤ (((g_M_layHang x1 x8 x2 hp).1 0 35) * x5) then x4 else ((g_M_layHang x1 x8 x2 hp).1 0 35)) : Int32)) : Int32)), some (.int ((if x5 = 0 then ((g_M_layHang x1 x8 x2 hp).1 0 36) else ((if (x4 * ((g_M_layHang x1 x8 x2 hp).1 0 36)) ≤ (((g_M_layHang x1 x8 x2 hp).1 0 35) * x5) then x5 else ((g_M_layHang x1 x8 x2 hp).1 0 36)) : Int32)) : Int32)), some (.int ((g_M_layHang x1 x8 x2 hp).1 0 35)), some (.int ((g_M_layHang x1 x8 x2 hp).1 0 36)), some (.int x8)]) d_M_pane_135 (by decide) rfl rfl ?_
              exact J105 _ _ (((if_neg hc_105).trans ((if_neg hc_122).trans rfl))).symm (((if_neg hc_105).trans ((if_neg hc_122).trans rfl))).symm
        refine r_iload d_M_pane_69 rfl ?_
        refine r_if_eq (tgt := 91) d_M_pane_71 (by decide) (fun hc_71 => ?_) (fun hc_71 => ?_)
        · refine r_aload_n (i := 0) d_M_pane_91 rfl rfl ?_
          refine r_getI (b := 0) (v := (g_M_layHang x1 x8 x2 hp).1 0 35) d_M_pane_92 fl_M_362 (by decide) rfl rfl rfl ?_
          refine r_istore (lz := [some (.ref 0), some (.int x1), some (.int x2), some (.int x3), some (.int ((g_M_layHang x1 x8 x2 hp).1 0 35)), some (.int x5), some (.int x6), some (.int x7), some (.int x8)]) d_M_pane_95 (by decide) rfl rfl ?_
          refine r_aload_n (i := 0) d_M_pane_97 rfl rfl ?_
          refine r_getI (b := 0) (v := (g_M_layHang x1 x8 x2 hp).1 0 36) d_M_pane_98 fl_M_365 (by decide) rfl rfl rfl ?_
          refine r_istore (lz := [some (.ref 0), some (.int x1), some (.int x2), some (.int x3), some (.int ((g_M_layHang x1 x8 x2 hp).1 0 35)), some (.int ((g_M_layHang x1 x8 x2 hp).1 0 36)), some (.int x6), some (.int x7), some (.int x8)]) d_M_pane_101 (by decide) rfl rfl ?_
          exact J71 _ _ (((if_pos hc_71).trans rfl)).symm (((if_pos hc_71).trans rfl)).symm
        · refine r_aload_n (i := 0) d_M_pane_74 rfl rfl ?_
          refine r_getI (b := 0) (v := (g_M_layHang x1 x8 x2 hp).1 0 35) d_M_pane_75 fl_M_362 (by decide) rfl rfl rfl ?_
          refine r_iload d_M_pane_78 rfl ?_
          refine r_imul d_M_pane_80 ?_
          refine r_iload d_M_pane_81 rfl ?_
          refine r_aload_n (i := 0) d_M_pane_83 rfl rfl ?_
          refine r_getI (b := 0) (v := (g_M_layHang x1 x8 x2 hp).1 0 36) d_M_pane_84 fl_M_365 (by decide) rfl rfl rfl ?_
          refine r_imul d_M_pane_87 ?_
          refine r_icmp_ge (tgt := 103) d_M_pane_88 (by decide) (fun hc_88 => ?_) (fun hc_88 => ?_)
          · exact J71 _ _ (((if_neg hc_71).trans ((if_pos hc_88).trans rfl))).symm (((if_neg hc_71).trans ((if_pos hc_88).trans rfl))).symm
          · refine r_aload_n (i := 0) d_M_pane_91 rfl rfl ?_
            refine r_getI (b := 0) (v := (g_M_layHang x1 x8 x2 hp).1 0 35) d_M_pane_92 fl_M_362 (by decide) rfl rfl rfl ?_
            refine r_istore (lz := [some (.ref 0), some (.int x1), some (.int x2), some (.int x3), some (.int ((g_M_layHang x1 x8 x2 hp).1 0 35)), some (.int x5), some (.int x6), some (.int x7), some (.int x8)]) d_M_pane_95 (by decide) rfl rfl ?_
            refine r_aload_n (i := 0) d_M_pane_97 rfl rfl ?_
            refine r_getI (b := 0) (v := (g_M_layHang x1 x8 x2 hp).1 0 36) d_M_pane_98 fl_M_365 (by decide) rfl rfl rfl ?_
            refine r_istore (lz := [some (.ref 0), some (.int x1), some (.int x2), some (.int x3), some (.int ((g_M_layHang x1 x8 x2 hp).1 0 35)), some (.int ((g_M_layHang x1 x8 x2 hp).1 0 36)), some (.int x6), some (.int x7), some (.int x8)]) d_M_pane_101 (by decide) rfl rfl ?_
            exact J71 _ _ (((if_neg hc_71).trans ((if_neg hc_88).trans rfl))).symm (((if_neg hc_71).trans ((if_neg hc_88).trans rfl))).symm
set_option maxHeartbeats 4000000 in
set_option maxRecDepth 20000 in
theorem w_Ba_cushionsRound {G : rx_Gh} {hp : rx_Hp} {F : Int32 → rx_Hp → Prop} (a1 : Int32) (a2 : Int32) (H : p_GR_divisor ((hp.1 3 6) * a1) ((hp.1 3 5) * a2) ∧ (F ((if (f_GR_divisor ((hp.1 3 6) * a1) ((hp.1 3 5) * a2)) = 0 then (-1) else (2 * ((((hp.1 3 6) * a1) / (f_GR_divisor ((hp.1 3 6) * a1) ((hp.1 3 5) * a2))) + (((hp.1 3 5) * a2) / (f_GR_divisor ((hp.1 3 6) * a1) ((hp.1 3 5) * a2)))))) : Int32) hp)) : Ev wC G 2 q_Ba_cushionsRound [.ref 44, .int a1, .int a2] hp (rI F) := by
  refine ev_of rfl (Nat.le_of_ble_eq_true rfl) rfl ?_
  show Rn wC G 2 q_Ba_cushionsRound 0 [some (.ref 44), some (.int a1), some (.int a2), none, none, none] [] hp (rI F)
  refine r_aload_n (i := 0) d_Ba_cushionsRound_0 rfl rfl ?_
  refine r_getR (b := 44) (r := 3) d_Ba_cushionsRound_1 fl_Ba_15 (by decide) rfl rfl rfl ?_
  refine r_getI (b := 3) (v := hp.1 3 6) d_Ba_cushionsRound_4 fl_Ba_32 (by decide) rfl rfl rfl ?_
  refine r_iload_n (i := 1) d_Ba_cushionsRound_7 rfl rfl ?_
  refine r_imul d_Ba_cushionsRound_8 ?_
  refine r_istore_n (i := 3) (lz := [some (.ref 44), some (.int a1), some (.int a2), some (.int ((hp.1 3 6) * a1)), none, none]) d_Ba_cushionsRound_9 rfl (by decide) rfl rfl ?_
  refine r_aload_n (i := 0) d_Ba_cushionsRound_10 rfl rfl ?_
  refine r_getR (b := 44) (r := 3) d_Ba_cushionsRound_11 fl_Ba_15 (by decide) rfl rfl rfl ?_
  refine r_getI (b := 3) (v := hp.1 3 5) d_Ba_cushionsRound_14 fl_Ba_19 (by decide) rfl rfl rfl ?_
  refine r_iload_n (i := 2) d_Ba_cushionsRound_17 rfl rfl ?_
  refine r_imul d_Ba_cushionsRound_18 ?_
  refine r_istore (lz := [some (.ref 44), some (.int a1), some (.int a2), some (.int ((hp.1 3 6) * a1)), some (.int ((hp.1 3 5) * a2)), none]) d_Ba_cushionsRound_19 (by decide) rfl rfl ?_
  refine r_iload_n (i := 3) d_Ba_cushionsRound_21 rfl rfl ?_
  refine r_iload d_Ba_cushionsRound_22 rfl ?_
  obtain ⟨hp_24_0, H⟩ := H
  refine rk_NI (d' := 1) [.int ((hp.1 3 6) * a1), .int ((hp.1 3 5) * a2)] [] d_Ba_cushionsRound_24 ml_Ba_48 rfl rfl (by decide) (Nat.le_of_ble_eq_true rfl) (s_GR_divisor ((hp.1 3 6) * a1) ((hp.1 3 5) * a2) hp_24_0 ?_)
  have J31 : ∀ (v31_0 : Int32), v31_0 = ((if (f_GR_divisor ((hp.1 3 6) * a1) ((hp.1 3 5) * a2)) = 0 then (-1) else (2 * ((((hp.1 3 6) * a1) / (f_GR_divisor ((hp.1 3 6) * a1) ((hp.1 3 5) * a2))) + (((hp.1 3 5) * a2) / (f_GR_divisor ((hp.1 3 6) * a1) ((hp.1 3 5) * a2)))))) : Int32) → Rn wC G 2 q_Ba_cushionsRound 50 [some (.ref 44), some (.int a1), some (.int a2), some (.int ((hp.1 3 6) * a1)), some (.int ((hp.1 3 5) * a2)), some (.int (f_GR_divisor ((hp.1 3 6) * a1) ((hp.1 3 5) * a2)))] [.int v31_0] hp (rI F) := by
    rintro _ rfl
    exact rI_ret d_Ba_cushionsRound_50 rfl H
  refine r_istore (lz := [some (.ref 44), some (.int a1), some (.int a2), some (.int ((hp.1 3 6) * a1)), some (.int ((hp.1 3 5) * a2)), some (.int (f_GR_divisor ((hp.1 3 6) * a1) ((hp.1 3 5) * a2)))]) d_Ba_cushionsRound_27 (by decide) rfl rfl ?_
  refine r_iload d_Ba_cushionsRound_29 rfl ?_
  refine r_if_ne (tgt := 38) d_Ba_cushionsRound_31 (by decide) (fun hc_31 => ?_) (fun hc_31 => ?_)
  · refine r_iconst d_Ba_cushionsRound_38 ic_2 ?_
    refine r_iload_n (i := 3) d_Ba_cushionsRound_39 rfl rfl ?_
    refine r_iload d_Ba_cushionsRound_40 rfl ?_
    refine r_idiv d_Ba_cushionsRound_42 hc_31 ?_
    refine r_iload d_Ba_cushionsRound_43 rfl ?_
    refine r_iload d_Ba_cushionsRound_45 rfl ?_
    refine r_idiv d_Ba_cushionsRound_47 hc_31 ?_
    refine r_iadd d_Ba_cushionsRound_48 ?_
    refine r_imul d_Ba_cushionsRound_49 ?_
    exact J31 _ (((if_neg hc_31).trans rfl)).symm
  · refine r_iconst d_Ba_cushionsRound_34 ic_m1 ?_
    refine r_goto (tgt := 50) d_Ba_cushionsRound_35 (by decide) ?_
    exact J31 _ (((if_pos hc_31).trans rfl)).symm
def f_Ba_cushionsRound (a1 : Int32) (a2 : Int32) (hp : rx_Hp) : Int32 := ((if (f_GR_divisor ((hp.1 3 6) * a1) ((hp.1 3 5) * a2)) = 0 then (-1) else (2 * ((((hp.1 3 6) * a1) / (f_GR_divisor ((hp.1 3 6) * a1) ((hp.1 3 5) * a2))) + (((hp.1 3 5) * a2) / (f_GR_divisor ((hp.1 3 6) * a1) ((hp.1 3 5) * a2)))))) : Int32)
def p_Ba_cushionsRound (a1 : Int32) (a2 : Int32) (hp : rx_Hp) : Prop := p_GR_divisor ((hp.1 3 6) * a1) ((hp.1 3 5) * a2)
theorem s_Ba_cushionsRound {G : rx_Gh} {hp : rx_Hp} {F : Int32 → rx_Hp → Prop} (a1 : Int32) (a2 : Int32) (hP : (p_Ba_cushionsRound a1 a2 hp)) (H0 : F (f_Ba_cushionsRound a1 a2 hp) hp) : Ev wC G 2 q_Ba_cushionsRound [.ref 44, .int a1, .int a2] hp (rI F) := by
  have H : ∀ v h, v = (f_Ba_cushionsRound a1 a2 hp) → h = hp → F v h := by rintro _ _ rfl rfl; exact H0
  unfold p_Ba_cushionsRound at hP
  refine w_Ba_cushionsRound a1 a2  ?_
  refine ⟨hP, ?_⟩
  exact H _ _ (rfl).symm (rfl).symm
set_option maxHeartbeats 4000000 in
set_option maxRecDepth 20000 in
theorem w_GR_round {G : rx_Gh} {hp : rx_Hp} {F : Int32 → rx_Hp → Prop} (a1 : Int32) (a2 : Int32) (H : ((f_Ha_stands hp) = 0 → F (-1) hp) ∧ (¬ (f_Ha_stands hp) = 0 → ((f_GR_isWay a1 a2) = 0 → F (-1) hp) ∧ (¬ (f_GR_isWay a1 a2) = 0 → p_Ba_cushionsRound (f_Mt_abs a1) (f_Mt_abs a2) hp ∧ (F (f_Ba_cushionsRound (f_Mt_abs a1) (f_Mt_abs a2) hp) hp)))) : Ev wC G 3 q_GR_round [.ref 0, .int a1, .int a2] hp (rI F) := by
  refine ev_of rfl (Nat.le_of_ble_eq_true rfl) rfl ?_
  show Rn wC G 3 q_GR_round 0 [some (.ref 0), some (.int a1), some (.int a2)] [] hp (rI F)
  refine r_aload_n (i := 0) d_GR_round_0 rfl rfl ?_
  refine r_getR (b := 0) (r := 3) d_GR_round_1 fl_GR_19 (by decide) rfl rfl rfl ?_
  refine rk_VI (b := 3) (d' := 1) [] [] d_GR_round_4 ml_GR_171 rfl rfl (by decide) (by decide) rfl rfl (Nat.le_of_ble_eq_true rfl) (s_Ha_stands  ?_)
  refine r_if_eq (tgt := 18) d_GR_round_7 (by decide) (fun hc_7 => ?_) (fun hc_7 => ?_)
  · replace H := H.1 hc_7
    refine r_iconst d_GR_round_18 ic_m1 ?_
    exact rI_ret d_GR_round_19 rfl H
  · replace H := H.2 hc_7
    refine r_iload_n (i := 1) d_GR_round_10 rfl rfl ?_
    refine r_iload_n (i := 2) d_GR_round_11 rfl rfl ?_
    refine rk_SI (d' := 1) [.int a1, .int a2] [] d_GR_round_12 ml_GR_275 rfl rfl (by decide) (Nat.le_of_ble_eq_true rfl) (s_GR_isWay a1 a2 ?_)
    refine r_if_ne (tgt := 20) d_GR_round_15 (by decide) (fun hc_15 => ?_) (fun hc_15 => ?_)
    · replace H := H.2 hc_15
      refine r_aload_n (i := 0) d_GR_round_20 rfl rfl ?_
      refine r_getR (b := 0) (r := 44) d_GR_round_21 fl_GR_82 (by decide) rfl rfl rfl ?_
      refine r_iload_n (i := 1) d_GR_round_24 rfl rfl ?_
      refine rk_SI (d' := 1) [.int a1] [.ref 44] d_GR_round_25 ml_GR_288 rfl rfl (by decide) (Nat.le_of_ble_eq_true rfl) (s_Mt_abs a1 ?_)
      refine r_iload_n (i := 2) d_GR_round_28 rfl rfl ?_
      refine rk_SI (d' := 1) [.int a2] [.int (f_Mt_abs a1), .ref 44] d_GR_round_29 ml_GR_288 rfl rfl (by decide) (Nat.le_of_ble_eq_true rfl) (s_Mt_abs a2 ?_)
      obtain ⟨hp_32_0, H⟩ := H
      refine rk_VI (b := 44) (d' := 2) [.int (f_Mt_abs a1), .int (f_Mt_abs a2)] [] d_GR_round_32 ml_GR_293 rfl rfl (by decide) (by decide) rfl rfl (Nat.le_of_ble_eq_true rfl) (s_Ba_cushionsRound (f_Mt_abs a1) (f_Mt_abs a2) hp_32_0 ?_)
      exact rI_ret d_GR_round_35 rfl H
    · replace H := H.1 hc_15
      refine r_iconst d_GR_round_18 ic_m1 ?_
      exact rI_ret d_GR_round_19 rfl H
def f_GR_round (a1 : Int32) (a2 : Int32) (hp : rx_Hp) : Int32 := (if (f_Ha_stands hp) = 0 then (-1) else (if (f_GR_isWay a1 a2) = 0 then (-1) else (f_Ba_cushionsRound (f_Mt_abs a1) (f_Mt_abs a2) hp)))
def p_GR_round (a1 : Int32) (a2 : Int32) (hp : rx_Hp) : Prop := (¬ (f_Ha_stands hp) = 0 → (¬ (f_GR_isWay a1 a2) = 0 → p_Ba_cushionsRound (f_Mt_abs a1) (f_Mt_abs a2) hp))
theorem s_GR_round {G : rx_Gh} {hp : rx_Hp} {F : Int32 → rx_Hp → Prop} (a1 : Int32) (a2 : Int32) (hP : (p_GR_round a1 a2 hp)) (H0 : F (f_GR_round a1 a2 hp) hp) : Ev wC G 3 q_GR_round [.ref 0, .int a1, .int a2] hp (rI F) := by
  have H : ∀ v h, v = (f_GR_round a1 a2 hp) → h = hp → F v h := by rintro _ _ rfl rfl; exact H0
  unfold p_GR_round at hP
  refine w_GR_round a1 a2  ?_
  refine ⟨fun hc_7 => ?_, fun hc_7 => ?_⟩
  · exact H _ _ (((if_pos hc_7).trans rfl)).symm (rfl).symm
  · refine ⟨fun hc_15 => ?_, fun hc_15 => ?_⟩
    · exact H _ _ (((if_neg hc_7).trans ((if_pos hc_15).trans rfl))).symm (rfl).symm
    · refine ⟨((hP hc_7) hc_15), ?_⟩
      exact H _ _ (((if_neg hc_7).trans ((if_neg hc_15).trans rfl))).symm (rfl).symm
set_option maxHeartbeats 4000000 in
set_option maxRecDepth 20000 in
theorem w_Hg_become {G : rx_Gh} {hp : rx_Hp} {F : Int32 → rx_Hp → Prop} (a1 : Int32) (a2 : Int32) (H : p_GR_divisor a1 a2 ∧ ((a2 ≤ 0 → F 0 hp) ∧ (¬ a2 ≤ 0 → (0 < (f_GR_divisor a1 a2) → ¬ (f_GR_divisor a1 a2) = 0 ∧ (F 1 (rx_pf (rx_pf hp 46 1 (a1 / (f_GR_divisor a1 a2))) 46 2 (a2 / (f_GR_divisor a1 a2))))) ∧ (¬ 0 < (f_GR_divisor a1 a2) → F 0 hp)))) : Ev wC G 2 q_Hg_become [.ref 46, .int a1, .int a2] hp (rI F) := by
  refine ev_of rfl (Nat.le_of_ble_eq_true rfl) rfl ?_
  show Rn wC G 2 q_Hg_become 0 [some (.ref 46), some (.int a1), some (.int a2), none] [] hp (rI F)
  refine r_iload_n (i := 1) d_Hg_become_0 rfl rfl ?_
  refine r_iload_n (i := 2) d_Hg_become_1 rfl rfl ?_
  obtain ⟨hp_2_0, H⟩ := H
  refine rk_NI (d' := 1) [.int a1, .int a2] [] d_Hg_become_2 ml_Hg_40 rfl rfl (by decide) (Nat.le_of_ble_eq_true rfl) (s_GR_divisor a1 a2 hp_2_0 ?_)
  refine r_istore_n (i := 3) (lz := [some (.ref 46), some (.int a1), some (.int a2), some (.int (f_GR_divisor a1 a2))]) d_Hg_become_5 rfl (by decide) rfl rfl ?_
  refine r_iload_n (i := 2) d_Hg_become_6 rfl rfl ?_
  refine r_if_le (tgt := 14) d_Hg_become_7 (by decide) (fun hc_7 => ?_) (fun hc_7 => ?_)
  · replace H := H.1 hc_7
    refine r_iconst d_Hg_become_14 ic_0 ?_
    exact rZ_ret d_Hg_become_15 rfl (Or.inl rfl) H
  · replace H := H.2 hc_7
    refine r_iload_n (i := 3) d_Hg_become_10 rfl rfl ?_
    refine r_if_gt (tgt := 16) d_Hg_become_11 (by decide) (fun hc_11 => ?_) (fun hc_11 => ?_)
    · replace H := H.1 hc_11
      refine r_aload_n (i := 0) d_Hg_become_16 rfl rfl ?_
      refine r_iload_n (i := 1) d_Hg_become_17 rfl rfl ?_
      refine r_iload_n (i := 3) d_Hg_become_18 rfl rfl ?_
      obtain ⟨hz_19, H⟩ := H
      refine r_idiv d_Hg_become_19 hz_19 ?_
      refine r_putI (b := 46) d_Hg_become_20 fp_Hg_34 ⟨rfl, rfl⟩ (by decide) rfl rfl ?_
      refine r_aload_n (i := 0) d_Hg_become_23 rfl rfl ?_
      refine r_iload_n (i := 2) d_Hg_become_24 rfl rfl ?_
      refine r_iload_n (i := 3) d_Hg_become_25 rfl rfl ?_
      refine r_idiv d_Hg_become_26 hz_19 ?_
      refine r_putI (b := 46) d_Hg_become_27 fp_Hg_37 ⟨rfl, rfl⟩ (by decide) rfl rfl ?_
      refine r_iconst d_Hg_become_30 ic_1 ?_
      exact rZ_ret d_Hg_become_31 rfl (Or.inr rfl) H
    · replace H := H.2 hc_11
      refine r_iconst d_Hg_become_14 ic_0 ?_
      exact rZ_ret d_Hg_become_15 rfl (Or.inl rfl) H
def f_Hg_become (a1 : Int32) (a2 : Int32) : Int32 := (if a2 ≤ 0 then 0 else (if 0 < (f_GR_divisor a1 a2) then 1 else 0))
def g_Hg_become (a1 : Int32) (a2 : Int32) (hp : rx_Hp) : rx_Hp := (if a2 ≤ 0 then hp else (if 0 < (f_GR_divisor a1 a2) then (rx_pf (rx_pf hp 46 1 (a1 / (f_GR_divisor a1 a2))) 46 2 (a2 / (f_GR_divisor a1 a2))) else hp))
def p_Hg_become (a1 : Int32) (a2 : Int32) : Prop := p_GR_divisor a1 a2 ∧ ((¬ a2 ≤ 0 → (0 < (f_GR_divisor a1 a2) → ¬ (f_GR_divisor a1 a2) = 0)))
theorem s_Hg_become {G : rx_Gh} {hp : rx_Hp} {F : Int32 → rx_Hp → Prop} (a1 : Int32) (a2 : Int32) (hP : (p_Hg_become a1 a2)) (H0 : F (f_Hg_become a1 a2) (g_Hg_become a1 a2 hp)) : Ev wC G 2 q_Hg_become [.ref 46, .int a1, .int a2] hp (rI F) := by
  have H : ∀ v h, v = (f_Hg_become a1 a2) → h = (g_Hg_become a1 a2 hp) → F v h := by rintro _ _ rfl rfl; exact H0
  unfold p_Hg_become at hP
  refine w_Hg_become a1 a2  ?_
  refine ⟨hP.1, ?_⟩
  refine ⟨fun hc_7 => ?_, fun hc_7 => ?_⟩
  · exact H _ _ (((if_pos hc_7).trans rfl)).symm (((if_pos hc_7).trans rfl)).symm
  · refine ⟨fun hc_11 => ?_, fun hc_11 => ?_⟩
    · refine ⟨((hP.2 hc_7) hc_11), ?_⟩
      exact H _ _ (((if_neg hc_7).trans ((if_pos hc_11).trans rfl))).symm (((if_neg hc_7).trans ((if_pos hc_11).trans rfl))).symm
    · exact H _ _ (((if_neg hc_7).trans ((if_neg hc_11).trans rfl))).symm (((if_neg hc_7).trans ((if_neg hc_11).trans rfl))).symm
theorem b_Hg_become (a1 : Int32) (a2 : Int32) : (f_Hg_become a1 a2) = 0 ∨ (f_Hg_become a1 a2) = 1 := (rb_ite (Or.inl rfl) (rb_ite (Or.inr rfl) (Or.inl rfl)))
set_option maxHeartbeats 4000000 in
set_option maxRecDepth 20000 in
theorem w_Hg_place {G : rx_Gh} {hp : rx_Hp} {F : Int32 → rx_Hp → Prop} (a1 : Int32) (a2 : Int32) (a3 : Int32) (H : p_Hg_offWall a1 a3 ∧ (p_Hg_offWall a2 a3 ∧ (p_Hg_alongWall a1 a3 ∧ (p_Hg_alongWall a2 a3 ∧ (p_Hg_become (((f_Hg_alongWall a1 a3 hp) * (f_Hg_offWall a2 a3 hp)) + ((f_Hg_alongWall a2 a3 hp) * (f_Hg_offWall a1 a3 hp))) ((f_Hg_offWall a1 a3 hp) + (f_Hg_offWall a2 a3 hp)) ∧ (F (f_Hg_become (((f_Hg_alongWall a1 a3 hp) * (f_Hg_offWall a2 a3 hp)) + ((f_Hg_alongWall a2 a3 hp) * (f_Hg_offWall a1 a3 hp))) ((f_Hg_offWall a1 a3 hp) + (f_Hg_offWall a2 a3 hp))) (g_Hg_become (((f_Hg_alongWall a1 a3 hp) * (f_Hg_offWall a2 a3 hp)) + ((f_Hg_alongWall a2 a3 hp) * (f_Hg_offWall a1 a3 hp))) ((f_Hg_offWall a1 a3 hp) + (f_Hg_offWall a2 a3 hp)) hp))))))) : Ev wC G 3 q_Hg_place [.ref 46, .int a1, .int a2, .int a3] hp (rI F) := by
  refine ev_of rfl (Nat.le_of_ble_eq_true rfl) rfl ?_
  show Rn wC G 3 q_Hg_place 0 [some (.ref 46), some (.int a1), some (.int a2), some (.int a3), none, none] [] hp (rI F)
  refine r_aload_n (i := 0) d_Hg_place_0 rfl rfl ?_
  refine r_iload_n (i := 1) d_Hg_place_1 rfl rfl ?_
  refine r_iload_n (i := 3) d_Hg_place_2 rfl rfl ?_
  obtain ⟨hp_3_0, H⟩ := H
  refine rk_VI (b := 46) (d' := 1) [.int a1, .int a3] [] d_Hg_place_3 ml_Hg_13 rfl rfl (by decide) (by decide) rfl rfl (Nat.le_of_ble_eq_true rfl) (s_Hg_offWall a1 a3 hp_3_0 ?_)
  refine r_istore (lz := [some (.ref 46), some (.int a1), some (.int a2), some (.int a3), some (.int (f_Hg_offWall a1 a3 hp)), none]) d_Hg_place_6 (by decide) rfl rfl ?_
  refine r_aload_n (i := 0) d_Hg_place_8 rfl rfl ?_
  refine r_iload_n (i := 2) d_Hg_place_9 rfl rfl ?_
  refine r_iload_n (i := 3) d_Hg_place_10 rfl rfl ?_
  obtain ⟨hp_11_0, H⟩ := H
  refine rk_VI (b := 46) (d' := 1) [.int a2, .int a3] [] d_Hg_place_11 ml_Hg_13 rfl rfl (by decide) (by decide) rfl rfl (Nat.le_of_ble_eq_true rfl) (s_Hg_offWall a2 a3 hp_11_0 ?_)
  refine r_istore (lz := [some (.ref 46), some (.int a1), some (.int a2), some (.int a3), some (.int (f_Hg_offWall a1 a3 hp)), some (.int (f_Hg_offWall a2 a3 hp))]) d_Hg_place_14 (by decide) rfl rfl ?_
  refine r_aload_n (i := 0) d_Hg_place_16 rfl rfl ?_
  refine r_aload_n (i := 0) d_Hg_place_17 rfl rfl ?_
  refine r_iload_n (i := 1) d_Hg_place_18 rfl rfl ?_
  refine r_iload_n (i := 3) d_Hg_place_19 rfl rfl ?_
  obtain ⟨hp_20_0, H⟩ := H
  refine rk_VI (b := 46) (d' := 1) [.int a1, .int a3] [.ref 46] d_Hg_place_20 ml_Hg_17 rfl rfl (by decide) (by decide) rfl rfl (Nat.le_of_ble_eq_true rfl) (s_Hg_alongWall a1 a3 hp_20_0 ?_)
  refine r_iload d_Hg_place_23 rfl ?_
  refine r_imul d_Hg_place_25 ?_
  refine r_aload_n (i := 0) d_Hg_place_26 rfl rfl ?_
  refine r_iload_n (i := 2) d_Hg_place_27 rfl rfl ?_
  refine r_iload_n (i := 3) d_Hg_place_28 rfl rfl ?_
  obtain ⟨hp_29_0, H⟩ := H
  refine rk_VI (b := 46) (d' := 1) [.int a2, .int a3] [.int ((f_Hg_alongWall a1 a3 hp) * (f_Hg_offWall a2 a3 hp)), .ref 46] d_Hg_place_29 ml_Hg_17 rfl rfl (by decide) (by decide) rfl rfl (Nat.le_of_ble_eq_true rfl) (s_Hg_alongWall a2 a3 hp_29_0 ?_)
  refine r_iload d_Hg_place_32 rfl ?_
  refine r_imul d_Hg_place_34 ?_
  refine r_iadd d_Hg_place_35 ?_
  refine r_iload d_Hg_place_36 rfl ?_
  refine r_iload d_Hg_place_38 rfl ?_
  refine r_iadd d_Hg_place_40 ?_
  obtain ⟨hp_41_0, H⟩ := H
  refine rk_VI (b := 46) (d' := 2) [.int (((f_Hg_alongWall a1 a3 hp) * (f_Hg_offWall a2 a3 hp)) + ((f_Hg_alongWall a2 a3 hp) * (f_Hg_offWall a1 a3 hp))), .int ((f_Hg_offWall a1 a3 hp) + (f_Hg_offWall a2 a3 hp))] [] d_Hg_place_41 ml_Hg_20 rfl rfl (by decide) (by decide) rfl rfl (Nat.le_of_ble_eq_true rfl) (s_Hg_become (((f_Hg_alongWall a1 a3 hp) * (f_Hg_offWall a2 a3 hp)) + ((f_Hg_alongWall a2 a3 hp) * (f_Hg_offWall a1 a3 hp))) ((f_Hg_offWall a1 a3 hp) + (f_Hg_offWall a2 a3 hp)) hp_41_0 ?_)
  exact rZ_ret d_Hg_place_44 rfl (b_Hg_become (((f_Hg_alongWall a1 a3 hp) * (f_Hg_offWall a2 a3 hp)) + ((f_Hg_alongWall a2 a3 hp) * (f_Hg_offWall a1 a3 hp))) ((f_Hg_offWall a1 a3 hp) + (f_Hg_offWall a2 a3 hp))) H
def f_Hg_place (a1 : Int32) (a2 : Int32) (a3 : Int32) (hp : rx_Hp) : Int32 := (f_Hg_become (((f_Hg_alongWall a1 a3 hp) * (f_Hg_offWall a2 a3 hp)) + ((f_Hg_alongWall a2 a3 hp) * (f_Hg_offWall a1 a3 hp))) ((f_Hg_offWall a1 a3 hp) + (f_Hg_offWall a2 a3 hp)))
def g_Hg_place (a1 : Int32) (a2 : Int32) (a3 : Int32) (hp : rx_Hp) : rx_Hp := (g_Hg_become (((f_Hg_alongWall a1 a3 hp) * (f_Hg_offWall a2 a3 hp)) + ((f_Hg_alongWall a2 a3 hp) * (f_Hg_offWall a1 a3 hp))) ((f_Hg_offWall a1 a3 hp) + (f_Hg_offWall a2 a3 hp)) hp)
def p_Hg_place (a1 : Int32) (a2 : Int32) (a3 : Int32) (hp : rx_Hp) : Prop := p_Hg_offWall a1 a3 ∧ (p_Hg_offWall a2 a3 ∧ (p_Hg_alongWall a1 a3 ∧ (p_Hg_alongWall a2 a3 ∧ (p_Hg_become (((f_Hg_alongWall a1 a3 hp) * (f_Hg_offWall a2 a3 hp)) + ((f_Hg_alongWall a2 a3 hp) * (f_Hg_offWall a1 a3 hp))) ((f_Hg_offWall a1 a3 hp) + (f_Hg_offWall a2 a3 hp))))))
theorem s_Hg_place {G : rx_Gh} {hp : rx_Hp} {F : Int32 → rx_Hp → Prop} (a1 : Int32) (a2 : Int32) (a3 : Int32) (hP : (p_Hg_place a1 a2 a3 hp)) (H0 : F (f_Hg_place a1 a2 a3 hp) (g_Hg_place a1 a2 a3 hp)) : Ev wC G 3 q_Hg_place [.ref 46, .int a1, .int a2, .int a3] hp (rI F) := by
  have H : ∀ v h, v = (f_Hg_place a1 a2 a3 hp) → h = (g_Hg_place a1 a2 a3 hp) → F v h := by rintro _ _ rfl rfl; exact H0
  unfold p_Hg_place at hP
  refine w_Hg_place a1 a2 a3  ?_
  refine ⟨hP.1, ?_⟩
  refine ⟨hP.2.1, ?_⟩
  refine ⟨hP.2.2.1, ?_⟩
  refine ⟨hP.2.2.2.1, ?_⟩
  refine ⟨hP.2.2.2.2, ?_⟩
  exact H _ _ (rfl).symm (rfl).symm
theorem b_Hg_place (a1 : Int32) (a2 : Int32) (a3 : Int32) (hp : rx_Hp) : (f_Hg_place a1 a2 a3 hp) = 0 ∨ (f_Hg_place a1 a2 a3 hp) = 1 := (b_Hg_become (((f_Hg_alongWall a1 a3 hp) * (f_Hg_offWall a2 a3 hp)) + ((f_Hg_alongWall a2 a3 hp) * (f_Hg_offWall a1 a3 hp))) ((f_Hg_offWall a1 a3 hp) + (f_Hg_offWall a2 a3 hp)))
set_option maxHeartbeats 4000000 in
set_option maxRecDepth 20000 in
theorem w_Hg_span {G : rx_Gh} {hp : rx_Hp} {F : Int32 → rx_Hp → Prop} (a1 : Int32) (a2 : Int32) (H : Rn wC G 4 q_Hg_span 14 [some (.ref 46), some (.int a1), some (.int a2), some (.int 0), some (.int 0), some (.int 0), some (.int 0), some (.int 0)] [] hp (rI F)) : Ev wC G 4 q_Hg_span [.ref 46, .int a1, .int a2] hp (rI F) := by
  refine ev_of rfl (Nat.le_of_ble_eq_true rfl) rfl ?_
  show Rn wC G 4 q_Hg_span 0 [some (.ref 46), some (.int a1), some (.int a2), none, none, none, none, none] [] hp (rI F)
  refine r_iconst d_Hg_span_0 ic_0 ?_
  refine r_istore_n (i := 3) (lz := [some (.ref 46), some (.int a1), some (.int a2), some (.int 0), none, none, none, none]) d_Hg_span_1 rfl (by decide) rfl rfl ?_
  refine r_iconst d_Hg_span_2 ic_0 ?_
  refine r_istore (lz := [some (.ref 46), some (.int a1), some (.int a2), some (.int 0), some (.int 0), none, none, none]) d_Hg_span_3 (by decide) rfl rfl ?_
  refine r_iconst d_Hg_span_5 ic_0 ?_
  refine r_istore (lz := [some (.ref 46), some (.int a1), some (.int a2), some (.int 0), some (.int 0), some (.int 0), none, none]) d_Hg_span_6 (by decide) rfl rfl ?_
  refine r_iconst d_Hg_span_8 ic_0 ?_
  refine r_istore (lz := [some (.ref 46), some (.int a1), some (.int a2), some (.int 0), some (.int 0), some (.int 0), some (.int 0), none]) d_Hg_span_9 (by decide) rfl rfl ?_
  refine r_iconst d_Hg_span_11 ic_0 ?_
  refine r_istore (lz := [some (.ref 46), some (.int a1), some (.int a2), some (.int 0), some (.int 0), some (.int 0), some (.int 0), some (.int 0)]) d_Hg_span_12 (by decide) rfl rfl ?_
  exact H
set_option maxHeartbeats 4000000 in
set_option maxRecDepth 20000 in
theorem w_Hg_span_14 {G : rx_Gh} {hp : rx_Hp} {F : Int32 → rx_Hp → Prop} (x1 : Int32) (x2 : Int32) (x3 : Int32) (x4 : Int32) (x5 : Int32) (x6 : Int32) (x7 : Int32) (H : ((hp.1 3 4) ≤ x7 → p_Hg_become ((x5 * x4) - (x3 * x6)) (x6 * x4) ∧ (F (f_Hg_become ((x5 * x4) - (x3 * x6)) (x6 * x4)) (g_Hg_become ((x5 * x4) - (x3 * x6)) (x6 * x4) hp))) ∧ (¬ (hp.1 3 4) ≤ x7 → (x7 = x1 → Rn wC G 4 q_Hg_span 14 [some (.ref 46), some (.int x1), some (.int x2), some (.int x3), some (.int x4), some (.int x5), some (.int x6), some (.int (x7 + 1))] [] hp (rI F)) ∧ (¬ x7 = x1 → p_Hg_place x1 x7 x2 hp ∧ (((f_Hg_place x1 x7 x2 hp) = 0 → Rn wC G 4 q_Hg_span 14 [some (.ref 46), some (.int x1), some (.int x2), some (.int x3), some (.int x4), some (.int x5), some (.int x6), some (.int (x7 + 1))] [] (g_Hg_place x1 x7 x2 hp) (rI F)) ∧ (¬ (f_Hg_place x1 x7 x2 hp) = 0 → Rn wC G 4 q_Hg_span 14 [some (.ref 46), some (.int x1), some (.int x2), some (.int ((if x4 = 0 then ((g_Hg_place x1 x7 x2 hp).1 46 1) else ((if (x3 * ((g_Hg_place x1 x7 x2 hp).1 46 2)) ≤ (((g_Hg_place x1 x7 x2 hp).1 46 1) * x4) then x3 else ((g_Hg_place x1 x7 x2 hp).1 46 1)) : Int32)) : Int32)), some (.int ((if x4 = 0 then ((g_Hg_place x1 x7 x2 hp).1 46 2) else ((if (x3 * ((g_Hg_place x1 x7 x2 hp).1 46 2)) ≤ (((g_Hg_place x1 x7 x2 hp).1 46 1) * x4) then x4 else ((g_Hg_place x1 x7 x2 hp).1 46 2)) : Int32)) : Int32)), some (.int ((if x6 = 0 then ((g_Hg_place x1 x7 x2 hp).1 46 1) else ((if (((g_Hg_place x1 x7 x2 hp).1 46 1) * x6) ≤ (x5 * ((g_Hg_place x1 x7 x2 hp).1 46 2)) then x5 else ((g_Hg_place x1 x7 x2 hp).1 46 1)) : Int32)) : Int32)), some (.int ((if x6 = 0 then ((g_Hg_place x1 x7 x2 hp).1 46 2) else ((if (((g_Hg_place x1 x7 x2 hp).1 46 1) * x6) ≤ (x5 * ((g_Hg_place x1 x7 x2 hp).1 46 2)) then x6 else ((g_Hg_place x1 x7 x2 hp).1 46 2)) : Int32)) : Int32)), some (.int (x7 + 1))] [] (g_Hg_place x1 x7 x2 hp) (rI F)))))) : Rn wC G 4 q_Hg_span 14 [some (.ref 46), some (.int x1), some (.int x2), some (.int x3), some (.int x4), some (.int x5), some (.int x6), some (.int x7)] [] hp (rI F) := by
  refine r_iload d_Hg_span_14 rfl ?_
  refine r_aload_n (i := 0) d_Hg_span_16 rfl rfl ?_
  refine r_getR (b := 46) (r := 3) d_Hg_span_17 fl_Hg_7 (by decide) rfl rfl rfl ?_
  refine r_getI (b := 3) (v := hp.1 3 4) d_Hg_span_20 fl_Hg_24 (by decide) rfl rfl rfl ?_
  refine r_icmp_ge (tgt := 115) d_Hg_span_23 (by decide) (fun hc_23 => ?_) (fun hc_23 => ?_)
  · replace H := H.1 hc_23
    refine r_aload_n (i := 0) d_Hg_span_115 rfl rfl ?_
    refine r_iload d_Hg_span_116 rfl ?_
    refine r_iload d_Hg_span_118 rfl ?_
    refine r_imul d_Hg_span_120 ?_
    refine r_iload_n (i := 3) d_Hg_span_121 rfl rfl ?_
    refine r_iload d_Hg_span_122 rfl ?_
    refine r_imul d_Hg_span_124 ?_
    refine r_isub d_Hg_span_125 ?_
    refine r_iload d_Hg_span_126 rfl ?_
    refine r_iload d_Hg_span_128 rfl ?_
    refine r_imul d_Hg_span_130 ?_
    obtain ⟨hp_131_0, H⟩ := H
    refine rk_VI (b := 46) (d' := 2) [.int ((x5 * x4) - (x3 * x6)), .int (x6 * x4)] [] d_Hg_span_131 ml_Hg_20 rfl rfl (by decide) (by decide) rfl rfl (Nat.le_of_ble_eq_true rfl) (s_Hg_become ((x5 * x4) - (x3 * x6)) (x6 * x4) hp_131_0 ?_)
    exact rZ_ret d_Hg_span_134 rfl (b_Hg_become ((x5 * x4) - (x3 * x6)) (x6 * x4)) H
  · replace H := H.2 hc_23
    refine r_iload d_Hg_span_26 rfl ?_
    refine r_iload_n (i := 1) d_Hg_span_28 rfl rfl ?_
    refine r_icmp_eq (tgt := 109) d_Hg_span_29 (by decide) (fun hc_29 => ?_) (fun hc_29 => ?_)
    · replace H := H.1 hc_29
      refine r_iinc (v := x7 + 1) (lz := [some (.ref 46), some (.int x1), some (.int x2), some (.int x3), some (.int x4), some (.int x5), some (.int x6), some (.int (x7 + 1))]) d_Hg_span_109 rfl (by rw [ic_1]) (by decide) rfl rfl ?_
      refine r_goto (tgt := 14) d_Hg_span_112 (by decide) ?_
      exact H
    · replace H := H.2 hc_29
      refine r_aload_n (i := 0) d_Hg_span_32 rfl rfl ?_
      refine r_iload_n (i := 1) d_Hg_span_33 rfl rfl ?_
      refine r_iload d_Hg_span_34 rfl ?_
      refine r_iload_n (i := 2) d_Hg_span_36 rfl rfl ?_
      obtain ⟨hp_37_0, H⟩ := H
      refine rk_VI (b := 46) (d' := 3) [.int x1, .int x7, .int x2] [] d_Hg_span_37 ml_Hg_30 rfl rfl (by decide) (by decide) rfl rfl (Nat.le_of_ble_eq_true rfl) (s_Hg_place x1 x7 x2 hp_37_0 ?_)
      refine r_if_eq (tgt := 109) d_Hg_span_40 (by decide) (fun hc_40 => ?_) (fun hc_40 => ?_)
      · replace H := H.1 hc_40
        refine r_iinc (v := x7 + 1) (lz := [some (.ref 46), some (.int x1), some (.int x2), some (.int x3), some (.int x4), some (.int x5), some (.int x6), some (.int (x7 + 1))]) d_Hg_span_109 rfl (by rw [ic_1]) (by decide) rfl rfl ?_
        refine r_goto (tgt := 14) d_Hg_span_112 (by decide) ?_
        exact H
      · replace H := H.2 hc_40
        have J45 : ∀ (v45_0 : Int32) (v45_1 : Int32), v45_0 = ((if x4 = 0 then ((g_Hg_place x1 x7 x2 hp).1 46 1) else ((if (x3 * ((g_Hg_place x1 x7 x2 hp).1 46 2)) ≤ (((g_Hg_place x1 x7 x2 hp).1 46 1) * x4) then x3 else ((g_Hg_place x1 x7 x2 hp).1 46 1)) : Int32)) : Int32) → v45_1 = ((if x4 = 0 then ((g_Hg_place x1 x7 x2 hp).1 46 2) else ((if (x3 * ((g_Hg_place x1 x7 x2 hp).1 46 2)) ≤ (((g_Hg_place x1 x7 x2 hp).1 46 1) * x4) then x4 else ((g_Hg_place x1 x7 x2 hp).1 46 2)) : Int32)) : Int32) → Rn wC G 4 q_Hg_span 75 [some (.ref 46), some (.int x1), some (.int x2), some (.int v45_0), some (.int v45_1), some (.int x5), some (.int x6), some (.int x7)] [] (g_Hg_place x1 x7 x2 hp) (rI F) := by
          rintro _ _ rfl rfl
          have J77 : ∀ (v77_0 : Int32) (v77_1 : Int32), v77_0 = ((if x6 = 0 then ((g_Hg_place x1 x7 x2 hp).1 46 1) else ((if (((g_Hg_place x1 x7 x2 hp).1 46 1) * x6) ≤ (x5 * ((g_Hg_place x1 x7 x2 hp).1 46 2)) then x5 else ((g_Hg_place x1 x7 x2 hp).1 46 1)) : Int32)) : Int32) → v77_1 = ((if x6 = 0 then ((g_Hg_place x1 x7 x2 hp).1 46 2) else ((if (((g_Hg_place x1 x7 x2 hp).1 46 1) * x6) ≤ (x5 * ((g_Hg_place x1 x7 x2 hp).1 46 2)) then x6 else ((g_Hg_place x1 x7 x2 hp).1 46 2)) : Int32)) : Int32) → Rn wC G 4 q_Hg_span 109 [some (.ref 46), some (.int x1), some (.int x2), some (.int ((if x4 = 0 then ((g_Hg_place x1 x7 x2 hp).1 46 1) else ((if (x3 * ((g_Hg_place x1 x7 x2 hp).1 46 2)) ≤ (((g_Hg_place x1 x7 x2 hp).1 46 1) * x4) then x3 else ((g_Hg_place x1 x7 x2 hp).1 46 1)) : Int32)) : Int32)), some (.int ((if x4 = 0 then ((g_Hg_place x1 x7 x2 hp).1 46 2) else ((if (x3 * ((g_Hg_place x1 x7 x2 hp).1 46 2)) ≤ (((g_Hg_place x1 x7 x2 hp).1 46 1) * x4) then x4 else ((g_Hg_place x1 x7 x2 hp).1 46 2)) : Int32)) : Int32)), some (.int v77_0), some (.int v77_1), some (.int x7)] [] (g_Hg_place x1 x7 x2 hp) (rI F) := by
            rintro _ _ rfl rfl
            refine r_iinc (v := x7 + 1) (lz := [some (.ref 46), some (.int x1), some (.int x2), some (.int ((if x4 = 0 then ((g_Hg_place x1 x7 x2 hp).1 46 1) else ((if (x3 * ((g_Hg_place x1 x7 x2 hp).1 46 2)) ≤ (((g_Hg_place x1 x7 x2 hp).1 46 1) * x4) then x3 else ((g_Hg_place x1 x7 x2 hp).1 46 1)) : Int32)) : Int32)), some (.int ((if x4 = 0 then ((g_Hg_place x1 x7 x2 hp).1 46 2) else ((if (x3 * ((g_Hg_place x1 x7 x2 hp).1 46 2)) ≤ (((g_Hg_place x1 x7 x2 hp).1 46 1) * x4) then x4 else ((g_Hg_place x1 x7 x2 hp).1 46 2)) : Int32)) : Int32)), some (.int ((if x6 = 0 then ((g_Hg_place x1 x7 x2 hp).1 46 1) else ((if (((g_Hg_place x1 x7 x2 hp).1 46 1) * x6) ≤ (x5 * ((g_Hg_place x1 x7 x2 hp).1 46 2)) then x5 else ((g_Hg_place x1 x7 x2 hp).1 46 1)) : Int32)) : Int32)), some (.int ((if x6 = 0 then ((g_Hg_place x1 x7 x2 hp).1 46 2) else ((if (((g_Hg_place x1 x7 x2 hp).1 46 1) * x6) ≤ (x5 * ((g_Hg_place x1 x7 x2 hp).1 46 2)) then x6 else ((g_Hg_place x1 x7 x2 hp).1 46 2)) : Int32)) : Int32)), some (.int (x7 + 1))]) d_Hg_span_109 rfl (by rw [ic_1]) (by decide) rfl rfl ?_
            refine r_goto (tgt := 14) d_Hg_span_112 (by decide) ?_
            exact H
          refine r_iload d_Hg_span_75 rfl ?_
          refine r_if_eq (tgt := 97) d_Hg_span_77 (by decide) (fun hc_77 => ?_) (fun hc_77 => ?_)
          · refine r_aload_n (i := 0) d_Hg_span_97 rfl rfl ?_
            refine r_getI (b := 46) (v := (g_Hg_place x1 x7 x2 hp).1 46 1) d_Hg_span_98 fl_Hg_34 (by decide) rfl rfl rfl ?_
            refine r_istore (lz := [some (.ref 46), some (.int x1), some (.int x2), some (.int ((if x4 = 0 then ((g_Hg_place x1 x7 x2 hp).1 46 1) else ((if (x3 * ((g_Hg_place x1 x7 x2 hp).1 46 2)) ≤ (((g_Hg_place x1 x7 x2 hp).1 46 1) * x4) then x3 else ((g_Hg_place x1 x7 x2 hp).1 46 1)) : Int32)) : Int32)), some (.int ((if x4 = 0 then ((g_Hg_place x1 x7 x2 hp).1 46 2) else ((if (x3 * ((g_Hg_place x1 x7 x2 hp).1 46 2)) ≤ (((g_Hg_place x1 x7 x2 hp).1 46 1) * x4) then x4 else ((g_Hg_place x1 x7 x2 hp).1 46 2)) : Int32)) : Int32)), some (.int ((g_Hg_place x1 x7 x2 hp).1 46 1)), some (.int x6), some (.int x7)]) d_Hg_span_101 (by decide) rfl rfl ?_
            refine r_aload_n (i := 0) d_Hg_span_103 rfl rfl ?_
            refine r_getI (b := 46) (v := (g_Hg_place x1 x7 x2 hp).1 46 2) d_Hg_span_104 fl_Hg_37 (by decide) rfl rfl rfl ?_
            refine r_istore (lz := [some (.ref 46), some (.int x1), some (.int x2), some (.int ((if x4 = 0 then ((g_Hg_place x1 x7 x2 hp).1 46 1) else ((if (x3 * ((g_Hg_place x1 x7 x2 hp).1 46 2)) ≤ (((g_Hg_place x1 x7 x2 hp).1 46 1) * x4) then x3 else ((g_Hg_place x1 x7 x2 hp).1 46 1)) : Int32)) : Int32)), some (.int ((if x4 = 0 then ((g_Hg_place x1 x7 x2 hp).1 46 2) else ((if (x3 * ((g_Hg_place x1 x7 x2 hp).1 46 2)) ≤ (((g_Hg_place x1 x7 x2 hp).1 46 1) * x4) then x4 else ((g_Hg_place x1 x7 x2 hp).1 46 2)) : Int32)) : Int32)), some (.int ((g_Hg_place x1 x7 x2 hp).1 46 1)), some (.int ((g_Hg_place x1 x7 x2 hp).1 46 2)), some (.int x7)]) d_Hg_span_107 (by decide) rfl rfl ?_
            exact J77 _ _ (((if_pos hc_77).trans rfl)).symm (((if_pos hc_77).trans rfl)).symm
          · refine r_aload_n (i := 0) d_Hg_span_80 rfl rfl ?_
            refine r_getI (b := 46) (v := (g_Hg_place x1 x7 x2 hp).1 46 1) d_Hg_span_81 fl_Hg_34 (by decide) rfl rfl rfl ?_
            refine r_iload d_Hg_span_84 rfl ?_
            refine r_imul d_Hg_span_86 ?_
            refine r_iload d_Hg_span_87 rfl ?_
            refine r_aload_n (i := 0) d_Hg_span_89 rfl rfl ?_
            refine r_getI (b := 46) (v := (g_Hg_place x1 x7 x2 hp).1 46 2) d_Hg_span_90 fl_Hg_37 (by decide) rfl rfl rfl ?_
            refine r_imul d_Hg_span_93 ?_
            refine r_icmp_le (tgt := 109) d_Hg_span_94 (by decide) (fun hc_94 => ?_) (fun hc_94 => ?_)
            · exact J77 _ _ (((if_neg hc_77).trans ((if_pos hc_94).trans rfl))).symm (((if_neg hc_77).trans ((if_pos hc_94).trans rfl))).symm
            · refine r_aload_n (i := 0) d_Hg_span_97 rfl rfl ?_
              refine r_getI (b := 46) (v := (g_Hg_place x1 x7 x2 hp).1 46 1) d_Hg_span_98 fl_Hg_34 (by decide) rfl rfl rfl ?_
              refine r_istore (lz := [some (.ref 46), some (.int x1), some (.int x2), some (.int ((if x4 = 0 then ((g_Hg_place x1 x7 x2 hp).1 46 1) else ((if (x3 * ((g_Hg_place x1 x7 x2 hp).1 46 2)) ≤ (((g_Hg_place x1 x7 x2 hp).1 46 1) * x4) then x3 else ((g_Hg_place x1 x7 x2 hp).1 46 1)) : Int32)) : Int32)), some (.int ((if x4 = 0 then ((g_Hg_place x1 x7 x2 hp).1 46 2) else ((if (x3 * ((g_Hg_place x1 x7 x2 hp).1 46 2)) ≤ (((g_Hg_place x1 x7 x2 hp).1 46 1) * x4) then x4 else ((g_Hg_place x1 x7 x2 hp).1 46 2)) : Int32)) : Int32)), some (.int ((g_Hg_place x1 x7 x2 hp).1 46 1)), some (.int x6), some (.int x7)]) d_Hg_span_101 (by decide) rfl rfl ?_
              refine r_aload_n (i := 0) d_Hg_span_103 rfl rfl ?_
              refine r_getI (b := 46) (v := (g_Hg_place x1 x7 x2 hp).1 46 2) d_Hg_span_104 fl_Hg_37 (by decide) rfl rfl rfl ?_
              refine r_istore (lz := [some (.ref 46), some (.int x1), some (.int x2), some (.int ((if x4 = 0 then ((g_Hg_place x1 x7 x2 hp).1 46 1) else ((if (x3 * ((g_Hg_place x1 x7 x2 hp).1 46 2)) ≤ (((g_Hg_place x1 x7 x2 hp).1 46 1) * x4) then x3 else ((g_Hg_place x1 x7 x2 hp).1 46 1)) : Int32)) : Int32)), some (.int ((if x4 = 0 then ((g_Hg_place x1 x7 x2 hp).1 46 2) else ((if (x3 * ((g_Hg_place x1 x7 x2 hp).1 46 2)) ≤ (((g_Hg_place x1 x7 x2 hp).1 46 1) * x4) then x4 else ((g_Hg_place x1 x7 x2 hp).1 46 2)) : Int32)) : Int32)), some (.int ((g_Hg_place x1 x7 x2 hp).1 46 1)), some (.int ((g_Hg_place x1 x7 x2 hp).1 46 2)), some (.int x7)]) d_Hg_span_107 (by decide) rfl rfl ?_
              exact J77 _ _ (((if_neg hc_77).trans ((if_neg hc_94).trans rfl))).symm (((if_neg hc_77).trans ((if_neg hc_94).trans rfl))).symm
        refine r_iload d_Hg_span_43 rfl ?_
        refine r_if_eq (tgt := 64) d_Hg_span_45 (by decide) (fun hc_45 => ?_) (fun hc_45 => ?_)
        · refine r_aload_n (i := 0) d_Hg_span_64 rfl rfl ?_
          refine r_getI (b := 46) (v := (g_Hg_place x1 x7 x2 hp).1 46 1) d_Hg_span_65 fl_Hg_34 (by decide) rfl rfl rfl ?_
          refine r_istore_n (i := 3) (lz := [some (.ref 46), some (.int x1), some (.int x2), some (.int ((g_Hg_place x1 x7 x2 hp).1 46 1)), some (.int x4), some (.int x5), some (.int x6), some (.int x7)]) d_Hg_span_68 rfl (by decide) rfl rfl ?_
          refine r_aload_n (i := 0) d_Hg_span_69 rfl rfl ?_
          refine r_getI (b := 46) (v := (g_Hg_place x1 x7 x2 hp).1 46 2) d_Hg_span_70 fl_Hg_37 (by decide) rfl rfl rfl ?_
          refine r_istore (lz := [some (.ref 46), some (.int x1), some (.int x2), some (.int ((g_Hg_place x1 x7 x2 hp).1 46 1)), some (.int ((g_Hg_place x1 x7 x2 hp).1 46 2)), some (.int x5), some (.int x6), some (.int x7)]) d_Hg_span_73 (by decide) rfl rfl ?_
          exact J45 _ _ (((if_pos hc_45).trans rfl)).symm (((if_pos hc_45).trans rfl)).symm
        · refine r_aload_n (i := 0) d_Hg_span_48 rfl rfl ?_
          refine r_getI (b := 46) (v := (g_Hg_place x1 x7 x2 hp).1 46 1) d_Hg_span_49 fl_Hg_34 (by decide) rfl rfl rfl ?_
          refine r_iload d_Hg_span_52 rfl ?_
          refine r_imul d_Hg_span_54 ?_
          refine r_iload_n (i := 3) d_Hg_span_55 rfl rfl ?_
          refine r_aload_n (i := 0) d_Hg_span_56 rfl rfl ?_
          refine r_getI (b := 46) (v := (g_Hg_place x1 x7 x2 hp).1 46 2) d_Hg_span_57 fl_Hg_37 (by decide) rfl rfl rfl ?_
          refine r_imul d_Hg_span_60 ?_
          refine r_icmp_ge (tgt := 75) d_Hg_span_61 (by decide) (fun hc_61 => ?_) (fun hc_61 => ?_)
          · exact J45 _ _ (((if_neg hc_45).trans ((if_pos hc_61).trans rfl))).symm (((if_neg hc_45).trans ((if_pos hc_61).trans rfl))).symm
          · refine r_aload_n (i := 0) d_Hg_span_64 rfl rfl ?_
            refine r_getI (b := 46) (v := (g_Hg_place x1 x7 x2 hp).1 46 1) d_Hg_span_65 fl_Hg_34 (by decide) rfl rfl rfl ?_
            refine r_istore_n (i := 3) (lz := [some (.ref 46), some (.int x1), some (.int x2), some (.int ((g_Hg_place x1 x7 x2 hp).1 46 1)), some (.int x4), some (.int x5), some (.int x6), some (.int x7)]) d_Hg_span_68 rfl (by decide) rfl rfl ?_
            refine r_aload_n (i := 0) d_Hg_span_69 rfl rfl ?_
            refine r_getI (b := 46) (v := (g_Hg_place x1 x7 x2 hp).1 46 2) d_Hg_span_70 fl_Hg_37 (by decide) rfl rfl rfl ?_
            refine r_istore (lz := [some (.ref 46), some (.int x1), some (.int x2), some (.int ((g_Hg_place x1 x7 x2 hp).1 46 1)), some (.int ((g_Hg_place x1 x7 x2 hp).1 46 2)), some (.int x5), some (.int x6), some (.int x7)]) d_Hg_span_73 (by decide) rfl rfl ?_
            exact J45 _ _ (((if_neg hc_45).trans ((if_neg hc_61).trans rfl))).symm (((if_neg hc_45).trans ((if_neg hc_61).trans rfl))).symm
set_option maxHeartbeats 4000000 in
set_option maxRecDepth 20000 in
theorem w_GR_hang {G : rx_Gh} {hp : rx_Hp} {F : Int32 → rx_Hp → Prop} (a1 : Int32) (a2 : Int32) (a3 : Int32) (a4 : Int32) (H : ((f_Ha_has a1 hp) = 0 → F (-1) hp) ∧ (¬ (f_Ha_has a1 hp) = 0 → ((f_Ha_has a2 hp) = 0 → F (-1) hp) ∧ (¬ (f_Ha_has a2 hp) = 0 → (a1 = a2 → F (-1) hp) ∧ (¬ a1 = a2 → ((f_GR_isWallPart a3 a4) = 0 → F (-1) hp) ∧ (¬ (f_GR_isWallPart a3 a4) = 0 → p_Hg_place a1 a2 a3 hp ∧ (((f_Hg_place a1 a2 a3 hp) = 0 → F (-1) (g_Hg_place a1 a2 a3 hp)) ∧ (¬ (f_Hg_place a1 a2 a3 hp) = 0 → F ((if a4 = 0 then ((g_Hg_place a1 a2 a3 hp).1 46 1) else ((g_Hg_place a1 a2 a3 hp).1 46 2)) : Int32) (g_Hg_place a1 a2 a3 hp)))))))) : Ev wC G 4 q_GR_hang [.ref 0, .int a1, .int a2, .int a3, .int a4] hp (rI F) := by
  refine ev_of rfl (Nat.le_of_ble_eq_true rfl) rfl ?_
  show Rn wC G 4 q_GR_hang 0 [some (.ref 0), some (.int a1), some (.int a2), some (.int a3), some (.int a4)] [] hp (rI F)
  refine r_aload_n (i := 0) d_GR_hang_0 rfl rfl ?_
  refine r_getR (b := 0) (r := 3) d_GR_hang_1 fl_GR_19 (by decide) rfl rfl rfl ?_
  refine r_iload_n (i := 1) d_GR_hang_4 rfl rfl ?_
  refine rk_VI (b := 3) (d' := 1) [.int a1] [] d_GR_hang_5 ml_GR_144 rfl rfl (by decide) (by decide) rfl rfl (Nat.le_of_ble_eq_true rfl) (s_Ha_has a1 ?_)
  refine r_if_eq (tgt := 36) d_GR_hang_8 (by decide) (fun hc_8 => ?_) (fun hc_8 => ?_)
  · replace H := H.1 hc_8
    refine r_iconst d_GR_hang_36 ic_m1 ?_
    exact rI_ret d_GR_hang_37 rfl H
  · replace H := H.2 hc_8
    refine r_aload_n (i := 0) d_GR_hang_11 rfl rfl ?_
    refine r_getR (b := 0) (r := 3) d_GR_hang_12 fl_GR_19 (by decide) rfl rfl rfl ?_
    refine r_iload_n (i := 2) d_GR_hang_15 rfl rfl ?_
    refine rk_VI (b := 3) (d' := 1) [.int a2] [] d_GR_hang_16 ml_GR_144 rfl rfl (by decide) (by decide) rfl rfl (Nat.le_of_ble_eq_true rfl) (s_Ha_has a2 ?_)
    refine r_if_eq (tgt := 36) d_GR_hang_19 (by decide) (fun hc_19 => ?_) (fun hc_19 => ?_)
    · replace H := H.1 hc_19
      refine r_iconst d_GR_hang_36 ic_m1 ?_
      exact rI_ret d_GR_hang_37 rfl H
    · replace H := H.2 hc_19
      refine r_iload_n (i := 1) d_GR_hang_22 rfl rfl ?_
      refine r_iload_n (i := 2) d_GR_hang_23 rfl rfl ?_
      refine r_icmp_eq (tgt := 36) d_GR_hang_24 (by decide) (fun hc_24 => ?_) (fun hc_24 => ?_)
      · replace H := H.1 hc_24
        refine r_iconst d_GR_hang_36 ic_m1 ?_
        exact rI_ret d_GR_hang_37 rfl H
      · replace H := H.2 hc_24
        refine r_iload_n (i := 3) d_GR_hang_27 rfl rfl ?_
        refine r_iload d_GR_hang_28 rfl ?_
        refine rk_SI (d' := 1) [.int a3, .int a4] [] d_GR_hang_30 ml_GR_299 rfl rfl (by decide) (Nat.le_of_ble_eq_true rfl) (s_GR_isWallPart a3 a4 ?_)
        refine r_if_ne (tgt := 38) d_GR_hang_33 (by decide) (fun hc_33 => ?_) (fun hc_33 => ?_)
        · replace H := H.2 hc_33
          refine r_aload_n (i := 0) d_GR_hang_38 rfl rfl ?_
          refine r_getR (b := 0) (r := 46) d_GR_hang_39 fl_GR_89 (by decide) rfl rfl rfl ?_
          refine r_iload_n (i := 1) d_GR_hang_42 rfl rfl ?_
          refine r_iload_n (i := 2) d_GR_hang_43 rfl rfl ?_
          refine r_iload_n (i := 3) d_GR_hang_44 rfl rfl ?_
          obtain ⟨hp_45_0, H⟩ := H
          refine rk_VI (b := 46) (d' := 3) [.int a1, .int a2, .int a3] [] d_GR_hang_45 ml_GR_302 rfl rfl (by decide) (by decide) rfl rfl (Nat.le_of_ble_eq_true rfl) (s_Hg_place a1 a2 a3 hp_45_0 ?_)
          refine r_if_ne (tgt := 53) d_GR_hang_48 (by decide) (fun hc_48 => ?_) (fun hc_48 => ?_)
          · replace H := H.2 hc_48
            have J55 : ∀ (v55_0 : Int32), v55_0 = ((if a4 = 0 then ((g_Hg_place a1 a2 a3 hp).1 46 1) else ((g_Hg_place a1 a2 a3 hp).1 46 2)) : Int32) → Rn wC G 4 q_GR_hang 75 [some (.ref 0), some (.int a1), some (.int a2), some (.int a3), some (.int a4)] [.int v55_0] (g_Hg_place a1 a2 a3 hp) (rI F) := by
              rintro _ rfl
              exact rI_ret d_GR_hang_75 rfl H
            refine r_iload d_GR_hang_53 rfl ?_
            refine r_if_ne (tgt := 68) d_GR_hang_55 (by decide) (fun hc_55 => ?_) (fun hc_55 => ?_)
            · refine r_aload_n (i := 0) d_GR_hang_68 rfl rfl ?_
              refine r_getR (b := 0) (r := 46) d_GR_hang_69 fl_GR_89 (by decide) rfl rfl rfl ?_
              refine r_getI (b := 46) (v := (g_Hg_place a1 a2 a3 hp).1 46 2) d_GR_hang_72 fl_GR_308 (by decide) rfl rfl rfl ?_
              exact J55 _ (((if_neg hc_55).trans rfl)).symm
            · refine r_aload_n (i := 0) d_GR_hang_58 rfl rfl ?_
              refine r_getR (b := 0) (r := 46) d_GR_hang_59 fl_GR_89 (by decide) rfl rfl rfl ?_
              refine r_getI (b := 46) (v := (g_Hg_place a1 a2 a3 hp).1 46 1) d_GR_hang_62 fl_GR_305 (by decide) rfl rfl rfl ?_
              refine r_goto (tgt := 75) d_GR_hang_65 (by decide) ?_
              exact J55 _ (((if_pos hc_55).trans rfl)).symm
          · replace H := H.1 hc_48
            refine r_iconst d_GR_hang_51 ic_m1 ?_
            exact rI_ret d_GR_hang_52 rfl H
        · replace H := H.1 hc_33
          refine r_iconst d_GR_hang_36 ic_m1 ?_
          exact rI_ret d_GR_hang_37 rfl H
def f_GR_hang (a1 : Int32) (a2 : Int32) (a3 : Int32) (a4 : Int32) (hp : rx_Hp) : Int32 := (if (f_Ha_has a1 hp) = 0 then (-1) else (if (f_Ha_has a2 hp) = 0 then (-1) else (if a1 = a2 then (-1) else (if (f_GR_isWallPart a3 a4) = 0 then (-1) else (if (f_Hg_place a1 a2 a3 hp) = 0 then (-1) else ((if a4 = 0 then ((g_Hg_place a1 a2 a3 hp).1 46 1) else ((g_Hg_place a1 a2 a3 hp).1 46 2)) : Int32))))))
def g_GR_hang (a1 : Int32) (a2 : Int32) (a3 : Int32) (a4 : Int32) (hp : rx_Hp) : rx_Hp := (if (f_Ha_has a1 hp) = 0 then hp else (if (f_Ha_has a2 hp) = 0 then hp else (if a1 = a2 then hp else (if (f_GR_isWallPart a3 a4) = 0 then hp else (g_Hg_place a1 a2 a3 hp)))))
def p_GR_hang (a1 : Int32) (a2 : Int32) (a3 : Int32) (a4 : Int32) (hp : rx_Hp) : Prop := (¬ (f_Ha_has a1 hp) = 0 → (¬ (f_Ha_has a2 hp) = 0 → (¬ a1 = a2 → (¬ (f_GR_isWallPart a3 a4) = 0 → p_Hg_place a1 a2 a3 hp))))
theorem s_GR_hang {G : rx_Gh} {hp : rx_Hp} {F : Int32 → rx_Hp → Prop} (a1 : Int32) (a2 : Int32) (a3 : Int32) (a4 : Int32) (hP : (p_GR_hang a1 a2 a3 a4 hp)) (H0 : F (f_GR_hang a1 a2 a3 a4 hp) (g_GR_hang a1 a2 a3 a4 hp)) : Ev wC G 4 q_GR_hang [.ref 0, .int a1, .int a2, .int a3, .int a4] hp (rI F) := by
  have H : ∀ v h, v = (f_GR_hang a1 a2 a3 a4 hp) → h = (g_GR_hang a1 a2 a3 a4 hp) → F v h := by rintro _ _ rfl rfl; exact H0
  unfold p_GR_hang at hP
  refine w_GR_hang a1 a2 a3 a4  ?_
  refine ⟨fun hc_8 => ?_, fun hc_8 => ?_⟩
  · exact H _ _ (((if_pos hc_8).trans rfl)).symm (((if_pos hc_8).trans rfl)).symm
  · refine ⟨fun hc_19 => ?_, fun hc_19 => ?_⟩
    · exact H _ _ (((if_neg hc_8).trans ((if_pos hc_19).trans rfl))).symm (((if_neg hc_8).trans ((if_pos hc_19).trans rfl))).symm
    · refine ⟨fun hc_24 => ?_, fun hc_24 => ?_⟩
      · exact H _ _ (((if_neg hc_8).trans ((if_neg hc_19).trans ((if_pos hc_24).trans rfl)))).symm (((if_neg hc_8).trans ((if_neg hc_19).trans ((if_pos hc_24).trans rfl)))).symm
      · refine ⟨fun hc_33 => ?_, fun hc_33 => ?_⟩
        · exact H _ _ (((if_neg hc_8).trans ((if_neg hc_19).trans ((if_neg hc_24).trans ((if_pos hc_33).trans rfl))))).symm (((if_neg hc_8).trans ((if_neg hc_19).trans ((if_neg hc_24).trans ((if_pos hc_33).trans rfl))))).symm
        · refine ⟨((((hP hc_8) hc_19) hc_24) hc_33), ?_⟩
          refine ⟨fun hc_48 => ?_, fun hc_48 => ?_⟩
          · exact H _ _ (((if_neg hc_8).trans ((if_neg hc_19).trans ((if_neg hc_24).trans ((if_neg hc_33).trans ((if_pos hc_48).trans rfl)))))).symm (((if_neg hc_8).trans ((if_neg hc_19).trans ((if_neg hc_24).trans ((if_neg hc_33).trans rfl))))).symm
          · exact H _ _ (((if_neg hc_8).trans ((if_neg hc_19).trans ((if_neg hc_24).trans ((if_neg hc_33).trans ((if_neg hc_48).trans rfl)))))).symm (((if_neg hc_8).trans ((if_neg hc_19).trans ((if_neg hc_24).trans ((if_neg hc_33).trans rfl))))).symm
set_option maxHeartbeats 4000000 in
set_option maxRecDepth 20000 in
theorem w_GR_pane {G : rx_Gh} {hp : rx_Hp} {F : Int32 → rx_Hp → Prop} (a1 : Int32) (a2 : Int32) (a3 : Int32) (H : ((f_Ha_has a1 hp) = 0 → F (-1) hp) ∧ (¬ (f_Ha_has a1 hp) = 0 → ((f_GR_isWallPart a2 a3) = 0 → F (-1) hp) ∧ (¬ (f_GR_isWallPart a2 a3) = 0 → Ev wC G 4 q_Hg_span [.ref 46, .int a1, .int a2] hp (rI fun r2 h1 => (r2 = 0 → F (-1) h1) ∧ (¬ r2 = 0 → F ((if a3 = 0 then (h1.1 46 1) else (h1.1 46 2)) : Int32) h1))))) : Ev wC G 5 q_GR_pane [.ref 0, .int a1, .int a2, .int a3] hp (rI F) := by
  refine ev_of rfl (Nat.le_of_ble_eq_true rfl) rfl ?_
  show Rn wC G 5 q_GR_pane 0 [some (.ref 0), some (.int a1), some (.int a2), some (.int a3)] [] hp (rI F)
  refine r_aload_n (i := 0) d_GR_pane_0 rfl rfl ?_
  refine r_getR (b := 0) (r := 3) d_GR_pane_1 fl_GR_19 (by decide) rfl rfl rfl ?_
  refine r_iload_n (i := 1) d_GR_pane_4 rfl rfl ?_
  refine rk_VI (b := 3) (d' := 1) [.int a1] [] d_GR_pane_5 ml_GR_144 rfl rfl (by decide) (by decide) rfl rfl (Nat.le_of_ble_eq_true rfl) (s_Ha_has a1 ?_)
  refine r_if_eq (tgt := 31) d_GR_pane_8 (by decide) (fun hc_8 => ?_) (fun hc_8 => ?_)
  · replace H := H.1 hc_8
    refine r_iconst d_GR_pane_31 ic_m1 ?_
    exact rI_ret d_GR_pane_32 rfl H
  · replace H := H.2 hc_8
    refine r_iload_n (i := 2) d_GR_pane_11 rfl rfl ?_
    refine r_iload_n (i := 3) d_GR_pane_12 rfl rfl ?_
    refine rk_SI (d' := 1) [.int a2, .int a3] [] d_GR_pane_13 ml_GR_299 rfl rfl (by decide) (Nat.le_of_ble_eq_true rfl) (s_GR_isWallPart a2 a3 ?_)
    refine r_if_eq (tgt := 31) d_GR_pane_16 (by decide) (fun hc_16 => ?_) (fun hc_16 => ?_)
    · replace H := H.1 hc_16
      refine r_iconst d_GR_pane_31 ic_m1 ?_
      exact rI_ret d_GR_pane_32 rfl H
    · replace H := H.2 hc_16
      refine r_aload_n (i := 0) d_GR_pane_19 rfl rfl ?_
      refine r_getR (b := 0) (r := 46) d_GR_pane_20 fl_GR_89 (by decide) rfl rfl rfl ?_
      refine r_iload_n (i := 1) d_GR_pane_23 rfl rfl ?_
      refine r_iload_n (i := 2) d_GR_pane_24 rfl rfl ?_
      refine rc_VI (b := 46) (d' := 4) [.int a1, .int a2] [] d_GR_pane_25 ml_GR_311 rfl rfl (by decide) (by decide) rfl rfl (Nat.le_of_ble_eq_true rfl) H ?_
      intro r2 h1 H
      refine r_if_ne (tgt := 33) d_GR_pane_28 (by decide) (fun hc_28 => ?_) (fun hc_28 => ?_)
      · replace H := H.2 hc_28
        have J34 : ∀ (v34_0 : Int32), v34_0 = ((if a3 = 0 then (h1.1 46 1) else (h1.1 46 2)) : Int32) → Rn wC G 5 q_GR_pane 54 [some (.ref 0), some (.int a1), some (.int a2), some (.int a3)] [.int v34_0] h1 (rI F) := by
          rintro _ rfl
          exact rI_ret d_GR_pane_54 rfl H
        refine r_iload_n (i := 3) d_GR_pane_33 rfl rfl ?_
        refine r_if_ne (tgt := 47) d_GR_pane_34 (by decide) (fun hc_34 => ?_) (fun hc_34 => ?_)
        · refine r_aload_n (i := 0) d_GR_pane_47 rfl rfl ?_
          refine r_getR (b := 0) (r := 46) d_GR_pane_48 fl_GR_89 (by decide) rfl rfl rfl ?_
          refine r_getI (b := 46) (v := h1.1 46 2) d_GR_pane_51 fl_GR_308 (by decide) rfl rfl rfl ?_
          exact J34 _ (((if_neg hc_34).trans rfl)).symm
        · refine r_aload_n (i := 0) d_GR_pane_37 rfl rfl ?_
          refine r_getR (b := 0) (r := 46) d_GR_pane_38 fl_GR_89 (by decide) rfl rfl rfl ?_
          refine r_getI (b := 46) (v := h1.1 46 1) d_GR_pane_41 fl_GR_305 (by decide) rfl rfl rfl ?_
          refine r_goto (tgt := 54) d_GR_pane_44 (by decide) ?_
          exact J34 _ (((if_pos hc_34).trans rfl)).symm
      · replace H := H.1 hc_28
        refine r_iconst d_GR_pane_31 ic_m1 ?_
        exact rI_ret d_GR_pane_32 rfl H

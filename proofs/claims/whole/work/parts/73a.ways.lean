theorem d_Ba_unlikeWays_0 : decode q_Ba_unlikeWays.2.1 0 = .ok (.iconst 0, 1) := by decide +kernel
theorem d_Ba_unlikeWays_1 : decode q_Ba_unlikeWays.2.1 1 = .ok (.istore 4, 2) := by decide +kernel
theorem d_Ba_unlikeWays_3 : decode q_Ba_unlikeWays.2.1 3 = .ok (.aload_n 0, 1) := by decide +kernel
theorem d_Ba_unlikeWays_4 : decode q_Ba_unlikeWays.2.1 4 = .ok (.getfield 15, 3) := by decide +kernel
theorem d_Ba_unlikeWays_7 : decode q_Ba_unlikeWays.2.1 7 = .ok (.getfield 25, 3) := by decide +kernel
theorem d_Ba_unlikeWays_10 : decode q_Ba_unlikeWays.2.1 10 = .ok (.iload_n 1, 1) := by decide +kernel
theorem d_Ba_unlikeWays_11 : decode q_Ba_unlikeWays.2.1 11 = .ok (.iaload, 1) := by decide +kernel
theorem d_Ba_unlikeWays_12 : decode q_Ba_unlikeWays.2.1 12 = .ok (.aload_n 0, 1) := by decide +kernel
theorem d_Ba_unlikeWays_13 : decode q_Ba_unlikeWays.2.1 13 = .ok (.getfield 15, 3) := by decide +kernel
theorem d_Ba_unlikeWays_16 : decode q_Ba_unlikeWays.2.1 16 = .ok (.getfield 35, 3) := by decide +kernel
theorem d_Ba_unlikeWays_19 : decode q_Ba_unlikeWays.2.1 19 = .ok (.iload_n 1, 1) := by decide +kernel
theorem d_Ba_unlikeWays_20 : decode q_Ba_unlikeWays.2.1 20 = .ok (.iaload, 1) := by decide +kernel
theorem d_Ba_unlikeWays_21 : decode q_Ba_unlikeWays.2.1 21 = .ok (.invokestatic 51, 3) := by decide +kernel
theorem ml_Ba_51 : rx_CS "GlassRoom$Ball" 51 q_Ba_placeNumber 2 := ⟨⟨(rx_s4 139 rfl rfl), (rx_s4 140 rfl rfl)⟩, ⟨(rx_s1 10 rfl rfl), q_Ba_placeNumber_k, ⟨by decide, by decide, by decide +kernel⟩, by decide⟩⟩
theorem d_Ba_unlikeWays_24 : decode q_Ba_unlikeWays.2.1 24 = .ok (.istore 5, 2) := by decide +kernel
theorem d_Ba_unlikeWays_26 : decode q_Ba_unlikeWays.2.1 26 = .ok (.iload_n 3, 1) := by decide +kernel
theorem d_Ba_unlikeWays_27 : decode q_Ba_unlikeWays.2.1 27 = .ok (.ineg, 1) := by decide +kernel
theorem d_Ba_unlikeWays_28 : decode q_Ba_unlikeWays.2.1 28 = .ok (.istore 6, 2) := by decide +kernel
theorem d_Ba_unlikeWays_30 : decode q_Ba_unlikeWays.2.1 30 = .ok (.iload 6, 2) := by decide +kernel
theorem d_Ba_unlikeWays_32 : decode q_Ba_unlikeWays.2.1 32 = .ok (.iload_n 3, 1) := by decide +kernel
theorem d_Ba_unlikeWays_33 : decode q_Ba_unlikeWays.2.1 33 = .ok (.if_icmp .gt 127, 3) := by decide +kernel
theorem d_Ba_unlikeWays_36 : decode q_Ba_unlikeWays.2.1 36 = .ok (.iload 6, 2) := by decide +kernel
theorem d_Ba_unlikeWays_38 : decode q_Ba_unlikeWays.2.1 38 = .ok (.aload_n 0, 1) := by decide +kernel
theorem d_Ba_unlikeWays_39 : decode q_Ba_unlikeWays.2.1 39 = .ok (.getfield 15, 3) := by decide +kernel
theorem d_Ba_unlikeWays_42 : decode q_Ba_unlikeWays.2.1 42 = .ok (.getfield 19, 3) := by decide +kernel
theorem d_Ba_unlikeWays_45 : decode q_Ba_unlikeWays.2.1 45 = .ok (.aload_n 0, 1) := by decide +kernel
theorem d_Ba_unlikeWays_46 : decode q_Ba_unlikeWays.2.1 46 = .ok (.getfield 15, 3) := by decide +kernel
theorem d_Ba_unlikeWays_49 : decode q_Ba_unlikeWays.2.1 49 = .ok (.getfield 25, 3) := by decide +kernel
theorem d_Ba_unlikeWays_52 : decode q_Ba_unlikeWays.2.1 52 = .ok (.iload_n 2, 1) := by decide +kernel
theorem d_Ba_unlikeWays_160 : decode q_Ba_unlikeWays.2.1 160 = .ok (.iload 4, 2) := by decide +kernel
theorem d_Ba_unlikeWays_162 : decode q_Ba_unlikeWays.2.1 162 = .ok (.ireturn, 1) := by decide +kernel
theorem d_Ba_unlikeWays_53 : decode q_Ba_unlikeWays.2.1 53 = .ok (.iaload, 1) := by decide +kernel
theorem d_Ba_unlikeWays_54 : decode q_Ba_unlikeWays.2.1 54 = .ok (.invokestatic 28, 3) := by decide +kernel
theorem d_Ba_unlikeWays_57 : decode q_Ba_unlikeWays.2.1 57 = .ok (.istore 7, 2) := by decide +kernel
theorem d_Ba_unlikeWays_59 : decode q_Ba_unlikeWays.2.1 59 = .ok (.iload_n 3, 1) := by decide +kernel
theorem d_Ba_unlikeWays_60 : decode q_Ba_unlikeWays.2.1 60 = .ok (.iload 6, 2) := by decide +kernel
theorem d_Ba_unlikeWays_62 : decode q_Ba_unlikeWays.2.1 62 = .ok (.invokestatic 54, 3) := by decide +kernel
theorem ml_Ba_54 : rx_CS "GlassRoom$Ball" 54 q_Mt_abs 1 := ⟨⟨(rx_s4 142 rfl rfl), (rx_s3 189 rfl rfl)⟩, ⟨(rx_s1 16 rfl rfl), q_Mt_abs_k, ⟨by decide, by decide, by decide +kernel⟩, by decide⟩⟩
theorem d_Ba_unlikeWays_65 : decode q_Ba_unlikeWays.2.1 65 = .ok (.isub, 1) := by decide +kernel
theorem d_Ba_unlikeWays_66 : decode q_Ba_unlikeWays.2.1 66 = .ok (.istore 8, 2) := by decide +kernel
theorem d_Ba_unlikeWays_68 : decode q_Ba_unlikeWays.2.1 68 = .ok (.iconst (-1), 1) := by decide +kernel
theorem d_Ba_unlikeWays_69 : decode q_Ba_unlikeWays.2.1 69 = .ok (.istore 9, 2) := by decide +kernel
theorem d_Ba_unlikeWays_71 : decode q_Ba_unlikeWays.2.1 71 = .ok (.iload 9, 2) := by decide +kernel
theorem d_Ba_unlikeWays_73 : decode q_Ba_unlikeWays.2.1 73 = .ok (.iconst 1, 1) := by decide +kernel
theorem d_Ba_unlikeWays_74 : decode q_Ba_unlikeWays.2.1 74 = .ok (.if_icmp .gt 80, 3) := by decide +kernel
theorem d_Ba_unlikeWays_77 : decode q_Ba_unlikeWays.2.1 77 = .ok (.iload 7, 2) := by decide +kernel
theorem d_Ba_unlikeWays_79 : decode q_Ba_unlikeWays.2.1 79 = .ok (.iload 9, 2) := by decide +kernel
theorem d_Ba_unlikeWays_81 : decode q_Ba_unlikeWays.2.1 81 = .ok (.iload 8, 2) := by decide +kernel
theorem d_Ba_unlikeWays_83 : decode q_Ba_unlikeWays.2.1 83 = .ok (.imul, 1) := by decide +kernel
theorem d_Ba_unlikeWays_84 : decode q_Ba_unlikeWays.2.1 84 = .ok (.aload_n 0, 1) := by decide +kernel
theorem d_Ba_unlikeWays_85 : decode q_Ba_unlikeWays.2.1 85 = .ok (.getfield 15, 3) := by decide +kernel
theorem d_Ba_unlikeWays_88 : decode q_Ba_unlikeWays.2.1 88 = .ok (.getfield 32, 3) := by decide +kernel
theorem d_Ba_unlikeWays_91 : decode q_Ba_unlikeWays.2.1 91 = .ok (.aload_n 0, 1) := by decide +kernel
theorem d_Ba_unlikeWays_92 : decode q_Ba_unlikeWays.2.1 92 = .ok (.getfield 15, 3) := by decide +kernel
theorem d_Ba_unlikeWays_95 : decode q_Ba_unlikeWays.2.1 95 = .ok (.getfield 35, 3) := by decide +kernel
theorem d_Ba_unlikeWays_98 : decode q_Ba_unlikeWays.2.1 98 = .ok (.iload_n 2, 1) := by decide +kernel
theorem d_Ba_unlikeWays_154 : decode q_Ba_unlikeWays.2.1 154 = .ok (.iinc 6 1, 3) := by decide +kernel
theorem d_Ba_unlikeWays_157 : decode q_Ba_unlikeWays.2.1 157 = .ok (.goto (-127), 3) := by decide +kernel
theorem d_Ba_unlikeWays_99 : decode q_Ba_unlikeWays.2.1 99 = .ok (.iaload, 1) := by decide +kernel
theorem d_Ba_unlikeWays_100 : decode q_Ba_unlikeWays.2.1 100 = .ok (.invokestatic 28, 3) := by decide +kernel
theorem d_Ba_unlikeWays_103 : decode q_Ba_unlikeWays.2.1 103 = .ok (.invokestatic 51, 3) := by decide +kernel
theorem d_Ba_unlikeWays_106 : decode q_Ba_unlikeWays.2.1 106 = .ok (.istore 10, 2) := by decide +kernel
theorem d_Ba_unlikeWays_108 : decode q_Ba_unlikeWays.2.1 108 = .ok (.iload 10, 2) := by decide +kernel
theorem d_Ba_unlikeWays_110 : decode q_Ba_unlikeWays.2.1 110 = .ok (.iload 5, 2) := by decide +kernel
theorem d_Ba_unlikeWays_112 : decode q_Ba_unlikeWays.2.1 112 = .ok (.if_icmp .eq 36, 3) := by decide +kernel
theorem d_Ba_unlikeWays_115 : decode q_Ba_unlikeWays.2.1 115 = .ok (.iload 4, 2) := by decide +kernel
theorem d_Ba_unlikeWays_117 : decode q_Ba_unlikeWays.2.1 117 = .ok (.aload_n 0, 1) := by decide +kernel
theorem d_Ba_unlikeWays_118 : decode q_Ba_unlikeWays.2.1 118 = .ok (.getfield 9, 3) := by decide +kernel
theorem d_Ba_unlikeWays_121 : decode q_Ba_unlikeWays.2.1 121 = .ok (.arraylength, 1) := by decide +kernel
theorem d_Ba_unlikeWays_122 : decode q_Ba_unlikeWays.2.1 122 = .ok (.if_icmp .ge 26, 3) := by decide +kernel
theorem d_Ba_unlikeWays_125 : decode q_Ba_unlikeWays.2.1 125 = .ok (.aload_n 0, 1) := by decide +kernel
theorem d_Ba_unlikeWays_126 : decode q_Ba_unlikeWays.2.1 126 = .ok (.iload 10, 2) := by decide +kernel
theorem d_Ba_unlikeWays_128 : decode q_Ba_unlikeWays.2.1 128 = .ok (.iload 4, 2) := by decide +kernel
theorem d_Ba_unlikeWays_148 : decode q_Ba_unlikeWays.2.1 148 = .ok (.iinc 9 2, 3) := by decide +kernel
theorem d_Ba_unlikeWays_151 : decode q_Ba_unlikeWays.2.1 151 = .ok (.goto (-80), 3) := by decide +kernel
theorem d_Ba_unlikeWays_130 : decode q_Ba_unlikeWays.2.1 130 = .ok (.invokevirtual 60, 3) := by decide +kernel
theorem ml_Ba_60 : rx_CV "GlassRoom$Ball" 60 q_Ba_isNew 2 := ⟨⟨(rx_s4 143 rfl rfl), (rx_s4 145 rfl rfl), (rx_s0 16 rfl rfl)⟩, ⟨(rx_s1 10 rfl rfl), q_Ba_isNew_k, ⟨by decide, by decide, by decide +kernel⟩, by decide⟩⟩
theorem d_Ba_unlikeWays_133 : decode q_Ba_unlikeWays.2.1 133 = .ok (.ifCond .eq 15, 3) := by decide +kernel
theorem d_Ba_unlikeWays_136 : decode q_Ba_unlikeWays.2.1 136 = .ok (.aload_n 0, 1) := by decide +kernel
theorem d_Ba_unlikeWays_137 : decode q_Ba_unlikeWays.2.1 137 = .ok (.getfield 9, 3) := by decide +kernel
theorem d_Ba_unlikeWays_140 : decode q_Ba_unlikeWays.2.1 140 = .ok (.iload 4, 2) := by decide +kernel
theorem d_Ba_unlikeWays_142 : decode q_Ba_unlikeWays.2.1 142 = .ok (.iload 10, 2) := by decide +kernel
theorem d_Ba_unlikeWays_144 : decode q_Ba_unlikeWays.2.1 144 = .ok (.iastore, 1) := by decide +kernel
theorem d_Ba_unlikeWays_145 : decode q_Ba_unlikeWays.2.1 145 = .ok (.iinc 4 1, 3) := by decide +kernel
theorem d_GR_ways_0 : decode q_GR_ways.2.1 0 = .ok (.aload_n 0, 1) := by decide +kernel
theorem d_GR_ways_1 : decode q_GR_ways.2.1 1 = .ok (.getfield 19, 3) := by decide +kernel
theorem d_GR_ways_4 : decode q_GR_ways.2.1 4 = .ok (.iload_n 1, 1) := by decide +kernel
theorem d_GR_ways_5 : decode q_GR_ways.2.1 5 = .ok (.invokevirtual 144, 3) := by decide +kernel
theorem d_GR_ways_8 : decode q_GR_ways.2.1 8 = .ok (.ifCond .eq 24, 3) := by decide +kernel
theorem d_GR_ways_32 : decode q_GR_ways.2.1 32 = .ok (.iconst (-1), 1) := by decide +kernel
theorem d_GR_ways_33 : decode q_GR_ways.2.1 33 = .ok (.ireturn, 1) := by decide +kernel
theorem d_GR_ways_11 : decode q_GR_ways.2.1 11 = .ok (.aload_n 0, 1) := by decide +kernel
theorem d_GR_ways_12 : decode q_GR_ways.2.1 12 = .ok (.getfield 19, 3) := by decide +kernel
theorem d_GR_ways_15 : decode q_GR_ways.2.1 15 = .ok (.iload_n 2, 1) := by decide +kernel
theorem d_GR_ways_16 : decode q_GR_ways.2.1 16 = .ok (.invokevirtual 144, 3) := by decide +kernel
theorem d_GR_ways_19 : decode q_GR_ways.2.1 19 = .ok (.ifCond .eq 13, 3) := by decide +kernel
theorem d_GR_ways_22 : decode q_GR_ways.2.1 22 = .ok (.iload_n 3, 1) := by decide +kernel
theorem d_GR_ways_23 : decode q_GR_ways.2.1 23 = .ok (.ifCond .lt 9, 3) := by decide +kernel
theorem d_GR_ways_26 : decode q_GR_ways.2.1 26 = .ok (.iload_n 3, 1) := by decide +kernel
theorem d_GR_ways_27 : decode q_GR_ways.2.1 27 = .ok (.bipush 10, 2) := by decide +kernel
theorem d_GR_ways_29 : decode q_GR_ways.2.1 29 = .ok (.if_icmp .le 5, 3) := by decide +kernel
theorem d_GR_ways_34 : decode q_GR_ways.2.1 34 = .ok (.aload_n 0, 1) := by decide +kernel
theorem d_GR_ways_35 : decode q_GR_ways.2.1 35 = .ok (.getfield 82, 3) := by decide +kernel
theorem d_GR_ways_38 : decode q_GR_ways.2.1 38 = .ok (.iload_n 1, 1) := by decide +kernel
theorem d_GR_ways_39 : decode q_GR_ways.2.1 39 = .ok (.iload_n 2, 1) := by decide +kernel
theorem d_GR_ways_40 : decode q_GR_ways.2.1 40 = .ok (.iload_n 3, 1) := by decide +kernel
theorem d_GR_ways_41 : decode q_GR_ways.2.1 41 = .ok (.invokevirtual 296, 3) := by decide +kernel
theorem ml_GR_296 : rx_CV "GlassRoom" 296 q_Ba_unlikeWays 3 := ⟨⟨(rx_s4 135 rfl rfl), (rx_s4 136 rfl rfl), (rx_s4 137 rfl rfl)⟩, ⟨(rx_s1 10 rfl rfl), q_Ba_unlikeWays_k, ⟨by decide, by decide, by decide +kernel⟩, by decide⟩⟩
theorem d_GR_ways_44 : decode q_GR_ways.2.1 44 = .ok (.ireturn, 1) := by decide +kernel
theorem d_M_ways_0 : decode q_M_ways.2.1 0 = .ok (.aload_n 0, 1) := by decide +kernel
theorem d_M_ways_1 : decode q_M_ways.2.1 1 = .ok (.iload_n 1, 1) := by decide +kernel
theorem d_M_ways_2 : decode q_M_ways.2.1 2 = .ok (.invokevirtual 267, 3) := by decide +kernel
theorem d_M_ways_5 : decode q_M_ways.2.1 5 = .ok (.ifCond .eq 21, 3) := by decide +kernel
theorem d_M_ways_26 : decode q_M_ways.2.1 26 = .ok (.iconst (-1), 1) := by decide +kernel
theorem d_M_ways_27 : decode q_M_ways.2.1 27 = .ok (.ireturn, 1) := by decide +kernel
theorem d_M_ways_8 : decode q_M_ways.2.1 8 = .ok (.aload_n 0, 1) := by decide +kernel
theorem d_M_ways_9 : decode q_M_ways.2.1 9 = .ok (.iload_n 2, 1) := by decide +kernel
theorem d_M_ways_10 : decode q_M_ways.2.1 10 = .ok (.invokevirtual 267, 3) := by decide +kernel
theorem d_M_ways_13 : decode q_M_ways.2.1 13 = .ok (.ifCond .eq 13, 3) := by decide +kernel
theorem d_M_ways_16 : decode q_M_ways.2.1 16 = .ok (.iload_n 3, 1) := by decide +kernel
theorem d_M_ways_17 : decode q_M_ways.2.1 17 = .ok (.iconst 0, 1) := by decide +kernel
theorem d_M_ways_18 : decode q_M_ways.2.1 18 = .ok (.bipush 10, 2) := by decide +kernel
theorem d_M_ways_20 : decode q_M_ways.2.1 20 = .ok (.invokestatic 198, 3) := by decide +kernel
theorem d_M_ways_23 : decode q_M_ways.2.1 23 = .ok (.ifCond .ne 5, 3) := by decide +kernel
theorem d_M_ways_28 : decode q_M_ways.2.1 28 = .ok (.iconst 0, 1) := by decide +kernel
theorem d_M_ways_29 : decode q_M_ways.2.1 29 = .ok (.istore 4, 2) := by decide +kernel
theorem d_M_ways_31 : decode q_M_ways.2.1 31 = .ok (.iload_n 3, 1) := by decide +kernel
theorem d_M_ways_32 : decode q_M_ways.2.1 32 = .ok (.ineg, 1) := by decide +kernel
theorem d_M_ways_33 : decode q_M_ways.2.1 33 = .ok (.istore 5, 2) := by decide +kernel
theorem d_M_ways_35 : decode q_M_ways.2.1 35 = .ok (.iload 5, 2) := by decide +kernel
theorem d_M_ways_37 : decode q_M_ways.2.1 37 = .ok (.iload_n 3, 1) := by decide +kernel
theorem d_M_ways_38 : decode q_M_ways.2.1 38 = .ok (.if_icmp .gt 81, 3) := by decide +kernel
theorem d_M_ways_41 : decode q_M_ways.2.1 41 = .ok (.iconst 0, 1) := by decide +kernel
theorem d_M_ways_42 : decode q_M_ways.2.1 42 = .ok (.istore 6, 2) := by decide +kernel
theorem d_M_ways_119 : decode q_M_ways.2.1 119 = .ok (.iload 4, 2) := by decide +kernel
theorem d_M_ways_121 : decode q_M_ways.2.1 121 = .ok (.ireturn, 1) := by decide +kernel
theorem d_M_ways_44 : decode q_M_ways.2.1 44 = .ok (.iload 6, 2) := by decide +kernel
theorem d_M_ways_46 : decode q_M_ways.2.1 46 = .ok (.iload 5, 2) := by decide +kernel
theorem d_M_ways_48 : decode q_M_ways.2.1 48 = .ok (.invokestatic 295, 3) := by decide +kernel
theorem d_M_ways_51 : decode q_M_ways.2.1 51 = .ok (.iload_n 3, 1) := by decide +kernel
theorem d_M_ways_52 : decode q_M_ways.2.1 52 = .ok (.if_icmp .ne 7, 3) := by decide +kernel
theorem d_M_ways_55 : decode q_M_ways.2.1 55 = .ok (.iconst 1, 1) := by decide +kernel
theorem d_M_ways_56 : decode q_M_ways.2.1 56 = .ok (.goto 4, 3) := by decide +kernel
theorem d_M_ways_59 : decode q_M_ways.2.1 59 = .ok (.iconst 2, 1) := by decide +kernel
theorem d_M_ways_60 : decode q_M_ways.2.1 60 = .ok (.if_icmp .ge 53, 3) := by decide +kernel
theorem d_M_ways_63 : decode q_M_ways.2.1 63 = .ok (.iload_n 3, 1) := by decide +kernel
theorem d_M_ways_64 : decode q_M_ways.2.1 64 = .ok (.iload 5, 2) := by decide +kernel
theorem d_M_ways_66 : decode q_M_ways.2.1 66 = .ok (.invokestatic 295, 3) := by decide +kernel
theorem d_M_ways_69 : decode q_M_ways.2.1 69 = .ok (.isub, 1) := by decide +kernel
theorem d_M_ways_70 : decode q_M_ways.2.1 70 = .ok (.iload 6, 2) := by decide +kernel
theorem d_M_ways_72 : decode q_M_ways.2.1 72 = .ok (.ifCond .ne 7, 3) := by decide +kernel
theorem d_M_ways_75 : decode q_M_ways.2.1 75 = .ok (.iconst 1, 1) := by decide +kernel
theorem d_M_ways_76 : decode q_M_ways.2.1 76 = .ok (.goto 4, 3) := by decide +kernel
theorem d_M_ways_80 : decode q_M_ways.2.1 80 = .ok (.imul, 1) := by decide +kernel
theorem d_M_ways_81 : decode q_M_ways.2.1 81 = .ok (.istore 7, 2) := by decide +kernel
theorem d_M_ways_83 : decode q_M_ways.2.1 83 = .ok (.iload 4, 2) := by decide +kernel
theorem d_M_ways_85 : decode q_M_ways.2.1 85 = .ok (.aload_n 0, 1) := by decide +kernel
theorem d_M_ways_86 : decode q_M_ways.2.1 86 = .ok (.iload_n 1, 1) := by decide +kernel
theorem d_M_ways_87 : decode q_M_ways.2.1 87 = .ok (.iload_n 2, 1) := by decide +kernel
theorem d_M_ways_88 : decode q_M_ways.2.1 88 = .ok (.iload_n 3, 1) := by decide +kernel
theorem d_M_ways_89 : decode q_M_ways.2.1 89 = .ok (.iload 5, 2) := by decide +kernel
theorem d_M_ways_91 : decode q_M_ways.2.1 91 = .ok (.iload 7, 2) := by decide +kernel
theorem d_M_ways_113 : decode q_M_ways.2.1 113 = .ok (.iinc 5 1, 3) := by decide +kernel
theorem d_M_ways_116 : decode q_M_ways.2.1 116 = .ok (.goto (-81), 3) := by decide +kernel
theorem d_M_ways_79 : decode q_M_ways.2.1 79 = .ok (.iconst (-1), 1) := by decide +kernel
theorem d_M_ways_93 : decode q_M_ways.2.1 93 = .ok (.invokevirtual 358, 3) := by decide +kernel
theorem ml_M_358 : rx_CV "GlassRoomModel" 358 q_M_isNew 5 := ⟨⟨(rx_s7 79 rfl rfl), (rx_s7 81 rfl rfl), (rx_s0 67 rfl rfl)⟩, ⟨(rx_s1 13 rfl rfl), q_M_isNew_k, ⟨by decide, by decide, by decide +kernel⟩, by decide⟩⟩
theorem d_M_ways_96 : decode q_M_ways.2.1 96 = .ok (.ifCond .eq 7, 3) := by decide +kernel
theorem d_M_ways_103 : decode q_M_ways.2.1 103 = .ok (.iconst 0, 1) := by decide +kernel
theorem d_M_ways_99 : decode q_M_ways.2.1 99 = .ok (.iconst 1, 1) := by decide +kernel
theorem d_M_ways_100 : decode q_M_ways.2.1 100 = .ok (.goto 4, 3) := by decide +kernel
theorem d_M_ways_104 : decode q_M_ways.2.1 104 = .ok (.iadd, 1) := by decide +kernel
theorem d_M_ways_105 : decode q_M_ways.2.1 105 = .ok (.istore 4, 2) := by decide +kernel
theorem d_M_ways_107 : decode q_M_ways.2.1 107 = .ok (.iinc 6 1, 3) := by decide +kernel
theorem d_M_ways_110 : decode q_M_ways.2.1 110 = .ok (.goto (-66), 3) := by decide +kernel
set_option maxHeartbeats 4000000 in
set_option maxRecDepth 20000 in
theorem w_Ba_unlikeWays {G : rx_Gh} {hp : rx_Hp} {F : Int32 → rx_Hp → Prop} (a1 : Int32) (a2 : Int32) (a3 : Int32) (H : vp_in a1 6 ∧ (Rn wC G 2 q_Ba_unlikeWays 30 [some (.ref 44), none, some (.int a2), some (.int a3), some (.int 0), some (.int (f_Ba_placeNumber (hp.2.1 4 a1.toNatClampNeg) (hp.2.1 5 a1.toNatClampNeg))), some (.int (-a3)), none, none, none, none] [] hp (rI F))) : Ev wC G 2 q_Ba_unlikeWays [.ref 44, .int a1, .int a2, .int a3] hp (rI F) := by
  refine ev_of rfl (Nat.le_of_ble_eq_true rfl) rfl ?_
  show Rn wC G 2 q_Ba_unlikeWays 0 [some (.ref 44), some (.int a1), some (.int a2), some (.int a3), none, none, none, none, none, none, none] [] hp (rI F)
  refine r_iconst d_Ba_unlikeWays_0 ic_0 ?_
  refine r_istore (lz := [some (.ref 44), some (.int a1), some (.int a2), some (.int a3), some (.int 0), none, none, none, none, none, none]) d_Ba_unlikeWays_1 (by decide) rfl rfl ?_
  refine r_aload_n (i := 0) d_Ba_unlikeWays_3 rfl rfl ?_
  refine r_getR (b := 44) (r := 3) d_Ba_unlikeWays_4 fl_Ba_15 (by decide) rfl rfl rfl ?_
  refine r_getR (b := 3) (r := 4) d_Ba_unlikeWays_7 fl_Ba_25 (by decide) rfl rfl rfl ?_
  refine r_iload_n (i := 1) d_Ba_unlikeWays_10 rfl rfl ?_
  obtain ⟨hi_11, H⟩ := H
  refine r_iald (b := 4) (v := hp.2.1 4 a1.toNatClampNeg) d_Ba_unlikeWays_11 (by decide) rfl hi_11 rfl ?_
  refine r_aload_n (i := 0) d_Ba_unlikeWays_12 rfl rfl ?_
  refine r_getR (b := 44) (r := 3) d_Ba_unlikeWays_13 fl_Ba_15 (by decide) rfl rfl rfl ?_
  refine r_getR (b := 3) (r := 5) d_Ba_unlikeWays_16 fl_Ba_35 (by decide) rfl rfl rfl ?_
  refine r_iload_n (i := 1) d_Ba_unlikeWays_19 rfl rfl ?_
  refine r_iald (b := 5) (v := hp.2.1 5 a1.toNatClampNeg) d_Ba_unlikeWays_20 (by decide) rfl hi_11 rfl ?_
  refine rk_SI (d' := 1) [.int (hp.2.1 4 a1.toNatClampNeg), .int (hp.2.1 5 a1.toNatClampNeg)] [] d_Ba_unlikeWays_21 ml_Ba_51 rfl rfl (by decide) (Nat.le_of_ble_eq_true rfl) (s_Ba_placeNumber (hp.2.1 4 a1.toNatClampNeg) (hp.2.1 5 a1.toNatClampNeg) ?_)
  refine r_istore (lz := [some (.ref 44), some (.int a1), some (.int a2), some (.int a3), some (.int 0), some (.int (f_Ba_placeNumber (hp.2.1 4 a1.toNatClampNeg) (hp.2.1 5 a1.toNatClampNeg))), none, none, none, none, none]) d_Ba_unlikeWays_24 (by decide) rfl rfl ?_
  refine r_iload_n (i := 3) d_Ba_unlikeWays_26 rfl rfl ?_
  refine r_ineg d_Ba_unlikeWays_27 ?_
  refine r_istore (lz := [some (.ref 44), some (.int a1), some (.int a2), some (.int a3), some (.int 0), some (.int (f_Ba_placeNumber (hp.2.1 4 a1.toNatClampNeg) (hp.2.1 5 a1.toNatClampNeg))), some (.int (-a3)), none, none, none, none]) d_Ba_unlikeWays_28 (by decide) rfl rfl ?_
  exact rx_fgt [false, true] H
set_option maxHeartbeats 4000000 in
set_option maxRecDepth 20000 in
theorem w_Ba_unlikeWays_30 {G : rx_Gh} {hp : rx_Hp} {F : Int32 → rx_Hp → Prop} (x2 : Int32) (x3 : Int32) (x4 : Int32) (x5 : Int32) (x6 : Int32) (H : (x3 < x6 → F x4 hp) ∧ (¬ x3 < x6 → vp_in x2 6 ∧ (Rn wC G 2 q_Ba_unlikeWays 71 [some (.ref 44), none, some (.int x2), some (.int x3), some (.int x4), some (.int x5), some (.int x6), some (.int (f_Ha_spot x6 (hp.1 3 5) (hp.2.1 4 x2.toNatClampNeg))), some (.int (x3 - (f_Mt_abs x6))), some (.int (-1)), none] [] hp (rI F)))) : Rn wC G 2 q_Ba_unlikeWays 30 [some (.ref 44), none, some (.int x2), some (.int x3), some (.int x4), some (.int x5), some (.int x6), none, none, none, none] [] hp (rI F) := by
  refine r_iload d_Ba_unlikeWays_30 rfl ?_
  refine r_iload_n (i := 3) d_Ba_unlikeWays_32 rfl rfl ?_
  refine r_icmp_gt (tgt := 160) d_Ba_unlikeWays_33 (by decide) (fun hc_33 => ?_) (fun hc_33 => ?_)
  · replace H := H.1 hc_33
    refine r_iload d_Ba_unlikeWays_160 rfl ?_
    exact rI_ret d_Ba_unlikeWays_162 rfl H
  · replace H := H.2 hc_33
    refine r_iload d_Ba_unlikeWays_36 rfl ?_
    refine r_aload_n (i := 0) d_Ba_unlikeWays_38 rfl rfl ?_
    refine r_getR (b := 44) (r := 3) d_Ba_unlikeWays_39 fl_Ba_15 (by decide) rfl rfl rfl ?_
    refine r_getI (b := 3) (v := hp.1 3 5) d_Ba_unlikeWays_42 fl_Ba_19 (by decide) rfl rfl rfl ?_
    refine r_aload_n (i := 0) d_Ba_unlikeWays_45 rfl rfl ?_
    refine r_getR (b := 44) (r := 3) d_Ba_unlikeWays_46 fl_Ba_15 (by decide) rfl rfl rfl ?_
    refine r_getR (b := 3) (r := 4) d_Ba_unlikeWays_49 fl_Ba_25 (by decide) rfl rfl rfl ?_
    refine r_iload_n (i := 2) d_Ba_unlikeWays_52 rfl rfl ?_
    obtain ⟨hi_53, H⟩ := H
    refine r_iald (b := 4) (v := hp.2.1 4 x2.toNatClampNeg) d_Ba_unlikeWays_53 (by decide) rfl hi_53 rfl ?_
    refine rk_SI (d' := 1) [.int x6, .int (hp.1 3 5), .int (hp.2.1 4 x2.toNatClampNeg)] [] d_Ba_unlikeWays_54 ml_Ba_28 rfl rfl (by decide) (Nat.le_of_ble_eq_true rfl) (s_Ha_spot x6 (hp.1 3 5) (hp.2.1 4 x2.toNatClampNeg) ?_)
    refine r_istore (lz := [some (.ref 44), none, some (.int x2), some (.int x3), some (.int x4), some (.int x5), some (.int x6), some (.int (f_Ha_spot x6 (hp.1 3 5) (hp.2.1 4 x2.toNatClampNeg))), none, none, none]) d_Ba_unlikeWays_57 (by decide) rfl rfl ?_
    refine r_iload_n (i := 3) d_Ba_unlikeWays_59 rfl rfl ?_
    refine r_iload d_Ba_unlikeWays_60 rfl ?_
    refine rk_SI (d' := 1) [.int x6] [.int x3] d_Ba_unlikeWays_62 ml_Ba_54 rfl rfl (by decide) (Nat.le_of_ble_eq_true rfl) (s_Mt_abs x6 ?_)
    refine r_isub d_Ba_unlikeWays_65 ?_
    refine r_istore (lz := [some (.ref 44), none, some (.int x2), some (.int x3), some (.int x4), some (.int x5), some (.int x6), some (.int (f_Ha_spot x6 (hp.1 3 5) (hp.2.1 4 x2.toNatClampNeg))), some (.int (x3 - (f_Mt_abs x6))), none, none]) d_Ba_unlikeWays_66 (by decide) rfl rfl ?_
    refine r_iconst d_Ba_unlikeWays_68 ic_m1 ?_
    refine r_istore (lz := [some (.ref 44), none, some (.int x2), some (.int x3), some (.int x4), some (.int x5), some (.int x6), some (.int (f_Ha_spot x6 (hp.1 3 5) (hp.2.1 4 x2.toNatClampNeg))), some (.int (x3 - (f_Mt_abs x6))), some (.int (-1)), none]) d_Ba_unlikeWays_69 (by decide) rfl rfl ?_
    exact H
set_option maxHeartbeats 4000000 in
set_option maxRecDepth 20000 in
theorem w_Ba_unlikeWays_71 {G : rx_Gh} {hp : rx_Hp} {F : Int32 → rx_Hp → Prop} (x2 : Int32) (x3 : Int32) (x4 : Int32) (x5 : Int32) (x6 : Int32) (x7 : Int32) (x8 : Int32) (x9 : Int32) (H : (1 < x9 → Rn wC G 2 q_Ba_unlikeWays 30 [some (.ref 44), none, some (.int x2), some (.int x3), some (.int x4), some (.int x5), some (.int (x6 + 1)), none, none, none, none] [] hp (rI F)) ∧ (¬ 1 < x9 → vp_in x2 6 ∧ (((f_Ba_placeNumber x7 (f_Ha_spot (x9 * x8) (hp.1 3 6) (hp.2.1 5 x2.toNatClampNeg))) = x5 → Rn wC G 2 q_Ba_unlikeWays 71 [some (.ref 44), none, some (.int x2), some (.int x3), some (.int x4), some (.int x5), some (.int x6), some (.int x7), some (.int x8), some (.int (x9 + 2)), none] [] hp (rI F)) ∧ (¬ (f_Ba_placeNumber x7 (f_Ha_spot (x9 * x8) (hp.1 3 6) (hp.2.1 5 x2.toNatClampNeg))) = x5 → (40 ≤ x4 → Rn wC G 2 q_Ba_unlikeWays 71 [some (.ref 44), none, some (.int x2), some (.int x3), some (.int x4), some (.int x5), some (.int x6), some (.int x7), some (.int x8), some (.int (x9 + 2)), none] [] hp (rI F)) ∧ (¬ 40 ≤ x4 → Ev wC G 1 q_Ba_isNew [.ref 44, .int (f_Ba_placeNumber x7 (f_Ha_spot (x9 * x8) (hp.1 3 6) (hp.2.1 5 x2.toNatClampNeg))), .int x4] hp (rI fun r2 h1 => (r2 = 0 → Rn wC G 2 q_Ba_unlikeWays 71 [some (.ref 44), none, some (.int x2), some (.int x3), some (.int x4), some (.int x5), some (.int x6), some (.int x7), some (.int x8), some (.int (x9 + 2)), none] [] h1 (rI F)) ∧ (¬ r2 = 0 → vp_in x4 40 ∧ (Rn wC G 2 q_Ba_unlikeWays 71 [some (.ref 44), none, some (.int x2), some (.int x3), some (.int (x4 + 1)), some (.int x5), some (.int x6), some (.int x7), some (.int x8), some (.int (x9 + 2)), none] [] (rx_pa h1 45 x4.toNatClampNeg (f_Ba_placeNumber x7 (f_Ha_spot (x9 * x8) (hp.1 3 6) (hp.2.1 5 x2.toNatClampNeg)))) (rI F))))))))) : Rn wC G 2 q_Ba_unlikeWays 71 [some (.ref 44), none, some (.int x2), some (.int x3), some (.int x4), some (.int x5), some (.int x6), some (.int x7), some (.int x8), some (.int x9), none] [] hp (rI F) := by
  refine r_iload d_Ba_unlikeWays_71 rfl ?_
  refine r_iconst d_Ba_unlikeWays_73 ic_1 ?_
  refine r_icmp_gt (tgt := 154) d_Ba_unlikeWays_74 (by decide) (fun hc_74 => ?_) (fun hc_74 => ?_)
  · replace H := H.1 hc_74
    refine r_iinc (v := x6 + 1) (lz := [some (.ref 44), none, some (.int x2), some (.int x3), some (.int x4), some (.int x5), some (.int (x6 + 1)), some (.int x7), some (.int x8), some (.int x9), none]) d_Ba_unlikeWays_154 rfl (by rw [ic_1]) (by decide) rfl rfl ?_
    refine r_goto (tgt := 30) d_Ba_unlikeWays_157 (by decide) ?_
    exact rx_fgt [false, false, false, false, false, false, false, true, true, true] H
  · replace H := H.2 hc_74
    refine r_iload d_Ba_unlikeWays_77 rfl ?_
    refine r_iload d_Ba_unlikeWays_79 rfl ?_
    refine r_iload d_Ba_unlikeWays_81 rfl ?_
    refine r_imul d_Ba_unlikeWays_83 ?_
    refine r_aload_n (i := 0) d_Ba_unlikeWays_84 rfl rfl ?_
    refine r_getR (b := 44) (r := 3) d_Ba_unlikeWays_85 fl_Ba_15 (by decide) rfl rfl rfl ?_
    refine r_getI (b := 3) (v := hp.1 3 6) d_Ba_unlikeWays_88 fl_Ba_32 (by decide) rfl rfl rfl ?_
    refine r_aload_n (i := 0) d_Ba_unlikeWays_91 rfl rfl ?_
    refine r_getR (b := 44) (r := 3) d_Ba_unlikeWays_92 fl_Ba_15 (by decide) rfl rfl rfl ?_
    refine r_getR (b := 3) (r := 5) d_Ba_unlikeWays_95 fl_Ba_35 (by decide) rfl rfl rfl ?_
    refine r_iload_n (i := 2) d_Ba_unlikeWays_98 rfl rfl ?_
    obtain ⟨hi_99, H⟩ := H
    refine r_iald (b := 5) (v := hp.2.1 5 x2.toNatClampNeg) d_Ba_unlikeWays_99 (by decide) rfl hi_99 rfl ?_
    refine rk_SI (d' := 1) [.int (x9 * x8), .int (hp.1 3 6), .int (hp.2.1 5 x2.toNatClampNeg)] [.int x7] d_Ba_unlikeWays_100 ml_Ba_28 rfl rfl (by decide) (Nat.le_of_ble_eq_true rfl) (s_Ha_spot (x9 * x8) (hp.1 3 6) (hp.2.1 5 x2.toNatClampNeg) ?_)
    refine rk_SI (d' := 1) [.int x7, .int (f_Ha_spot (x9 * x8) (hp.1 3 6) (hp.2.1 5 x2.toNatClampNeg))] [] d_Ba_unlikeWays_103 ml_Ba_51 rfl rfl (by decide) (Nat.le_of_ble_eq_true rfl) (s_Ba_placeNumber x7 (f_Ha_spot (x9 * x8) (hp.1 3 6) (hp.2.1 5 x2.toNatClampNeg)) ?_)
    refine r_istore (lz := [some (.ref 44), none, some (.int x2), some (.int x3), some (.int x4), some (.int x5), some (.int x6), some (.int x7), some (.int x8), some (.int x9), some (.int (f_Ba_placeNumber x7 (f_Ha_spot (x9 * x8) (hp.1 3 6) (hp.2.1 5 x2.toNatClampNeg))))]) d_Ba_unlikeWays_106 (by decide) rfl rfl ?_
    refine r_iload d_Ba_unlikeWays_108 rfl ?_
    refine r_iload d_Ba_unlikeWays_110 rfl ?_
    refine r_icmp_eq (tgt := 148) d_Ba_unlikeWays_112 (by decide) (fun hc_112 => ?_) (fun hc_112 => ?_)
    · replace H := H.1 hc_112
      refine r_iinc (v := x9 + 2) (lz := [some (.ref 44), none, some (.int x2), some (.int x3), some (.int x4), some (.int x5), some (.int x6), some (.int x7), some (.int x8), some (.int (x9 + 2)), some (.int (f_Ba_placeNumber x7 (f_Ha_spot (x9 * x8) (hp.1 3 6) (hp.2.1 5 x2.toNatClampNeg))))]) d_Ba_unlikeWays_148 rfl (by rw [ic_2]) (by decide) rfl rfl ?_
      refine r_goto (tgt := 71) d_Ba_unlikeWays_151 (by decide) ?_
      exact rx_fgt [false, false, false, false, false, false, false, false, false, false, true] H
    · replace H := H.2 hc_112
      refine r_iload d_Ba_unlikeWays_115 rfl ?_
      refine r_aload_n (i := 0) d_Ba_unlikeWays_117 rfl rfl ?_
      refine r_getR (b := 44) (r := 45) d_Ba_unlikeWays_118 fl_Ba_9 (by decide) rfl rfl rfl ?_
      refine r_alen (b := 45) (n := 40) (v := 40) d_Ba_unlikeWays_121 (by decide) rfl al_40 ?_
      refine r_icmp_ge (tgt := 148) d_Ba_unlikeWays_122 (by decide) (fun hc_122 => ?_) (fun hc_122 => ?_)
      · replace H := H.1 hc_122
        refine r_iinc (v := x9 + 2) (lz := [some (.ref 44), none, some (.int x2), some (.int x3), some (.int x4), some (.int x5), some (.int x6), some (.int x7), some (.int x8), some (.int (x9 + 2)), some (.int (f_Ba_placeNumber x7 (f_Ha_spot (x9 * x8) (hp.1 3 6) (hp.2.1 5 x2.toNatClampNeg))))]) d_Ba_unlikeWays_148 rfl (by rw [ic_2]) (by decide) rfl rfl ?_
        refine r_goto (tgt := 71) d_Ba_unlikeWays_151 (by decide) ?_
        exact rx_fgt [false, false, false, false, false, false, false, false, false, false, true] H
      · replace H := H.2 hc_122
        refine r_aload_n (i := 0) d_Ba_unlikeWays_125 rfl rfl ?_
        refine r_iload d_Ba_unlikeWays_126 rfl ?_
        refine r_iload d_Ba_unlikeWays_128 rfl ?_
        refine rc_VI (b := 44) (d' := 1) [.int (f_Ba_placeNumber x7 (f_Ha_spot (x9 * x8) (hp.1 3 6) (hp.2.1 5 x2.toNatClampNeg))), .int x4] [] d_Ba_unlikeWays_130 ml_Ba_60 rfl rfl (by decide) (by decide) rfl rfl (Nat.le_of_ble_eq_true rfl) H ?_
        intro r2 h1 H
        refine r_if_eq (tgt := 148) d_Ba_unlikeWays_133 (by decide) (fun hc_133 => ?_) (fun hc_133 => ?_)
        · replace H := H.1 hc_133
          refine r_iinc (v := x9 + 2) (lz := [some (.ref 44), none, some (.int x2), some (.int x3), some (.int x4), some (.int x5), some (.int x6), some (.int x7), some (.int x8), some (.int (x9 + 2)), some (.int (f_Ba_placeNumber x7 (f_Ha_spot (x9 * x8) (hp.1 3 6) (hp.2.1 5 x2.toNatClampNeg))))]) d_Ba_unlikeWays_148 rfl (by rw [ic_2]) (by decide) rfl rfl ?_
          refine r_goto (tgt := 71) d_Ba_unlikeWays_151 (by decide) ?_
          exact rx_fgt [false, false, false, false, false, false, false, false, false, false, true] H
        · replace H := H.2 hc_133
          refine r_aload_n (i := 0) d_Ba_unlikeWays_136 rfl rfl ?_
          refine r_getR (b := 44) (r := 45) d_Ba_unlikeWays_137 fl_Ba_9 (by decide) rfl rfl rfl ?_
          refine r_iload d_Ba_unlikeWays_140 rfl ?_
          refine r_iload d_Ba_unlikeWays_142 rfl ?_
          obtain ⟨hi_144, H⟩ := H
          refine r_iast (b := 45) (i := x4.toNatClampNeg) d_Ba_unlikeWays_144 (by decide) rfl hi_144 rfl ?_
          refine r_iinc (v := x4 + 1) (lz := [some (.ref 44), none, some (.int x2), some (.int x3), some (.int (x4 + 1)), some (.int x5), some (.int x6), some (.int x7), some (.int x8), some (.int x9), some (.int (f_Ba_placeNumber x7 (f_Ha_spot (x9 * x8) (hp.1 3 6) (hp.2.1 5 x2.toNatClampNeg))))]) d_Ba_unlikeWays_145 rfl (by rw [ic_1]) (by decide) rfl rfl ?_
          refine r_iinc (v := x9 + 2) (lz := [some (.ref 44), none, some (.int x2), some (.int x3), some (.int (x4 + 1)), some (.int x5), some (.int x6), some (.int x7), some (.int x8), some (.int (x9 + 2)), some (.int (f_Ba_placeNumber x7 (f_Ha_spot (x9 * x8) (hp.1 3 6) (hp.2.1 5 x2.toNatClampNeg))))]) d_Ba_unlikeWays_148 rfl (by rw [ic_2]) (by decide) rfl rfl ?_
          refine r_goto (tgt := 71) d_Ba_unlikeWays_151 (by decide) ?_
          exact rx_fgt [false, false, false, false, false, false, false, false, false, false, true] H
set_option maxHeartbeats 4000000 in
set_option maxRecDepth 20000 in
theorem w_GR_ways {G : rx_Gh} {hp : rx_Hp} {F : Int32 → rx_Hp → Prop} (a1 : Int32) (a2 : Int32) (a3 : Int32) (H : ((f_Ha_has a1 hp) = 0 → F (-1) hp) ∧ (¬ (f_Ha_has a1 hp) = 0 → ((f_Ha_has a2 hp) = 0 → F (-1) hp) ∧ (¬ (f_Ha_has a2 hp) = 0 → (a3 < 0 → F (-1) hp) ∧ (¬ a3 < 0 → (a3 ≤ 10 → Ev wC G 2 q_Ba_unlikeWays [.ref 44, .int a1, .int a2, .int a3] hp (rI fun r2 h1 => F r2 h1)) ∧ (¬ a3 ≤ 10 → F (-1) hp))))) : Ev wC G 3 q_GR_ways [.ref 0, .int a1, .int a2, .int a3] hp (rI F) := by
  refine ev_of rfl (Nat.le_of_ble_eq_true rfl) rfl ?_
  show Rn wC G 3 q_GR_ways 0 [some (.ref 0), some (.int a1), some (.int a2), some (.int a3)] [] hp (rI F)
  refine r_aload_n (i := 0) d_GR_ways_0 rfl rfl ?_
  refine r_getR (b := 0) (r := 3) d_GR_ways_1 fl_GR_19 (by decide) rfl rfl rfl ?_
  refine r_iload_n (i := 1) d_GR_ways_4 rfl rfl ?_
  refine rk_VI (b := 3) (d' := 1) [.int a1] [] d_GR_ways_5 ml_GR_144 rfl rfl (by decide) (by decide) rfl rfl (Nat.le_of_ble_eq_true rfl) (s_Ha_has a1 ?_)
  refine r_if_eq (tgt := 32) d_GR_ways_8 (by decide) (fun hc_8 => ?_) (fun hc_8 => ?_)
  · replace H := H.1 hc_8
    refine r_iconst d_GR_ways_32 ic_m1 ?_
    exact rI_ret d_GR_ways_33 rfl H
  · replace H := H.2 hc_8
    refine r_aload_n (i := 0) d_GR_ways_11 rfl rfl ?_
    refine r_getR (b := 0) (r := 3) d_GR_ways_12 fl_GR_19 (by decide) rfl rfl rfl ?_
    refine r_iload_n (i := 2) d_GR_ways_15 rfl rfl ?_
    refine rk_VI (b := 3) (d' := 1) [.int a2] [] d_GR_ways_16 ml_GR_144 rfl rfl (by decide) (by decide) rfl rfl (Nat.le_of_ble_eq_true rfl) (s_Ha_has a2 ?_)
    refine r_if_eq (tgt := 32) d_GR_ways_19 (by decide) (fun hc_19 => ?_) (fun hc_19 => ?_)
    · replace H := H.1 hc_19
      refine r_iconst d_GR_ways_32 ic_m1 ?_
      exact rI_ret d_GR_ways_33 rfl H
    · replace H := H.2 hc_19
      refine r_iload_n (i := 3) d_GR_ways_22 rfl rfl ?_
      refine r_if_lt (tgt := 32) d_GR_ways_23 (by decide) (fun hc_23 => ?_) (fun hc_23 => ?_)
      · replace H := H.1 hc_23
        refine r_iconst d_GR_ways_32 ic_m1 ?_
        exact rI_ret d_GR_ways_33 rfl H
      · replace H := H.2 hc_23
        refine r_iload_n (i := 3) d_GR_ways_26 rfl rfl ?_
        refine r_bipush d_GR_ways_27 bp_10 ?_
        refine r_icmp_le (tgt := 34) d_GR_ways_29 (by decide) (fun hc_29 => ?_) (fun hc_29 => ?_)
        · replace H := H.1 hc_29
          refine r_aload_n (i := 0) d_GR_ways_34 rfl rfl ?_
          refine r_getR (b := 0) (r := 44) d_GR_ways_35 fl_GR_82 (by decide) rfl rfl rfl ?_
          refine r_iload_n (i := 1) d_GR_ways_38 rfl rfl ?_
          refine r_iload_n (i := 2) d_GR_ways_39 rfl rfl ?_
          refine r_iload_n (i := 3) d_GR_ways_40 rfl rfl ?_
          refine rc_VI (b := 44) (d' := 2) [.int a1, .int a2, .int a3] [] d_GR_ways_41 ml_GR_296 rfl rfl (by decide) (by decide) rfl rfl (Nat.le_of_ble_eq_true rfl) H ?_
          intro r2 h1 H
          exact rI_ret d_GR_ways_44 rfl H
        · replace H := H.2 hc_29
          refine r_iconst d_GR_ways_32 ic_m1 ?_
          exact rI_ret d_GR_ways_33 rfl H
set_option maxHeartbeats 4000000 in
set_option maxRecDepth 20000 in
theorem w_M_ways {G : rx_Gh} {hp : rx_Hp} {F : Int32 → rx_Hp → Prop} (a1 : Int32) (a2 : Int32) (a3 : Int32) (H : ((f_M_isBody a1 hp) = 0 → F (-1) hp) ∧ (¬ (f_M_isBody a1 hp) = 0 → ((f_M_isBody a2 hp) = 0 → F (-1) hp) ∧ (¬ (f_M_isBody a2 hp) = 0 → ((f_M_in a3 0 10) = 0 → F (-1) hp) ∧ (¬ (f_M_in a3 0 10) = 0 → Rn wM G 4 q_M_ways 35 [some (.ref 0), some (.int a1), some (.int a2), some (.int a3), some (.int 0), some (.int (-a3)), none, none] [] hp (rI F))))) : Ev wM G 4 q_M_ways [.ref 0, .int a1, .int a2, .int a3] hp (rI F) := by
  refine ev_of rfl (Nat.le_of_ble_eq_true rfl) rfl ?_
  show Rn wM G 4 q_M_ways 0 [some (.ref 0), some (.int a1), some (.int a2), some (.int a3), none, none, none, none] [] hp (rI F)
  refine r_aload_n (i := 0) d_M_ways_0 rfl rfl ?_
  refine r_iload_n (i := 1) d_M_ways_1 rfl rfl ?_
  refine rk_VI (b := 0) (d' := 2) [.int a1] [] d_M_ways_2 ml_M_267 rfl rfl (by decide) (by decide) rfl rfl (Nat.le_of_ble_eq_true rfl) (s_M_isBody a1 ?_)
  refine r_if_eq (tgt := 26) d_M_ways_5 (by decide) (fun hc_5 => ?_) (fun hc_5 => ?_)
  · replace H := H.1 hc_5
    refine r_iconst d_M_ways_26 ic_m1 ?_
    exact rI_ret d_M_ways_27 rfl H
  · replace H := H.2 hc_5
    refine r_aload_n (i := 0) d_M_ways_8 rfl rfl ?_
    refine r_iload_n (i := 2) d_M_ways_9 rfl rfl ?_
    refine rk_VI (b := 0) (d' := 2) [.int a2] [] d_M_ways_10 ml_M_267 rfl rfl (by decide) (by decide) rfl rfl (Nat.le_of_ble_eq_true rfl) (s_M_isBody a2 ?_)
    refine r_if_eq (tgt := 26) d_M_ways_13 (by decide) (fun hc_13 => ?_) (fun hc_13 => ?_)
    · replace H := H.1 hc_13
      refine r_iconst d_M_ways_26 ic_m1 ?_
      exact rI_ret d_M_ways_27 rfl H
    · replace H := H.2 hc_13
      refine r_iload_n (i := 3) d_M_ways_16 rfl rfl ?_
      refine r_iconst d_M_ways_17 ic_0 ?_
      refine r_bipush d_M_ways_18 bp_10 ?_
      refine rk_SI (d' := 1) [.int a3, .int 0, .int 10] [] d_M_ways_20 ml_M_198 rfl rfl (by decide) (Nat.le_of_ble_eq_true rfl) (s_M_in a3 0 10 ?_)
      refine r_if_ne (tgt := 28) d_M_ways_23 (by decide) (fun hc_23 => ?_) (fun hc_23 => ?_)
      · replace H := H.2 hc_23
        refine r_iconst d_M_ways_28 ic_0 ?_
        refine r_istore (lz := [some (.ref 0), some (.int a1), some (.int a2), some (.int a3), some (.int 0), none, none, none]) d_M_ways_29 (by decide) rfl rfl ?_
        refine r_iload_n (i := 3) d_M_ways_31 rfl rfl ?_
        refine r_ineg d_M_ways_32 ?_
        refine r_istore (lz := [some (.ref 0), some (.int a1), some (.int a2), some (.int a3), some (.int 0), some (.int (-a3)), none, none]) d_M_ways_33 (by decide) rfl rfl ?_
        exact H
      · replace H := H.1 hc_23
        refine r_iconst d_M_ways_26 ic_m1 ?_
        exact rI_ret d_M_ways_27 rfl H
set_option maxHeartbeats 4000000 in
set_option maxRecDepth 20000 in
theorem w_M_ways_35 {G : rx_Gh} {hp : rx_Hp} {F : Int32 → rx_Hp → Prop} (x1 : Int32) (x2 : Int32) (x3 : Int32) (x4 : Int32) (x5 : Int32) (H : (x3 < x5 → F x4 hp) ∧ (¬ x3 < x5 → Rn wM G 4 q_M_ways 44 [some (.ref 0), some (.int x1), some (.int x2), some (.int x3), some (.int x4), some (.int x5), some (.int 0), none] [] hp (rI F))) : Rn wM G 4 q_M_ways 35 [some (.ref 0), some (.int x1), some (.int x2), some (.int x3), some (.int x4), some (.int x5), none, none] [] hp (rI F) := by
  refine r_iload d_M_ways_35 rfl ?_
  refine r_iload_n (i := 3) d_M_ways_37 rfl rfl ?_
  refine r_icmp_gt (tgt := 119) d_M_ways_38 (by decide) (fun hc_38 => ?_) (fun hc_38 => ?_)
  · replace H := H.1 hc_38
    refine r_iload d_M_ways_119 rfl ?_
    exact rI_ret d_M_ways_121 rfl H
  · replace H := H.2 hc_38
    refine r_iconst d_M_ways_41 ic_0 ?_
    refine r_istore (lz := [some (.ref 0), some (.int x1), some (.int x2), some (.int x3), some (.int x4), some (.int x5), some (.int 0), none]) d_M_ways_42 (by decide) rfl rfl ?_
    exact H
set_option maxHeartbeats 4000000 in
set_option maxRecDepth 20000 in
theorem w_M_ways_44 {G : rx_Gh} {hp : rx_Hp} {F : Int32 → rx_Hp → Prop} (x1 : Int32) (x2 : Int32) (x3 : Int32) (x4 : Int32) (x5 : Int32) (x6 : Int32) (H : (((if (f_Mt_abs x5) = x3 then 1 else 2) : Int32) ≤ x6 → Rn wM G 4 q_M_ways 35 [some (.ref 0), some (.int x1), some (.int x2), some (.int x3), some (.int x4), some (.int (x5 + 1)), none, none] [] hp (rI F)) ∧ (¬ ((if (f_Mt_abs x5) = x3 then 1 else 2) : Int32) ≤ x6 → Ev wM G 3 q_M_isNew [.ref 0, .int x1, .int x2, .int x3, .int x5, .int ((x3 - (f_Mt_abs x5)) * ((if x6 = 0 then 1 else (-1)) : Int32))] hp (rI fun r2 h1 => Rn wM G 4 q_M_ways 44 [some (.ref 0), some (.int x1), some (.int x2), some (.int x3), some (.int (x4 + ((if r2 = 0 then 0 else 1) : Int32))), some (.int x5), some (.int (x6 + 1)), none] [] h1 (rI F)))) : Rn wM G 4 q_M_ways 44 [some (.ref 0), some (.int x1), some (.int x2), some (.int x3), some (.int x4), some (.int x5), some (.int x6), none] [] hp (rI F) := by
  have J52 : ∀ (v52_0 : Int32), v52_0 = ((if (f_Mt_abs x5) = x3 then 1 else 2) : Int32) → Rn wM G 4 q_M_ways 60 [some (.ref 0), some (.int x1), some (.int x2), some (.int x3), some (.int x4), some (.int x5), some (.int x6), none] [.int v52_0, .int x6] hp (rI F) := by
    rintro _ rfl
    refine r_icmp_ge (tgt := 113) d_M_ways_60 (by decide) (fun hc_60 => ?_) (fun hc_60 => ?_)
    · replace H := H.1 hc_60
      refine r_iinc (v := x5 + 1) (lz := [some (.ref 0), some (.int x1), some (.int x2), some (.int x3), some (.int x4), some (.int (x5 + 1)), some (.int x6), none]) d_M_ways_113 rfl (by rw [ic_1]) (by decide) rfl rfl ?_
      refine r_goto (tgt := 35) d_M_ways_116 (by decide) ?_
      exact rx_fgt [false, false, false, false, false, false, true] H
    · replace H := H.2 hc_60
      have J72 : ∀ (v72_0 : Int32), v72_0 = ((if x6 = 0 then 1 else (-1)) : Int32) → Rn wM G 4 q_M_ways 80 [some (.ref 0), some (.int x1), some (.int x2), some (.int x3), some (.int x4), some (.int x5), some (.int x6), none] [.int v72_0, .int (x3 - (f_Mt_abs x5))] hp (rI F) := by
        rintro _ rfl
        refine r_imul d_M_ways_80 ?_
        refine r_istore (lz := [some (.ref 0), some (.int x1), some (.int x2), some (.int x3), some (.int x4), some (.int x5), some (.int x6), some (.int ((x3 - (f_Mt_abs x5)) * ((if x6 = 0 then 1 else (-1)) : Int32)))]) d_M_ways_81 (by decide) rfl rfl ?_
        refine r_iload d_M_ways_83 rfl ?_
        refine r_aload_n (i := 0) d_M_ways_85 rfl rfl ?_
        refine r_iload_n (i := 1) d_M_ways_86 rfl rfl ?_
        refine r_iload_n (i := 2) d_M_ways_87 rfl rfl ?_
        refine r_iload_n (i := 3) d_M_ways_88 rfl rfl ?_
        refine r_iload d_M_ways_89 rfl ?_
        refine r_iload d_M_ways_91 rfl ?_
        refine rc_VI (b := 0) (d' := 3) [.int x1, .int x2, .int x3, .int x5, .int ((x3 - (f_Mt_abs x5)) * ((if x6 = 0 then 1 else (-1)) : Int32))] [.int x4] d_M_ways_93 ml_M_358 rfl rfl (by decide) (by decide) rfl rfl (Nat.le_of_ble_eq_true rfl) H ?_
        intro r2 h1 H
        have J96 : ∀ (v96_0 : Int32), v96_0 = ((if r2 = 0 then 0 else 1) : Int32) → Rn wM G 4 q_M_ways 104 [some (.ref 0), some (.int x1), some (.int x2), some (.int x3), some (.int x4), some (.int x5), some (.int x6), some (.int ((x3 - (f_Mt_abs x5)) * ((if x6 = 0 then 1 else (-1)) : Int32)))] [.int v96_0, .int x4] h1 (rI F) := by
          rintro _ rfl
          refine r_iadd d_M_ways_104 ?_
          refine r_istore (lz := [some (.ref 0), some (.int x1), some (.int x2), some (.int x3), some (.int (x4 + ((if r2 = 0 then 0 else 1) : Int32))), some (.int x5), some (.int x6), some (.int ((x3 - (f_Mt_abs x5)) * ((if x6 = 0 then 1 else (-1)) : Int32)))]) d_M_ways_105 (by decide) rfl rfl ?_
          refine r_iinc (v := x6 + 1) (lz := [some (.ref 0), some (.int x1), some (.int x2), some (.int x3), some (.int (x4 + ((if r2 = 0 then 0 else 1) : Int32))), some (.int x5), some (.int (x6 + 1)), some (.int ((x3 - (f_Mt_abs x5)) * ((if x6 = 0 then 1 else (-1)) : Int32)))]) d_M_ways_107 rfl (by rw [ic_1]) (by decide) rfl rfl ?_
          refine r_goto (tgt := 44) d_M_ways_110 (by decide) ?_
          exact rx_fgt [false, false, false, false, false, false, false, true] H
        refine r_if_eq (tgt := 103) d_M_ways_96 (by decide) (fun hc_96 => ?_) (fun hc_96 => ?_)
        · refine r_iconst d_M_ways_103 ic_0 ?_
          exact J96 _ (((if_pos hc_96).trans rfl)).symm
        · refine r_iconst d_M_ways_99 ic_1 ?_
          refine r_goto (tgt := 104) d_M_ways_100 (by decide) ?_
          exact J96 _ (((if_neg hc_96).trans rfl)).symm
      refine r_iload_n (i := 3) d_M_ways_63 rfl rfl ?_
      refine r_iload d_M_ways_64 rfl ?_
      refine rk_SI (d' := 1) [.int x5] [.int x3] d_M_ways_66 ml_M_295 rfl rfl (by decide) (Nat.le_of_ble_eq_true rfl) (s_Mt_abs x5 ?_)
      refine r_isub d_M_ways_69 ?_
      refine r_iload d_M_ways_70 rfl ?_
      refine r_if_ne (tgt := 79) d_M_ways_72 (by decide) (fun hc_72 => ?_) (fun hc_72 => ?_)
      · refine r_iconst d_M_ways_79 ic_m1 ?_
        exact J72 _ (((if_neg hc_72).trans rfl)).symm
      · refine r_iconst d_M_ways_75 ic_1 ?_
        refine r_goto (tgt := 80) d_M_ways_76 (by decide) ?_
        exact J72 _ (((if_pos hc_72).trans rfl)).symm
  refine r_iload d_M_ways_44 rfl ?_
  refine r_iload d_M_ways_46 rfl ?_
  refine rk_SI (d' := 1) [.int x5] [.int x6] d_M_ways_48 ml_M_295 rfl rfl (by decide) (Nat.le_of_ble_eq_true rfl) (s_Mt_abs x5 ?_)
  refine r_iload_n (i := 3) d_M_ways_51 rfl rfl ?_
  refine r_icmp_ne (tgt := 59) d_M_ways_52 (by decide) (fun hc_52 => ?_) (fun hc_52 => ?_)
  · refine r_iconst d_M_ways_59 ic_2 ?_
    exact J52 _ (((if_neg hc_52).trans rfl)).symm
  · refine r_iconst d_M_ways_55 ic_1 ?_
    refine r_goto (tgt := 60) d_M_ways_56 (by decide) ?_
    exact J52 _ (((if_pos hc_52).trans rfl)).symm

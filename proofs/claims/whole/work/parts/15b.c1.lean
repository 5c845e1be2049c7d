theorem d_Ph_showsUp_0 : decode q_Ph_showsUp.2.1 0 = .ok (.iconst 2, 1) := by decide +kernel
theorem d_Ph_showsUp_1 : decode q_Ph_showsUp.2.1 1 = .ok (.aload_n 0, 1) := by decide +kernel
theorem d_Ph_showsUp_2 : decode q_Ph_showsUp.2.1 2 = .ok (.getfield 18, 3) := by decide +kernel
theorem fl_Ph_18 : rx_F "GlassRoom$Photos" 18 8 0 := ⟨(RX8, TX8, 4), rfl, by decide, (rx_s2 85 rfl rfl), rx_T8⟩
theorem d_Ph_showsUp_5 : decode q_Ph_showsUp.2.1 5 = .ok (.getfield 36, 3) := by decide +kernel
theorem fl_Ph_36 : rx_F "GlassRoom$Photos" 36 3 7 := ⟨(RX3, TX3, 9), rfl, by decide, (rx_s1 103 rfl rfl), rx_T3⟩
theorem d_Ph_showsUp_8 : decode q_Ph_showsUp.2.1 8 = .ok (.invokestatic 69, 3) := by decide +kernel
theorem ml_Ph_69 : rx_CS "GlassRoom$Photos" 69 q_Ha_highJ 1 := ⟨⟨(rx_s5 4 rfl rfl), (rx_s3 214 rfl rfl)⟩, ⟨(rx_s1 3 rfl rfl), q_Ha_highJ_k, ⟨by decide, by decide, by decide +kernel⟩, by decide⟩⟩
theorem d_Ph_showsUp_11 : decode q_Ph_showsUp.2.1 11 = .ok (.invokestatic 43, 3) := by decide +kernel
theorem ml_Ph_43 : rx_CS "GlassRoom$Photos" 43 q_Mt_min 2 := ⟨⟨(rx_s4 236 rfl rfl), (rx_s2 223 rfl rfl)⟩, ⟨(rx_s1 16 rfl rfl), q_Mt_min_k, ⟨by decide, by decide, by decide +kernel⟩, by decide⟩⟩
theorem d_Ph_showsUp_14 : decode q_Ph_showsUp.2.1 14 = .ok (.istore 4, 2) := by decide +kernel
theorem d_Ph_showsUp_16 : decode q_Ph_showsUp.2.1 16 = .ok (.bipush (-2), 2) := by decide +kernel
theorem d_Ph_showsUp_18 : decode q_Ph_showsUp.2.1 18 = .ok (.aload_n 0, 1) := by decide +kernel
theorem d_Ph_showsUp_19 : decode q_Ph_showsUp.2.1 19 = .ok (.getfield 18, 3) := by decide +kernel
theorem d_Ph_showsUp_22 : decode q_Ph_showsUp.2.1 22 = .ok (.getfield 36, 3) := by decide +kernel
theorem d_Ph_showsUp_25 : decode q_Ph_showsUp.2.1 25 = .ok (.invokestatic 72, 3) := by decide +kernel
theorem ml_Ph_72 : rx_CS "GlassRoom$Photos" 72 q_Ha_lowJ 1 := ⟨⟨(rx_s5 5 rfl rfl), (rx_s3 211 rfl rfl)⟩, ⟨(rx_s1 3 rfl rfl), q_Ha_lowJ_k, ⟨by decide, by decide, by decide +kernel⟩, by decide⟩⟩
theorem d_Ph_showsUp_28 : decode q_Ph_showsUp.2.1 28 = .ok (.invokestatic 52, 3) := by decide +kernel
theorem ml_Ph_52 : rx_CS "GlassRoom$Photos" 52 q_Mt_max 2 := ⟨⟨(rx_s4 238 rfl rfl), (rx_s2 220 rfl rfl)⟩, ⟨(rx_s1 16 rfl rfl), q_Mt_max_k, ⟨by decide, by decide, by decide +kernel⟩, by decide⟩⟩
theorem d_Ph_showsUp_31 : decode q_Ph_showsUp.2.1 31 = .ok (.istore 5, 2) := by decide +kernel
theorem d_Ph_showsUp_33 : decode q_Ph_showsUp.2.1 33 = .ok (.iload 5, 2) := by decide +kernel
theorem d_Ph_showsUp_35 : decode q_Ph_showsUp.2.1 35 = .ok (.iload 4, 2) := by decide +kernel
theorem d_Ph_showsUp_37 : decode q_Ph_showsUp.2.1 37 = .ok (.if_icmp .gt 45, 3) := by decide +kernel
theorem d_Ph_showsUp_82 : decode q_Ph_showsUp.2.1 82 = .ok (.iconst 0, 1) := by decide +kernel
theorem d_Ph_showsUp_83 : decode q_Ph_showsUp.2.1 83 = .ok (.ireturn, 1) := by decide +kernel
theorem d_Ph_showsUp_40 : decode q_Ph_showsUp.2.1 40 = .ok (.iload 5, 2) := by decide +kernel
theorem d_Ph_showsUp_42 : decode q_Ph_showsUp.2.1 42 = .ok (.aload_n 0, 1) := by decide +kernel
theorem d_Ph_showsUp_43 : decode q_Ph_showsUp.2.1 43 = .ok (.getfield 18, 3) := by decide +kernel
theorem d_Ph_showsUp_46 : decode q_Ph_showsUp.2.1 46 = .ok (.getfield 75, 3) := by decide +kernel
theorem fl_Ph_75 : rx_F "GlassRoom$Photos" 75 3 6 := ⟨(RX3, TX3, 9), rfl, by decide, (rx_s1 98 rfl rfl), rx_T3⟩
theorem d_Ph_showsUp_49 : decode q_Ph_showsUp.2.1 49 = .ok (.iload_n 3, 1) := by decide +kernel
theorem d_Ph_showsUp_50 : decode q_Ph_showsUp.2.1 50 = .ok (.invokestatic 58, 3) := by decide +kernel
theorem ml_Ph_58 : rx_CS "GlassRoom$Photos" 58 q_Ha_spot 3 := ⟨⟨(rx_s4 239 rfl rfl), (rx_s3 180 rfl rfl)⟩, ⟨(rx_s1 3 rfl rfl), q_Ha_spot_k, ⟨by decide, by decide, by decide +kernel⟩, by decide⟩⟩
theorem d_Ph_showsUp_53 : decode q_Ph_showsUp.2.1 53 = .ok (.aload_n 0, 1) := by decide +kernel
theorem d_Ph_showsUp_54 : decode q_Ph_showsUp.2.1 54 = .ok (.getfield 18, 3) := by decide +kernel
theorem d_Ph_showsUp_57 : decode q_Ph_showsUp.2.1 57 = .ok (.getfield 78, 3) := by decide +kernel
theorem fl_Ph_78 : rx_F "GlassRoom$Photos" 78 3 1 := ⟨(RX3, TX3, 9), rfl, by decide, (rx_s1 73 rfl rfl), rx_T3⟩
theorem d_Ph_showsUp_60 : decode q_Ph_showsUp.2.1 60 = .ok (.iload_n 1, 1) := by decide +kernel
theorem d_Ph_showsUp_61 : decode q_Ph_showsUp.2.1 61 = .ok (.iaload, 1) := by decide +kernel
theorem d_Ph_showsUp_62 : decode q_Ph_showsUp.2.1 62 = .ok (.isub, 1) := by decide +kernel
theorem d_Ph_showsUp_63 : decode q_Ph_showsUp.2.1 63 = .ok (.istore 6, 2) := by decide +kernel
theorem d_Ph_showsUp_65 : decode q_Ph_showsUp.2.1 65 = .ok (.iload 6, 2) := by decide +kernel
theorem d_Ph_showsUp_67 : decode q_Ph_showsUp.2.1 67 = .ok (.iload 6, 2) := by decide +kernel
theorem d_Ph_showsUp_69 : decode q_Ph_showsUp.2.1 69 = .ok (.imul, 1) := by decide +kernel
theorem d_Ph_showsUp_70 : decode q_Ph_showsUp.2.1 70 = .ok (.iload_n 2, 1) := by decide +kernel
theorem d_Ph_showsUp_71 : decode q_Ph_showsUp.2.1 71 = .ok (.if_icmp .ne 5, 3) := by decide +kernel
theorem d_Ph_showsUp_74 : decode q_Ph_showsUp.2.1 74 = .ok (.iconst 1, 1) := by decide +kernel
theorem d_Ph_showsUp_75 : decode q_Ph_showsUp.2.1 75 = .ok (.ireturn, 1) := by decide +kernel
theorem d_Ph_showsUp_76 : decode q_Ph_showsUp.2.1 76 = .ok (.iinc 5 1, 3) := by decide +kernel
theorem d_Ph_showsUp_79 : decode q_Ph_showsUp.2.1 79 = .ok (.goto (-46), 3) := by decide +kernel
theorem d_Si_standsOnWay_0 : decode q_Si_standsOnWay.2.1 0 = .ok (.aload_n 0, 1) := by decide +kernel
theorem d_Si_standsOnWay_1 : decode q_Si_standsOnWay.2.1 1 = .ok (.getfield 88, 3) := by decide +kernel
theorem fl_Si_88 : rx_F "GlassRoom$Sight" 88 9 7 := ⟨(RX9, TX9, 9), rfl, by decide, (rx_s2 19 rfl rfl), rx_T9⟩
theorem d_Si_standsOnWay_4 : decode q_Si_standsOnWay.2.1 4 = .ok (.istore_n 3, 1) := by decide +kernel
theorem d_Si_standsOnWay_5 : decode q_Si_standsOnWay.2.1 5 = .ok (.iload_n 3, 1) := by decide +kernel
theorem d_Si_standsOnWay_6 : decode q_Si_standsOnWay.2.1 6 = .ok (.aload_n 0, 1) := by decide +kernel
theorem d_Si_standsOnWay_7 : decode q_Si_standsOnWay.2.1 7 = .ok (.getfield 93, 3) := by decide +kernel
theorem fl_Si_93 : rx_F "GlassRoom$Sight" 93 9 8 := ⟨(RX9, TX9, 9), rfl, by decide, (rx_s2 20 rfl rfl), rx_T9⟩
theorem d_Si_standsOnWay_10 : decode q_Si_standsOnWay.2.1 10 = .ok (.if_icmp .gt 76, 3) := by decide +kernel
theorem d_Si_standsOnWay_86 : decode q_Si_standsOnWay.2.1 86 = .ok (.iconst 0, 1) := by decide +kernel
theorem d_Si_standsOnWay_87 : decode q_Si_standsOnWay.2.1 87 = .ok (.ireturn, 1) := by decide +kernel
theorem d_Si_standsOnWay_13 : decode q_Si_standsOnWay.2.1 13 = .ok (.iload_n 3, 1) := by decide +kernel
theorem d_Si_standsOnWay_14 : decode q_Si_standsOnWay.2.1 14 = .ok (.aload_n 0, 1) := by decide +kernel
theorem d_Si_standsOnWay_15 : decode q_Si_standsOnWay.2.1 15 = .ok (.getfield 9, 3) := by decide +kernel
theorem fl_Si_9 : rx_F "GlassRoom$Sight" 9 9 0 := ⟨(RX9, TX9, 9), rfl, by decide, (rx_s2 12 rfl rfl), rx_T9⟩
theorem d_Si_standsOnWay_18 : decode q_Si_standsOnWay.2.1 18 = .ok (.getfield 62, 3) := by decide +kernel
theorem fl_Si_62 : rx_F "GlassRoom$Sight" 62 3 6 := ⟨(RX3, TX3, 9), rfl, by decide, (rx_s1 97 rfl rfl), rx_T3⟩
theorem d_Si_standsOnWay_21 : decode q_Si_standsOnWay.2.1 21 = .ok (.aload_n 0, 1) := by decide +kernel
theorem d_Si_standsOnWay_22 : decode q_Si_standsOnWay.2.1 22 = .ok (.getfield 9, 3) := by decide +kernel
theorem d_Si_standsOnWay_25 : decode q_Si_standsOnWay.2.1 25 = .ok (.getfield 46, 3) := by decide +kernel
theorem fl_Si_46 : rx_F "GlassRoom$Sight" 46 3 1 := ⟨(RX3, TX3, 9), rfl, by decide, (rx_s1 71 rfl rfl), rx_T3⟩
theorem d_Si_standsOnWay_28 : decode q_Si_standsOnWay.2.1 28 = .ok (.iload_n 1, 1) := by decide +kernel
theorem d_Si_standsOnWay_29 : decode q_Si_standsOnWay.2.1 29 = .ok (.iaload, 1) := by decide +kernel
theorem d_Si_standsOnWay_30 : decode q_Si_standsOnWay.2.1 30 = .ok (.invokestatic 55, 3) := by decide +kernel
theorem ml_Si_55 : rx_CS "GlassRoom$Sight" 55 q_Ha_spot 3 := ⟨⟨(rx_s4 64 rfl rfl), (rx_s3 180 rfl rfl)⟩, ⟨(rx_s1 3 rfl rfl), q_Ha_spot_k, ⟨by decide, by decide, by decide +kernel⟩, by decide⟩⟩
theorem d_Si_standsOnWay_33 : decode q_Si_standsOnWay.2.1 33 = .ok (.aload_n 0, 1) := by decide +kernel
theorem d_Si_standsOnWay_34 : decode q_Si_standsOnWay.2.1 34 = .ok (.getfield 49, 3) := by decide +kernel
theorem fl_Si_49 : rx_F "GlassRoom$Sight" 49 9 2 := ⟨(RX9, TX9, 9), rfl, by decide, (rx_s2 14 rfl rfl), rx_T9⟩
theorem d_Si_standsOnWay_37 : decode q_Si_standsOnWay.2.1 37 = .ok (.isub, 1) := by decide +kernel
theorem d_Si_standsOnWay_38 : decode q_Si_standsOnWay.2.1 38 = .ok (.istore 4, 2) := by decide +kernel
theorem d_Si_standsOnWay_40 : decode q_Si_standsOnWay.2.1 40 = .ok (.aload_n 0, 1) := by decide +kernel
theorem d_Si_standsOnWay_41 : decode q_Si_standsOnWay.2.1 41 = .ok (.getfield 59, 3) := by decide +kernel
theorem fl_Si_59 : rx_F "GlassRoom$Sight" 59 9 3 := ⟨(RX9, TX9, 9), rfl, by decide, (rx_s2 15 rfl rfl), rx_T9⟩
theorem d_Si_standsOnWay_44 : decode q_Si_standsOnWay.2.1 44 = .ok (.ifCond .ne 18, 3) := by decide +kernel
theorem d_Si_standsOnWay_47 : decode q_Si_standsOnWay.2.1 47 = .ok (.iload 4, 2) := by decide +kernel
theorem d_Si_standsOnWay_49 : decode q_Si_standsOnWay.2.1 49 = .ok (.aload_n 0, 1) := by decide +kernel
theorem d_Si_standsOnWay_50 : decode q_Si_standsOnWay.2.1 50 = .ok (.getfield 65, 3) := by decide +kernel
theorem fl_Si_65 : rx_F "GlassRoom$Sight" 65 9 4 := ⟨(RX9, TX9, 9), rfl, by decide, (rx_s2 16 rfl rfl), rx_T9⟩
theorem d_Si_standsOnWay_53 : decode q_Si_standsOnWay.2.1 53 = .ok (.invokestatic 99, 3) := by decide +kernel
theorem ml_Si_99 : rx_CS "GlassRoom$Sight" 99 q_Si_isBetween 2 := ⟨⟨(rx_s4 75 rfl rfl), (rx_s4 76 rfl rfl)⟩, ⟨(rx_s1 9 rfl rfl), q_Si_isBetween_k, ⟨by decide, by decide, by decide +kernel⟩, by decide⟩⟩
theorem d_Si_standsOnWay_56 : decode q_Si_standsOnWay.2.1 56 = .ok (.ifCond .eq 24, 3) := by decide +kernel
theorem d_Si_standsOnWay_80 : decode q_Si_standsOnWay.2.1 80 = .ok (.iinc 3 1, 3) := by decide +kernel
theorem d_Si_standsOnWay_83 : decode q_Si_standsOnWay.2.1 83 = .ok (.goto (-78), 3) := by decide +kernel
theorem d_Si_standsOnWay_59 : decode q_Si_standsOnWay.2.1 59 = .ok (.goto 19, 3) := by decide +kernel
theorem d_Si_standsOnWay_78 : decode q_Si_standsOnWay.2.1 78 = .ok (.iconst 1, 1) := by decide +kernel
theorem d_Si_standsOnWay_79 : decode q_Si_standsOnWay.2.1 79 = .ok (.ireturn, 1) := by decide +kernel
theorem d_Si_standsOnWay_62 : decode q_Si_standsOnWay.2.1 62 = .ok (.iload_n 2, 1) := by decide +kernel
theorem d_Si_standsOnWay_63 : decode q_Si_standsOnWay.2.1 63 = .ok (.aload_n 0, 1) := by decide +kernel
theorem d_Si_standsOnWay_64 : decode q_Si_standsOnWay.2.1 64 = .ok (.getfield 65, 3) := by decide +kernel
theorem d_Si_standsOnWay_67 : decode q_Si_standsOnWay.2.1 67 = .ok (.imul, 1) := by decide +kernel
theorem d_Si_standsOnWay_68 : decode q_Si_standsOnWay.2.1 68 = .ok (.iload 4, 2) := by decide +kernel
theorem d_Si_standsOnWay_70 : decode q_Si_standsOnWay.2.1 70 = .ok (.aload_n 0, 1) := by decide +kernel
theorem d_Si_standsOnWay_71 : decode q_Si_standsOnWay.2.1 71 = .ok (.getfield 59, 3) := by decide +kernel
theorem d_Si_standsOnWay_74 : decode q_Si_standsOnWay.2.1 74 = .ok (.imul, 1) := by decide +kernel
theorem d_Si_standsOnWay_75 : decode q_Si_standsOnWay.2.1 75 = .ok (.if_icmp .ne 5, 3) := by decide +kernel
theorem d_GR_beads_0 : decode q_GR_beads.2.1 0 = .ok (.iload_n 1, 1) := by decide +kernel
theorem d_GR_beads_1 : decode q_GR_beads.2.1 1 = .ok (.iconst 1, 1) := by decide +kernel
theorem d_GR_beads_2 : decode q_GR_beads.2.1 2 = .ok (.if_icmp .lt 19, 3) := by decide +kernel
theorem d_GR_beads_21 : decode q_GR_beads.2.1 21 = .ok (.iconst (-1), 1) := by decide +kernel
theorem d_GR_beads_22 : decode q_GR_beads.2.1 22 = .ok (.ireturn, 1) := by decide +kernel
theorem d_GR_beads_5 : decode q_GR_beads.2.1 5 = .ok (.iload_n 1, 1) := by decide +kernel
theorem d_GR_beads_6 : decode q_GR_beads.2.1 6 = .ok (.bipush 12, 2) := by decide +kernel
theorem d_GR_beads_8 : decode q_GR_beads.2.1 8 = .ok (.if_icmp .gt 13, 3) := by decide +kernel
theorem d_GR_beads_11 : decode q_GR_beads.2.1 11 = .ok (.iload_n 2, 1) := by decide +kernel
theorem d_GR_beads_12 : decode q_GR_beads.2.1 12 = .ok (.iconst 1, 1) := by decide +kernel
theorem d_GR_beads_13 : decode q_GR_beads.2.1 13 = .ok (.if_icmp .lt 8, 3) := by decide +kernel
theorem d_GR_beads_16 : decode q_GR_beads.2.1 16 = .ok (.iload_n 2, 1) := by decide +kernel
theorem d_GR_beads_17 : decode q_GR_beads.2.1 17 = .ok (.iconst 4, 1) := by decide +kernel
theorem d_GR_beads_18 : decode q_GR_beads.2.1 18 = .ok (.if_icmp .le 5, 3) := by decide +kernel
theorem d_GR_beads_23 : decode q_GR_beads.2.1 23 = .ok (.iconst 1, 1) := by decide +kernel
theorem d_GR_beads_24 : decode q_GR_beads.2.1 24 = .ok (.istore_n 3, 1) := by decide +kernel
theorem d_GR_beads_25 : decode q_GR_beads.2.1 25 = .ok (.iconst 1, 1) := by decide +kernel
theorem d_GR_beads_26 : decode q_GR_beads.2.1 26 = .ok (.istore 4, 2) := by decide +kernel
theorem d_GR_beads_28 : decode q_GR_beads.2.1 28 = .ok (.iconst 0, 1) := by decide +kernel
theorem d_GR_beads_29 : decode q_GR_beads.2.1 29 = .ok (.istore 5, 2) := by decide +kernel
theorem d_GR_beads_31 : decode q_GR_beads.2.1 31 = .ok (.iload 5, 2) := by decide +kernel
theorem d_GR_beads_33 : decode q_GR_beads.2.1 33 = .ok (.iload_n 1, 1) := by decide +kernel
theorem d_GR_beads_34 : decode q_GR_beads.2.1 34 = .ok (.if_icmp .ge 27, 3) := by decide +kernel
theorem d_GR_beads_37 : decode q_GR_beads.2.1 37 = .ok (.iload_n 3, 1) := by decide +kernel
theorem d_GR_beads_38 : decode q_GR_beads.2.1 38 = .ok (.iload_n 2, 1) := by decide +kernel
theorem d_GR_beads_39 : decode q_GR_beads.2.1 39 = .ok (.imul, 1) := by decide +kernel
theorem d_GR_beads_40 : decode q_GR_beads.2.1 40 = .ok (.istore_n 3, 1) := by decide +kernel
theorem d_GR_beads_41 : decode q_GR_beads.2.1 41 = .ok (.iconst 2, 1) := by decide +kernel
theorem d_GR_beads_42 : decode q_GR_beads.2.1 42 = .ok (.iload 5, 2) := by decide +kernel
theorem d_GR_beads_44 : decode q_GR_beads.2.1 44 = .ok (.imul, 1) := by decide +kernel
theorem d_GR_beads_45 : decode q_GR_beads.2.1 45 = .ok (.iload_n 1, 1) := by decide +kernel
theorem d_GR_beads_46 : decode q_GR_beads.2.1 46 = .ok (.if_icmp .ge 9, 3) := by decide +kernel
theorem d_GR_beads_55 : decode q_GR_beads.2.1 55 = .ok (.iinc 5 1, 3) := by decide +kernel
theorem d_GR_beads_58 : decode q_GR_beads.2.1 58 = .ok (.goto (-27), 3) := by decide +kernel
theorem d_GR_beads_61 : decode q_GR_beads.2.1 61 = .ok (.iload_n 3, 1) := by decide +kernel
theorem d_GR_beads_62 : decode q_GR_beads.2.1 62 = .ok (.iload 4, 2) := by decide +kernel
theorem d_GR_beads_64 : decode q_GR_beads.2.1 64 = .ok (.iadd, 1) := by decide +kernel
theorem d_GR_beads_65 : decode q_GR_beads.2.1 65 = .ok (.iconst 2, 1) := by decide +kernel
theorem d_GR_beads_66 : decode q_GR_beads.2.1 66 = .ok (.idiv, 1) := by decide +kernel
theorem d_GR_beads_67 : decode q_GR_beads.2.1 67 = .ok (.ireturn, 1) := by decide +kernel
theorem d_GR_beads_49 : decode q_GR_beads.2.1 49 = .ok (.iload 4, 2) := by decide +kernel
theorem d_GR_beads_51 : decode q_GR_beads.2.1 51 = .ok (.iload_n 2, 1) := by decide +kernel
theorem d_GR_beads_52 : decode q_GR_beads.2.1 52 = .ok (.imul, 1) := by decide +kernel
theorem d_GR_beads_53 : decode q_GR_beads.2.1 53 = .ok (.istore 4, 2) := by decide +kernel
theorem d_GR_divisor_0 : decode q_GR_divisor.2.1 0 = .ok (.iload_n 0, 1) := by decide +kernel
theorem d_GR_divisor_1 : decode q_GR_divisor.2.1 1 = .ok (.istore_n 2, 1) := by decide +kernel
theorem d_GR_divisor_2 : decode q_GR_divisor.2.1 2 = .ok (.iload_n 1, 1) := by decide +kernel
theorem d_GR_divisor_3 : decode q_GR_divisor.2.1 3 = .ok (.istore_n 3, 1) := by decide +kernel
theorem d_GR_divisor_4 : decode q_GR_divisor.2.1 4 = .ok (.iconst 0, 1) := by decide +kernel
theorem d_GR_divisor_5 : decode q_GR_divisor.2.1 5 = .ok (.istore 4, 2) := by decide +kernel
theorem d_GR_divisor_7 : decode q_GR_divisor.2.1 7 = .ok (.iload 4, 2) := by decide +kernel
theorem d_GR_divisor_9 : decode q_GR_divisor.2.1 9 = .ok (.bipush 64, 2) := by decide +kernel
theorem bp_64 : (Int8.ofInt (64)).toInt32 = (64 : Int32) := by decide
theorem d_GR_divisor_11 : decode q_GR_divisor.2.1 11 = .ok (.if_icmp .ge 23, 3) := by decide +kernel
theorem d_GR_divisor_14 : decode q_GR_divisor.2.1 14 = .ok (.iload_n 3, 1) := by decide +kernel
theorem d_GR_divisor_15 : decode q_GR_divisor.2.1 15 = .ok (.ifCond .eq 19, 3) := by decide +kernel
theorem d_GR_divisor_18 : decode q_GR_divisor.2.1 18 = .ok (.iload_n 2, 1) := by decide +kernel
theorem d_GR_divisor_19 : decode q_GR_divisor.2.1 19 = .ok (.iload_n 3, 1) := by decide +kernel
theorem d_GR_divisor_20 : decode q_GR_divisor.2.1 20 = .ok (.irem, 1) := by decide +kernel
theorem d_GR_divisor_21 : decode q_GR_divisor.2.1 21 = .ok (.istore 5, 2) := by decide +kernel
theorem d_GR_divisor_23 : decode q_GR_divisor.2.1 23 = .ok (.iload_n 3, 1) := by decide +kernel
theorem d_GR_divisor_24 : decode q_GR_divisor.2.1 24 = .ok (.istore_n 2, 1) := by decide +kernel
theorem d_GR_divisor_25 : decode q_GR_divisor.2.1 25 = .ok (.iload 5, 2) := by decide +kernel
theorem d_GR_divisor_27 : decode q_GR_divisor.2.1 27 = .ok (.istore_n 3, 1) := by decide +kernel
theorem d_GR_divisor_28 : decode q_GR_divisor.2.1 28 = .ok (.iinc 4 1, 3) := by decide +kernel
theorem d_GR_divisor_31 : decode q_GR_divisor.2.1 31 = .ok (.goto (-24), 3) := by decide +kernel
theorem d_GR_divisor_34 : decode q_GR_divisor.2.1 34 = .ok (.iload_n 2, 1) := by decide +kernel
theorem d_GR_divisor_35 : decode q_GR_divisor.2.1 35 = .ok (.ireturn, 1) := by decide +kernel
theorem d_GR_showsSomewhere_0 : decode q_GR_showsSomewhere.2.1 0 = .ok (.iload_n 0, 1) := by decide +kernel
theorem d_GR_showsSomewhere_1 : decode q_GR_showsSomewhere.2.1 1 = .ok (.iconst 1, 1) := by decide +kernel
theorem d_GR_showsSomewhere_2 : decode q_GR_showsSomewhere.2.1 2 = .ok (.if_icmp .lt 25, 3) := by decide +kernel
theorem d_GR_showsSomewhere_27 : decode q_GR_showsSomewhere.2.1 27 = .ok (.iconst 0, 1) := by decide +kernel
theorem d_GR_showsSomewhere_28 : decode q_GR_showsSomewhere.2.1 28 = .ok (.ireturn, 1) := by decide +kernel
theorem d_GR_showsSomewhere_5 : decode q_GR_showsSomewhere.2.1 5 = .ok (.iload_n 1, 1) := by decide +kernel
theorem d_GR_showsSomewhere_6 : decode q_GR_showsSomewhere.2.1 6 = .ok (.sipush 360, 3) := by decide +kernel
theorem d_GR_showsSomewhere_9 : decode q_GR_showsSomewhere.2.1 9 = .ok (.iload_n 0, 1) := by decide +kernel
theorem d_GR_showsSomewhere_10 : decode q_GR_showsSomewhere.2.1 10 = .ok (.idiv, 1) := by decide +kernel
theorem d_GR_showsSomewhere_11 : decode q_GR_showsSomewhere.2.1 11 = .ok (.iconst 2, 1) := by decide +kernel
theorem d_GR_showsSomewhere_12 : decode q_GR_showsSomewhere.2.1 12 = .ok (.isub, 1) := by decide +kernel
theorem d_GR_showsSomewhere_13 : decode q_GR_showsSomewhere.2.1 13 = .ok (.if_icmp .lt 14, 3) := by decide +kernel
theorem d_GR_showsSomewhere_16 : decode q_GR_showsSomewhere.2.1 16 = .ok (.iload_n 1, 1) := by decide +kernel
theorem d_GR_showsSomewhere_17 : decode q_GR_showsSomewhere.2.1 17 = .ok (.sipush 360, 3) := by decide +kernel
theorem d_GR_showsSomewhere_20 : decode q_GR_showsSomewhere.2.1 20 = .ok (.iload_n 0, 1) := by decide +kernel
theorem d_GR_showsSomewhere_21 : decode q_GR_showsSomewhere.2.1 21 = .ok (.idiv, 1) := by decide +kernel
theorem d_GR_showsSomewhere_22 : decode q_GR_showsSomewhere.2.1 22 = .ok (.iconst 1, 1) := by decide +kernel
theorem d_GR_showsSomewhere_23 : decode q_GR_showsSomewhere.2.1 23 = .ok (.iadd, 1) := by decide +kernel
theorem d_GR_showsSomewhere_24 : decode q_GR_showsSomewhere.2.1 24 = .ok (.if_icmp .le 5, 3) := by decide +kernel
theorem d_GR_showsSomewhere_29 : decode q_GR_showsSomewhere.2.1 29 = .ok (.iconst 1, 1) := by decide +kernel
theorem d_GR_showsSomewhere_30 : decode q_GR_showsSomewhere.2.1 30 = .ok (.istore_n 2, 1) := by decide +kernel
theorem d_GR_showsSomewhere_31 : decode q_GR_showsSomewhere.2.1 31 = .ok (.iload_n 2, 1) := by decide +kernel
theorem d_GR_showsSomewhere_32 : decode q_GR_showsSomewhere.2.1 32 = .ok (.iload_n 0, 1) := by decide +kernel
theorem d_GR_showsSomewhere_33 : decode q_GR_showsSomewhere.2.1 33 = .ok (.if_icmp .ge 27, 3) := by decide +kernel
theorem d_GR_showsSomewhere_60 : decode q_GR_showsSomewhere.2.1 60 = .ok (.iconst 0, 1) := by decide +kernel
theorem d_GR_showsSomewhere_61 : decode q_GR_showsSomewhere.2.1 61 = .ok (.ireturn, 1) := by decide +kernel
theorem d_GR_showsSomewhere_36 : decode q_GR_showsSomewhere.2.1 36 = .ok (.iconst 2, 1) := by decide +kernel
theorem d_GR_showsSomewhere_37 : decode q_GR_showsSomewhere.2.1 37 = .ok (.iload_n 2, 1) := by decide +kernel
theorem d_GR_showsSomewhere_38 : decode q_GR_showsSomewhere.2.1 38 = .ok (.imul, 1) := by decide +kernel
theorem d_GR_showsSomewhere_39 : decode q_GR_showsSomewhere.2.1 39 = .ok (.iload_n 0, 1) := by decide +kernel
theorem d_GR_showsSomewhere_40 : decode q_GR_showsSomewhere.2.1 40 = .ok (.if_icmp .gt 20, 3) := by decide +kernel
theorem d_GR_showsSomewhere_43 : decode q_GR_showsSomewhere.2.1 43 = .ok (.iload_n 0, 1) := by decide +kernel
theorem d_GR_showsSomewhere_44 : decode q_GR_showsSomewhere.2.1 44 = .ok (.iload_n 2, 1) := by decide +kernel
theorem d_GR_showsSomewhere_45 : decode q_GR_showsSomewhere.2.1 45 = .ok (.invokestatic 314, 3) := by decide +kernel
theorem d_GR_showsSomewhere_48 : decode q_GR_showsSomewhere.2.1 48 = .ok (.iload_n 1, 1) := by decide +kernel
theorem d_GR_showsSomewhere_49 : decode q_GR_showsSomewhere.2.1 49 = .ok (.if_icmp .ne 5, 3) := by decide +kernel
theorem d_GR_showsSomewhere_52 : decode q_GR_showsSomewhere.2.1 52 = .ok (.iconst 1, 1) := by decide +kernel
theorem d_GR_showsSomewhere_53 : decode q_GR_showsSomewhere.2.1 53 = .ok (.ireturn, 1) := by decide +kernel
theorem d_GR_showsSomewhere_54 : decode q_GR_showsSomewhere.2.1 54 = .ok (.iinc 2 1, 3) := by decide +kernel
theorem d_GR_showsSomewhere_57 : decode q_GR_showsSomewhere.2.1 57 = .ok (.goto (-26), 3) := by decide +kernel
theorem d_Ba_findFirst_0 : decode q_Ba_findFirst.2.1 0 = .ok (.iconst 0, 1) := by decide +kernel
theorem d_Ba_findFirst_1 : decode q_Ba_findFirst.2.1 1 = .ok (.istore 5, 2) := by decide +kernel
theorem d_Ba_findFirst_3 : decode q_Ba_findFirst.2.1 3 = .ok (.iconst 0, 1) := by decide +kernel
theorem d_Ba_findFirst_4 : decode q_Ba_findFirst.2.1 4 = .ok (.istore 6, 2) := by decide +kernel
theorem d_Ba_findFirst_6 : decode q_Ba_findFirst.2.1 6 = .ok (.bipush (-10), 2) := by decide +kernel
theorem d_Ba_findFirst_8 : decode q_Ba_findFirst.2.1 8 = .ok (.istore 7, 2) := by decide +kernel
theorem d_Ba_findFirst_10 : decode q_Ba_findFirst.2.1 10 = .ok (.iload 7, 2) := by decide +kernel
theorem d_Ba_findFirst_12 : decode q_Ba_findFirst.2.1 12 = .ok (.bipush 10, 2) := by decide +kernel
theorem d_Ba_findFirst_14 : decode q_Ba_findFirst.2.1 14 = .ok (.if_icmp .gt 192, 3) := by decide +kernel
theorem d_Ba_findFirst_17 : decode q_Ba_findFirst.2.1 17 = .ok (.iload 7, 2) := by decide +kernel
theorem d_Ba_findFirst_19 : decode q_Ba_findFirst.2.1 19 = .ok (.aload_n 0, 1) := by decide +kernel
theorem d_Ba_findFirst_20 : decode q_Ba_findFirst.2.1 20 = .ok (.getfield 15, 3) := by decide +kernel
theorem fl_Ba_15 : rx_F "GlassRoom$Ball" 15 1 0 := ⟨(RX1, TX1, 4), rfl, by decide, (rx_s2 46 rfl rfl), rx_T1⟩
theorem d_Ba_findFirst_23 : decode q_Ba_findFirst.2.1 23 = .ok (.getfield 19, 3) := by decide +kernel
theorem fl_Ba_19 : rx_F "GlassRoom$Ball" 19 3 5 := ⟨(RX3, TX3, 9), rfl, by decide, (rx_s1 85 rfl rfl), rx_T3⟩
theorem d_Ba_findFirst_26 : decode q_Ba_findFirst.2.1 26 = .ok (.aload_n 0, 1) := by decide +kernel
theorem d_Ba_findFirst_27 : decode q_Ba_findFirst.2.1 27 = .ok (.getfield 15, 3) := by decide +kernel
theorem d_Ba_findFirst_30 : decode q_Ba_findFirst.2.1 30 = .ok (.getfield 25, 3) := by decide +kernel
theorem fl_Ba_25 : rx_F "GlassRoom$Ball" 25 3 0 := ⟨(RX3, TX3, 9), rfl, by decide, (rx_s1 61 rfl rfl), rx_T3⟩
theorem d_Ba_findFirst_33 : decode q_Ba_findFirst.2.1 33 = .ok (.iload 4, 2) := by decide +kernel
theorem d_Ba_findFirst_206 : decode q_Ba_findFirst.2.1 206 = .ok (.iload 5, 2) := by decide +kernel
theorem d_Ba_findFirst_208 : decode q_Ba_findFirst.2.1 208 = .ok (.ifCond .le 7, 3) := by decide +kernel
theorem d_Ba_findFirst_215 : decode q_Ba_findFirst.2.1 215 = .ok (.iconst 0, 1) := by decide +kernel
theorem d_Ba_findFirst_211 : decode q_Ba_findFirst.2.1 211 = .ok (.iconst 1, 1) := by decide +kernel
theorem d_Ba_findFirst_212 : decode q_Ba_findFirst.2.1 212 = .ok (.goto 4, 3) := by decide +kernel
theorem d_Ba_findFirst_216 : decode q_Ba_findFirst.2.1 216 = .ok (.ireturn, 1) := by decide +kernel
theorem d_Ba_findFirst_35 : decode q_Ba_findFirst.2.1 35 = .ok (.iaload, 1) := by decide +kernel
theorem d_Ba_findFirst_36 : decode q_Ba_findFirst.2.1 36 = .ok (.invokestatic 28, 3) := by decide +kernel
theorem ml_Ba_28 : rx_CS "GlassRoom$Ball" 28 q_Ha_spot 3 := ⟨⟨(rx_s4 118 rfl rfl), (rx_s3 180 rfl rfl)⟩, ⟨(rx_s1 3 rfl rfl), q_Ha_spot_k, ⟨by decide, by decide, by decide +kernel⟩, by decide⟩⟩
theorem d_Ba_findFirst_39 : decode q_Ba_findFirst.2.1 39 = .ok (.aload_n 0, 1) := by decide +kernel
theorem d_Ba_findFirst_40 : decode q_Ba_findFirst.2.1 40 = .ok (.getfield 15, 3) := by decide +kernel
theorem d_Ba_findFirst_43 : decode q_Ba_findFirst.2.1 43 = .ok (.getfield 25, 3) := by decide +kernel
theorem d_Ba_findFirst_46 : decode q_Ba_findFirst.2.1 46 = .ok (.iload_n 1, 1) := by decide +kernel
theorem d_Ba_findFirst_47 : decode q_Ba_findFirst.2.1 47 = .ok (.iaload, 1) := by decide +kernel
theorem d_Ba_findFirst_48 : decode q_Ba_findFirst.2.1 48 = .ok (.isub, 1) := by decide +kernel
theorem d_Ba_findFirst_49 : decode q_Ba_findFirst.2.1 49 = .ok (.istore 8, 2) := by decide +kernel
theorem d_Ba_findFirst_51 : decode q_Ba_findFirst.2.1 51 = .ok (.bipush (-10), 2) := by decide +kernel
theorem d_Ba_findFirst_53 : decode q_Ba_findFirst.2.1 53 = .ok (.istore 9, 2) := by decide +kernel
theorem d_Ba_findFirst_55 : decode q_Ba_findFirst.2.1 55 = .ok (.iload 9, 2) := by decide +kernel
theorem d_Ba_findFirst_57 : decode q_Ba_findFirst.2.1 57 = .ok (.bipush 10, 2) := by decide +kernel
theorem d_Ba_findFirst_59 : decode q_Ba_findFirst.2.1 59 = .ok (.if_icmp .gt 141, 3) := by decide +kernel
theorem d_Ba_findFirst_62 : decode q_Ba_findFirst.2.1 62 = .ok (.iload 9, 2) := by decide +kernel
theorem d_Ba_findFirst_64 : decode q_Ba_findFirst.2.1 64 = .ok (.aload_n 0, 1) := by decide +kernel
theorem d_Ba_findFirst_65 : decode q_Ba_findFirst.2.1 65 = .ok (.getfield 15, 3) := by decide +kernel
theorem d_Ba_findFirst_68 : decode q_Ba_findFirst.2.1 68 = .ok (.getfield 32, 3) := by decide +kernel
theorem fl_Ba_32 : rx_F "GlassRoom$Ball" 32 3 6 := ⟨(RX3, TX3, 9), rfl, by decide, (rx_s1 94 rfl rfl), rx_T3⟩
theorem d_Ba_findFirst_71 : decode q_Ba_findFirst.2.1 71 = .ok (.aload_n 0, 1) := by decide +kernel
theorem d_Ba_findFirst_72 : decode q_Ba_findFirst.2.1 72 = .ok (.getfield 15, 3) := by decide +kernel
theorem d_Ba_findFirst_75 : decode q_Ba_findFirst.2.1 75 = .ok (.getfield 35, 3) := by decide +kernel
theorem fl_Ba_35 : rx_F "GlassRoom$Ball" 35 3 1 := ⟨(RX3, TX3, 9), rfl, by decide, (rx_s1 69 rfl rfl), rx_T3⟩
theorem d_Ba_findFirst_78 : decode q_Ba_findFirst.2.1 78 = .ok (.iload 4, 2) := by decide +kernel
theorem d_Ba_findFirst_200 : decode q_Ba_findFirst.2.1 200 = .ok (.iinc 7 1, 3) := by decide +kernel
theorem d_Ba_findFirst_203 : decode q_Ba_findFirst.2.1 203 = .ok (.goto (-193), 3) := by decide +kernel
theorem d_Ba_findFirst_80 : decode q_Ba_findFirst.2.1 80 = .ok (.iaload, 1) := by decide +kernel
theorem d_Ba_findFirst_81 : decode q_Ba_findFirst.2.1 81 = .ok (.invokestatic 28, 3) := by decide +kernel
theorem d_Ba_findFirst_84 : decode q_Ba_findFirst.2.1 84 = .ok (.aload_n 0, 1) := by decide +kernel
theorem d_Ba_findFirst_85 : decode q_Ba_findFirst.2.1 85 = .ok (.getfield 15, 3) := by decide +kernel
theorem d_Ba_findFirst_88 : decode q_Ba_findFirst.2.1 88 = .ok (.getfield 35, 3) := by decide +kernel
theorem d_Ba_findFirst_91 : decode q_Ba_findFirst.2.1 91 = .ok (.iload_n 1, 1) := by decide +kernel
theorem d_Ba_findFirst_92 : decode q_Ba_findFirst.2.1 92 = .ok (.iaload, 1) := by decide +kernel
theorem d_Ba_findFirst_93 : decode q_Ba_findFirst.2.1 93 = .ok (.isub, 1) := by decide +kernel
theorem d_Ba_findFirst_94 : decode q_Ba_findFirst.2.1 94 = .ok (.istore 10, 2) := by decide +kernel
theorem d_Ba_findFirst_96 : decode q_Ba_findFirst.2.1 96 = .ok (.iload 8, 2) := by decide +kernel
theorem d_Ba_findFirst_98 : decode q_Ba_findFirst.2.1 98 = .ok (.iload_n 2, 1) := by decide +kernel
theorem d_Ba_findFirst_99 : decode q_Ba_findFirst.2.1 99 = .ok (.imul, 1) := by decide +kernel
theorem d_Ba_findFirst_100 : decode q_Ba_findFirst.2.1 100 = .ok (.iload 10, 2) := by decide +kernel
theorem d_Ba_findFirst_102 : decode q_Ba_findFirst.2.1 102 = .ok (.iload_n 3, 1) := by decide +kernel
theorem d_Ba_findFirst_103 : decode q_Ba_findFirst.2.1 103 = .ok (.imul, 1) := by decide +kernel
theorem d_Ba_findFirst_104 : decode q_Ba_findFirst.2.1 104 = .ok (.iadd, 1) := by decide +kernel
theorem d_Ba_findFirst_105 : decode q_Ba_findFirst.2.1 105 = .ok (.istore 11, 2) := by decide +kernel
theorem d_Ba_findFirst_107 : decode q_Ba_findFirst.2.1 107 = .ok (.iload 8, 2) := by decide +kernel
theorem d_Ba_findFirst_109 : decode q_Ba_findFirst.2.1 109 = .ok (.iload_n 3, 1) := by decide +kernel
theorem d_Ba_findFirst_110 : decode q_Ba_findFirst.2.1 110 = .ok (.imul, 1) := by decide +kernel
theorem d_Ba_findFirst_111 : decode q_Ba_findFirst.2.1 111 = .ok (.iload 10, 2) := by decide +kernel
theorem d_Ba_findFirst_113 : decode q_Ba_findFirst.2.1 113 = .ok (.iload_n 2, 1) := by decide +kernel
theorem d_Ba_findFirst_114 : decode q_Ba_findFirst.2.1 114 = .ok (.imul, 1) := by decide +kernel
theorem d_Ba_findFirst_115 : decode q_Ba_findFirst.2.1 115 = .ok (.if_icmp .ne 79, 3) := by decide +kernel
theorem d_Ba_findFirst_118 : decode q_Ba_findFirst.2.1 118 = .ok (.iload 11, 2) := by decide +kernel
theorem d_Ba_findFirst_120 : decode q_Ba_findFirst.2.1 120 = .ok (.ifCond .gt 6, 3) := by decide +kernel
theorem d_Ba_findFirst_126 : decode q_Ba_findFirst.2.1 126 = .ok (.iload 5, 2) := by decide +kernel
theorem d_Ba_findFirst_128 : decode q_Ba_findFirst.2.1 128 = .ok (.ifCond .eq 10, 3) := by decide +kernel
theorem d_Ba_findFirst_138 : decode q_Ba_findFirst.2.1 138 = .ok (.iconst 1, 1) := by decide +kernel
theorem d_Ba_findFirst_139 : decode q_Ba_findFirst.2.1 139 = .ok (.goto 4, 3) := by decide +kernel
theorem d_Ba_findFirst_143 : decode q_Ba_findFirst.2.1 143 = .ok (.istore 12, 2) := by decide +kernel
theorem d_Ba_findFirst_145 : decode q_Ba_findFirst.2.1 145 = .ok (.iload 12, 2) := by decide +kernel
theorem d_Ba_findFirst_147 : decode q_Ba_findFirst.2.1 147 = .ok (.ifCond .ne 22, 3) := by decide +kernel
theorem d_Ba_findFirst_169 : decode q_Ba_findFirst.2.1 169 = .ok (.iload 11, 2) := by decide +kernel
theorem d_Ba_findFirst_171 : decode q_Ba_findFirst.2.1 171 = .ok (.istore 5, 2) := by decide +kernel
theorem d_Ba_findFirst_173 : decode q_Ba_findFirst.2.1 173 = .ok (.iload 7, 2) := by decide +kernel
theorem d_Ba_findFirst_175 : decode q_Ba_findFirst.2.1 175 = .ok (.iload 9, 2) := by decide +kernel
theorem d_Ba_findFirst_177 : decode q_Ba_findFirst.2.1 177 = .ok (.invokestatic 38, 3) := by decide +kernel
theorem ml_Ba_38 : rx_CN "GlassRoom$Ball" 38 q_GR_glasses 2 := ⟨⟨Or.inl rfl, (rx_s3 186 rfl rfl)⟩, ⟨(rx_s1 1 rfl rfl), q_GR_glasses_k, ⟨by decide, by decide, by decide +kernel⟩, by decide⟩⟩
theorem d_Ba_findFirst_180 : decode q_Ba_findFirst.2.1 180 = .ok (.istore 6, 2) := by decide +kernel
theorem d_Ba_findFirst_182 : decode q_Ba_findFirst.2.1 182 = .ok (.aload_n 0, 1) := by decide +kernel
theorem d_Ba_findFirst_183 : decode q_Ba_findFirst.2.1 183 = .ok (.iload 7, 2) := by decide +kernel
theorem d_Ba_findFirst_131 : decode q_Ba_findFirst.2.1 131 = .ok (.iload 11, 2) := by decide +kernel
theorem d_Ba_findFirst_133 : decode q_Ba_findFirst.2.1 133 = .ok (.iload 5, 2) := by decide +kernel
theorem d_Ba_findFirst_135 : decode q_Ba_findFirst.2.1 135 = .ok (.if_icmp .ge 7, 3) := by decide +kernel
theorem d_Ba_findFirst_142 : decode q_Ba_findFirst.2.1 142 = .ok (.iconst 0, 1) := by decide +kernel
theorem d_Ba_findFirst_150 : decode q_Ba_findFirst.2.1 150 = .ok (.iload 11, 2) := by decide +kernel
theorem d_Ba_findFirst_152 : decode q_Ba_findFirst.2.1 152 = .ok (.iload 5, 2) := by decide +kernel
theorem d_Ba_findFirst_154 : decode q_Ba_findFirst.2.1 154 = .ok (.if_icmp .ne 40, 3) := by decide +kernel
theorem d_Ba_findFirst_157 : decode q_Ba_findFirst.2.1 157 = .ok (.iload 7, 2) := by decide +kernel
theorem d_Ba_findFirst_159 : decode q_Ba_findFirst.2.1 159 = .ok (.iload 9, 2) := by decide +kernel
theorem d_Ba_findFirst_161 : decode q_Ba_findFirst.2.1 161 = .ok (.invokestatic 38, 3) := by decide +kernel
theorem d_Ba_findFirst_164 : decode q_Ba_findFirst.2.1 164 = .ok (.iload 6, 2) := by decide +kernel
theorem d_Ba_findFirst_166 : decode q_Ba_findFirst.2.1 166 = .ok (.if_icmp .ge 28, 3) := by decide +kernel
theorem d_Ba_findFirst_194 : decode q_Ba_findFirst.2.1 194 = .ok (.iinc 9 1, 3) := by decide +kernel
theorem d_Ba_findFirst_197 : decode q_Ba_findFirst.2.1 197 = .ok (.goto (-142), 3) := by decide +kernel
theorem d_Ba_findFirst_185 : decode q_Ba_findFirst.2.1 185 = .ok (.putfield 42, 3) := by decide +kernel
theorem fp_Ba_42 : rx_FP "GlassRoom$Ball" 42 1 2 (.int) := ⟨(RX1, TX1, 4), tyX1, rfl, by decide, (rx_s2 48 rfl rfl), rx_T1, tyX1_ok, nmX1, rfl, rfl⟩
theorem d_Ba_findFirst_188 : decode q_Ba_findFirst.2.1 188 = .ok (.aload_n 0, 1) := by decide +kernel
theorem d_Ba_findFirst_189 : decode q_Ba_findFirst.2.1 189 = .ok (.iload 9, 2) := by decide +kernel
theorem d_Ba_findFirst_191 : decode q_Ba_findFirst.2.1 191 = .ok (.putfield 45, 3) := by decide +kernel
theorem fp_Ba_45 : rx_FP "GlassRoom$Ball" 45 1 3 (.int) := ⟨(RX1, TX1, 4), tyX1, rfl, by decide, (rx_s2 50 rfl rfl), rx_T1, tyX1_ok, nmX1, rfl, rfl⟩
theorem d_Ba_findFirst_123 : decode q_Ba_findFirst.2.1 123 = .ok (.goto 71, 3) := by decide +kernel
theorem d_Ba_isNew_0 : decode q_Ba_isNew.2.1 0 = .ok (.iconst 0, 1) := by decide +kernel
theorem d_Ba_isNew_1 : decode q_Ba_isNew.2.1 1 = .ok (.istore_n 3, 1) := by decide +kernel
theorem d_Ba_isNew_2 : decode q_Ba_isNew.2.1 2 = .ok (.iload_n 3, 1) := by decide +kernel
theorem d_Ba_isNew_3 : decode q_Ba_isNew.2.1 3 = .ok (.iload_n 2, 1) := by decide +kernel
theorem d_Ba_isNew_4 : decode q_Ba_isNew.2.1 4 = .ok (.if_icmp .ge 30, 3) := by decide +kernel
theorem d_Ba_isNew_34 : decode q_Ba_isNew.2.1 34 = .ok (.iconst 1, 1) := by decide +kernel
theorem d_Ba_isNew_35 : decode q_Ba_isNew.2.1 35 = .ok (.ireturn, 1) := by decide +kernel
theorem d_Ba_isNew_7 : decode q_Ba_isNew.2.1 7 = .ok (.iload_n 3, 1) := by decide +kernel
theorem d_Ba_isNew_8 : decode q_Ba_isNew.2.1 8 = .ok (.aload_n 0, 1) := by decide +kernel
theorem d_Ba_isNew_9 : decode q_Ba_isNew.2.1 9 = .ok (.getfield 9, 3) := by decide +kernel
theorem fl_Ba_9 : rx_F "GlassRoom$Ball" 9 1 1 := ⟨(RX1, TX1, 4), rfl, by decide, (rx_s2 47 rfl rfl), rx_T1⟩
theorem d_Ba_isNew_12 : decode q_Ba_isNew.2.1 12 = .ok (.arraylength, 1) := by decide +kernel
theorem al_40 : Int32.ofNat 40 = (40 : Int32) := by decide
theorem d_Ba_isNew_13 : decode q_Ba_isNew.2.1 13 = .ok (.if_icmp .ge 21, 3) := by decide +kernel
theorem d_Ba_isNew_16 : decode q_Ba_isNew.2.1 16 = .ok (.aload_n 0, 1) := by decide +kernel
theorem d_Ba_isNew_17 : decode q_Ba_isNew.2.1 17 = .ok (.getfield 9, 3) := by decide +kernel
theorem d_Ba_isNew_20 : decode q_Ba_isNew.2.1 20 = .ok (.iload_n 3, 1) := by decide +kernel
theorem d_Ba_isNew_21 : decode q_Ba_isNew.2.1 21 = .ok (.iaload, 1) := by decide +kernel
theorem d_Ba_isNew_22 : decode q_Ba_isNew.2.1 22 = .ok (.iload_n 1, 1) := by decide +kernel
theorem d_Ba_isNew_23 : decode q_Ba_isNew.2.1 23 = .ok (.if_icmp .ne 5, 3) := by decide +kernel
theorem d_Ba_isNew_26 : decode q_Ba_isNew.2.1 26 = .ok (.iconst 0, 1) := by decide +kernel
theorem d_Ba_isNew_27 : decode q_Ba_isNew.2.1 27 = .ok (.ireturn, 1) := by decide +kernel
theorem d_Ba_isNew_28 : decode q_Ba_isNew.2.1 28 = .ok (.iinc 3 1, 3) := by decide +kernel
theorem d_Ba_isNew_31 : decode q_Ba_isNew.2.1 31 = .ok (.goto (-29), 3) := by decide +kernel
set_option maxHeartbeats 4000000 in
set_option maxRecDepth 20000 in
theorem w_Ph_showsUp {G : rx_Gh} {hp : rx_Hp} {F : Int32 → rx_Hp → Prop} (a1 : Int32) (a2 : Int32) (a3 : Int32) (H : Rn wC G 3 q_Ph_showsUp 33 [some (.ref 47), some (.int a1), some (.int a2), some (.int a3), some (.int (f_Mt_min 2 (f_Ha_highJ (hp.1 3 7)))), some (.int (f_Mt_max (-2) (f_Ha_lowJ (hp.1 3 7)))), none] [] hp (rI F)) : Ev wC G 3 q_Ph_showsUp [.ref 47, .int a1, .int a2, .int a3] hp (rI F) := by
  refine ev_of rfl (Nat.le_of_ble_eq_true rfl) rfl ?_
  show Rn wC G 3 q_Ph_showsUp 0 [some (.ref 47), some (.int a1), some (.int a2), some (.int a3), none, none, none] [] hp (rI F)
  refine r_iconst d_Ph_showsUp_0 ic_2 ?_
  refine r_aload_n (i := 0) d_Ph_showsUp_1 rfl rfl ?_
  refine r_getR (b := 47) (r := 3) d_Ph_showsUp_2 fl_Ph_18 (by decide) rfl rfl rfl ?_
  refine r_getI (b := 3) (v := hp.1 3 7) d_Ph_showsUp_5 fl_Ph_36 (by decide) rfl rfl rfl ?_
  refine rk_SI (d' := 2) [.int (hp.1 3 7)] [.int 2] d_Ph_showsUp_8 ml_Ph_69 rfl rfl (by decide) (Nat.le_of_ble_eq_true rfl) (s_Ha_highJ (hp.1 3 7) ?_)
  refine rk_SI (d' := 1) [.int 2, .int (f_Ha_highJ (hp.1 3 7))] [] d_Ph_showsUp_11 ml_Ph_43 rfl rfl (by decide) (Nat.le_of_ble_eq_true rfl) (s_Mt_min 2 (f_Ha_highJ (hp.1 3 7)) ?_)
  refine r_istore (lz := [some (.ref 47), some (.int a1), some (.int a2), some (.int a3), some (.int (f_Mt_min 2 (f_Ha_highJ (hp.1 3 7)))), none, none]) d_Ph_showsUp_14 (by decide) rfl rfl ?_
  refine r_bipush d_Ph_showsUp_16 bp_m2 ?_
  refine r_aload_n (i := 0) d_Ph_showsUp_18 rfl rfl ?_
  refine r_getR (b := 47) (r := 3) d_Ph_showsUp_19 fl_Ph_18 (by decide) rfl rfl rfl ?_
  refine r_getI (b := 3) (v := hp.1 3 7) d_Ph_showsUp_22 fl_Ph_36 (by decide) rfl rfl rfl ?_
  refine rk_SI (d' := 2) [.int (hp.1 3 7)] [.int (-2)] d_Ph_showsUp_25 ml_Ph_72 rfl rfl (by decide) (Nat.le_of_ble_eq_true rfl) (s_Ha_lowJ (hp.1 3 7) ?_)
  refine rk_SI (d' := 1) [.int (-2), .int (f_Ha_lowJ (hp.1 3 7))] [] d_Ph_showsUp_28 ml_Ph_52 rfl rfl (by decide) (Nat.le_of_ble_eq_true rfl) (s_Mt_max (-2) (f_Ha_lowJ (hp.1 3 7)) ?_)
  refine r_istore (lz := [some (.ref 47), some (.int a1), some (.int a2), some (.int a3), some (.int (f_Mt_min 2 (f_Ha_highJ (hp.1 3 7)))), some (.int (f_Mt_max (-2) (f_Ha_lowJ (hp.1 3 7)))), none]) d_Ph_showsUp_31 (by decide) rfl rfl ?_
  exact H
set_option maxHeartbeats 4000000 in
set_option maxRecDepth 20000 in
theorem w_Ph_showsUp_33 {G : rx_Gh} {hp : rx_Hp} {F : Int32 → rx_Hp → Prop} (x1 : Int32) (x2 : Int32) (x3 : Int32) (x4 : Int32) (x5 : Int32) (H : (x4 < x5 → F 0 hp) ∧ (¬ x4 < x5 → vp_in x1 6 ∧ (((((f_Ha_spot x5 (hp.1 3 6) x3) - (hp.2.1 5 x1.toNatClampNeg)) * ((f_Ha_spot x5 (hp.1 3 6) x3) - (hp.2.1 5 x1.toNatClampNeg))) = x2 → F 1 hp) ∧ (¬ (((f_Ha_spot x5 (hp.1 3 6) x3) - (hp.2.1 5 x1.toNatClampNeg)) * ((f_Ha_spot x5 (hp.1 3 6) x3) - (hp.2.1 5 x1.toNatClampNeg))) = x2 → Rn wC G 3 q_Ph_showsUp 33 [some (.ref 47), some (.int x1), some (.int x2), some (.int x3), some (.int x4), some (.int (x5 + 1)), none] [] hp (rI F))))) : Rn wC G 3 q_Ph_showsUp 33 [some (.ref 47), some (.int x1), some (.int x2), some (.int x3), some (.int x4), some (.int x5), none] [] hp (rI F) := by
  refine r_iload d_Ph_showsUp_33 rfl ?_
  refine r_iload d_Ph_showsUp_35 rfl ?_
  refine r_icmp_gt (tgt := 82) d_Ph_showsUp_37 (by decide) (fun hc_37 => ?_) (fun hc_37 => ?_)
  · replace H := H.1 hc_37
    refine r_iconst d_Ph_showsUp_82 ic_0 ?_
    exact rZ_ret d_Ph_showsUp_83 rfl (Or.inl rfl) H
  · replace H := H.2 hc_37
    refine r_iload d_Ph_showsUp_40 rfl ?_
    refine r_aload_n (i := 0) d_Ph_showsUp_42 rfl rfl ?_
    refine r_getR (b := 47) (r := 3) d_Ph_showsUp_43 fl_Ph_18 (by decide) rfl rfl rfl ?_
    refine r_getI (b := 3) (v := hp.1 3 6) d_Ph_showsUp_46 fl_Ph_75 (by decide) rfl rfl rfl ?_
    refine r_iload_n (i := 3) d_Ph_showsUp_49 rfl rfl ?_
    refine rk_SI (d' := 1) [.int x5, .int (hp.1 3 6), .int x3] [] d_Ph_showsUp_50 ml_Ph_58 rfl rfl (by decide) (Nat.le_of_ble_eq_true rfl) (s_Ha_spot x5 (hp.1 3 6) x3 ?_)
    refine r_aload_n (i := 0) d_Ph_showsUp_53 rfl rfl ?_
    refine r_getR (b := 47) (r := 3) d_Ph_showsUp_54 fl_Ph_18 (by decide) rfl rfl rfl ?_
    refine r_getR (b := 3) (r := 5) d_Ph_showsUp_57 fl_Ph_78 (by decide) rfl rfl rfl ?_
    refine r_iload_n (i := 1) d_Ph_showsUp_60 rfl rfl ?_
    obtain ⟨hi_61, H⟩ := H
    refine r_iald (b := 5) (v := hp.2.1 5 x1.toNatClampNeg) d_Ph_showsUp_61 (by decide) rfl hi_61 rfl ?_
    refine r_isub d_Ph_showsUp_62 ?_
    refine r_istore (lz := [some (.ref 47), some (.int x1), some (.int x2), some (.int x3), some (.int x4), some (.int x5), some (.int ((f_Ha_spot x5 (hp.1 3 6) x3) - (hp.2.1 5 x1.toNatClampNeg)))]) d_Ph_showsUp_63 (by decide) rfl rfl ?_
    refine r_iload d_Ph_showsUp_65 rfl ?_
    refine r_iload d_Ph_showsUp_67 rfl ?_
    refine r_imul d_Ph_showsUp_69 ?_
    refine r_iload_n (i := 2) d_Ph_showsUp_70 rfl rfl ?_
    refine r_icmp_ne (tgt := 76) d_Ph_showsUp_71 (by decide) (fun hc_71 => ?_) (fun hc_71 => ?_)
    · replace H := H.2 hc_71
      refine r_iinc (v := x5 + 1) (lz := [some (.ref 47), some (.int x1), some (.int x2), some (.int x3), some (.int x4), some (.int (x5 + 1)), some (.int ((f_Ha_spot x5 (hp.1 3 6) x3) - (hp.2.1 5 x1.toNatClampNeg)))]) d_Ph_showsUp_76 rfl (by rw [ic_1]) (by decide) rfl rfl ?_
      refine r_goto (tgt := 33) d_Ph_showsUp_79 (by decide) ?_
      exact rx_fgt [false, false, false, false, false, false, true] H
    · replace H := H.1 hc_71
      refine r_iconst d_Ph_showsUp_74 ic_1 ?_
      exact rZ_ret d_Ph_showsUp_75 rfl (Or.inr rfl) H
set_option maxHeartbeats 4000000 in
set_option maxRecDepth 20000 in
theorem w_Si_standsOnWay {G : rx_Gh} {hp : rx_Hp} {F : Int32 → rx_Hp → Prop} (a1 : Int32) (a2 : Int32) (H : Rn wC G 2 q_Si_standsOnWay 5 [some (.ref 43), some (.int a1), some (.int a2), some (.int (hp.1 43 7)), none] [] hp (rI F)) : Ev wC G 2 q_Si_standsOnWay [.ref 43, .int a1, .int a2] hp (rI F) := by
  refine ev_of rfl (Nat.le_of_ble_eq_true rfl) rfl ?_
  show Rn wC G 2 q_Si_standsOnWay 0 [some (.ref 43), some (.int a1), some (.int a2), none, none] [] hp (rI F)
  refine r_aload_n (i := 0) d_Si_standsOnWay_0 rfl rfl ?_
  refine r_getI (b := 43) (v := hp.1 43 7) d_Si_standsOnWay_1 fl_Si_88 (by decide) rfl rfl rfl ?_
  refine r_istore_n (i := 3) (lz := [some (.ref 43), some (.int a1), some (.int a2), some (.int (hp.1 43 7)), none]) d_Si_standsOnWay_4 rfl (by decide) rfl rfl ?_
  exact H
set_option maxHeartbeats 4000000 in
set_option maxRecDepth 20000 in
theorem w_Si_standsOnWay_5 {G : rx_Gh} {hp : rx_Hp} {F : Int32 → rx_Hp → Prop} (x1 : Int32) (x2 : Int32) (x3 : Int32) (H : ((hp.1 43 8) < x3 → F 0 hp) ∧ (¬ (hp.1 43 8) < x3 → vp_in x1 6 ∧ (((hp.1 43 3) = 0 → ((f_Si_isBetween ((f_Ha_spot x3 (hp.1 3 6) (hp.2.1 5 x1.toNatClampNeg)) - (hp.1 43 2)) (hp.1 43 4)) = 0 → Rn wC G 2 q_Si_standsOnWay 5 [some (.ref 43), some (.int x1), some (.int x2), some (.int (x3 + 1)), none] [] hp (rI F)) ∧ (¬ (f_Si_isBetween ((f_Ha_spot x3 (hp.1 3 6) (hp.2.1 5 x1.toNatClampNeg)) - (hp.1 43 2)) (hp.1 43 4)) = 0 → F 1 hp)) ∧ (¬ (hp.1 43 3) = 0 → ((x2 * (hp.1 43 4)) = (((f_Ha_spot x3 (hp.1 3 6) (hp.2.1 5 x1.toNatClampNeg)) - (hp.1 43 2)) * (hp.1 43 3)) → F 1 hp) ∧ (¬ (x2 * (hp.1 43 4)) = (((f_Ha_spot x3 (hp.1 3 6) (hp.2.1 5 x1.toNatClampNeg)) - (hp.1 43 2)) * (hp.1 43 3)) → Rn wC G 2 q_Si_standsOnWay 5 [some (.ref 43), some (.int x1), some (.int x2), some (.int (x3 + 1)), none] [] hp (rI F)))))) : Rn wC G 2 q_Si_standsOnWay 5 [some (.ref 43), some (.int x1), some (.int x2), some (.int x3), none] [] hp (rI F) := by
  refine r_iload_n (i := 3) d_Si_standsOnWay_5 rfl rfl ?_
  refine r_aload_n (i := 0) d_Si_standsOnWay_6 rfl rfl ?_
  refine r_getI (b := 43) (v := hp.1 43 8) d_Si_standsOnWay_7 fl_Si_93 (by decide) rfl rfl rfl ?_
  refine r_icmp_gt (tgt := 86) d_Si_standsOnWay_10 (by decide) (fun hc_10 => ?_) (fun hc_10 => ?_)
  · replace H := H.1 hc_10
    refine r_iconst d_Si_standsOnWay_86 ic_0 ?_
    exact rZ_ret d_Si_standsOnWay_87 rfl (Or.inl rfl) H
  · replace H := H.2 hc_10
    refine r_iload_n (i := 3) d_Si_standsOnWay_13 rfl rfl ?_
    refine r_aload_n (i := 0) d_Si_standsOnWay_14 rfl rfl ?_
    refine r_getR (b := 43) (r := 3) d_Si_standsOnWay_15 fl_Si_9 (by decide) rfl rfl rfl ?_
    refine r_getI (b := 3) (v := hp.1 3 6) d_Si_standsOnWay_18 fl_Si_62 (by decide) rfl rfl rfl ?_
    refine r_aload_n (i := 0) d_Si_standsOnWay_21 rfl rfl ?_
    refine r_getR (b := 43) (r := 3) d_Si_standsOnWay_22 fl_Si_9 (by decide) rfl rfl rfl ?_
    refine r_getR (b := 3) (r := 5) d_Si_standsOnWay_25 fl_Si_46 (by decide) rfl rfl rfl ?_
    refine r_iload_n (i := 1) d_Si_standsOnWay_28 rfl rfl ?_
    obtain ⟨hi_29, H⟩ := H
    refine r_iald (b := 5) (v := hp.2.1 5 x1.toNatClampNeg) d_Si_standsOnWay_29 (by decide) rfl hi_29 rfl ?_
    refine rk_SI (d' := 1) [.int x3, .int (hp.1 3 6), .int (hp.2.1 5 x1.toNatClampNeg)] [] d_Si_standsOnWay_30 ml_Si_55 rfl rfl (by decide) (Nat.le_of_ble_eq_true rfl) (s_Ha_spot x3 (hp.1 3 6) (hp.2.1 5 x1.toNatClampNeg) ?_)
    refine r_aload_n (i := 0) d_Si_standsOnWay_33 rfl rfl ?_
    refine r_getI (b := 43) (v := hp.1 43 2) d_Si_standsOnWay_34 fl_Si_49 (by decide) rfl rfl rfl ?_
    refine r_isub d_Si_standsOnWay_37 ?_
    refine r_istore (lz := [some (.ref 43), some (.int x1), some (.int x2), some (.int x3), some (.int ((f_Ha_spot x3 (hp.1 3 6) (hp.2.1 5 x1.toNatClampNeg)) - (hp.1 43 2)))]) d_Si_standsOnWay_38 (by decide) rfl rfl ?_
    refine r_aload_n (i := 0) d_Si_standsOnWay_40 rfl rfl ?_
    refine r_getI (b := 43) (v := hp.1 43 3) d_Si_standsOnWay_41 fl_Si_59 (by decide) rfl rfl rfl ?_
    refine r_if_ne (tgt := 62) d_Si_standsOnWay_44 (by decide) (fun hc_44 => ?_) (fun hc_44 => ?_)
    · replace H := H.2 hc_44
      refine r_iload_n (i := 2) d_Si_standsOnWay_62 rfl rfl ?_
      refine r_aload_n (i := 0) d_Si_standsOnWay_63 rfl rfl ?_
      refine r_getI (b := 43) (v := hp.1 43 4) d_Si_standsOnWay_64 fl_Si_65 (by decide) rfl rfl rfl ?_
      refine r_imul d_Si_standsOnWay_67 ?_
      refine r_iload d_Si_standsOnWay_68 rfl ?_
      refine r_aload_n (i := 0) d_Si_standsOnWay_70 rfl rfl ?_
      refine r_getI (b := 43) (v := hp.1 43 3) d_Si_standsOnWay_71 fl_Si_59 (by decide) rfl rfl rfl ?_
      refine r_imul d_Si_standsOnWay_74 ?_
      refine r_icmp_ne (tgt := 80) d_Si_standsOnWay_75 (by decide) (fun hc_75 => ?_) (fun hc_75 => ?_)
      · replace H := H.2 hc_75
        refine r_iinc (v := x3 + 1) (lz := [some (.ref 43), some (.int x1), some (.int x2), some (.int (x3 + 1)), some (.int ((f_Ha_spot x3 (hp.1 3 6) (hp.2.1 5 x1.toNatClampNeg)) - (hp.1 43 2)))]) d_Si_standsOnWay_80 rfl (by rw [ic_1]) (by decide) rfl rfl ?_
        refine r_goto (tgt := 5) d_Si_standsOnWay_83 (by decide) ?_
        exact rx_fgt [false, false, false, false, true] H
      · replace H := H.1 hc_75
        refine r_iconst d_Si_standsOnWay_78 ic_1 ?_
        exact rZ_ret d_Si_standsOnWay_79 rfl (Or.inr rfl) H
    · replace H := H.1 hc_44
      refine r_iload d_Si_standsOnWay_47 rfl ?_
      refine r_aload_n (i := 0) d_Si_standsOnWay_49 rfl rfl ?_
      refine r_getI (b := 43) (v := hp.1 43 4) d_Si_standsOnWay_50 fl_Si_65 (by decide) rfl rfl rfl ?_
      refine rk_SI (d' := 1) [.int ((f_Ha_spot x3 (hp.1 3 6) (hp.2.1 5 x1.toNatClampNeg)) - (hp.1 43 2)), .int (hp.1 43 4)] [] d_Si_standsOnWay_53 ml_Si_99 rfl rfl (by decide) (Nat.le_of_ble_eq_true rfl) (s_Si_isBetween ((f_Ha_spot x3 (hp.1 3 6) (hp.2.1 5 x1.toNatClampNeg)) - (hp.1 43 2)) (hp.1 43 4) ?_)
      refine r_if_eq (tgt := 80) d_Si_standsOnWay_56 (by decide) (fun hc_56 => ?_) (fun hc_56 => ?_)
      · replace H := H.1 hc_56
        refine r_iinc (v := x3 + 1) (lz := [some (.ref 43), some (.int x1), some (.int x2), some (.int (x3 + 1)), some (.int ((f_Ha_spot x3 (hp.1 3 6) (hp.2.1 5 x1.toNatClampNeg)) - (hp.1 43 2)))]) d_Si_standsOnWay_80 rfl (by rw [ic_1]) (by decide) rfl rfl ?_
        refine r_goto (tgt := 5) d_Si_standsOnWay_83 (by decide) ?_
        exact rx_fgt [false, false, false, false, true] H
      · replace H := H.2 hc_56
        refine r_goto (tgt := 78) d_Si_standsOnWay_59 (by decide) ?_
        refine r_iconst d_Si_standsOnWay_78 ic_1 ?_
        exact rZ_ret d_Si_standsOnWay_79 rfl (Or.inr rfl) H
set_option maxHeartbeats 4000000 in
set_option maxRecDepth 20000 in
theorem w_GR_beads {G : rx_Gh} {hp : rx_Hp} {F : Int32 → rx_Hp → Prop} (a1 : Int32) (a2 : Int32) (H : (a1 < 1 → F (-1) hp) ∧ (¬ a1 < 1 → (12 < a1 → F (-1) hp) ∧ (¬ 12 < a1 → (a2 < 1 → F (-1) hp) ∧ (¬ a2 < 1 → (a2 ≤ 4 → Rn wC G 1 q_GR_beads 31 [none, some (.int a1), some (.int a2), some (.int 1), some (.int 1), some (.int 0)] [] hp (rI F)) ∧ (¬ a2 ≤ 4 → F (-1) hp))))) : Ev wC G 1 q_GR_beads [.ref 0, .int a1, .int a2] hp (rI F) := by
  refine ev_of rfl (Nat.le_of_ble_eq_true rfl) rfl ?_
  show Rn wC G 1 q_GR_beads 0 [some (.ref 0), some (.int a1), some (.int a2), none, none, none] [] hp (rI F)
  refine r_iload_n (i := 1) d_GR_beads_0 rfl rfl ?_
  refine r_iconst d_GR_beads_1 ic_1 ?_
  refine r_icmp_lt (tgt := 21) d_GR_beads_2 (by decide) (fun hc_2 => ?_) (fun hc_2 => ?_)
  · replace H := H.1 hc_2
    refine r_iconst d_GR_beads_21 ic_m1 ?_
    exact rI_ret d_GR_beads_22 rfl H
  · replace H := H.2 hc_2
    refine r_iload_n (i := 1) d_GR_beads_5 rfl rfl ?_
    refine r_bipush d_GR_beads_6 bp_12 ?_
    refine r_icmp_gt (tgt := 21) d_GR_beads_8 (by decide) (fun hc_8 => ?_) (fun hc_8 => ?_)
    · replace H := H.1 hc_8
      refine r_iconst d_GR_beads_21 ic_m1 ?_
      exact rI_ret d_GR_beads_22 rfl H
    · replace H := H.2 hc_8
      refine r_iload_n (i := 2) d_GR_beads_11 rfl rfl ?_
      refine r_iconst d_GR_beads_12 ic_1 ?_
      refine r_icmp_lt (tgt := 21) d_GR_beads_13 (by decide) (fun hc_13 => ?_) (fun hc_13 => ?_)
      · replace H := H.1 hc_13
        refine r_iconst d_GR_beads_21 ic_m1 ?_
        exact rI_ret d_GR_beads_22 rfl H
      · replace H := H.2 hc_13
        refine r_iload_n (i := 2) d_GR_beads_16 rfl rfl ?_
        refine r_iconst d_GR_beads_17 ic_4 ?_
        refine r_icmp_le (tgt := 23) d_GR_beads_18 (by decide) (fun hc_18 => ?_) (fun hc_18 => ?_)
        · replace H := H.1 hc_18
          refine r_iconst d_GR_beads_23 ic_1 ?_
          refine r_istore_n (i := 3) (lz := [some (.ref 0), some (.int a1), some (.int a2), some (.int 1), none, none]) d_GR_beads_24 rfl (by decide) rfl rfl ?_
          refine r_iconst d_GR_beads_25 ic_1 ?_
          refine r_istore (lz := [some (.ref 0), some (.int a1), some (.int a2), some (.int 1), some (.int 1), none]) d_GR_beads_26 (by decide) rfl rfl ?_
          refine r_iconst d_GR_beads_28 ic_0 ?_
          refine r_istore (lz := [some (.ref 0), some (.int a1), some (.int a2), some (.int 1), some (.int 1), some (.int 0)]) d_GR_beads_29 (by decide) rfl rfl ?_
          exact rx_fgt [true] H
        · replace H := H.2 hc_18
          refine r_iconst d_GR_beads_21 ic_m1 ?_
          exact rI_ret d_GR_beads_22 rfl H
set_option maxHeartbeats 4000000 in
set_option maxRecDepth 20000 in
theorem w_GR_beads_31 {G : rx_Gh} {hp : rx_Hp} {F : Int32 → rx_Hp → Prop} (x1 : Int32) (x2 : Int32) (x3 : Int32) (x4 : Int32) (x5 : Int32) (H : (x1 ≤ x5 → F ((x3 + x4) / 2) hp) ∧ (¬ x1 ≤ x5 → Rn wC G 1 q_GR_beads 31 [none, some (.int x1), some (.int x2), some (.int (x3 * x2)), some (.int ((if x1 ≤ (2 * x5) then x4 else (x4 * x2)) : Int32)), some (.int (x5 + 1))] [] hp (rI F))) : Rn wC G 1 q_GR_beads 31 [none, some (.int x1), some (.int x2), some (.int x3), some (.int x4), some (.int x5)] [] hp (rI F) := by
  refine r_iload d_GR_beads_31 rfl ?_
  refine r_iload_n (i := 1) d_GR_beads_33 rfl rfl ?_
  refine r_icmp_ge (tgt := 61) d_GR_beads_34 (by decide) (fun hc_34 => ?_) (fun hc_34 => ?_)
  · replace H := H.1 hc_34
    refine r_iload_n (i := 3) d_GR_beads_61 rfl rfl ?_
    refine r_iload d_GR_beads_62 rfl ?_
    refine r_iadd d_GR_beads_64 ?_
    refine r_iconst d_GR_beads_65 ic_2 ?_
    refine r_idiv d_GR_beads_66 (by decide) ?_
    exact rI_ret d_GR_beads_67 rfl H
  · replace H := H.2 hc_34
    have J46 : ∀ (v46_0 : Int32), v46_0 = ((if x1 ≤ (2 * x5) then x4 else (x4 * x2)) : Int32) → Rn wC G 1 q_GR_beads 55 [none, some (.int x1), some (.int x2), some (.int (x3 * x2)), some (.int v46_0), some (.int x5)] [] hp (rI F) := by
      rintro _ rfl
      refine r_iinc (v := x5 + 1) (lz := [none, some (.int x1), some (.int x2), some (.int (x3 * x2)), some (.int ((if x1 ≤ (2 * x5) then x4 else (x4 * x2)) : Int32)), some (.int (x5 + 1))]) d_GR_beads_55 rfl (by rw [ic_1]) (by decide) rfl rfl ?_
      refine r_goto (tgt := 31) d_GR_beads_58 (by decide) ?_
      exact H
    refine r_iload_n (i := 3) d_GR_beads_37 rfl rfl ?_
    refine r_iload_n (i := 2) d_GR_beads_38 rfl rfl ?_
    refine r_imul d_GR_beads_39 ?_
    refine r_istore_n (i := 3) (lz := [none, some (.int x1), some (.int x2), some (.int (x3 * x2)), some (.int x4), some (.int x5)]) d_GR_beads_40 rfl (by decide) rfl rfl ?_
    refine r_iconst d_GR_beads_41 ic_2 ?_
    refine r_iload d_GR_beads_42 rfl ?_
    refine r_imul d_GR_beads_44 ?_
    refine r_iload_n (i := 1) d_GR_beads_45 rfl rfl ?_
    refine r_icmp_ge (tgt := 55) d_GR_beads_46 (by decide) (fun hc_46 => ?_) (fun hc_46 => ?_)
    · exact J46 _ (((if_pos hc_46).trans rfl)).symm
    · refine r_iload d_GR_beads_49 rfl ?_
      refine r_iload_n (i := 2) d_GR_beads_51 rfl rfl ?_
      refine r_imul d_GR_beads_52 ?_
      refine r_istore (lz := [none, some (.int x1), some (.int x2), some (.int (x3 * x2)), some (.int (x4 * x2)), some (.int x5)]) d_GR_beads_53 (by decide) rfl rfl ?_
      exact J46 _ (((if_neg hc_46).trans rfl)).symm
set_option maxHeartbeats 4000000 in
set_option maxRecDepth 20000 in
theorem w_GR_divisor {Ω : rx_Om} {G : rx_Gh} {hp : rx_Hp} {F : Int32 → rx_Hp → Prop} (a1 : Int32) (a2 : Int32) (H : Rn Ω G 1 q_GR_divisor 7 [none, none, some (.int a1), some (.int a2), some (.int 0), none] [] hp (rI F)) : Ev Ω G 1 q_GR_divisor [.int a1, .int a2] hp (rI F) := by
  refine ev_of rfl (Nat.le_of_ble_eq_true rfl) rfl ?_
  show Rn Ω G 1 q_GR_divisor 0 [some (.int a1), some (.int a2), none, none, none, none] [] hp (rI F)
  refine r_iload_n (i := 0) d_GR_divisor_0 rfl rfl ?_
  refine r_istore_n (i := 2) (lz := [some (.int a1), some (.int a2), some (.int a1), none, none, none]) d_GR_divisor_1 rfl (by decide) rfl rfl ?_
  refine r_iload_n (i := 1) d_GR_divisor_2 rfl rfl ?_
  refine r_istore_n (i := 3) (lz := [some (.int a1), some (.int a2), some (.int a1), some (.int a2), none, none]) d_GR_divisor_3 rfl (by decide) rfl rfl ?_
  refine r_iconst d_GR_divisor_4 ic_0 ?_
  refine r_istore (lz := [some (.int a1), some (.int a2), some (.int a1), some (.int a2), some (.int 0), none]) d_GR_divisor_5 (by decide) rfl rfl ?_
  exact rx_fgt [true, true] H
set_option maxHeartbeats 4000000 in
set_option maxRecDepth 20000 in
theorem w_GR_divisor_7 {Ω : rx_Om} {G : rx_Gh} {hp : rx_Hp} {F : Int32 → rx_Hp → Prop} (x2 : Int32) (x3 : Int32) (x4 : Int32) (H : (64 ≤ x4 → F x2 hp) ∧ (¬ 64 ≤ x4 → (x3 = 0 → F x2 hp) ∧ (¬ x3 = 0 → Rn Ω G 1 q_GR_divisor 7 [none, none, some (.int x3), some (.int (x2 - x2 / x3 * x3)), some (.int (x4 + 1)), none] [] hp (rI F)))) : Rn Ω G 1 q_GR_divisor 7 [none, none, some (.int x2), some (.int x3), some (.int x4), none] [] hp (rI F) := by
  refine r_iload d_GR_divisor_7 rfl ?_
  refine r_bipush d_GR_divisor_9 bp_64 ?_
  refine r_icmp_ge (tgt := 34) d_GR_divisor_11 (by decide) (fun hc_11 => ?_) (fun hc_11 => ?_)
  · replace H := H.1 hc_11
    refine r_iload_n (i := 2) d_GR_divisor_34 rfl rfl ?_
    exact rI_ret d_GR_divisor_35 rfl H
  · replace H := H.2 hc_11
    refine r_iload_n (i := 3) d_GR_divisor_14 rfl rfl ?_
    refine r_if_eq (tgt := 34) d_GR_divisor_15 (by decide) (fun hc_15 => ?_) (fun hc_15 => ?_)
    · replace H := H.1 hc_15
      refine r_iload_n (i := 2) d_GR_divisor_34 rfl rfl ?_
      exact rI_ret d_GR_divisor_35 rfl H
    · replace H := H.2 hc_15
      refine r_iload_n (i := 2) d_GR_divisor_18 rfl rfl ?_
      refine r_iload_n (i := 3) d_GR_divisor_19 rfl rfl ?_
      refine r_irem d_GR_divisor_20 hc_15 ?_
      refine r_istore (lz := [none, none, some (.int x2), some (.int x3), some (.int x4), some (.int (x2 - x2 / x3 * x3))]) d_GR_divisor_21 (by decide) rfl rfl ?_
      refine r_iload_n (i := 3) d_GR_divisor_23 rfl rfl ?_
      refine r_istore_n (i := 2) (lz := [none, none, some (.int x3), some (.int x3), some (.int x4), some (.int (x2 - x2 / x3 * x3))]) d_GR_divisor_24 rfl (by decide) rfl rfl ?_
      refine r_iload d_GR_divisor_25 rfl ?_
      refine r_istore_n (i := 3) (lz := [none, none, some (.int x3), some (.int (x2 - x2 / x3 * x3)), some (.int x4), some (.int (x2 - x2 / x3 * x3))]) d_GR_divisor_27 rfl (by decide) rfl rfl ?_
      refine r_iinc (v := x4 + 1) (lz := [none, none, some (.int x3), some (.int (x2 - x2 / x3 * x3)), some (.int (x4 + 1)), some (.int (x2 - x2 / x3 * x3))]) d_GR_divisor_28 rfl (by rw [ic_1]) (by decide) rfl rfl ?_
      refine r_goto (tgt := 7) d_GR_divisor_31 (by decide) ?_
      exact rx_fgt [false, false, false, false, false, true] H
set_option maxHeartbeats 4000000 in
set_option maxRecDepth 20000 in
theorem w_GR_showsSomewhere {Ω : rx_Om} {G : rx_Gh} {hp : rx_Hp} {F : Int32 → rx_Hp → Prop} (a1 : Int32) (a2 : Int32) (H : (a1 < 1 → F 0 hp) ∧ (¬ a1 < 1 → ¬ a1 = 0 ∧ ((a2 < ((360 / a1) - 2) → F 0 hp) ∧ (¬ a2 < ((360 / a1) - 2) → (a2 ≤ ((360 / a1) + 1) → Rn Ω G 5 q_GR_showsSomewhere 31 [some (.int a1), some (.int a2), some (.int 1)] [] hp (rI F)) ∧ (¬ a2 ≤ ((360 / a1) + 1) → F 0 hp))))) : Ev Ω G 5 q_GR_showsSomewhere [.int a1, .int a2] hp (rI F) := by
  refine ev_of rfl (Nat.le_of_ble_eq_true rfl) rfl ?_
  show Rn Ω G 5 q_GR_showsSomewhere 0 [some (.int a1), some (.int a2), none] [] hp (rI F)
  refine r_iload_n (i := 0) d_GR_showsSomewhere_0 rfl rfl ?_
  refine r_iconst d_GR_showsSomewhere_1 ic_1 ?_
  refine r_icmp_lt (tgt := 27) d_GR_showsSomewhere_2 (by decide) (fun hc_2 => ?_) (fun hc_2 => ?_)
  · replace H := H.1 hc_2
    refine r_iconst d_GR_showsSomewhere_27 ic_0 ?_
    exact rZ_ret d_GR_showsSomewhere_28 rfl (Or.inl rfl) H
  · replace H := H.2 hc_2
    refine r_iload_n (i := 1) d_GR_showsSomewhere_5 rfl rfl ?_
    refine r_sipush d_GR_showsSomewhere_6 sp_360 ?_
    refine r_iload_n (i := 0) d_GR_showsSomewhere_9 rfl rfl ?_
    obtain ⟨hz_10, H⟩ := H
    refine r_idiv d_GR_showsSomewhere_10 hz_10 ?_
    refine r_iconst d_GR_showsSomewhere_11 ic_2 ?_
    refine r_isub d_GR_showsSomewhere_12 ?_
    refine r_icmp_lt (tgt := 27) d_GR_showsSomewhere_13 (by decide) (fun hc_13 => ?_) (fun hc_13 => ?_)
    · replace H := H.1 hc_13
      refine r_iconst d_GR_showsSomewhere_27 ic_0 ?_
      exact rZ_ret d_GR_showsSomewhere_28 rfl (Or.inl rfl) H
    · replace H := H.2 hc_13
      refine r_iload_n (i := 1) d_GR_showsSomewhere_16 rfl rfl ?_
      refine r_sipush d_GR_showsSomewhere_17 sp_360 ?_
      refine r_iload_n (i := 0) d_GR_showsSomewhere_20 rfl rfl ?_
      refine r_idiv d_GR_showsSomewhere_21 hz_10 ?_
      refine r_iconst d_GR_showsSomewhere_22 ic_1 ?_
      refine r_iadd d_GR_showsSomewhere_23 ?_
      refine r_icmp_le (tgt := 29) d_GR_showsSomewhere_24 (by decide) (fun hc_24 => ?_) (fun hc_24 => ?_)
      · replace H := H.1 hc_24
        refine r_iconst d_GR_showsSomewhere_29 ic_1 ?_
        refine r_istore_n (i := 2) (lz := [some (.int a1), some (.int a2), some (.int 1)]) d_GR_showsSomewhere_30 rfl (by decide) rfl rfl ?_
        exact H
      · replace H := H.2 hc_24
        refine r_iconst d_GR_showsSomewhere_27 ic_0 ?_
        exact rZ_ret d_GR_showsSomewhere_28 rfl (Or.inl rfl) H
set_option maxHeartbeats 4000000 in
set_option maxRecDepth 20000 in
theorem w_GR_showsSomewhere_31 {Ω : rx_Om} {G : rx_Gh} {hp : rx_Hp} {F : Int32 → rx_Hp → Prop} (x0 : Int32) (x1 : Int32) (x2 : Int32) (H : (x0 ≤ x2 → F 0 hp) ∧ (¬ x0 ≤ x2 → (x0 < (2 * x2) → F 0 hp) ∧ (¬ x0 < (2 * x2) → p_GR_unlikePlaces x0 x2 ∧ (((f_GR_unlikePlaces x0 x2) = x1 → F 1 hp) ∧ (¬ (f_GR_unlikePlaces x0 x2) = x1 → Rn Ω G 5 q_GR_showsSomewhere 31 [some (.int x0), some (.int x1), some (.int (x2 + 1))] [] hp (rI F)))))) : Rn Ω G 5 q_GR_showsSomewhere 31 [some (.int x0), some (.int x1), some (.int x2)] [] hp (rI F) := by
  refine r_iload_n (i := 2) d_GR_showsSomewhere_31 rfl rfl ?_
  refine r_iload_n (i := 0) d_GR_showsSomewhere_32 rfl rfl ?_
  refine r_icmp_ge (tgt := 60) d_GR_showsSomewhere_33 (by decide) (fun hc_33 => ?_) (fun hc_33 => ?_)
  · replace H := H.1 hc_33
    refine r_iconst d_GR_showsSomewhere_60 ic_0 ?_
    exact rZ_ret d_GR_showsSomewhere_61 rfl (Or.inl rfl) H
  · replace H := H.2 hc_33
    refine r_iconst d_GR_showsSomewhere_36 ic_2 ?_
    refine r_iload_n (i := 2) d_GR_showsSomewhere_37 rfl rfl ?_
    refine r_imul d_GR_showsSomewhere_38 ?_
    refine r_iload_n (i := 0) d_GR_showsSomewhere_39 rfl rfl ?_
    refine r_icmp_gt (tgt := 60) d_GR_showsSomewhere_40 (by decide) (fun hc_40 => ?_) (fun hc_40 => ?_)
    · replace H := H.1 hc_40
      refine r_iconst d_GR_showsSomewhere_60 ic_0 ?_
      exact rZ_ret d_GR_showsSomewhere_61 rfl (Or.inl rfl) H
    · replace H := H.2 hc_40
      refine r_iload_n (i := 0) d_GR_showsSomewhere_43 rfl rfl ?_
      refine r_iload_n (i := 2) d_GR_showsSomewhere_44 rfl rfl ?_
      obtain ⟨hp_45_0, H⟩ := H
      refine rk_SI (d' := 4) [.int x0, .int x2] [] d_GR_showsSomewhere_45 ml_GR_314 rfl rfl (by decide) (Nat.le_of_ble_eq_true rfl) (s_GR_unlikePlaces x0 x2 hp_45_0 ?_)
      refine r_iload_n (i := 1) d_GR_showsSomewhere_48 rfl rfl ?_
      refine r_icmp_ne (tgt := 54) d_GR_showsSomewhere_49 (by decide) (fun hc_49 => ?_) (fun hc_49 => ?_)
      · replace H := H.2 hc_49
        refine r_iinc (v := x2 + 1) (lz := [some (.int x0), some (.int x1), some (.int (x2 + 1))]) d_GR_showsSomewhere_54 rfl (by rw [ic_1]) (by decide) rfl rfl ?_
        refine r_goto (tgt := 31) d_GR_showsSomewhere_57 (by decide) ?_
        exact H
      · replace H := H.1 hc_49
        refine r_iconst d_GR_showsSomewhere_52 ic_1 ?_
        exact rZ_ret d_GR_showsSomewhere_53 rfl (Or.inr rfl) H
set_option maxHeartbeats 4000000 in
set_option maxRecDepth 20000 in
theorem w_Ba_findFirst {G : rx_Gh} {hp : rx_Hp} {F : Int32 → rx_Hp → Prop} (a1 : Int32) (a2 : Int32) (a3 : Int32) (a4 : Int32) (H : Rn wC G 3 q_Ba_findFirst 10 [some (.ref 44), some (.int a1), some (.int a2), some (.int a3), some (.int a4), some (.int 0), some (.int 0), some (.int (-10)), none, none, none, none, none] [] hp (rI F)) : Ev wC G 3 q_Ba_findFirst [.ref 44, .int a1, .int a2, .int a3, .int a4] hp (rI F) := by
  refine ev_of rfl (Nat.le_of_ble_eq_true rfl) rfl ?_
  show Rn wC G 3 q_Ba_findFirst 0 [some (.ref 44), some (.int a1), some (.int a2), some (.int a3), some (.int a4), none, none, none, none, none, none, none, none] [] hp (rI F)
  refine r_iconst d_Ba_findFirst_0 ic_0 ?_
  refine r_istore (lz := [some (.ref 44), some (.int a1), some (.int a2), some (.int a3), some (.int a4), some (.int 0), none, none, none, none, none, none, none]) d_Ba_findFirst_1 (by decide) rfl rfl ?_
  refine r_iconst d_Ba_findFirst_3 ic_0 ?_
  refine r_istore (lz := [some (.ref 44), some (.int a1), some (.int a2), some (.int a3), some (.int a4), some (.int 0), some (.int 0), none, none, none, none, none, none]) d_Ba_findFirst_4 (by decide) rfl rfl ?_
  refine r_bipush d_Ba_findFirst_6 bp_m10 ?_
  refine r_istore (lz := [some (.ref 44), some (.int a1), some (.int a2), some (.int a3), some (.int a4), some (.int 0), some (.int 0), some (.int (-10)), none, none, none, none, none]) d_Ba_findFirst_8 (by decide) rfl rfl ?_
  exact H
set_option maxHeartbeats 4000000 in
set_option maxRecDepth 20000 in
theorem w_Ba_findFirst_10 {G : rx_Gh} {hp : rx_Hp} {F : Int32 → rx_Hp → Prop} (x1 : Int32) (x2 : Int32) (x3 : Int32) (x4 : Int32) (x5 : Int32) (x6 : Int32) (x7 : Int32) (H : (10 < x7 → F ((if x5 ≤ 0 then 0 else 1) : Int32) hp) ∧ (¬ 10 < x7 → vp_in x4 6 ∧ (vp_in x1 6 ∧ (Rn wC G 3 q_Ba_findFirst 55 [some (.ref 44), some (.int x1), some (.int x2), some (.int x3), some (.int x4), some (.int x5), some (.int x6), some (.int x7), some (.int ((f_Ha_spot x7 (hp.1 3 5) (hp.2.1 4 x4.toNatClampNeg)) - (hp.2.1 4 x1.toNatClampNeg))), some (.int (-10)), none, none, none] [] hp (rI F))))) : Rn wC G 3 q_Ba_findFirst 10 [some (.ref 44), some (.int x1), some (.int x2), some (.int x3), some (.int x4), some (.int x5), some (.int x6), some (.int x7), none, none, none, none, none] [] hp (rI F) := by
  refine r_iload d_Ba_findFirst_10 rfl ?_
  refine r_bipush d_Ba_findFirst_12 bp_10 ?_
  refine r_icmp_gt (tgt := 206) d_Ba_findFirst_14 (by decide) (fun hc_14 => ?_) (fun hc_14 => ?_)
  · replace H := H.1 hc_14
    have J208 : ∀ (v208_0 : Int32), v208_0 = ((if x5 ≤ 0 then 0 else 1) : Int32) → Rn wC G 3 q_Ba_findFirst 216 [some (.ref 44), some (.int x1), some (.int x2), some (.int x3), some (.int x4), some (.int x5), some (.int x6), some (.int x7), none, none, none, none, none] [.int v208_0] hp (rI F) := by
      rintro _ rfl
      exact rZ_ret d_Ba_findFirst_216 rfl (rb_ite (Or.inl rfl) (Or.inr rfl)) H
    refine r_iload d_Ba_findFirst_206 rfl ?_
    refine r_if_le (tgt := 215) d_Ba_findFirst_208 (by decide) (fun hc_208 => ?_) (fun hc_208 => ?_)
    · refine r_iconst d_Ba_findFirst_215 ic_0 ?_
      exact J208 _ (((if_pos hc_208).trans rfl)).symm
    · refine r_iconst d_Ba_findFirst_211 ic_1 ?_
      refine r_goto (tgt := 216) d_Ba_findFirst_212 (by decide) ?_
      exact J208 _ (((if_neg hc_208).trans rfl)).symm
  · replace H := H.2 hc_14
    refine r_iload d_Ba_findFirst_17 rfl ?_
    refine r_aload_n (i := 0) d_Ba_findFirst_19 rfl rfl ?_
    refine r_getR (b := 44) (r := 3) d_Ba_findFirst_20 fl_Ba_15 (by decide) rfl rfl rfl ?_
    refine r_getI (b := 3) (v := hp.1 3 5) d_Ba_findFirst_23 fl_Ba_19 (by decide) rfl rfl rfl ?_
    refine r_aload_n (i := 0) d_Ba_findFirst_26 rfl rfl ?_
    refine r_getR (b := 44) (r := 3) d_Ba_findFirst_27 fl_Ba_15 (by decide) rfl rfl rfl ?_
    refine r_getR (b := 3) (r := 4) d_Ba_findFirst_30 fl_Ba_25 (by decide) rfl rfl rfl ?_
    refine r_iload d_Ba_findFirst_33 rfl ?_
    obtain ⟨hi_35, H⟩ := H
    refine r_iald (b := 4) (v := hp.2.1 4 x4.toNatClampNeg) d_Ba_findFirst_35 (by decide) rfl hi_35 rfl ?_
    refine rk_SI (d' := 1) [.int x7, .int (hp.1 3 5), .int (hp.2.1 4 x4.toNatClampNeg)] [] d_Ba_findFirst_36 ml_Ba_28 rfl rfl (by decide) (Nat.le_of_ble_eq_true rfl) (s_Ha_spot x7 (hp.1 3 5) (hp.2.1 4 x4.toNatClampNeg) ?_)
    refine r_aload_n (i := 0) d_Ba_findFirst_39 rfl rfl ?_
    refine r_getR (b := 44) (r := 3) d_Ba_findFirst_40 fl_Ba_15 (by decide) rfl rfl rfl ?_
    refine r_getR (b := 3) (r := 4) d_Ba_findFirst_43 fl_Ba_25 (by decide) rfl rfl rfl ?_
    refine r_iload_n (i := 1) d_Ba_findFirst_46 rfl rfl ?_
    obtain ⟨hi_47, H⟩ := H
    refine r_iald (b := 4) (v := hp.2.1 4 x1.toNatClampNeg) d_Ba_findFirst_47 (by decide) rfl hi_47 rfl ?_
    refine r_isub d_Ba_findFirst_48 ?_
    refine r_istore (lz := [some (.ref 44), some (.int x1), some (.int x2), some (.int x3), some (.int x4), some (.int x5), some (.int x6), some (.int x7), some (.int ((f_Ha_spot x7 (hp.1 3 5) (hp.2.1 4 x4.toNatClampNeg)) - (hp.2.1 4 x1.toNatClampNeg))), none, none, none, none]) d_Ba_findFirst_49 (by decide) rfl rfl ?_
    refine r_bipush d_Ba_findFirst_51 bp_m10 ?_
    refine r_istore (lz := [some (.ref 44), some (.int x1), some (.int x2), some (.int x3), some (.int x4), some (.int x5), some (.int x6), some (.int x7), some (.int ((f_Ha_spot x7 (hp.1 3 5) (hp.2.1 4 x4.toNatClampNeg)) - (hp.2.1 4 x1.toNatClampNeg))), some (.int (-10)), none, none, none]) d_Ba_findFirst_53 (by decide) rfl rfl ?_
    exact H
set_option maxHeartbeats 4000000 in
set_option maxRecDepth 20000 in
theorem w_Ba_findFirst_55 {G : rx_Gh} {hp : rx_Hp} {F : Int32 → rx_Hp → Prop} (x1 : Int32) (x2 : Int32) (x3 : Int32) (x4 : Int32) (x5 : Int32) (x6 : Int32) (x7 : Int32) (x8 : Int32) (x9 : Int32) (H : (10 < x9 → Rn wC G 3 q_Ba_findFirst 10 [some (.ref 44), some (.int x1), some (.int x2), some (.int x3), some (.int x4), some (.int x5), some (.int x6), some (.int (x7 + 1)), none, none, none, none, none] [] hp (rI F)) ∧ (¬ 10 < x9 → vp_in x4 6 ∧ (vp_in x1 6 ∧ (((x8 * x3) = (((f_Ha_spot x9 (hp.1 3 6) (hp.2.1 5 x4.toNatClampNeg)) - (hp.2.1 5 x1.toNatClampNeg)) * x2) → (0 < ((x8 * x2) + (((f_Ha_spot x9 (hp.1 3 6) (hp.2.1 5 x4.toNatClampNeg)) - (hp.2.1 5 x1.toNatClampNeg)) * x3)) → (((if x5 = 0 then 1 else ((if x5 ≤ ((x8 * x2) + (((f_Ha_spot x9 (hp.1 3 6) (hp.2.1 5 x4.toNatClampNeg)) - (hp.2.1 5 x1.toNatClampNeg)) * x3)) then 0 else 1) : Int32)) : Int32) = 0 → (((x8 * x2) + (((f_Ha_spot x9 (hp.1 3 6) (hp.2.1 5 x4.toNatClampNeg)) - (hp.2.1 5 x1.toNatClampNeg)) * x3)) = x5 → (x6 ≤ (f_GR_glasses x7 x9) → Rn wC G 3 q_Ba_findFirst 55 [some (.ref 44), some (.int x1), some (.int x2), some (.int x3), some (.int x4), some (.int x5), some (.int x6), some (.int x7), some (.int x8), some (.int (x9 + 1)), none, none, none] [] hp (rI F)) ∧ (¬ x6 ≤ (f_GR_glasses x7 x9) → Rn wC G 3 q_Ba_findFirst 55 [some (.ref 44), some (.int x1), some (.int x2), some (.int x3), some (.int x4), some (.int ((x8 * x2) + (((f_Ha_spot x9 (hp.1 3 6) (hp.2.1 5 x4.toNatClampNeg)) - (hp.2.1 5 x1.toNatClampNeg)) * x3))), some (.int (f_GR_glasses x7 x9)), some (.int x7), some (.int x8), some (.int (x9 + 1)), none, none, none] [] (rx_pf (rx_pf hp 44 2 x7) 44 3 x9) (rI F))) ∧ (¬ ((x8 * x2) + (((f_Ha_spot x9 (hp.1 3 6) (hp.2.1 5 x4.toNatClampNeg)) - (hp.2.1 5 x1.toNatClampNeg)) * x3)) = x5 → Rn wC G 3 q_Ba_findFirst 55 [some (.ref 44), some (.int x1), some (.int x2), some (.int x3), some (.int x4), some (.int x5), some (.int x6), some (.int x7), some (.int x8), some (.int (x9 + 1)), none, none, none] [] hp (rI F))) ∧ (¬ ((if x5 = 0 then 1 else ((if x5 ≤ ((x8 * x2) + (((f_Ha_spot x9 (hp.1 3 6) (hp.2.1 5 x4.toNatClampNeg)) - (hp.2.1 5 x1.toNatClampNeg)) * x3)) then 0 else 1) : Int32)) : Int32) = 0 → Rn wC G 3 q_Ba_findFirst 55 [some (.ref 44), some (.int x1), some (.int x2), some (.int x3), some (.int x4), some (.int ((x8 * x2) + (((f_Ha_spot x9 (hp.1 3 6) (hp.2.1 5 x4.toNatClampNeg)) - (hp.2.1 5 x1.toNatClampNeg)) * x3))), some (.int (f_GR_glasses x7 x9)), some (.int x7), some (.int x8), some (.int (x9 + 1)), none, none, none] [] (rx_pf (rx_pf hp 44 2 x7) 44 3 x9) (rI F))) ∧ (¬ 0 < ((x8 * x2) + (((f_Ha_spot x9 (hp.1 3 6) (hp.2.1 5 x4.toNatClampNeg)) - (hp.2.1 5 x1.toNatClampNeg)) * x3)) → Rn wC G 3 q_Ba_findFirst 55 [some (.ref 44), some (.int x1), some (.int x2), some (.int x3), some (.int x4), some (.int x5), some (.int x6), some (.int x7), some (.int x8), some (.int (x9 + 1)), none, none, none] [] hp (rI F))) ∧ (¬ (x8 * x3) = (((f_Ha_spot x9 (hp.1 3 6) (hp.2.1 5 x4.toNatClampNeg)) - (hp.2.1 5 x1.toNatClampNeg)) * x2) → Rn wC G 3 q_Ba_findFirst 55 [some (.ref 44), some (.int x1), some (.int x2), some (.int x3), some (.int x4), some (.int x5), some (.int x6), some (.int x7), some (.int x8), some (.int (x9 + 1)), none, none, none] [] hp (rI F)))))) : Rn wC G 3 q_Ba_findFirst 55 [some (.ref 44), some (.int x1), some (.int x2), some (.int x3), some (.int x4), some (.int x5), some (.int x6), some (.int x7), some (.int x8), some (.int x9), none, none, none] [] hp (rI F) := by
  refine r_iload d_Ba_findFirst_55 rfl ?_
  refine r_bipush d_Ba_findFirst_57 bp_10 ?_
  refine r_icmp_gt (tgt := 200) d_Ba_findFirst_59 (by decide) (fun hc_59 => ?_) (fun hc_59 => ?_)
  · replace H := H.1 hc_59
    refine r_iinc (v := x7 + 1) (lz := [some (.ref 44), some (.int x1), some (.int x2), some (.int x3), some (.int x4), some (.int x5), some (.int x6), some (.int (x7 + 1)), some (.int x8), some (.int x9), none, none, none]) d_Ba_findFirst_200 rfl (by rw [ic_1]) (by decide) rfl rfl ?_
    refine r_goto (tgt := 10) d_Ba_findFirst_203 (by decide) ?_
    exact rx_fgt [false, false, false, false, false, false, false, false, true, true] H
  · replace H := H.2 hc_59
    refine r_iload d_Ba_findFirst_62 rfl ?_
    refine r_aload_n (i := 0) d_Ba_findFirst_64 rfl rfl ?_
    refine r_getR (b := 44) (r := 3) d_Ba_findFirst_65 fl_Ba_15 (by decide) rfl rfl rfl ?_
    refine r_getI (b := 3) (v := hp.1 3 6) d_Ba_findFirst_68 fl_Ba_32 (by decide) rfl rfl rfl ?_
    refine r_aload_n (i := 0) d_Ba_findFirst_71 rfl rfl ?_
    refine r_getR (b := 44) (r := 3) d_Ba_findFirst_72 fl_Ba_15 (by decide) rfl rfl rfl ?_
    refine r_getR (b := 3) (r := 5) d_Ba_findFirst_75 fl_Ba_35 (by decide) rfl rfl rfl ?_
    refine r_iload d_Ba_findFirst_78 rfl ?_
    obtain ⟨hi_80, H⟩ := H
    refine r_iald (b := 5) (v := hp.2.1 5 x4.toNatClampNeg) d_Ba_findFirst_80 (by decide) rfl hi_80 rfl ?_
    refine rk_SI (d' := 1) [.int x9, .int (hp.1 3 6), .int (hp.2.1 5 x4.toNatClampNeg)] [] d_Ba_findFirst_81 ml_Ba_28 rfl rfl (by decide) (Nat.le_of_ble_eq_true rfl) (s_Ha_spot x9 (hp.1 3 6) (hp.2.1 5 x4.toNatClampNeg) ?_)
    refine r_aload_n (i := 0) d_Ba_findFirst_84 rfl rfl ?_
    refine r_getR (b := 44) (r := 3) d_Ba_findFirst_85 fl_Ba_15 (by decide) rfl rfl rfl ?_
    refine r_getR (b := 3) (r := 5) d_Ba_findFirst_88 fl_Ba_35 (by decide) rfl rfl rfl ?_
    refine r_iload_n (i := 1) d_Ba_findFirst_91 rfl rfl ?_
    obtain ⟨hi_92, H⟩ := H
    refine r_iald (b := 5) (v := hp.2.1 5 x1.toNatClampNeg) d_Ba_findFirst_92 (by decide) rfl hi_92 rfl ?_
    refine r_isub d_Ba_findFirst_93 ?_
    refine r_istore (lz := [some (.ref 44), some (.int x1), some (.int x2), some (.int x3), some (.int x4), some (.int x5), some (.int x6), some (.int x7), some (.int x8), some (.int x9), some (.int ((f_Ha_spot x9 (hp.1 3 6) (hp.2.1 5 x4.toNatClampNeg)) - (hp.2.1 5 x1.toNatClampNeg))), none, none]) d_Ba_findFirst_94 (by decide) rfl rfl ?_
    refine r_iload d_Ba_findFirst_96 rfl ?_
    refine r_iload_n (i := 2) d_Ba_findFirst_98 rfl rfl ?_
    refine r_imul d_Ba_findFirst_99 ?_
    refine r_iload d_Ba_findFirst_100 rfl ?_
    refine r_iload_n (i := 3) d_Ba_findFirst_102 rfl rfl ?_
    refine r_imul d_Ba_findFirst_103 ?_
    refine r_iadd d_Ba_findFirst_104 ?_
    refine r_istore (lz := [some (.ref 44), some (.int x1), some (.int x2), some (.int x3), some (.int x4), some (.int x5), some (.int x6), some (.int x7), some (.int x8), some (.int x9), some (.int ((f_Ha_spot x9 (hp.1 3 6) (hp.2.1 5 x4.toNatClampNeg)) - (hp.2.1 5 x1.toNatClampNeg))), some (.int ((x8 * x2) + (((f_Ha_spot x9 (hp.1 3 6) (hp.2.1 5 x4.toNatClampNeg)) - (hp.2.1 5 x1.toNatClampNeg)) * x3))), none]) d_Ba_findFirst_105 (by decide) rfl rfl ?_
    refine r_iload d_Ba_findFirst_107 rfl ?_
    refine r_iload_n (i := 3) d_Ba_findFirst_109 rfl rfl ?_
    refine r_imul d_Ba_findFirst_110 ?_
    refine r_iload d_Ba_findFirst_111 rfl ?_
    refine r_iload_n (i := 2) d_Ba_findFirst_113 rfl rfl ?_
    refine r_imul d_Ba_findFirst_114 ?_
    refine r_icmp_ne (tgt := 194) d_Ba_findFirst_115 (by decide) (fun hc_115 => ?_) (fun hc_115 => ?_)
    · replace H := H.2 hc_115
      refine r_iinc (v := x9 + 1) (lz := [some (.ref 44), some (.int x1), some (.int x2), some (.int x3), some (.int x4), some (.int x5), some (.int x6), some (.int x7), some (.int x8), some (.int (x9 + 1)), some (.int ((f_Ha_spot x9 (hp.1 3 6) (hp.2.1 5 x4.toNatClampNeg)) - (hp.2.1 5 x1.toNatClampNeg))), some (.int ((x8 * x2) + (((f_Ha_spot x9 (hp.1 3 6) (hp.2.1 5 x4.toNatClampNeg)) - (hp.2.1 5 x1.toNatClampNeg)) * x3))), none]) d_Ba_findFirst_194 rfl (by rw [ic_1]) (by decide) rfl rfl ?_
      refine r_goto (tgt := 55) d_Ba_findFirst_197 (by decide) ?_
      exact rx_fgt [false, false, false, false, false, false, false, false, false, false, true, true] H
    · replace H := H.1 hc_115
      refine r_iload d_Ba_findFirst_118 rfl ?_
      refine r_if_gt (tgt := 126) d_Ba_findFirst_120 (by decide) (fun hc_120 => ?_) (fun hc_120 => ?_)
      · replace H := H.1 hc_120
        have J128 : ∀ (v128_0 : Int32), v128_0 = ((if x5 = 0 then 1 else ((if x5 ≤ ((x8 * x2) + (((f_Ha_spot x9 (hp.1 3 6) (hp.2.1 5 x4.toNatClampNeg)) - (hp.2.1 5 x1.toNatClampNeg)) * x3)) then 0 else 1) : Int32)) : Int32) → Rn wC G 3 q_Ba_findFirst 143 [some (.ref 44), some (.int x1), some (.int x2), some (.int x3), some (.int x4), some (.int x5), some (.int x6), some (.int x7), some (.int x8), some (.int x9), some (.int ((f_Ha_spot x9 (hp.1 3 6) (hp.2.1 5 x4.toNatClampNeg)) - (hp.2.1 5 x1.toNatClampNeg))), some (.int ((x8 * x2) + (((f_Ha_spot x9 (hp.1 3 6) (hp.2.1 5 x4.toNatClampNeg)) - (hp.2.1 5 x1.toNatClampNeg)) * x3))), none] [.int v128_0] hp (rI F) := by
          rintro _ rfl
          refine r_istore (lz := [some (.ref 44), some (.int x1), some (.int x2), some (.int x3), some (.int x4), some (.int x5), some (.int x6), some (.int x7), some (.int x8), some (.int x9), some (.int ((f_Ha_spot x9 (hp.1 3 6) (hp.2.1 5 x4.toNatClampNeg)) - (hp.2.1 5 x1.toNatClampNeg))), some (.int ((x8 * x2) + (((f_Ha_spot x9 (hp.1 3 6) (hp.2.1 5 x4.toNatClampNeg)) - (hp.2.1 5 x1.toNatClampNeg)) * x3))), some (.int ((if x5 = 0 then 1 else ((if x5 ≤ ((x8 * x2) + (((f_Ha_spot x9 (hp.1 3 6) (hp.2.1 5 x4.toNatClampNeg)) - (hp.2.1 5 x1.toNatClampNeg)) * x3)) then 0 else 1) : Int32)) : Int32))]) d_Ba_findFirst_143 (by decide) rfl rfl ?_
          refine r_iload d_Ba_findFirst_145 rfl ?_
          refine r_if_ne (tgt := 169) d_Ba_findFirst_147 (by decide) (fun hc_147 => ?_) (fun hc_147 => ?_)
          · replace H := H.2 hc_147
            refine r_iload d_Ba_findFirst_169 rfl ?_
            refine r_istore (lz := [some (.ref 44), some (.int x1), some (.int x2), some (.int x3), some (.int x4), some (.int ((x8 * x2) + (((f_Ha_spot x9 (hp.1 3 6) (hp.2.1 5 x4.toNatClampNeg)) - (hp.2.1 5 x1.toNatClampNeg)) * x3))), some (.int x6), some (.int x7), some (.int x8), some (.int x9), some (.int ((f_Ha_spot x9 (hp.1 3 6) (hp.2.1 5 x4.toNatClampNeg)) - (hp.2.1 5 x1.toNatClampNeg))), some (.int ((x8 * x2) + (((f_Ha_spot x9 (hp.1 3 6) (hp.2.1 5 x4.toNatClampNeg)) - (hp.2.1 5 x1.toNatClampNeg)) * x3))), some (.int ((if x5 = 0 then 1 else ((if x5 ≤ ((x8 * x2) + (((f_Ha_spot x9 (hp.1 3 6) (hp.2.1 5 x4.toNatClampNeg)) - (hp.2.1 5 x1.toNatClampNeg)) * x3)) then 0 else 1) : Int32)) : Int32))]) d_Ba_findFirst_171 (by decide) rfl rfl ?_
            refine r_iload d_Ba_findFirst_173 rfl ?_
            refine r_iload d_Ba_findFirst_175 rfl ?_
            refine rk_NI (d' := 2) [.int x7, .int x9] [] d_Ba_findFirst_177 ml_Ba_38 rfl rfl (by decide) (Nat.le_of_ble_eq_true rfl) (s_GR_glasses x7 x9 ?_)
            refine r_istore (lz := [some (.ref 44), some (.int x1), some (.int x2), some (.int x3), some (.int x4), some (.int ((x8 * x2) + (((f_Ha_spot x9 (hp.1 3 6) (hp.2.1 5 x4.toNatClampNeg)) - (hp.2.1 5 x1.toNatClampNeg)) * x3))), some (.int (f_GR_glasses x7 x9)), some (.int x7), some (.int x8), some (.int x9), some (.int ((f_Ha_spot x9 (hp.1 3 6) (hp.2.1 5 x4.toNatClampNeg)) - (hp.2.1 5 x1.toNatClampNeg))), some (.int ((x8 * x2) + (((f_Ha_spot x9 (hp.1 3 6) (hp.2.1 5 x4.toNatClampNeg)) - (hp.2.1 5 x1.toNatClampNeg)) * x3))), some (.int ((if x5 = 0 then 1 else ((if x5 ≤ ((x8 * x2) + (((f_Ha_spot x9 (hp.1 3 6) (hp.2.1 5 x4.toNatClampNeg)) - (hp.2.1 5 x1.toNatClampNeg)) * x3)) then 0 else 1) : Int32)) : Int32))]) d_Ba_findFirst_180 (by decide) rfl rfl ?_
            refine r_aload_n (i := 0) d_Ba_findFirst_182 rfl rfl ?_
            refine r_iload d_Ba_findFirst_183 rfl ?_
            refine r_putI (b := 44) d_Ba_findFirst_185 fp_Ba_42 ⟨rfl, rfl⟩ (by decide) rfl rfl ?_
            refine r_aload_n (i := 0) d_Ba_findFirst_188 rfl rfl ?_
            refine r_iload d_Ba_findFirst_189 rfl ?_
            refine r_putI (b := 44) d_Ba_findFirst_191 fp_Ba_45 ⟨rfl, rfl⟩ (by decide) rfl rfl ?_
            refine r_iinc (v := x9 + 1) (lz := [some (.ref 44), some (.int x1), some (.int x2), some (.int x3), some (.int x4), some (.int ((x8 * x2) + (((f_Ha_spot x9 (hp.1 3 6) (hp.2.1 5 x4.toNatClampNeg)) - (hp.2.1 5 x1.toNatClampNeg)) * x3))), some (.int (f_GR_glasses x7 x9)), some (.int x7), some (.int x8), some (.int (x9 + 1)), some (.int ((f_Ha_spot x9 (hp.1 3 6) (hp.2.1 5 x4.toNatClampNeg)) - (hp.2.1 5 x1.toNatClampNeg))), some (.int ((x8 * x2) + (((f_Ha_spot x9 (hp.1 3 6) (hp.2.1 5 x4.toNatClampNeg)) - (hp.2.1 5 x1.toNatClampNeg)) * x3))), some (.int ((if x5 = 0 then 1 else ((if x5 ≤ ((x8 * x2) + (((f_Ha_spot x9 (hp.1 3 6) (hp.2.1 5 x4.toNatClampNeg)) - (hp.2.1 5 x1.toNatClampNeg)) * x3)) then 0 else 1) : Int32)) : Int32))]) d_Ba_findFirst_194 rfl (by rw [ic_1]) (by decide) rfl rfl ?_
            refine r_goto (tgt := 55) d_Ba_findFirst_197 (by decide) ?_
            exact rx_fgt [false, false, false, false, false, false, false, false, false, false, true, true, true] H
          · replace H := H.1 hc_147
            refine r_iload d_Ba_findFirst_150 rfl ?_
            refine r_iload d_Ba_findFirst_152 rfl ?_
            refine r_icmp_ne (tgt := 194) d_Ba_findFirst_154 (by decide) (fun hc_154 => ?_) (fun hc_154 => ?_)
            · replace H := H.2 hc_154
              refine r_iinc (v := x9 + 1) (lz := [some (.ref 44), some (.int x1), some (.int x2), some (.int x3), some (.int x4), some (.int x5), some (.int x6), some (.int x7), some (.int x8), some (.int (x9 + 1)), some (.int ((f_Ha_spot x9 (hp.1 3 6) (hp.2.1 5 x4.toNatClampNeg)) - (hp.2.1 5 x1.toNatClampNeg))), some (.int ((x8 * x2) + (((f_Ha_spot x9 (hp.1 3 6) (hp.2.1 5 x4.toNatClampNeg)) - (hp.2.1 5 x1.toNatClampNeg)) * x3))), some (.int ((if x5 = 0 then 1 else ((if x5 ≤ ((x8 * x2) + (((f_Ha_spot x9 (hp.1 3 6) (hp.2.1 5 x4.toNatClampNeg)) - (hp.2.1 5 x1.toNatClampNeg)) * x3)) then 0 else 1) : Int32)) : Int32))]) d_Ba_findFirst_194 rfl (by rw [ic_1]) (by decide) rfl rfl ?_
              refine r_goto (tgt := 55) d_Ba_findFirst_197 (by decide) ?_
              exact rx_fgt [false, false, false, false, false, false, false, false, false, false, true, true, true] H
            · replace H := H.1 hc_154
              refine r_iload d_Ba_findFirst_157 rfl ?_
              refine r_iload d_Ba_findFirst_159 rfl ?_
              refine rk_NI (d' := 2) [.int x7, .int x9] [] d_Ba_findFirst_161 ml_Ba_38 rfl rfl (by decide) (Nat.le_of_ble_eq_true rfl) (s_GR_glasses x7 x9 ?_)
              refine r_iload d_Ba_findFirst_164 rfl ?_
              refine r_icmp_ge (tgt := 194) d_Ba_findFirst_166 (by decide) (fun hc_166 => ?_) (fun hc_166 => ?_)
              · replace H := H.1 hc_166
                refine r_iinc (v := x9 + 1) (lz := [some (.ref 44), some (.int x1), some (.int x2), some (.int x3), some (.int x4), some (.int x5), some (.int x6), some (.int x7), some (.int x8), some (.int (x9 + 1)), some (.int ((f_Ha_spot x9 (hp.1 3 6) (hp.2.1 5 x4.toNatClampNeg)) - (hp.2.1 5 x1.toNatClampNeg))), some (.int ((x8 * x2) + (((f_Ha_spot x9 (hp.1 3 6) (hp.2.1 5 x4.toNatClampNeg)) - (hp.2.1 5 x1.toNatClampNeg)) * x3))), some (.int ((if x5 = 0 then 1 else ((if x5 ≤ ((x8 * x2) + (((f_Ha_spot x9 (hp.1 3 6) (hp.2.1 5 x4.toNatClampNeg)) - (hp.2.1 5 x1.toNatClampNeg)) * x3)) then 0 else 1) : Int32)) : Int32))]) d_Ba_findFirst_194 rfl (by rw [ic_1]) (by decide) rfl rfl ?_
                refine r_goto (tgt := 55) d_Ba_findFirst_197 (by decide) ?_
                exact rx_fgt [false, false, false, false, false, false, false, false, false, false, true, true, true] H
              · replace H := H.2 hc_166
                refine r_iload d_Ba_findFirst_169 rfl ?_
                refine r_istore (lz := [some (.ref 44), some (.int x1), some (.int x2), some (.int x3), some (.int x4), some (.int ((x8 * x2) + (((f_Ha_spot x9 (hp.1 3 6) (hp.2.1 5 x4.toNatClampNeg)) - (hp.2.1 5 x1.toNatClampNeg)) * x3))), some (.int x6), some (.int x7), some (.int x8), some (.int x9), some (.int ((f_Ha_spot x9 (hp.1 3 6) (hp.2.1 5 x4.toNatClampNeg)) - (hp.2.1 5 x1.toNatClampNeg))), some (.int ((x8 * x2) + (((f_Ha_spot x9 (hp.1 3 6) (hp.2.1 5 x4.toNatClampNeg)) - (hp.2.1 5 x1.toNatClampNeg)) * x3))), some (.int ((if x5 = 0 then 1 else ((if x5 ≤ ((x8 * x2) + (((f_Ha_spot x9 (hp.1 3 6) (hp.2.1 5 x4.toNatClampNeg)) - (hp.2.1 5 x1.toNatClampNeg)) * x3)) then 0 else 1) : Int32)) : Int32))]) d_Ba_findFirst_171 (by decide) rfl rfl ?_
                refine r_iload d_Ba_findFirst_173 rfl ?_
                refine r_iload d_Ba_findFirst_175 rfl ?_
                refine rk_NI (d' := 2) [.int x7, .int x9] [] d_Ba_findFirst_177 ml_Ba_38 rfl rfl (by decide) (Nat.le_of_ble_eq_true rfl) (s_GR_glasses x7 x9 ?_)
                refine r_istore (lz := [some (.ref 44), some (.int x1), some (.int x2), some (.int x3), some (.int x4), some (.int ((x8 * x2) + (((f_Ha_spot x9 (hp.1 3 6) (hp.2.1 5 x4.toNatClampNeg)) - (hp.2.1 5 x1.toNatClampNeg)) * x3))), some (.int (f_GR_glasses x7 x9)), some (.int x7), some (.int x8), some (.int x9), some (.int ((f_Ha_spot x9 (hp.1 3 6) (hp.2.1 5 x4.toNatClampNeg)) - (hp.2.1 5 x1.toNatClampNeg))), some (.int ((x8 * x2) + (((f_Ha_spot x9 (hp.1 3 6) (hp.2.1 5 x4.toNatClampNeg)) - (hp.2.1 5 x1.toNatClampNeg)) * x3))), some (.int ((if x5 = 0 then 1 else ((if x5 ≤ ((x8 * x2) + (((f_Ha_spot x9 (hp.1 3 6) (hp.2.1 5 x4.toNatClampNeg)) - (hp.2.1 5 x1.toNatClampNeg)) * x3)) then 0 else 1) : Int32)) : Int32))]) d_Ba_findFirst_180 (by decide) rfl rfl ?_
                refine r_aload_n (i := 0) d_Ba_findFirst_182 rfl rfl ?_
                refine r_iload d_Ba_findFirst_183 rfl ?_
                refine r_putI (b := 44) d_Ba_findFirst_185 fp_Ba_42 ⟨rfl, rfl⟩ (by decide) rfl rfl ?_
                refine r_aload_n (i := 0) d_Ba_findFirst_188 rfl rfl ?_
                refine r_iload d_Ba_findFirst_189 rfl ?_
                refine r_putI (b := 44) d_Ba_findFirst_191 fp_Ba_45 ⟨rfl, rfl⟩ (by decide) rfl rfl ?_
                refine r_iinc (v := x9 + 1) (lz := [some (.ref 44), some (.int x1), some (.int x2), some (.int x3), some (.int x4), some (.int ((x8 * x2) + (((f_Ha_spot x9 (hp.1 3 6) (hp.2.1 5 x4.toNatClampNeg)) - (hp.2.1 5 x1.toNatClampNeg)) * x3))), some (.int (f_GR_glasses x7 x9)), some (.int x7), some (.int x8), some (.int (x9 + 1)), some (.int ((f_Ha_spot x9 (hp.1 3 6) (hp.2.1 5 x4.toNatClampNeg)) - (hp.2.1 5 x1.toNatClampNeg))), some (.int ((x8 * x2) + (((f_Ha_spot x9 (hp.1 3 6) (hp.2.1 5 x4.toNatClampNeg)) - (hp.2.1 5 x1.toNatClampNeg)) * x3))), some (.int ((if x5 = 0 then 1 else ((if x5 ≤ ((x8 * x2) + (((f_Ha_spot x9 (hp.1 3 6) (hp.2.1 5 x4.toNatClampNeg)) - (hp.2.1 5 x1.toNatClampNeg)) * x3)) then 0 else 1) : Int32)) : Int32))]) d_Ba_findFirst_194 rfl (by rw [ic_1]) (by decide) rfl rfl ?_
                refine r_goto (tgt := 55) d_Ba_findFirst_197 (by decide) ?_
                exact rx_fgt [false, false, false, false, false, false, false, false, false, false, true, true, true] H
        refine r_iload d_Ba_findFirst_126 rfl ?_
        refine r_if_eq (tgt := 138) d_Ba_findFirst_128 (by decide) (fun hc_128 => ?_) (fun hc_128 => ?_)
        · refine r_iconst d_Ba_findFirst_138 ic_1 ?_
          refine r_goto (tgt := 143) d_Ba_findFirst_139 (by decide) ?_
          exact J128 _ (((if_pos hc_128).trans rfl)).symm
        · refine r_iload d_Ba_findFirst_131 rfl ?_
          refine r_iload d_Ba_findFirst_133 rfl ?_
          refine r_icmp_ge (tgt := 142) d_Ba_findFirst_135 (by decide) (fun hc_135 => ?_) (fun hc_135 => ?_)
          · refine r_iconst d_Ba_findFirst_142 ic_0 ?_
            exact J128 _ (((if_neg hc_128).trans ((if_pos hc_135).trans rfl))).symm
          · refine r_iconst d_Ba_findFirst_138 ic_1 ?_
            refine r_goto (tgt := 143) d_Ba_findFirst_139 (by decide) ?_
            exact J128 _ (((if_neg hc_128).trans ((if_neg hc_135).trans rfl))).symm
      · replace H := H.2 hc_120
        refine r_goto (tgt := 194) d_Ba_findFirst_123 (by decide) ?_
        refine r_iinc (v := x9 + 1) (lz := [some (.ref 44), some (.int x1), some (.int x2), some (.int x3), some (.int x4), some (.int x5), some (.int x6), some (.int x7), some (.int x8), some (.int (x9 + 1)), some (.int ((f_Ha_spot x9 (hp.1 3 6) (hp.2.1 5 x4.toNatClampNeg)) - (hp.2.1 5 x1.toNatClampNeg))), some (.int ((x8 * x2) + (((f_Ha_spot x9 (hp.1 3 6) (hp.2.1 5 x4.toNatClampNeg)) - (hp.2.1 5 x1.toNatClampNeg)) * x3))), none]) d_Ba_findFirst_194 rfl (by rw [ic_1]) (by decide) rfl rfl ?_
        refine r_goto (tgt := 55) d_Ba_findFirst_197 (by decide) ?_
        exact rx_fgt [false, false, false, false, false, false, false, false, false, false, true, true] H
set_option maxHeartbeats 4000000 in
set_option maxRecDepth 20000 in
theorem w_Ba_isNew {G : rx_Gh} {hp : rx_Hp} {F : Int32 → rx_Hp → Prop} (a1 : Int32) (a2 : Int32) (H : Rn wC G 1 q_Ba_isNew 2 [some (.ref 44), some (.int a1), some (.int a2), some (.int 0)] [] hp (rI F)) : Ev wC G 1 q_Ba_isNew [.ref 44, .int a1, .int a2] hp (rI F) := by
  refine ev_of rfl (Nat.le_of_ble_eq_true rfl) rfl ?_
  show Rn wC G 1 q_Ba_isNew 0 [some (.ref 44), some (.int a1), some (.int a2), none] [] hp (rI F)
  refine r_iconst d_Ba_isNew_0 ic_0 ?_
  refine r_istore_n (i := 3) (lz := [some (.ref 44), some (.int a1), some (.int a2), some (.int 0)]) d_Ba_isNew_1 rfl (by decide) rfl rfl ?_
  exact H
set_option maxHeartbeats 4000000 in
set_option maxRecDepth 20000 in
theorem w_Ba_isNew_2 {G : rx_Gh} {hp : rx_Hp} {F : Int32 → rx_Hp → Prop} (x1 : Int32) (x2 : Int32) (x3 : Int32) (H : (x2 ≤ x3 → F 1 hp) ∧ (¬ x2 ≤ x3 → (40 ≤ x3 → F 1 hp) ∧ (¬ 40 ≤ x3 → vp_in x3 40 ∧ (((hp.2.1 45 x3.toNatClampNeg) = x1 → F 0 hp) ∧ (¬ (hp.2.1 45 x3.toNatClampNeg) = x1 → Rn wC G 1 q_Ba_isNew 2 [some (.ref 44), some (.int x1), some (.int x2), some (.int (x3 + 1))] [] hp (rI F)))))) : Rn wC G 1 q_Ba_isNew 2 [some (.ref 44), some (.int x1), some (.int x2), some (.int x3)] [] hp (rI F) := by
  refine r_iload_n (i := 3) d_Ba_isNew_2 rfl rfl ?_
  refine r_iload_n (i := 2) d_Ba_isNew_3 rfl rfl ?_
  refine r_icmp_ge (tgt := 34) d_Ba_isNew_4 (by decide) (fun hc_4 => ?_) (fun hc_4 => ?_)
  · replace H := H.1 hc_4
    refine r_iconst d_Ba_isNew_34 ic_1 ?_
    exact rZ_ret d_Ba_isNew_35 rfl (Or.inr rfl) H
  · replace H := H.2 hc_4
    refine r_iload_n (i := 3) d_Ba_isNew_7 rfl rfl ?_
    refine r_aload_n (i := 0) d_Ba_isNew_8 rfl rfl ?_
    refine r_getR (b := 44) (r := 45) d_Ba_isNew_9 fl_Ba_9 (by decide) rfl rfl rfl ?_
    refine r_alen (b := 45) (n := 40) (v := 40) d_Ba_isNew_12 (by decide) rfl al_40 ?_
    refine r_icmp_ge (tgt := 34) d_Ba_isNew_13 (by decide) (fun hc_13 => ?_) (fun hc_13 => ?_)
    · replace H := H.1 hc_13
      refine r_iconst d_Ba_isNew_34 ic_1 ?_
      exact rZ_ret d_Ba_isNew_35 rfl (Or.inr rfl) H
    · replace H := H.2 hc_13
      refine r_aload_n (i := 0) d_Ba_isNew_16 rfl rfl ?_
      refine r_getR (b := 44) (r := 45) d_Ba_isNew_17 fl_Ba_9 (by decide) rfl rfl rfl ?_
      refine r_iload_n (i := 3) d_Ba_isNew_20 rfl rfl ?_
      obtain ⟨hi_21, H⟩ := H
      refine r_iald (b := 45) (v := hp.2.1 45 x3.toNatClampNeg) d_Ba_isNew_21 (by decide) rfl hi_21 rfl ?_
      refine r_iload_n (i := 1) d_Ba_isNew_22 rfl rfl ?_
      refine r_icmp_ne (tgt := 28) d_Ba_isNew_23 (by decide) (fun hc_23 => ?_) (fun hc_23 => ?_)
      · replace H := H.2 hc_23
        refine r_iinc (v := x3 + 1) (lz := [some (.ref 44), some (.int x1), some (.int x2), some (.int (x3 + 1))]) d_Ba_isNew_28 rfl (by rw [ic_1]) (by decide) rfl rfl ?_
        refine r_goto (tgt := 2) d_Ba_isNew_31 (by decide) ?_
        exact H
      · replace H := H.1 hc_23
        refine r_iconst d_Ba_isNew_26 ic_0 ?_
        exact rZ_ret d_Ba_isNew_27 rfl (Or.inl rfl) H
